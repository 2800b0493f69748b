/-! ===== texts: text (written out of the rows by gen_text.py) ===== -/
section T1
variable {sc : Nat × (Nat → Int32)} {d : Nat} {Q : PRes → Prop} {h : PH} {k r : Nat} {x i v n : Int32}
theorem m_askedText (hw : WF h) (hr : r < 4) : Tr sc (d + 2) 164 (ent0 164 [.ref 124, .int (nI r)] h) Q = if 0 ≤ hI h 129 r then Q (some (.int 0), h) else Q (some (.int (-3)), refm h 1) := by
  rw [e_164]
  have hb : bI (0 ≤ nI r ∧ nI r ≤ 3) = 1 := bI_t ⟨nI_pos' (by omega), nI_le (a := r) (b := 3) (by omega) (by decide)⟩
  simp only [x_164_0, x_164_1, x_164_4, x_164_7, x_164_8, x_164_11, x_164_12, x_164_15, x_164_16, x_164_17, x_164_20, x_164_21, x_164_22, x_164_25, x_164_28, x_164_29, m_isText, hb, i_10, if_false, tl_s, o_124 hw, w_124_9 hw, true_and, Option.some.injEq, exists_eq_left', iOk_ok (o_129 hw), iRd_ok (o_129 hw), inb_nI (n := LN 129) hr (by decide), nI_clamp (n := r) (by omega), m_meets_1 hw]
theorem m_askedText_bad {x : Int32} (hx : ¬ (0 ≤ x ∧ x < 4)) : Tr sc (d + 2) 164 (ent0 164 [.ref 124, .int x] h) Q = Q (some (.int (-1)), h) := by
  rw [e_164]
  have hb : bI (0 ≤ x ∧ x ≤ 3) = 0 := bI_f (fun z => hx ⟨z.1, Int32.lt_iff_toInt_lt.mpr (by have h1 := Int32.le_iff_toInt_le.mp z.2; have e5 : (3 : Int32).toInt = 3 := rfl; have e6 : (4 : Int32).toInt = 4 := rfl; omega)⟩)
  simp only [x_164_0, x_164_1, x_164_4, x_164_7, x_164_8, x_164_11, x_164_12, x_164_15, x_164_16, x_164_17, x_164_20, x_164_21, x_164_22, x_164_25, x_164_28, x_164_29, m_isText, hb, i_00, if_true, tl_s]
theorem tz_neg (c : CMt h) (hr : r < 4) : (hI h (60 + 2 * r) 1 < 0) = ¬ (0 ≤ hI h 129 r) := by
  apply propext
  rcases (c r hr).1 with ⟨a, b⟩ | ⟨a, b, e⟩
  · rw [a]
    exact ⟨fun _ => Int32.not_le.mpr b, fun _ => by decide⟩
  · rw [e]
    exact ⟨fun q => absurd a (Int32.not_le.mpr q), fun q => absurd a q⟩
theorem tz_eq (c : CMt h) (hr : r < 4) (hs : 0 ≤ hI h 129 r) : hI h (60 + 2 * r) 1 = hI h 129 r ∧ hI h 129 r ≤ 60 := by
  rcases (c r hr).1 with ⟨a, b⟩ | ⟨a, b, e⟩
  · exact absurd hs (Int32.not_le.mpr b)
  · exact ⟨e.symm, by rw [e]; exact b⟩
theorem isText_t (hr : r < 4) : bI (0 ≤ nI r ∧ nI r < 4) = 1 := bI_t (ir_in (n := 4) (by decide) hr)
theorem i60 : ((60 : Int32)).toInt = 60 := rfl
theorem put_ix {a b : Nat} (ha : a < 4) (hb : b < 60) : 60 * nI a + nI b = nI (60 * a + b) := by
  rw [show (60 : Int32) = nI 60 from rfl, pk_mul, nI_add]
theorem t_le1 {s : Int32} (hs : 0 ≤ s) (hs2 : s ≤ 60) : (0 ≤ i ∧ i ≤ s - 1) = (0 ≤ i ∧ i < s) := by
  apply propext
  have e : (s - 1).toInt = s.toInt - 1 := by
    rw [Int32.toInt_sub]
    have h1 := Int32.le_iff_toInt_le.mp hs
    have h2 := Int32.le_iff_toInt_le.mp hs2
    have e0 : (0 : Int32).toInt = 0 := rfl
    have e1 : (1 : Int32).toInt = 1 := rfl
    rw [i60] at h2
    rw [e0] at h1
    rw [e1]
    apply Int.bmod_eq_of_le <;> omega
  constructor
  · rintro ⟨q1, q2⟩
    have q3 := Int32.le_iff_toInt_le.mp q2
    exact ⟨q1, Int32.lt_iff_toInt_lt.mpr (by omega)⟩
  · rintro ⟨q1, q2⟩
    have q3 := Int32.lt_iff_toInt_lt.mp q2
    exact ⟨q1, Int32.le_iff_toInt_le.mpr (by omega)⟩
theorem m_text_loop (hw : WF h) (hr : r < 4) : ∀ (m i : Nat), i + m = 60 → ∀ f : Nat → Int32, Tr sc d 170 (34, [some (.ref 124), some (.int (nI r)), some (.int n), some (.int (nI i))], [], aI h 130 f) Q = Q (some (.int n), aI h 130 (fun b => if 60 * r + i ≤ b ∧ b < 60 * r + 60 then 32 else f b)) := by
  intro m
  induction m with
  | zero =>
    intro i hi f
    have e : i = 60 := by omega
    subst e
    rw [x_170_34]
    simp only [x_170_0, x_170_1, x_170_4, x_170_7, x_170_8, x_170_10, x_170_13, x_170_14, x_170_15, x_170_16, x_170_19, x_170_20, x_170_21, x_170_24, x_170_25, x_170_26, x_170_29, x_170_30, x_170_31, x_170_32, x_170_33, x_170_35, x_170_37, x_170_40, x_170_41, x_170_44, x_170_46, x_170_47, x_170_48, x_170_49, x_170_50, x_170_52, x_170_53, x_170_56, x_170_59, x_170_60]
    rw [if_pos (show (60 : Int32) ≤ nI 60 from by decide)]
    congr 3
    funext b
    rw [if_neg (by omega)]
  | succ m ih =>
    intro i hi f
    have hlt : i < 60 := by omega
    have hw1 : WF (aI h 130 f) := hw
    have g3 : 60 * r + i < 240 := by omega
    rw [x_170_34]
    simp only [x_170_0, x_170_1, x_170_4, x_170_7, x_170_8, x_170_10, x_170_13, x_170_14, x_170_15, x_170_16, x_170_19, x_170_20, x_170_21, x_170_24, x_170_25, x_170_26, x_170_29, x_170_30, x_170_31, x_170_32, x_170_33, x_170_35, x_170_37, x_170_40, x_170_41, x_170_44, x_170_46, x_170_47, x_170_48, x_170_49, x_170_50, x_170_52, x_170_53, x_170_56, x_170_59, x_170_60, cl2_i, o_124 hw1, w_124_10 hw1, o_130 hw1, true_and, Option.some.injEq, exists_eq_left', put_ix hr hlt, inb_nI (n := LN 130) g3 (by decide), nI_clamp (n := 60 * r + i) (by omega), Bool.and_self, nI_1, sI_aI]
    rw [if_neg (show ¬ (60 : Int32) ≤ nI i from nI_ge hlt (by decide)), ih (i + 1) (by omega)]
    congr 3
    funext b
    by_cases e1 : b = 60 * r + i
    · rw [if_neg (by omega), if_pos e1, if_pos (by omega)]
    · by_cases e2 : 60 * r + (i + 1) ≤ b ∧ b < 60 * r + 60
      · rw [if_pos e2, if_pos (by omega)]
      · rw [if_neg e2, if_neg e1, if_neg (by omega)]
theorem both_text (hc : CM h) : Both sc 102 170 [.int x, .int n] h := by
  unfold Both
  obtain ⟨hw, hf, hr, ht, hs⟩ := id hc
  by_cases e0 : 0 ≤ x ∧ x < 4
  · obtain ⟨rn, hrn, rfl⟩ := ir_of (n := 4) (by decide) e0
    obtain ⟨w1, w2, w3, w4, w5⟩ := hw.text hrn
    have hb : bI (0 ≤ nI rn ∧ nI rn ≤ 3) = 1 := bI_t ⟨nI_pos' (by omega), nI_le (a := rn) (b := 3) (by omega) (by decide)⟩
    rw [e_102]
    simp only [x_102_0, x_102_1, x_102_4, x_102_7, x_102_8, x_102_10, x_102_13, x_102_14, x_102_15, x_102_16, x_102_19, x_102_20, x_102_21, x_102_24, x_102_25, x_102_26, x_102_29, x_102_30, x_102_31, x_102_32, x_102_34, x_102_37, x_102_38, c_isText, isText_t hrn, i_10, if_false, tl_s]
    by_cases e1 : n ≤ 60
    · rw [if_pos e1]
      by_cases e2 : 0 ≤ n
      · rw [if_pos e2]
        simp only [x_102_0, x_102_1, x_102_4, x_102_7, x_102_8, x_102_10, x_102_13, x_102_14, x_102_15, x_102_16, x_102_19, x_102_20, x_102_21, x_102_24, x_102_25, x_102_26, x_102_29, x_102_30, x_102_31, x_102_32, x_102_34, x_102_37, x_102_38, tl_n, o_0 hw, w_0_1 hw, o_2 hw, Bool.true_or, inb_nI (n := LN 2) hrn (by decide), Bool.and_self, nI_clamp (n := rn) (by omega), w1, w3, true_and, Option.some.injEq, exists_eq_left', c_open w3 w2 w4 (show LN (61 + 2 * rn) < 2 ^ 31 by rw [w5]; decide)]
        generalize hh : sI (aI h (61 + 2 * rn) (fun b => if b < LN (61 + 2 * rn) then 32 else hI h (61 + 2 * rn) b)) (60 + 2 * rn) 1 n = h1
        have hf1 : Fr (fun a => a = 60 + 2 * rn ∨ a = 61 + 2 * rn) h h1 := by rw [← hh]; exact (Fr_aI (Or.inr rfl)).tr (Fr_sI (Or.inl rfl))
        have hw1 : WF h1 := Fr_WF hf1 hw
        rw [e_170]
        simp only [x_170_0, x_170_1, x_170_4, x_170_7, x_170_8, x_170_10, x_170_13, x_170_14, x_170_15, x_170_16, x_170_19, x_170_20, x_170_21, x_170_24, x_170_25, x_170_26, x_170_29, x_170_30, x_170_31, x_170_32, x_170_33, x_170_35, x_170_37, x_170_40, x_170_41, x_170_44, x_170_46, x_170_47, x_170_48, x_170_49, x_170_50, x_170_52, x_170_53, x_170_56, x_170_59, x_170_60, m_isText, hb, tl_s, i_10, if_false]
        rw [if_pos e1, if_pos e2]
        simp only [x_170_0, x_170_1, x_170_4, x_170_7, x_170_8, x_170_10, x_170_13, x_170_14, x_170_15, x_170_16, x_170_19, x_170_20, x_170_21, x_170_24, x_170_25, x_170_26, x_170_29, x_170_30, x_170_31, x_170_32, x_170_33, x_170_35, x_170_37, x_170_40, x_170_41, x_170_44, x_170_46, x_170_47, x_170_48, x_170_49, x_170_50, x_170_52, x_170_53, x_170_56, x_170_59, x_170_60, o_124 hw1, w_124_9 hw1, o_129 hw1, true_and, Option.some.injEq, exists_eq_left', inb_nI (n := LN 129) hrn (by decide), nI_clamp (n := rn) (by omega), Bool.and_self, cl2_i]
        have hl := fun Q => m_text_loop (sc := sc) (d := 19) (Q := Q) (n := n) (h := sI h1 129 rn n) (r := rn) hw1 hrn 60 0 (by omega) (hI (sI h1 129 rn n) 130)
        simp only [aI_id] at hl
        refine (hl _).mpr ?_
        refine ⟨rfl, ?_⟩
        generalize hh2 : aI (sI h1 129 rn n) 130 (fun b => if 60 * rn + 0 ≤ b ∧ b < 60 * rn + 60 then 32 else hI (sI h1 129 rn n) 130 b) = h2
        have hf2 : Fr (fun a => a = 60 + 2 * rn ∨ a = 61 + 2 * rn ∨ a = 129 ∨ a = 130) h h2 := by
          rw [← hh2]
          exact (hf1.wk (fun a q => by omega)).tr ((Fr_sI (Or.inr (Or.inr (Or.inl rfl)))).tr (Fr_aI (Or.inr (Or.inr (Or.inr rfl)))))
        refine ⟨Fr_WF hf2 hw, CMf_fr hf2 (fun a q z => by omega) hf, CMr_fr hf2 (fun a q z => by omega) hr, ?_, CMs_fr hf2 (fun a q z => by omega) hs⟩
        intro r' hr'
        obtain ⟨c1, c2⟩ := ht r' hr'
        rw [← hh2, ← hh]
        refine ⟨?_, fun b hb9 => ?_⟩
        · simp only [hI_sI, hI_aI, Nat.reduceEqDiff, if_false, if_true, show ¬ (60 + 2 * r' = 130) from by omega, show ¬ (60 + 2 * r' = 129) from by omega, show ¬ (60 + 2 * r' = 61 + 2 * rn) from by omega, show ¬ (129 = 60 + 2 * rn) from by omega, show ¬ (129 = 61 + 2 * rn) from by omega]
          by_cases q1 : r' = rn
          · subst q1
            simp only [if_true]
            exact Or.inr ⟨e2, e1, trivial⟩
          · rw [if_neg (show ¬ 60 + 2 * r' = 60 + 2 * rn by omega), if_neg q1]
            exact c1
        · simp only [hI_sI, hI_aI, Nat.reduceEqDiff, if_false, if_true, show ¬ (61 + 2 * r' = 130) from by omega, show ¬ (61 + 2 * r' = 129) from by omega, show ¬ (61 + 2 * r' = 60 + 2 * rn) from by omega, show ¬ (130 = 60 + 2 * rn) from by omega, show ¬ (130 = 61 + 2 * rn) from by omega]
          by_cases q1 : r' = rn
          · subst q1
            rw [if_pos (by omega), if_pos rfl, if_pos (by rw [w5]; exact hb9)]
          · rw [if_neg (by omega), if_neg (by omega)]
            exact c2 b hb9
      · rw [if_neg e2]
        simp only [x_102_0, x_102_1, x_102_4, x_102_7, x_102_8, x_102_10, x_102_13, x_102_14, x_102_15, x_102_16, x_102_19, x_102_20, x_102_21, x_102_24, x_102_25, x_102_26, x_102_29, x_102_30, x_102_31, x_102_32, x_102_34, x_102_37, x_102_38, o_0 hw, true_and, c_refuse_5 hw, tl_s]
        have hw1 := WF_refu (f := 5) hw
        rw [e_170]
        simp only [x_170_0, x_170_1, x_170_4, x_170_7, x_170_8, x_170_10, x_170_13, x_170_14, x_170_15, x_170_16, x_170_19, x_170_20, x_170_21, x_170_24, x_170_25, x_170_26, x_170_29, x_170_30, x_170_31, x_170_32, x_170_33, x_170_35, x_170_37, x_170_40, x_170_41, x_170_44, x_170_46, x_170_47, x_170_48, x_170_49, x_170_50, x_170_52, x_170_53, x_170_56, x_170_59, x_170_60, m_isText, hb, tl_s, i_10, if_false]
        rw [if_pos e1, if_neg e2]
        simp only [x_170_0, x_170_1, x_170_4, x_170_7, x_170_8, x_170_10, x_170_13, x_170_14, x_170_15, x_170_16, x_170_19, x_170_20, x_170_21, x_170_24, x_170_25, x_170_26, x_170_29, x_170_30, x_170_31, x_170_32, x_170_33, x_170_35, x_170_37, x_170_40, x_170_41, x_170_44, x_170_46, x_170_47, x_170_48, x_170_49, x_170_50, x_170_52, x_170_53, x_170_56, x_170_59, x_170_60, o_124 hw1, true_and, m_meets_5 hw1, tl_s, Option.some.injEq, exists_eq_left']
        exact cm_ref (by decide) hc
    · rw [if_neg e1]
      rw [e_170]
      simp only [x_170_0, x_170_1, x_170_4, x_170_7, x_170_8, x_170_10, x_170_13, x_170_14, x_170_15, x_170_16, x_170_19, x_170_20, x_170_21, x_170_24, x_170_25, x_170_26, x_170_29, x_170_30, x_170_31, x_170_32, x_170_33, x_170_35, x_170_37, x_170_40, x_170_41, x_170_44, x_170_46, x_170_47, x_170_48, x_170_49, x_170_50, x_170_52, x_170_53, x_170_56, x_170_59, x_170_60, m_isText, hb, tl_s, i_10, if_false]
      rw [if_neg e1]
      simp only [x_170_0, x_170_1, x_170_4, x_170_7, x_170_8, x_170_10, x_170_13, x_170_14, x_170_15, x_170_16, x_170_19, x_170_20, x_170_21, x_170_24, x_170_25, x_170_26, x_170_29, x_170_30, x_170_31, x_170_32, x_170_33, x_170_35, x_170_37, x_170_40, x_170_41, x_170_44, x_170_46, x_170_47, x_170_48, x_170_49, x_170_50, x_170_52, x_170_53, x_170_56, x_170_59, x_170_60, Option.some.injEq, exists_eq_left', true_and]
      exact hc
  · rw [e_102]
    have hb : bI (0 ≤ x ∧ x < 4) = 0 := bI_f e0
    have hb2 : bI (0 ≤ x ∧ x ≤ 3) = 0 := bI_f (fun z => e0 ⟨z.1, Int32.lt_iff_toInt_lt.mpr (by have h1 := Int32.le_iff_toInt_le.mp z.2; have z5 : (3 : Int32).toInt = 3 := rfl; have z6 : (4 : Int32).toInt = 4 := rfl; omega)⟩)
    simp only [x_102_0, x_102_1, x_102_4, x_102_7, x_102_8, x_102_10, x_102_13, x_102_14, x_102_15, x_102_16, x_102_19, x_102_20, x_102_21, x_102_24, x_102_25, x_102_26, x_102_29, x_102_30, x_102_31, x_102_32, x_102_34, x_102_37, x_102_38, c_isText, hb, i_00, if_true, tl_s]
    rw [e_170]
    simp only [x_170_0, x_170_1, x_170_4, x_170_7, x_170_8, x_170_10, x_170_13, x_170_14, x_170_15, x_170_16, x_170_19, x_170_20, x_170_21, x_170_24, x_170_25, x_170_26, x_170_29, x_170_30, x_170_31, x_170_32, x_170_33, x_170_35, x_170_37, x_170_40, x_170_41, x_170_44, x_170_46, x_170_47, x_170_48, x_170_49, x_170_50, x_170_52, x_170_53, x_170_56, x_170_59, x_170_60, m_isText, hb2, tl_s, i_00, if_true, true_and, Option.some.injEq, exists_eq_left']
    exact hc
end T1
