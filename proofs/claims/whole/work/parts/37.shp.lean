/-! ===== shapes: drop, told, move ===== -/
section S1
variable {sc : Nat × (Nat → Int32)} {d : Nat} {Q : PRes → Prop} {h : PH} {k s : Nat} {x i v n w : Int32}
theorem i_1m1 : ((-1 : Int32) = 0) = False := by apply propext; decide
theorem i_3m1 : ((-3 : Int32) = 0) = False := by apply propext; decide
theorem c_sMiss (ho : okp h k 6 = true) : Tr sc d 48 (ent0 48 [.ref k] h) Q = Q (some (.int (bI (hI h k 6 = -1))), h) := by
  rw [e_48]
  simp only [x_48_0, x_48_1, x_48_4, x_48_5, x_48_8, x_48_9, x_48_12, x_48_13, ho, true_and]
  by_cases e : hI h k 6 = -1
  · rw [if_pos e, bI_t e]
    simp only [vp_b1, true_and]
  · rw [if_neg e, bI_f e]
    simp only [vp_b0, true_and]
theorem c_hasMove (ho : okp h k 6 = true) : Tr sc d 50 (ent0 50 [.ref k, .int i] h) Q = Q (some (.int (bI (0 ≤ i ∧ i < hI h k 8))), h) := by
  rw [e_50]
  simp only [x_50_0, x_50_1, x_50_4, x_50_5, x_50_6, x_50_9, x_50_12, x_50_13, x_50_16, x_50_17, ho, true_and]
  by_cases e1 : i < 0
  · rw [if_pos e1, bI_f (fun z => Int32.not_lt.mpr z.1 e1)]
    simp only [vp_b0, true_and]
  · rw [if_neg e1]
    by_cases e2 : hI h k 8 ≤ i
    · rw [if_pos e2, bI_f (fun z => Int32.not_le.mpr z.2 e2)]
      simp only [vp_b0, true_and]
    · rw [if_neg e2, bI_t ⟨Int32.not_lt.mp e1, Int32.not_le.mp e2⟩]
      simp only [vp_b1, true_and]
theorem isShape_t (hs : s < 8) : bI (0 ≤ nI s ∧ nI s < 8) = 1 := bI_t (ir_in (n := 8) (by decide) hs)
theorem c_shRef (hw : WF h) (hs : s < 8) : Tr sc (d + 1) 146 (ent0 146 [.ref 0, .int (nI s), .int x] h) Q = if x = 0 then Q (some (.int (-1)), h) else if hI h (68 + 7 * s) 6 = -1 then Q (some (.int (-3)), refu h 1) else Q (some (.int 0), h) := by
  obtain ⟨w1, w2, -⟩ := hw.shape hs
  rw [e_146]
  simp only [x_146_0, x_146_1, x_146_4, x_146_7, x_146_8, x_146_11, x_146_12, x_146_13, x_146_14, x_146_17, x_146_18, x_146_19, x_146_22, x_146_25, x_146_26, x_146_27, x_146_30, x_146_33, x_146_34, c_isShape, isShape_t hs, i_10, if_false, tl_s, o_0 hw, w_0_2 hw, o_3 hw, Bool.or_true, inb_nI (n := LN 3) hs (by decide), Bool.and_self, nI_clamp (n := s) (by omega), w1, w2, true_and, Option.some.injEq, exists_eq_left', c_sMiss w2, bI_0, c_refuse_1 hw]
  by_cases e1 : x = 0
  · rw [if_pos e1, if_pos e1]
  · rw [if_neg e1, if_neg e1]
    by_cases e2 : hI h (68 + 7 * s) 6 = -1
    · rw [if_neg (fun q => q e2), if_pos e2]
    · rw [if_pos e2, if_neg e2]
theorem c_shRef_bad (hx : ¬ (0 ≤ v ∧ v < 8)) : Tr sc (d + 1) 146 (ent0 146 [.ref 0, .int v, .int x] h) Q = Q (some (.int (-1)), h) := by
  rw [e_146]
  have hb : bI (0 ≤ v ∧ v < 8) = 0 := bI_f hx
  simp only [x_146_0, x_146_1, x_146_4, x_146_7, x_146_8, x_146_11, x_146_12, x_146_13, x_146_14, x_146_17, x_146_18, x_146_19, x_146_22, x_146_25, x_146_26, x_146_27, x_146_30, x_146_33, x_146_34, c_isShape, hb, i_00, if_true, tl_s]
theorem m_askedShape (hw : WF h) (hs : s < 8) : Tr sc (d + 2) 177 (ent0 177 [.ref 124, .int (nI s)] h) Q = if hI h 134 s = 0 then Q (some (.int (-3)), refm h 1) else Q (some (.int 0), h) := by
  rw [e_177]
  have hb : bI (0 ≤ nI s ∧ nI s ≤ 7) = 1 := bI_t ⟨nI_pos' (by omega), nI_le (a := s) (b := 7) (by omega) (by decide)⟩
  simp only [x_177_0, x_177_1, x_177_4, x_177_7, x_177_8, x_177_11, x_177_12, x_177_15, x_177_16, x_177_17, x_177_20, x_177_21, x_177_22, x_177_25, x_177_28, x_177_29, m_isShape, hb, i_10, if_false, tl_s, o_124 hw, w_124_18 hw, true_and, Option.some.injEq, exists_eq_left', iOk_ok (o_134 hw), iRd_ok (o_134 hw), inb_nI (n := LN 134) hs (by decide), nI_clamp (n := s) (by omega), m_meets_1 hw]
theorem m_askedShape_bad (hx : ¬ (0 ≤ x ∧ x < 8)) : Tr sc (d + 2) 177 (ent0 177 [.ref 124, .int x] h) Q = Q (some (.int (-1)), h) := by
  rw [e_177]
  have hb : bI (0 ≤ x ∧ x ≤ 7) = 0 := bI_f (fun z => hx ⟨z.1, Int32.lt_iff_toInt_lt.mpr (by have h1 := Int32.le_iff_toInt_le.mp z.2; have e5 : (7 : Int32).toInt = 7 := rfl; have e6 : (8 : Int32).toInt = 8 := rfl; omega)⟩)
  simp only [x_177_0, x_177_1, x_177_4, x_177_7, x_177_8, x_177_11, x_177_12, x_177_15, x_177_16, x_177_17, x_177_20, x_177_21, x_177_22, x_177_25, x_177_28, x_177_29, m_isShape, hb, i_00, if_true, tl_s]
theorem sm_iff (c : CMs h) (hs : s < 8) : (hI h (68 + 7 * s) 6 = -1) = (hI h 134 s = 0) := by
  apply propext
  rcases c s hs with ⟨a, b⟩ | ⟨a, b, e, f, -⟩
  · rw [a, b]
    exact ⟨fun _ => rfl, fun _ => rfl⟩
  · rw [f]
    constructor
    · intro q
      have := a.1.1
      rw [q] at this
      exact absurd this (by decide)
    · intro q
      have := a.2.2.1.1
      rw [q] at this
      exact absurd this (by decide)
theorem sm_t (c : CMs h) (hs : s < 8) (e : hI h 134 s = 0) : hI h (68 + 7 * s) 6 = -1 := by rw [sm_iff c hs]; exact e
theorem sm_f (c : CMs h) (hs : s < 8) (e : ¬ hI h 134 s = 0) : ¬ hI h (68 + 7 * s) 6 = -1 := by rw [sm_iff c hs]; exact e
/-- a shape that is there -/
def ShAt (h : PH) (s : Nat) : Prop := ShOk (hI h (68 + 7 * s) 6) (hI h (68 + 7 * s) 7) (hI h (68 + 7 * s) 8) (hI h (69 + 7 * s)) (hI h (70 + 7 * s)) (hI h (71 + 7 * s)) (hI h (72 + 7 * s)) ∧ hI h 132 s = hI h (68 + 7 * s) 6 ∧ hI h 133 s = hI h (68 + 7 * s) 7 ∧ hI h 134 s = hI h (68 + 7 * s) 8 ∧ ∀ i : Nat, i < 6 → nI i < hI h (68 + 7 * s) 8 → hI h 135 (6 * s + i) = hI h (69 + 7 * s) i ∧ hI h 136 (6 * s + i) = hI h (70 + 7 * s) i ∧ hI h 137 (6 * s + i) = hI h (71 + 7 * s) i ∧ (hI h (68 + 7 * s) 6 = 3 ∨ hI h (68 + 7 * s) 6 = 4 → hI h 138 (6 * s + i) = hI h (72 + 7 * s) i)
theorem sh_at (c : CMs h) (hs : s < 8) (hn : ¬ hI h 134 s = 0) : ShAt h s := by
  rcases c s hs with ⟨a, b⟩ | q
  · exact absurd b hn
  · exact q
theorem m_ask {a b : Int32} (hw : WF h) : Tr sc d 159 (ent0 159 [.ref 124, .int a, .int b] h) Q = Q (some (.int b), sI h 124 2 a) := by
  rw [e_159]
  simp only [x_159_0, x_159_1, x_159_2, x_159_5, x_159_6, o_124 hw, true_and]
theorem cm_asked {a : Int32} (c : CM h) : CM (sI (sI h 0 15 a) 124 2 a) := by
  refine CM_fr (P := fun x => x = 0 ∨ x = 124) c ((Fr_sI (Or.inl rfl)).tr (Fr_sI (Or.inr rfl))) (fun x q => by omega) ?_
  obtain ⟨f1, f2, f3, f4, f5, f6⟩ := c.2.1
  exact ⟨f1, f2, rfl, f4, f5, f6⟩
theorem both_drop (hc : CM h) : Both sc 109 191 [.int x] h := by
  unfold Both
  obtain ⟨hw, hf, hr, ht, hs⟩ := id hc
  by_cases e0 : 0 ≤ x ∧ x < 8
  · obtain ⟨s, hsn, rfl⟩ := ir_of (n := 8) (by decide) e0
    obtain ⟨w1, w2, -⟩ := hw.shape hsn
    rw [e_109]
    simp only [x_109_0, x_109_1, x_109_2, x_109_3, x_109_6, x_109_7, x_109_8, x_109_11, x_109_12, x_109_13, x_109_14, x_109_17, x_109_18, x_109_19, x_109_20, x_109_23, x_109_24, c_shRef hw hsn, i_10, if_false, o_0 hw, true_and]
    by_cases e1 : hI h 134 s = 0
    · rw [if_pos (sm_t hs hsn e1)]
      have hw1 := WF_refu (f := 1) hw
      simp only [tl_s, x_109_0, x_109_1, x_109_2, x_109_3, x_109_6, x_109_7, x_109_8, x_109_11, x_109_12, x_109_13, x_109_14, x_109_17, x_109_18, x_109_19, x_109_20, x_109_23, x_109_24, i_3m1, if_false, cl2_i]
      rw [e_191]
      simp only [x_191_0, x_191_1, x_191_2, x_191_5, x_191_6, x_191_7, x_191_10, x_191_11, x_191_12, x_191_13, x_191_16, x_191_17, x_191_18, x_191_19, x_191_20, m_askedShape hw1 hsn, o_124 hw1, true_and]
      rw [if_pos (show hI (refu h 1) 134 s = 0 by rw [refu_I (by decide) (by decide)]; exact e1)]
      simp only [tl_s, x_191_0, x_191_1, x_191_2, x_191_5, x_191_6, x_191_7, x_191_10, x_191_11, x_191_12, x_191_13, x_191_16, x_191_17, x_191_18, x_191_19, x_191_20, i_m3, if_false, cl2_i, Option.some.injEq, exists_eq_left', true_and]
      exact cm_ref (by decide) hc
    · rw [if_neg (sm_f hs hsn e1)]
      simp only [tl_s, x_109_0, x_109_1, x_109_2, x_109_3, x_109_6, x_109_7, x_109_8, x_109_11, x_109_12, x_109_13, x_109_14, x_109_17, x_109_18, x_109_19, x_109_20, x_109_23, x_109_24, i_00, if_true, cl2_i, o_0 hw, w_0_2 hw, o_3 hw, Bool.or_true, inb_nI (n := LN 3) hsn (by decide), Bool.and_self, nI_clamp (n := s) (by omega), w1, w2, true_and, Option.some.injEq, exists_eq_left']
      generalize hh : sI h (68 + 7 * s) 6 (-1) = h1
      have hf1 : Fr (fun a => a = 68 + 7 * s) h h1 := by rw [← hh]; exact Fr_sI rfl
      have hw1 : WF h1 := Fr_WF hf1 hw
      rw [e_191]
      simp only [x_191_0, x_191_1, x_191_2, x_191_5, x_191_6, x_191_7, x_191_10, x_191_11, x_191_12, x_191_13, x_191_16, x_191_17, x_191_18, x_191_19, x_191_20, m_askedShape hw1 hsn, o_124 hw1, true_and]
      rw [if_neg (show ¬ hI h1 134 s = 0 by rw [(hf1.2.2 134 (by omega) s).1]; exact e1)]
      simp only [tl_s, x_191_0, x_191_1, x_191_2, x_191_5, x_191_6, x_191_7, x_191_10, x_191_11, x_191_12, x_191_13, x_191_16, x_191_17, x_191_18, x_191_19, x_191_20, i_0, if_true, cl2_i, o_124 hw1, w_124_18 hw1, o_134 hw1, inb_nI (n := LN 134) hsn (by decide), Bool.and_self, nI_clamp (n := s) (by omega), Option.some.injEq, exists_eq_left', true_and]
      have hf2 : Fr (fun a => a = 68 + 7 * s ∨ a = 134) h (sI h1 134 s 0) := (hf1.wk (fun _ => Or.inl)).tr (Fr_sI (Or.inr rfl))
      refine ⟨Fr_WF hf2 hw, CMf_fr hf2 (fun a q z => by omega) hf, CMr_fr hf2 (fun a q z => by omega) hr, CMt_fr hf2 (fun a q z => by omega) ht, ?_⟩
      intro s' hs'
      by_cases e3 : s' = s
      · subst e3
        refine Or.inl ⟨?_, ?_⟩
        · rw [← hh, hI_sI, if_neg (by omega), hI_sI, if_pos rfl, if_pos rfl]
        · rw [hI_sI, if_pos rfl, if_pos rfl]
      · have kI : ∀ a, a ≠ 68 + 7 * s → a ≠ 134 → hI (sI h1 134 s 0) a = hI h a := fun a q1 q2 => funext (fun b => (hf2.2.2 a (by omega) b).1)
        have k4 : hI (sI h1 134 s 0) 134 s' = hI h 134 s' := by
          rw [hI_sI, if_pos rfl, if_neg e3, (hf1.2.2 134 (by omega) s').1]
        have c1 := hs s' hs'
        rw [kI (68 + 7 * s') (by omega) (by omega), kI (69 + 7 * s') (by omega) (by omega), kI (70 + 7 * s') (by omega) (by omega), kI (71 + 7 * s') (by omega) (by omega), kI (72 + 7 * s') (by omega) (by omega), kI 132 (by omega) (by omega), kI 133 (by omega) (by omega), kI 135 (by omega) (by omega), kI 136 (by omega) (by omega), kI 137 (by omega) (by omega), kI 138 (by omega) (by omega), k4]
        exact c1
  · rw [e_109]
    simp only [x_109_0, x_109_1, x_109_2, x_109_3, x_109_6, x_109_7, x_109_8, x_109_11, x_109_12, x_109_13, x_109_14, x_109_17, x_109_18, x_109_19, x_109_20, x_109_23, x_109_24, c_shRef_bad e0, o_0 hw, true_and, tl_s, i_1m1, if_false, cl2_i]
    rw [e_191]
    simp only [x_191_0, x_191_1, x_191_2, x_191_5, x_191_6, x_191_7, x_191_10, x_191_11, x_191_12, x_191_13, x_191_16, x_191_17, x_191_18, x_191_19, x_191_20, m_askedShape_bad e0, tl_s, i_m1, if_false, cl2_i, o_124 hw, true_and, Option.some.injEq, exists_eq_left']
    exact hc
theorem tld {A B : Prop} : (if w < 0 then A else if 2 < w then A else B) = if 0 ≤ w ∧ w ≤ 2 then B else A := by
  by_cases e1 : w < 0
  · rw [if_pos e1, if_neg (fun z => Int32.not_lt.mpr z.1 e1)]
  · rw [if_neg e1]
    by_cases e2 : 2 < w
    · rw [if_pos e2, if_neg (fun z => Int32.not_lt.mpr z.2 e2)]
    · rw [if_neg e2, if_pos ⟨Int32.not_lt.mp e1, Int32.not_lt.mp e2⟩]
theorem both_told (hc : CM h) : Both sc 110 192 [.int x, .int w] h := by
  unfold Both
  obtain ⟨hw, hf, hr, ht, hs⟩ := id hc
  rw [e_110]
  by_cases e0 : 0 ≤ x ∧ x < 8
  · obtain ⟨s, hsn, rfl⟩ := ir_of (n := 8) (by decide) e0
    obtain ⟨w1, w2, -⟩ := hw.shape hsn
    simp only [x_110_0, x_110_1, x_110_2, x_110_3, x_110_6, x_110_7, x_110_8, x_110_11, x_110_12, x_110_15, x_110_16, x_110_19, x_110_20, x_110_21, x_110_24, x_110_25, x_110_26, x_110_27, x_110_30, x_110_31, x_110_32, x_110_34, x_110_35, x_110_36, x_110_39, x_110_41, x_110_44, x_110_47, x_110_48, x_110_49, x_110_52, x_110_54, x_110_57, x_110_60, x_110_62, x_110_65, x_110_68, x_110_69, c_shRef hw hsn, i_10, i_00, if_true, if_false, o_0 hw, true_and, tld]
    by_cases ew : 0 ≤ w ∧ w ≤ 2
    · rw [if_pos ew]
      by_cases e1 : hI h 134 s = 0
      · rw [if_pos (sm_t hs hsn e1)]
        have hw1 := WF_refu (f := 1) hw
        simp only [tl_s, x_110_0, x_110_1, x_110_2, x_110_3, x_110_6, x_110_7, x_110_8, x_110_11, x_110_12, x_110_15, x_110_16, x_110_19, x_110_20, x_110_21, x_110_24, x_110_25, x_110_26, x_110_27, x_110_30, x_110_31, x_110_32, x_110_34, x_110_35, x_110_36, x_110_39, x_110_41, x_110_44, x_110_47, x_110_48, x_110_49, x_110_52, x_110_54, x_110_57, x_110_60, x_110_62, x_110_65, x_110_68, x_110_69, i_3m1, if_false, cl2_i]
        rw [e_192]
        simp only [x_192_0, x_192_1, x_192_2, x_192_3, x_192_6, x_192_9, x_192_10, x_192_11, x_192_12, x_192_13, x_192_16, x_192_17, x_192_18, x_192_21, x_192_22, x_192_25, x_192_26, x_192_27, x_192_30, x_192_31, x_192_34, x_192_35, x_192_36, x_192_39, x_192_40, x_192_41, x_192_44, x_192_45, x_192_48, x_192_49, x_192_50, x_192_53, x_192_54, x_192_57, x_192_58, x_192_59, x_192_60, x_192_63, m_in, tl_s, bI_t ew, i_10, if_false, m_askedShape hw1 hsn, o_124 hw1, true_and]
        rw [if_pos (show hI (refu h 1) 134 s = 0 by rw [refu_I (by decide) (by decide)]; exact e1)]
        simp only [tl_s, x_192_0, x_192_1, x_192_2, x_192_3, x_192_6, x_192_9, x_192_10, x_192_11, x_192_12, x_192_13, x_192_16, x_192_17, x_192_18, x_192_21, x_192_22, x_192_25, x_192_26, x_192_27, x_192_30, x_192_31, x_192_34, x_192_35, x_192_36, x_192_39, x_192_40, x_192_41, x_192_44, x_192_45, x_192_48, x_192_49, x_192_50, x_192_53, x_192_54, x_192_57, x_192_58, x_192_59, x_192_60, x_192_63, i_m3, if_false, cl2_i, Option.some.injEq, exists_eq_left', true_and]
        exact cm_ref (by decide) hc
      · rw [if_neg (sm_f hs hsn e1)]
        obtain ⟨-, a1, a2, a3, -⟩ := sh_at hs hsn e1
        simp only [tl_s, x_110_0, x_110_1, x_110_2, x_110_3, x_110_6, x_110_7, x_110_8, x_110_11, x_110_12, x_110_15, x_110_16, x_110_19, x_110_20, x_110_21, x_110_24, x_110_25, x_110_26, x_110_27, x_110_30, x_110_31, x_110_32, x_110_34, x_110_35, x_110_36, x_110_39, x_110_41, x_110_44, x_110_47, x_110_48, x_110_49, x_110_52, x_110_54, x_110_57, x_110_60, x_110_62, x_110_65, x_110_68, x_110_69, i_00, if_true, cl2_i, cl2_r, o_0 hw, w_0_2 hw, o_3 hw, Bool.or_true, inb_nI (n := LN 3) hsn (by decide), Bool.and_self, nI_clamp (n := s) (by omega), w1, w2, true_and, Option.some.injEq, exists_eq_left']
        have fin : ∀ a : Int32, CM (sI (sI h 0 15 a) 124 2 a) := fun a => cm_asked hc
        have mod : ∀ (a : Int32), (w = 0 → a = hI h 132 s) → (¬ w = 0 → w = 1 → a = hI h 133 s) → (¬ w = 0 → ¬ w = 1 → a = hI h 134 s) → Tr sc 19 192 (ent0 192 [.ref 124, .int (nI s), .int w] (sI h 0 15 a)) (fun r2 => r2.1 = some (.int 1) ∧ CM r2.2) := by
          intro a q0 q1 q2
          have hw1 : WF (sI h 0 15 a) := hw
          rw [e_192]
          simp only [x_192_0, x_192_1, x_192_2, x_192_3, x_192_6, x_192_9, x_192_10, x_192_11, x_192_12, x_192_13, x_192_16, x_192_17, x_192_18, x_192_21, x_192_22, x_192_25, x_192_26, x_192_27, x_192_30, x_192_31, x_192_34, x_192_35, x_192_36, x_192_39, x_192_40, x_192_41, x_192_44, x_192_45, x_192_48, x_192_49, x_192_50, x_192_53, x_192_54, x_192_57, x_192_58, x_192_59, x_192_60, x_192_63, m_in, tl_s, bI_t ew, i_10, if_false, m_askedShape hw1 hsn, o_124 hw1, true_and]
          rw [if_neg (show ¬ hI (sI h 0 15 a) 134 s = 0 from e1)]
          simp only [tl_s, x_192_0, x_192_1, x_192_2, x_192_3, x_192_6, x_192_9, x_192_10, x_192_11, x_192_12, x_192_13, x_192_16, x_192_17, x_192_18, x_192_21, x_192_22, x_192_25, x_192_26, x_192_27, x_192_30, x_192_31, x_192_34, x_192_35, x_192_36, x_192_39, x_192_40, x_192_41, x_192_44, x_192_45, x_192_48, x_192_49, x_192_50, x_192_53, x_192_54, x_192_57, x_192_58, x_192_59, x_192_60, x_192_63, i_0, if_true, cl2_i, o_124 hw1, w_124_16 hw1, w_124_17 hw1, w_124_18 hw1, iOk_ok (o_132 hw1), iRd_ok (o_132 hw1), iOk_ok (o_133 hw1), iRd_ok (o_133 hw1), iOk_ok (o_134 hw1), iRd_ok (o_134 hw1), inb_nI (n := LN 132) hsn (by decide), inb_nI (n := LN 133) hsn (by decide), inb_nI (n := LN 134) hsn (by decide), nI_clamp (n := s) (by omega), Option.some.injEq, exists_eq_left', true_and, m_ask hw1, hI_sI, Nat.reduceEqDiff, if_false]
          by_cases z0 : w = 0
          · rw [if_pos z0, ← q0 z0]; exact fin a
          · rw [if_neg z0]
            by_cases z1 : w = 1
            · rw [if_pos z1, ← q1 z0 z1]; exact fin a
            · rw [if_neg z1, ← q2 z0 z1]; exact fin a
        by_cases z0 : w = 0
        · rw [if_pos z0]
          exact mod _ (fun _ => a1.symm) (fun q => absurd z0 q) (fun q => absurd z0 q)
        · rw [if_neg z0]
          by_cases z1 : w = 1
          · rw [if_pos z1]
            exact mod _ (fun q => absurd q z0) (fun _ _ => a2.symm) (fun _ q => absurd z1 q)
          · rw [if_neg z1]
            exact mod _ (fun q => absurd q z0) (fun _ q => absurd q z1) (fun _ _ => a3.symm)
    · rw [if_neg ew]
      simp only [tl_s, x_110_0, x_110_1, x_110_2, x_110_3, x_110_6, x_110_7, x_110_8, x_110_11, x_110_12, x_110_15, x_110_16, x_110_19, x_110_20, x_110_21, x_110_24, x_110_25, x_110_26, x_110_27, x_110_30, x_110_31, x_110_32, x_110_34, x_110_35, x_110_36, x_110_39, x_110_41, x_110_44, x_110_47, x_110_48, x_110_49, x_110_52, x_110_54, x_110_57, x_110_60, x_110_62, x_110_65, x_110_68, x_110_69, i_1m1, if_false, cl2_i]
      rw [e_192]
      simp only [x_192_0, x_192_1, x_192_2, x_192_3, x_192_6, x_192_9, x_192_10, x_192_11, x_192_12, x_192_13, x_192_16, x_192_17, x_192_18, x_192_21, x_192_22, x_192_25, x_192_26, x_192_27, x_192_30, x_192_31, x_192_34, x_192_35, x_192_36, x_192_39, x_192_40, x_192_41, x_192_44, x_192_45, x_192_48, x_192_49, x_192_50, x_192_53, x_192_54, x_192_57, x_192_58, x_192_59, x_192_60, x_192_63, m_in, tl_s, bI_f ew, i_00, if_true, Option.some.injEq, exists_eq_left', true_and]
      exact hc
  · simp only [x_110_0, x_110_1, x_110_2, x_110_3, x_110_6, x_110_7, x_110_8, x_110_11, x_110_12, x_110_15, x_110_16, x_110_19, x_110_20, x_110_21, x_110_24, x_110_25, x_110_26, x_110_27, x_110_30, x_110_31, x_110_32, x_110_34, x_110_35, x_110_36, x_110_39, x_110_41, x_110_44, x_110_47, x_110_48, x_110_49, x_110_52, x_110_54, x_110_57, x_110_60, x_110_62, x_110_65, x_110_68, x_110_69, c_shRef_bad e0, o_0 hw, true_and, tl_s, i_1m1, if_false, cl2_i, tld]
    have same : ∀ A : Prop, (if 0 ≤ w ∧ w ≤ 2 then A else A) = A := fun A => by by_cases q : 0 ≤ w ∧ w ≤ 2 <;> simp [q]
    rw [same]
    rw [e_192]
    by_cases ew : 0 ≤ w ∧ w ≤ 2
    · simp only [x_192_0, x_192_1, x_192_2, x_192_3, x_192_6, x_192_9, x_192_10, x_192_11, x_192_12, x_192_13, x_192_16, x_192_17, x_192_18, x_192_21, x_192_22, x_192_25, x_192_26, x_192_27, x_192_30, x_192_31, x_192_34, x_192_35, x_192_36, x_192_39, x_192_40, x_192_41, x_192_44, x_192_45, x_192_48, x_192_49, x_192_50, x_192_53, x_192_54, x_192_57, x_192_58, x_192_59, x_192_60, x_192_63, m_in, tl_s, bI_t ew, i_10, if_false, m_askedShape_bad e0, o_124 hw, true_and, i_m1, cl2_i, Option.some.injEq, exists_eq_left']
      exact hc
    · simp only [x_192_0, x_192_1, x_192_2, x_192_3, x_192_6, x_192_9, x_192_10, x_192_11, x_192_12, x_192_13, x_192_16, x_192_17, x_192_18, x_192_21, x_192_22, x_192_25, x_192_26, x_192_27, x_192_30, x_192_31, x_192_34, x_192_35, x_192_36, x_192_39, x_192_40, x_192_41, x_192_44, x_192_45, x_192_48, x_192_49, x_192_50, x_192_53, x_192_54, x_192_57, x_192_58, x_192_59, x_192_60, x_192_63, m_in, tl_s, bI_f ew, i_00, if_true, Option.some.injEq, exists_eq_left', true_and]
      exact hc
end S1
