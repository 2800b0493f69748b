/-! ===== words that a row spells; point ===== -/
section PT
variable {sc : Nat × (Nat → Int32)} {d : Nat} {Q : PRes → Prop} {h h' H : PH} {k s r b M i j t n : Nat} {kd x y z w : Int32} {tn : Nat → Nat} {sx sy ex : Nat → Int}
def gMv (M v : Int32) : Bool := decide (0 ≤ v ∧ v < M)
theorem c_word_bad {u t : Int32} (hb : ¬ (0 ≤ x ∧ x < 8) ∨ ¬ (0 ≤ y ∧ y < 6) ∨ t = 0) : Tr sc (d + 1) 148 (ent0 148 [.ref 0, .int x, .int y, .int u, .int t] h) Q = Q (some (.int (-1)), h) := by
  rw [e_148]
  simp only [x_148_0, x_148_1, x_148_4, x_148_7, x_148_8, x_148_11, x_148_14, x_148_16, x_148_19, x_148_20, cl2_i, cl2_r, cl2_n, cl2_l, tl_s, tl_n, true_and, and_true, Option.some.injEq, exists_eq_left', Bool.and_self, Bool.true_and, Bool.and_true, Bool.or_true, Bool.true_or, i_10, i_00, if_true, if_false, not_true_eq_false, not_false_eq_true, and_false, false_and, okp_sI, okp_sL, okp_aI, okp_aL, hR_sI, hR_sL, hR_aI, hR_aL, c_isShape, c_isRow, bI_0]
  by_cases e1 : 0 ≤ x ∧ x < 8
  · rw [if_neg (fun q => q e1)]
    by_cases e2 : 0 ≤ y ∧ y < 6
    · rw [if_neg (fun q => q e2)]
      rcases hb with q | q | q
      · exact absurd e1 q
      · exact absurd e2 q
      · rw [if_pos q]
    · rw [if_pos e2]
  · rw [if_pos e1]
theorem c_wr_loop (hw : WF h) (hs : s < 8) (hr : r < 6) (hn : n ≤ 40) : ∀ (m i : Nat), i + m = n → Tr sc (d + 1) 148 (73, [some (.ref 0), some (.int (nI s)), some (.int (nI r)), some (.int (nI n)), some (.int 1), some (.int (nI i))], [], h) Q = if allB (fun j => gMv (hI h (68 + 7 * s) 8) (hI h (49 + 2 * r) j)) i m = true then Q (some (.int 0), h) else Q (some (.int (-3)), refu h 3) := by
  obtain ⟨w1, w2, -⟩ := hw.shape hs
  obtain ⟨v1, v2, v3, v4, v5⟩ := hw.row hr
  intro m
  induction m with
  | zero =>
    intro i hi
    have e : i = n := by omega
    subst e
    rw [x_148_73]
    simp only [x_148_75, x_148_76, x_148_79, x_148_80, x_148_83, x_148_84, x_148_85, x_148_86, x_148_89, x_148_90, x_148_91, x_148_94, x_148_96, x_148_97, x_148_100, x_148_103, x_148_104, x_148_105, x_148_108, x_148_109, x_148_112, x_148_115, x_148_116, cl2_i, cl2_r, cl2_n, cl2_l, tl_s, tl_n, true_and, and_true, Option.some.injEq, exists_eq_left', Bool.and_self, Bool.true_and, Bool.and_true, Bool.or_true, Bool.true_or, i_10, i_00, if_true, if_false, not_true_eq_false, not_false_eq_true, and_false, false_and, okp_sI, okp_sL, okp_aI, okp_aL, hR_sI, hR_sL, hR_aI, hR_aL]
    rw [if_pos (Int32.le_refl _)]
    exact (if_pos (show allB _ i 0 = true from rfl)).symm
  | succ m ih =>
    intro i hi
    have ex : allB (fun j => gMv (hI h (68 + 7 * s) 8) (hI h (49 + 2 * r) j)) i (m + 1) = (gMv (hI h (68 + 7 * s) 8) (hI h (49 + 2 * r) i) && allB (fun j => gMv (hI h (68 + 7 * s) 8) (hI h (49 + 2 * r) j)) (i + 1) m) := rfl
    rw [x_148_73]
    simp only [x_148_75, x_148_76, x_148_79, x_148_80, x_148_83, x_148_84, x_148_85, x_148_86, x_148_89, x_148_90, x_148_91, x_148_94, x_148_96, x_148_97, x_148_100, x_148_103, x_148_104, x_148_105, x_148_108, x_148_109, x_148_112, o_0 hw, w_0_0 hw, w_0_2 hw, o_3 hw, show LN 3 = 8 from rfl, o_1 hw, show LN 1 = 6 from rfl, cl2_i, cl2_r, cl2_n, cl2_l, tl_s, tl_n, true_and, and_true, Option.some.injEq, exists_eq_left', Bool.and_self, Bool.true_and, Bool.and_true, Bool.or_true, Bool.true_or, i_10, i_00, if_true, if_false, not_true_eq_false, not_false_eq_true, and_false, false_and, okp_sI, okp_sL, okp_aI, okp_aL, hR_sI, hR_sL, hR_aI, hR_aL, inb_nI (n := 8) hs (by decide), nI_clamp (n := s) (by omega), w1, w2, inb_nI (n := 6) hr (by decide), nI_clamp (n := r) (by omega), v1, v2, v3, iOk_ok v4, iRd_ok v4, v5, inb_nI (n := 40) (show i < 40 by omega) (by decide), nI_clamp (n := i) (by omega), c_hasMove w2, bI_0, c_refuse_3 hw, nI_1]
    rw [if_neg (nI_ge (show i < n by omega) (by omega)), ex]
    by_cases e1 : 0 ≤ hI h (49 + 2 * r) i ∧ hI h (49 + 2 * r) i < hI h (68 + 7 * s) 8
    · rw [if_neg (fun q => q e1), ih (i + 1) (by omega), show gMv (hI h (68 + 7 * s) 8) (hI h (49 + 2 * r) i) = true from decide_eq_true e1, Bool.true_and]
    · rw [if_pos e1, show gMv (hI h (68 + 7 * s) 8) (hI h (49 + 2 * r) i) = false from decide_eq_false e1, Bool.false_and, if_neg (by decide)]
theorem c_word (hw : WF h) (hs : s < 8) (hr : r < 6) (hn : n ≤ 40) : Tr sc (d + 1) 148 (ent0 148 [.ref 0, .int (nI s), .int (nI r), .int (nI n), .int 1] h) Q = if hI h (68 + 7 * s) 6 = -1 ∨ hI h (48 + 2 * r) 1 < 0 then Q (some (.int (-3)), refu h 1) else if hI h (48 + 2 * r) 1 < nI n then Q (some (.int (-3)), refu h 5) else if allB (fun j => gMv (hI h (68 + 7 * s) 8) (hI h (49 + 2 * r) j)) 0 n = true then Q (some (.int 0), h) else Q (some (.int (-3)), refu h 3) := by
  obtain ⟨w1, w2, -⟩ := hw.shape hs
  obtain ⟨v1, v2, v3, v4, v5⟩ := hw.row hr
  rw [e_148]
  simp only [x_148_0, x_148_1, x_148_4, x_148_7, x_148_8, x_148_11, x_148_14, x_148_16, x_148_19, x_148_20, x_148_21, x_148_22, x_148_25, x_148_26, x_148_27, x_148_30, x_148_33, x_148_34, x_148_37, x_148_38, x_148_39, x_148_42, x_148_45, x_148_46, x_148_47, x_148_50, x_148_51, x_148_52, x_148_55, x_148_56, x_148_57, x_148_60, x_148_61, x_148_64, x_148_65, x_148_66, x_148_69, x_148_70, x_148_71, o_0 hw, w_0_0 hw, w_0_2 hw, o_3 hw, show LN 3 = 8 from rfl, o_1 hw, show LN 1 = 6 from rfl, cl2_i, cl2_r, cl2_n, cl2_l, tl_s, tl_n, true_and, and_true, Option.some.injEq, exists_eq_left', Bool.and_self, Bool.true_and, Bool.and_true, Bool.or_true, Bool.true_or, i_10, i_00, if_true, if_false, not_true_eq_false, not_false_eq_true, and_false, false_and, okp_sI, okp_sL, okp_aI, okp_aL, hR_sI, hR_sL, hR_aI, hR_aL, c_isShape, c_isRow, isShape_t hs, isRow_t hr, inb_nI (n := 8) hs (by decide), nI_clamp (n := s) (by omega), w1, w2, inb_nI (n := 6) hr (by decide), nI_clamp (n := r) (by omega), v1, v3, c_sMiss w2, c_isMiss v3, bI_0, c_refuse_1 hw, c_refuse_5 hw]
  by_cases e1 : hI h (68 + 7 * s) 6 = -1
  · rw [if_neg (fun q => q e1), if_pos (Or.inl e1)]
  · rw [if_pos e1]
    by_cases e2 : hI h (48 + 2 * r) 1 < 0
    · rw [if_neg (fun q => q e2), if_pos (Or.inr e2)]
    · have nn : ¬ (hI h (68 + 7 * s) 6 = -1 ∨ hI h (48 + 2 * r) 1 < 0) := fun q => q.elim e1 e2
      rw [if_pos e2, if_neg nn]
      by_cases e3 : hI h (48 + 2 * r) 1 < nI n
      · rw [if_neg (Int32.not_le.mpr e3), if_pos e3]
      · rw [if_pos (Int32.not_lt.mp e3), if_neg e3]
        exact c_wr_loop hw hs hr hn n 0 (by omega)
def gMw (M v : Int32) : Bool := decide (0 ≤ v ∧ v ≤ M - 1)
theorem m_wr_loop (hw : WF h) (hs : s < 8) (hr : r < 6) (hn : n ≤ 40) : ∀ (m i : Nat) (G : Bool), i + m = n → Tr sc (d + 1) 198 (62, [some (.ref 124), some (.int (nI s)), some (.int (nI r)), some (.int (nI n)), some (.int (bI (G = true))), some (.int (nI i))], [], h) Q = if (G && allB (fun j => gMw (hI h 134 s) (hI h 127 (40 * r + j))) i m) = true then Q (some (.int 0), h) else Q (some (.int (-3)), refm h 3) := by
  intro m
  induction m with
  | zero =>
    intro i G hi
    have e : i = n := by omega
    subst e
    rw [x_198_62]
    simp only [x_198_64, x_198_65, o_124 hw, x_198_113, x_198_115, x_198_118, x_198_119, x_198_122, x_198_123, x_198_124, x_198_127, o_124 hw, cl2_i, cl2_r, cl2_n, cl2_l, tl_s, tl_n, true_and, and_true, Option.some.injEq, exists_eq_left', Bool.and_self, Bool.true_and, Bool.and_true, Bool.or_true, Bool.true_or, i_10, i_00, if_true, if_false, not_true_eq_false, not_false_eq_true, and_false, false_and, okp_sI, okp_sL, okp_aI, okp_aL, hR_sI, hR_sL, hR_aI, hR_aL, m_meets_3 hw, bI_0]
    rw [if_pos (Int32.le_refl _)]
    cases G with
    | true => rfl
    | false => rfl
  | succ m ih =>
    intro i G hi
    have ex : allB (fun j => gMw (hI h 134 s) (hI h 127 (40 * r + j))) i (m + 1) = (gMw (hI h 134 s) (hI h 127 (40 * r + i)) && allB (fun j => gMw (hI h 134 s) (hI h 127 (40 * r + j))) (i + 1) m) := rfl
    rw [x_198_62]
    simp only [x_198_64, x_198_65, x_198_68, x_198_70, x_198_73, x_198_74, x_198_77, x_198_79, x_198_80, x_198_81, x_198_83, x_198_84, x_198_85, x_198_86, x_198_87, x_198_90, x_198_91, x_198_92, x_198_93, x_198_94, x_198_97, x_198_100, x_198_101, x_198_104, x_198_105, x_198_107, x_198_110, o_124 hw, w_124_7 hw, w_124_18 hw, o_127 hw, iOk_lt (k := 127) (by decide), iRd_lt (k := 127) (by decide), show LN 127 = 240 from rfl, o_134 hw, iOk_lt (k := 134) (by decide), iRd_lt (k := 134) (by decide), show LN 134 = 8 from rfl, cl2_i, cl2_r, cl2_n, cl2_l, tl_s, tl_n, true_and, and_true, Option.some.injEq, exists_eq_left', Bool.and_self, Bool.true_and, Bool.and_true, Bool.or_true, Bool.true_or, i_10, i_00, if_true, if_false, not_true_eq_false, not_false_eq_true, and_false, false_and, okp_sI, okp_sL, okp_aI, okp_aL, hR_sI, hR_sL, hR_aI, hR_aL, lay_ix hr (show i < 40 by omega), inb_nI (n := 240) (show 40 * r + i < 240 by omega) (by decide), nI_clamp (n := 40 * r + i) (by omega), inb_nI (n := 8) hs (by decide), nI_clamp (n := s) (by omega), m_in, bI_0, nI_1]
    rw [if_neg (nI_ge (show i < n by omega) (by omega)), ex]
    have e2 := ih (i + 1) false (by omega)
    rw [Bool.false_and] at e2
    cases G with
    | false =>
      rw [if_pos (show ¬ (false = true) by decide), Bool.false_and]
      exact e2
    | true =>
      rw [if_neg (show ¬ ¬ (true = true) from fun q => q rfl)]
      by_cases e1 : 0 ≤ hI h 127 (40 * r + i) ∧ hI h 127 (40 * r + i) ≤ hI h 134 s - 1
      · rw [if_neg (show ¬ ¬ (0 ≤ hI h 127 (40 * r + i) ∧ hI h 127 (40 * r + i) ≤ hI h 134 s - 1) from fun q => q e1), show gMw (hI h 134 s) (hI h 127 (40 * r + i)) = true from decide_eq_true e1, Bool.true_and, Bool.true_and]
        have e3 := ih (i + 1) true (by omega)
        rw [Bool.true_and] at e3
        exact e3
      · rw [if_pos e1, show gMw (hI h 134 s) (hI h 127 (40 * r + i)) = false from decide_eq_false e1, Bool.false_and, Bool.and_false]
        exact e2
theorem m_word (hw : WF h) (hs : s < 8) (hr : r < 6) (hn : n ≤ 40) : Tr sc (d + 2) 198 (ent0 198 [.ref 124, .int (nI s), .int (nI r), .int (nI n)] h) Q = if hI h 134 s = 0 ∨ hI h 126 r < 0 then Q (some (.int (-3)), refm h 1) else if hI h 126 r < nI n then Q (some (.int (-3)), refm h 5) else if allB (fun j => gMw (hI h 134 s) (hI h 127 (40 * r + j))) 0 n = true then Q (some (.int 0), h) else Q (some (.int (-3)), refm h 3) := by
  rw [e_198]
  simp only [x_198_0, x_198_1, x_198_4, x_198_7, x_198_8, x_198_11, x_198_14, x_198_15, x_198_16, x_198_17, x_198_20, x_198_21, x_198_22, x_198_25, x_198_26, x_198_29, x_198_30, x_198_31, x_198_34, x_198_35, x_198_36, x_198_39, x_198_40, x_198_41, x_198_44, x_198_45, x_198_46, x_198_47, x_198_50, x_198_51, x_198_52, x_198_55, x_198_56, x_198_57, x_198_59, x_198_60, o_124 hw, w_124_6 hw, w_124_18 hw, o_134 hw, iOk_lt (k := 134) (by decide), iRd_lt (k := 134) (by decide), show LN 134 = 8 from rfl, o_126 hw, iOk_lt (k := 126) (by decide), iRd_lt (k := 126) (by decide), show LN 126 = 6 from rfl, cl2_i, cl2_r, cl2_n, cl2_l, tl_s, tl_n, true_and, and_true, Option.some.injEq, exists_eq_left', Bool.and_self, Bool.true_and, Bool.and_true, Bool.or_true, Bool.true_or, i_10, i_00, if_true, if_false, not_true_eq_false, not_false_eq_true, and_false, false_and, okp_sI, okp_sL, okp_aI, okp_aL, hR_sI, hR_sL, hR_aI, hR_aL, m_isShape, m_isRow, bI_k7 hs, bI_k5 hr, inb_nI (n := 8) hs (by decide), nI_clamp (n := s) (by omega), inb_nI (n := 6) hr (by decide), nI_clamp (n := r) (by omega), m_meets_1 hw, m_meets_5 hw]
  by_cases e1 : hI h 134 s = 0
  · rw [if_pos e1, if_pos (Or.inl e1)]
  · rw [if_neg e1]
    by_cases e2 : hI h 126 r < 0
    · rw [if_neg (Int32.not_le.mpr e2), if_pos (Or.inr e2)]
    · have nn : ¬ (hI h 134 s = 0 ∨ hI h 126 r < 0) := fun q => q.elim e1 e2
      rw [if_pos (Int32.not_lt.mp e2), if_neg nn]
      by_cases e3 : hI h 126 r < nI n
      · rw [if_neg (Int32.not_le.mpr e3), if_pos e3]
      · rw [if_pos (Int32.not_lt.mp e3), if_neg e3]
        have e4 := m_wr_loop (sc := sc) (d := d + 1) (Q := Q) hw hs hr hn n 0 true (by omega)
        rw [Bool.true_and] at e4
        exact e4
theorem m_word_bad {u : Int32} (hb : ¬ (0 ≤ x ∧ x < 8) ∨ ¬ (0 ≤ y ∧ y < 6)) : Tr sc (d + 2) 198 (ent0 198 [.ref 124, .int x, .int y, .int u] h) Q = Q (some (.int (-1)), h) := by
  rw [e_198]
  simp only [x_198_0, x_198_1, x_198_4, x_198_7, x_198_8, x_198_11, x_198_14, x_198_15, cl2_i, cl2_r, cl2_n, cl2_l, tl_s, tl_n, true_and, and_true, Option.some.injEq, exists_eq_left', Bool.and_self, Bool.true_and, Bool.and_true, Bool.or_true, Bool.true_or, i_10, i_00, if_true, if_false, not_true_eq_false, not_false_eq_true, and_false, false_and, okp_sI, okp_sL, okp_aI, okp_aL, hR_sI, hR_sL, hR_aI, hR_aL, m_isShape, m_isRow, bI_0, k7, k5]
  by_cases e1 : 0 ≤ x ∧ x < 8
  · rw [if_neg (fun q => q e1)]
    rcases hb with q | q
    · exact absurd e1 q
    · rw [if_pos q]
  · rw [if_pos e1]
/-- class and model refuse a word alike; else both have it -/
theorem glue_wd {yc ym : Nat} {as : List Value} {T : Prop} {CC : Nat → Nat → (PRes → Prop) → Prop} {MC : Nat → Nat → PH → (PRes → Prop) → Prop} (hn : n ≤ 40) (hc : CM h)
    (Hb : ¬ (((0 ≤ x ∧ x < 8) ∧ (0 ≤ y ∧ y < 6)) ∧ T) → ∀ Q, Tr sc 19 yc (ent0 yc (.ref 0 :: as) h) Q = Q (some (.int (-1)), h))
    (Hbm : ¬ (((0 ≤ x ∧ x < 8) ∧ (0 ≤ y ∧ y < 6)) ∧ T) → ∀ Q, Tr sc 19 ym (ent0 ym (.ref 124 :: as) h) Q = Q (some (.int (-1)), h))
    (Hc : T → ∀ s r, s < 8 → r < 6 → x = nI s → y = nI r → ∀ Q, Tr sc 19 yc (ent0 yc (.ref 0 :: as) h) Q = if hI h (68 + 7 * s) 6 = -1 ∨ hI h (48 + 2 * r) 1 < 0 then Q (some (.int (-3)), refu h 1) else if hI h (48 + 2 * r) 1 < nI n then Q (some (.int (-3)), refu h 5) else if allB (fun j => gMv (hI h (68 + 7 * s) 8) (hI h (49 + 2 * r) j)) 0 n = true then CC s r Q else Q (some (.int (-3)), refu h 3))
    (Hm : T → ∀ s r, s < 8 → r < 6 → x = nI s → y = nI r → ∀ h1 Q, WF h1 → Tr sc 19 ym (ent0 ym (.ref 124 :: as) h1) Q = if hI h1 134 s = 0 ∨ hI h1 126 r < 0 then Q (some (.int (-3)), refm h1 1) else if hI h1 126 r < nI n then Q (some (.int (-3)), refm h1 5) else if allB (fun j => gMw (hI h1 134 s) (hI h1 127 (40 * r + j))) 0 n = true then MC s r h1 Q else Q (some (.int (-3)), refm h1 3))
    (main : T → ∀ s r, s < 8 → r < 6 → x = nI s → y = nI r → ShAt h s → ∀ (kd : Int32) (b M : Nat) (tn : Nat → Nat) (sx sy ex : Nat → Int) (w : Nat → Nat), ShW kd b M tn sx sy ex → ShC h (68 + 7 * s) kd b M tn sx sy ex → ShM h s kd b M tn sx sy ex → (∀ j, j < n → hI h (49 + 2 * r) j = nI (w j) ∧ hI h 127 (40 * r + j) = nI (w j) ∧ w j < M) → CC s r (fun r1 => Fq Sd h r1.2 ∧ MC s r r1.2 (fun r2 => (∃ v, r1.1 = some v ∧ r2.1 = some v) ∧ CM r2.2)))
    (mono : ∀ s r (A B : PRes → Prop), (∀ r, A r → B r) → CC s r A → CC s r B) : Both sc yc ym as h := by
  unfold Both
  obtain ⟨hw, hf, hr, ht, hs⟩ := id hc
  by_cases e0 : ((0 ≤ x ∧ x < 8) ∧ (0 ≤ y ∧ y < 6)) ∧ T
  · obtain ⟨s, hsn, hx⟩ := ir_of (n := 8) (by decide) e0.1.1
    obtain ⟨r, hrn, hy⟩ := ir_of (n := 6) (by decide) e0.1.2
    rw [Hc e0.2 s r hsn hrn hx hy]
    have ref : ∀ f, f < 6 → (∀ Q : PRes → Prop, Tr sc 19 ym (ent0 ym (.ref 124 :: as) (refu h f)) Q = Q (some (.int (-3)), refm (refu h f) f)) → (fun r1 : PRes => Tr sc 19 ym (ent0 ym (.ref 124 :: as) r1.2) (fun r2 => (∃ v, r1.1 = some v ∧ r2.1 = some v) ∧ CM r2.2)) (some (.int (-3)), refu h f) := by
      intro f hf6 e
      show Tr sc 19 ym (ent0 ym (.ref 124 :: as) (refu h f)) _
      rw [e]
      exact ⟨⟨_, rfl, rfl⟩, cm_ref hf6 hc⟩
    have r1 : ∀ f, hI (refu h f) 134 s = hI h 134 s := fun f => refu_I (by decide) (by decide)
    have r2 : ∀ f, hI (refu h f) 126 r = hI h 126 r := fun f => refu_I (by decide) (by decide)
    have r3 : ∀ f j, hI (refu h f) 127 (40 * r + j) = hI h 127 (40 * r + j) := fun f j => refu_I (by decide) (by decide)
    by_cases e1 : hI h (68 + 7 * s) 6 = -1 ∨ hI h (48 + 2 * r) 1 < 0
    · rw [if_pos e1]
      refine ref 1 (by decide) (fun Q => ?_)
      rw [Hm e0.2 s r hsn hrn hx hy _ _ (WF_refu hw), r1, r2, if_pos]
      rcases e1 with q | q
      · exact Or.inl (by rw [← sm_iff hs hsn]; exact q)
      · exact Or.inr (Int32.not_le.mp (by rw [← sz_neg hr hrn]; exact q))
    · rw [if_neg e1]
      have n1 : ¬ hI h 134 s = 0 := fun q => e1 (Or.inl (sm_t hs hsn q))
      have n2 : ¬ hI h 126 r < 0 := fun q => e1 (Or.inr (by rw [sz_neg hr hrn]; exact Int32.not_le.mpr q))
      obtain ⟨g1, g2⟩ := sz_eq hr hrn (Int32.not_lt.mp n2)
      have nn : ¬ (hI h 134 s = 0 ∨ hI h 126 r < 0) := fun q => q.elim n1 n2
      by_cases e2 : hI h (48 + 2 * r) 1 < nI n
      · rw [if_pos e2]
        refine ref 5 (by decide) (fun Q => ?_)
        rw [Hm e0.2 s r hsn hrn hx hy _ _ (WF_refu hw), r1, r2, if_neg nn, if_pos (by rw [← g1]; exact e2)]
      · rw [if_neg e2]
        have hA := sh_at hs hsn n1
        obtain ⟨kd, b, M, tn, sx, sy, ex, W, C, D⟩ := sh_ab hA
        have hM := W.2.2.1
        have eqb : allB (fun j => gMv (hI h (68 + 7 * s) 8) (hI h (49 + 2 * r) j)) 0 n = allB (fun j => gMw (hI h 134 s) (hI h 127 (40 * r + j))) 0 n := by
          refine allB_congr n 0 (fun j h1 h2 => ?_)
          unfold gMv gMw
          rw [(hr r hrn).2 j (by omega), C.2.2.1, D.2.2.1]
          exact decide_eq_decide.mpr (iff_of_eq (i_le1 (nI_pos' (by omega)) (nI_le (a := M) (b := 40) (by omega) (by decide))).symm)
        by_cases e3 : allB (fun j => gMv (hI h (68 + 7 * s) 8) (hI h (49 + 2 * r) j)) 0 n = true
        · rw [if_pos e3]
          refine mono s r _ _ (fun r1' q => ?_) (main e0.2 s r hsn hrn hx hy hA kd b M tn sx sy ex (fun j => (hI h (49 + 2 * r) j).toNatClampNeg) W C D (fun j hj => ?_))
          · obtain ⟨q1, q3⟩ := q
            have qi : ∀ a b, ¬ Sd a b → hI r1'.2 a b = hI h a b := fun a b z => q1.i z
            have q7 : (fun j => gMw (hI r1'.2 134 s) (hI r1'.2 127 (40 * r + j))) = (fun j => gMw (hI h 134 s) (hI h 127 (40 * r + j))) := by
              funext j
              rw [qi 134 s (by unfold Sd Sc; omega), qi 127 _ (by unfold Sd Sc; omega)]
            rw [Hm e0.2 s r hsn hrn hx hy _ _ (q1.WF hw), q7, qi 134 s (by unfold Sd Sc; omega), qi 126 r (by unfold Sd Sc; omega), if_neg nn, if_neg (by rw [← g1]; exact e2), ← eqb, if_pos e3]
            exact q3
          · have g := of_decide_eq_true (allB_at n 0 e3 j (by omega) (by omega))
            rw [C.2.2.1] at g
            obtain ⟨j', hj', ej⟩ := ir_of (n := M) (by omega) g
            show _ = nI (hI h (49 + 2 * r) j).toNatClampNeg ∧ _ = nI (hI h (49 + 2 * r) j).toNatClampNeg ∧ (hI h (49 + 2 * r) j).toNatClampNeg < M
            rw [(hr r hrn).2 j (by omega), ej, nI_clamp (n := j') (by omega)]
            exact ⟨rfl, rfl, hj'⟩
        · rw [if_neg e3]
          refine ref 3 (by decide) (fun Q => ?_)
          have q7 : (fun j => gMw (hI (refu h 3) 134 s) (hI (refu h 3) 127 (40 * r + j))) = (fun j => gMw (hI h 134 s) (hI h 127 (40 * r + j))) := by
            funext j
            rw [r1, r3]
          rw [Hm e0.2 s r hsn hrn hx hy _ _ (WF_refu hw), q7, r1, r2, if_neg nn, if_neg (by rw [← g1]; exact e2), if_neg (by rw [← eqb]; exact e3)]
  · rw [Hb e0, Hbm e0]
    exact ⟨⟨_, rfl, rfl⟩, hc⟩
theorem both_point (hc : CM h) : Both sc 113 199 [.int x, .int y, .int z, .int w] h := by
  have hw := hc.1
  refine glue_wd (x := x) (y := y) (n := z.toNatClampNeg % 9) (T := 0 ≤ z ∧ z ≤ 8) (CC := fun s r Q => Tr sc 19 113 (32, [some (.ref 0), some (.int (nI s)), some (.int (nI r)), some (.int z), some (.int w), some (.int 0)], [], h) Q) (MC := fun s r h1 Q => Tr sc 19 199 (29, [some (.ref 124), some (.int (nI s)), some (.int (nI r)), some (.int z), some (.int w), some (.int 0)], [], h1) Q) (by omega) hc (fun hb Q => ?_) (fun hb Q => ?_) (fun hT s r hs hr hx hy Q => ?_) (fun hT s r hs hr hx hy h1 Q hw1 => ?_) (fun hT s r hs hr hx hy hA kd b M tn sx sy ex ww W C D hwd => ?_) (fun s r A B hAB q => Tr_mono q hAB)
  · rw [e_113]
    by_cases e1 : z < 0
    · simp only [x_113_0, x_113_1, x_113_2, x_113_3, x_113_4, x_113_5, x_113_8, x_113_9, x_113_11, x_113_14, x_113_15, x_113_18, x_113_19, x_113_22, x_113_24, x_113_26, x_113_29, x_113_31, o_0 hw, cl2_i, cl2_r, cl2_n, cl2_l, tl_s, tl_n, true_and, and_true, Option.some.injEq, exists_eq_left', Bool.and_self, Bool.true_and, Bool.and_true, Bool.or_true, Bool.true_or, i_10, i_00, if_true, if_false, not_true_eq_false, not_false_eq_true, and_false, false_and, okp_sI, okp_sL, okp_aI, okp_aL, hR_sI, hR_sL, hR_aI, hR_aL, e1, c_word_bad (t := 0) (Or.inr (Or.inr rfl)), i_1m1]
    · by_cases e2 : 8 < z
      · simp only [x_113_0, x_113_1, x_113_2, x_113_3, x_113_4, x_113_5, x_113_8, x_113_9, x_113_11, x_113_14, x_113_15, x_113_18, x_113_19, x_113_22, x_113_24, x_113_26, x_113_29, x_113_31, o_0 hw, cl2_i, cl2_r, cl2_n, cl2_l, tl_s, tl_n, true_and, and_true, Option.some.injEq, exists_eq_left', Bool.and_self, Bool.true_and, Bool.and_true, Bool.or_true, Bool.true_or, i_10, i_00, if_true, if_false, not_true_eq_false, not_false_eq_true, and_false, false_and, okp_sI, okp_sL, okp_aI, okp_aL, hR_sI, hR_sL, hR_aI, hR_aL, e1, e2, c_word_bad (t := 0) (Or.inr (Or.inr rfl)), i_1m1]
      · have e3 : ¬ (0 ≤ x ∧ x < 8) ∨ ¬ (0 ≤ y ∧ y < 6) ∨ (1 : Int32) = 0 := by
          by_cases q1 : 0 ≤ x ∧ x < 8
          · by_cases q2 : 0 ≤ y ∧ y < 6
            · exact absurd ⟨⟨q1, q2⟩, Int32.not_lt.mp e1, Int32.not_lt.mp e2⟩ hb
            · exact Or.inr (Or.inl q2)
          · exact Or.inl q1
        simp only [x_113_0, x_113_1, x_113_2, x_113_3, x_113_4, x_113_5, x_113_8, x_113_9, x_113_11, x_113_14, x_113_15, x_113_18, x_113_19, x_113_22, x_113_24, x_113_26, x_113_29, x_113_31, o_0 hw, cl2_i, cl2_r, cl2_n, cl2_l, tl_s, tl_n, true_and, and_true, Option.some.injEq, exists_eq_left', Bool.and_self, Bool.true_and, Bool.and_true, Bool.or_true, Bool.true_or, i_10, i_00, if_true, if_false, not_true_eq_false, not_false_eq_true, and_false, false_and, okp_sI, okp_sL, okp_aI, okp_aL, hR_sI, hR_sL, hR_aI, hR_aL, e1, e2, c_word_bad e3, i_1m1]
  · rw [e_199]
    by_cases e1 : 0 ≤ z ∧ z ≤ 8
    · have e3 : ¬ (0 ≤ x ∧ x < 8) ∨ ¬ (0 ≤ y ∧ y < 6) := by
        by_cases q1 : 0 ≤ x ∧ x < 8
        · by_cases q2 : 0 ≤ y ∧ y < 6
          · exact absurd ⟨⟨q1, q2⟩, e1⟩ hb
          · exact Or.inr q2
        · exact Or.inl q1
      simp only [x_199_0, x_199_1, x_199_2, x_199_4, x_199_7, x_199_10, x_199_11, x_199_12, x_199_13, x_199_14, x_199_15, x_199_16, x_199_19, x_199_21, x_199_23, x_199_26, x_199_28, o_124 hw, cl2_i, cl2_r, cl2_n, cl2_l, tl_s, tl_n, true_and, and_true, Option.some.injEq, exists_eq_left', Bool.and_self, Bool.true_and, Bool.and_true, Bool.or_true, Bool.true_or, i_10, i_00, if_true, if_false, not_true_eq_false, not_false_eq_true, and_false, false_and, okp_sI, okp_sL, okp_aI, okp_aL, hR_sI, hR_sL, hR_aI, hR_aL, m_in, bI_t e1, m_word_bad e3, i_m1]
    · simp only [x_199_0, x_199_1, x_199_2, x_199_4, x_199_7, x_199_10, x_199_11, x_199_12, x_199_13, x_199_14, x_199_15, x_199_16, x_199_19, x_199_21, x_199_23, x_199_26, x_199_28, o_124 hw, cl2_i, cl2_r, cl2_n, cl2_l, tl_s, tl_n, true_and, and_true, Option.some.injEq, exists_eq_left', Bool.and_self, Bool.true_and, Bool.and_true, Bool.or_true, Bool.true_or, i_10, i_00, if_true, if_false, not_true_eq_false, not_false_eq_true, and_false, false_and, okp_sI, okp_sL, okp_aI, okp_aL, hR_sI, hR_sL, hR_aI, hR_aL, m_in, bI_f e1]
  · subst hx hy
    obtain ⟨N, hN, rfl⟩ := ir_of (n := 9) (by decide) (show 0 ≤ z ∧ z < 9 from ⟨hT.1, by have h1 := Int32.le_iff_toInt_le.mp hT.2; have e6 : (8 : Int32).toInt = 8 := rfl; have e7 : (9 : Int32).toInt = 9 := rfl; exact Int32.lt_iff_toInt_lt.mpr (by omega)⟩)
    have z1 : (nI N < 0) = False := eq_false (Int32.not_lt.mpr hT.1)
    have z2 : (8 < nI N) = False := eq_false (Int32.not_lt.mpr hT.2)
    rw [nI_clamp (n := N) (by omega), Nat.mod_eq_of_lt hN, e_113]
    simp only [x_113_0, x_113_1, x_113_2, x_113_3, x_113_4, x_113_5, x_113_8, x_113_9, x_113_11, x_113_14, x_113_15, x_113_18, x_113_19, x_113_22, x_113_24, x_113_26, x_113_29, x_113_31, o_0 hw, cl2_i, cl2_r, cl2_n, cl2_l, tl_s, tl_n, true_and, and_true, Option.some.injEq, exists_eq_left', Bool.and_self, Bool.true_and, Bool.and_true, Bool.or_true, Bool.true_or, i_10, i_00, if_true, if_false, not_true_eq_false, not_false_eq_true, and_false, false_and, okp_sI, okp_sL, okp_aI, okp_aL, hR_sI, hR_sL, hR_aI, hR_aL, z1, z2, c_word hw hs hr (show N ≤ 40 by omega), i_3m1]
  · subst hx hy
    obtain ⟨N, hN, rfl⟩ := ir_of (n := 9) (by decide) (show 0 ≤ z ∧ z < 9 from ⟨hT.1, by have h1 := Int32.le_iff_toInt_le.mp hT.2; have e6 : (8 : Int32).toInt = 8 := rfl; have e7 : (9 : Int32).toInt = 9 := rfl; exact Int32.lt_iff_toInt_lt.mpr (by omega)⟩)
    rw [nI_clamp (n := N) (by omega), Nat.mod_eq_of_lt hN, e_199]
    simp only [x_199_0, x_199_1, x_199_2, x_199_4, x_199_7, x_199_10, x_199_11, x_199_12, x_199_13, x_199_14, x_199_15, x_199_16, x_199_19, x_199_21, x_199_23, x_199_26, x_199_28, o_124 hw1, cl2_i, cl2_r, cl2_n, cl2_l, tl_s, tl_n, true_and, and_true, Option.some.injEq, exists_eq_left', Bool.and_self, Bool.true_and, Bool.and_true, Bool.or_true, Bool.true_or, i_10, i_00, if_true, if_false, not_true_eq_false, not_false_eq_true, and_false, false_and, okp_sI, okp_sL, okp_aI, okp_aL, hR_sI, hR_sL, hR_aI, hR_aL, m_in, bI_t hT, m_word hw1 hs hr (show N ≤ 40 by omega), i_m3, i_0]
  · obtain ⟨N, hN, rfl⟩ := ir_of (n := 9) (by decide) (show 0 ≤ z ∧ z < 9 from ⟨hT.1, by have h1 := Int32.le_iff_toInt_le.mp hT.2; have e6 : (8 : Int32).toInt = 8 := rfl; have e7 : (9 : Int32).toInt = 9 := rfl; exact Int32.lt_iff_toInt_lt.mpr (by omega)⟩)
    rw [nI_clamp (n := N) (by omega), Nat.mod_eq_of_lt hN] at hwd
    obtain ⟨w1, w2, -⟩ := hw.shape hs
    obtain ⟨v1, v2, v3, v4, v5⟩ := hw.row hr
    simp only [x_113_32, x_113_33, x_113_36, x_113_37, x_113_40, x_113_41, x_113_42, x_113_43, x_113_46, x_113_47, x_113_48, x_113_49, x_113_50, o_0 hw, w_0_0 hw, w_0_2 hw, w_0_5 hw, o_14 hw, o_3 hw, show LN 3 = 8 from rfl, o_1 hw, show LN 1 = 6 from rfl, cl2_i, cl2_r, cl2_n, cl2_l, tl_s, tl_n, true_and, and_true, Option.some.injEq, exists_eq_left', Bool.and_self, Bool.true_and, Bool.and_true, Bool.or_true, Bool.true_or, i_10, i_00, if_true, if_false, not_true_eq_false, not_false_eq_true, and_false, false_and, okp_sI, okp_sL, okp_aI, okp_aL, hR_sI, hR_sL, hR_aI, hR_aL, inb_nI (n := 8) hs (by decide), nI_clamp (n := s) (by omega), w1, w2, inb_nI (n := 6) hr (by decide), nI_clamp (n := r) (by omega), v1]
    refine c_follow (fr := 0) (n := N) (w := ww) hw (o_14 hw) (is_sh hs) C W (by omega) (by omega) v3 v2 v4 v5 (by omega) (fun j hj => by rw [Nat.zero_add]; exact ⟨(hwd j hj).1, (hwd j hj).2.2⟩) (fun h' f A => ?_)
    obtain ⟨a0, a1, a2, a3, a4, a5, a6⟩ := A
    have hw' := f.WF hw
    have fS : Fq Sc h h' := f.wk (fun a b q => by unfold Sc; omega)
    have key : ∀ (v : Int32), (v = if w = 0 then iv (afs b tn sx sy (fun m => ww (N - 1 - m)) N).2.2.2.2.1 else iv (afs b tn sx sy (fun m => ww (N - 1 - m)) N).2.2.2.2.2) → Fq Sd h (sI h' 0 15 v) ∧ Tr sc 19 199 (29, [some (.ref 124), some (.int (nI s)), some (.int (nI r)), some (.int (nI N)), some (.int w), some (.int 0)], [], sI h' 0 15 v) (fun r2 => r2.1 = some (Value.int 1) ∧ CM r2.2) := by
      intro v hv
      refine ⟨fS.toD.sI (by unfold Sd; omega), ?_⟩
      generalize hh3 : sI h' 0 15 v = h3
      have hw3 : WF h3 := by rw [← hh3]; exact hw'
      have f3 : Fq Sd h h3 := by rw [← hh3]; exact fS.toD.sI (by unfold Sd; omega)
      have D3 : ShM h3 s kd b M tn sx sy ex := D.fr f3 (fun a j h1 h2 => by unfold Sd Sc; omega)
      simp only [x_199_29, x_199_30, x_199_31, x_199_32, x_199_33, x_199_34, o_124 hw3, cl2_i, cl2_r, cl2_n, cl2_l, tl_s, tl_n, true_and, and_true, Option.some.injEq, exists_eq_left', Bool.and_self, Bool.true_and, Bool.and_true, Bool.or_true, Bool.true_or, i_10, i_00, if_true, if_false, not_true_eq_false, not_false_eq_true, and_false, false_and, okp_sI, okp_sL, okp_aI, okp_aL, hR_sI, hR_sL, hR_aI, hR_aL]
      refine m_setWord (fr := 0) (n := N) (w := ww) hw3 hs hr D3 W (by omega) (fun j hj => by rw [Nat.zero_add, f3.i (by unfold Sd Sc; omega)]; exact (hwd j hj).2) (fun h2 f2 A2 => ?_)
      obtain ⟨b0, b1, b2, b3, b4, b5⟩ := A2
      have hw2 := f2.WF hw3
      have f2S : Fq Sc h3 h2 := f2.wk (fun a b q => by unfold Pq at q; unfold Sc; omega)
      rw [← hh3] at f2S
      simp only [x_199_37, x_199_38, x_199_40, x_199_43, x_199_44, x_199_47, x_199_50, x_199_51, x_199_54, x_199_55, x_199_58, o_124 hw2, cl2_i, cl2_r, cl2_n, cl2_l, tl_s, tl_n, true_and, and_true, Option.some.injEq, exists_eq_left', Bool.and_self, Bool.true_and, Bool.and_true, Bool.or_true, Bool.true_or, i_10, i_00, if_true, if_false, not_true_eq_false, not_false_eq_true, and_false, false_and, okp_sI, okp_sL, okp_aI, okp_aL, hR_sI, hR_sL, hR_aI, hR_aL, m_ask hw2, b4, b5]
      by_cases ew : w = 0
      · rw [if_pos ew] at hv ⊢
        rw [← hv]
        first | exact cm_eA hc fS f2S | exact ⟨rfl, cm_eA hc fS f2S⟩ | exact ⟨⟨_, rfl, rfl⟩, cm_eA hc fS f2S⟩
      · rw [if_neg ew] at hv ⊢
        rw [← hv]
        first | exact cm_eA hc fS f2S | exact ⟨rfl, cm_eA hc fS f2S⟩ | exact ⟨⟨_, rfl, rfl⟩, cm_eA hc fS f2S⟩
    simp only [x_113_53, x_113_54, x_113_56, x_113_59, x_113_60, x_113_63, x_113_66, x_113_69, x_113_70, x_113_73, x_113_76, x_113_77, x_113_80, x_113_81, o_0 hw', w_0_5 hw', o_14 hw', cl2_i, cl2_r, cl2_n, cl2_l, tl_s, tl_n, true_and, and_true, Option.some.injEq, exists_eq_left', Bool.and_self, Bool.true_and, Bool.and_true, Bool.or_true, Bool.true_or, i_10, i_00, if_true, if_false, not_true_eq_false, not_false_eq_true, and_false, false_and, okp_sI, okp_sL, okp_aI, okp_aL, hR_sI, hR_sL, hR_aI, hR_aL, o_14 hw', a4, a5, jv_i]
    by_cases ew : w = 0
    · rw [if_pos ew]
      exact key _ (by rw [if_pos ew])
    · rw [if_neg ew]
      exact key _ (by rw [if_neg ew])
end PT
