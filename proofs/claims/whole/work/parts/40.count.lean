/-! ===== count ===== -/
def cnP (a : Int32) (f : Nat → Bool) : Nat → Int32
  | 0 => a
  | n + 1 => if f n = true then cnP a f n + 1 else cnP a f n
section CN
variable {sc : Nat × (Nat → Int32)} {d : Nat} {Q : PRes → Prop} {h : PH} {k s : Nat} {w : Int32}
theorem cnP_t {a : Int32} {f : Nat → Bool} {i : Nat} (e : f i = true) : cnP a f (i + 1) = cnP a f i + 1 := if_pos e
theorem cnP_f {a : Int32} {f : Nat → Bool} {i : Nat} (e : ¬ f i = true) : cnP a f (i + 1) = cnP a f i := if_neg e
theorem cnP_none {a : Int32} {f : Nat → Bool} : ∀ (n : Nat), (∀ j, j < n → ¬ f j = true) → cnP a f n = a
  | 0, _ => rfl
  | n + 1, hh => (cnP_f (hh n (by omega))).trans (cnP_none n (fun j hj => hh j (by omega)))
theorem c_cT_loop {K b N : Nat} {f : Nat → Bool} (oK : okp h K 14 = true) (hK : ∀ j, j < N → hR h K j = some (b + 2 * j) ∧ okp h (b + 2 * j) 5 = true) (hL : LN K = N) (hN : N < 2 ^ 31) (hf : ∀ j, j < N → (f j = true) = ¬ hI h (b + 2 * j) 1 < 0) : ∀ (n i : Nat), i + n = N → Tr sc (d + 1) 153 (4, [some (.ref K), some (.int (cnP 0 f i)), some (.int (nI i))], [], h) Q = Q (some (.int (cnP 0 f N)), h) := by
  intro n
  induction n with
  | zero =>
    intro i hi
    have e : i = N := by omega
    subst e
    rw [x_153_4]
    simp only [x_153_0, x_153_1, x_153_2, x_153_3, x_153_5, x_153_7, x_153_10, x_153_11, x_153_12, x_153_13, x_153_16, x_153_19, x_153_22, x_153_25, x_153_28, x_153_29, x_153_6 (okp_lt oK), oK, Bool.true_or, Bool.or_true, true_and, hL]
    rw [if_pos (show Int32.ofNat i ≤ nI i from Int32.le_refl _)]
  | succ n ih =>
    intro i hi
    have hlt : i < N := by omega
    obtain ⟨k1, k2⟩ := hK i hlt
    have hfi := hf i hlt
    rw [x_153_4]
    simp only [x_153_0, x_153_1, x_153_2, x_153_3, x_153_5, x_153_7, x_153_10, x_153_11, x_153_12, x_153_13, x_153_16, x_153_19, x_153_22, x_153_25, x_153_28, x_153_29, x_153_6 (okp_lt oK), oK, Bool.true_or, Bool.or_true, Bool.true_and, true_and, hL, k1, k2, inb_nI hlt hN, nI_clamp (Nat.lt_trans hlt hN), Option.some.injEq, exists_eq_left', c_isMiss k2, tl_s, nI_1, cl2_i, cl2_r, bI_0]
    rw [if_neg (show ¬ Int32.ofNat N ≤ nI i from nI_ge hlt hN)]
    by_cases e : hI h (b + 2 * i) 1 < 0
    · rw [if_neg (fun q => q e), ← cnP_f (a := 0) (f := f) (i := i) (by rw [hfi]; exact fun q => q e)]
      exact ih (i + 1) (by omega)
    · rw [if_pos e, ← cnP_t (a := 0) (f := f) (i := i) (by rw [hfi]; exact e)]
      exact ih (i + 1) (by omega)
theorem c_cT {K b N : Nat} {f : Nat → Bool} (oK : okp h K 14 = true) (hK : ∀ j, j < N → hR h K j = some (b + 2 * j) ∧ okp h (b + 2 * j) 5 = true) (hL : LN K = N) (hN : N < 2 ^ 31) (hf : ∀ j, j < N → (f j = true) = ¬ hI h (b + 2 * j) 1 < 0) : Tr sc (d + 1) 153 (ent0 153 [.ref K] h) Q = Q (some (.int (cnP 0 f N)), h) := by
  rw [e_153]
  simp only [x_153_0, x_153_1, x_153_2, x_153_3, cl2_r, cl2_n, cl2_i]
  exact c_cT_loop oK hK hL hN hf N 0 (by omega)
theorem c_isStr (ho : okp h k 6 = true) : Tr sc d 49 (ent0 49 [.ref k] h) Q = Q (some (.int (bI (hI h k 6 = 1 ∨ hI h k 6 = 2))), h) := by
  rw [e_49]
  simp only [x_49_0, x_49_1, x_49_4, x_49_5, x_49_8, x_49_9, x_49_12, x_49_13, x_49_16, x_49_17, x_49_20, x_49_21, ho, true_and]
  by_cases e1 : hI h k 6 = 1
  · rw [if_pos e1, bI_t (Or.inl e1)]
    simp only [vp_b1, true_and]
  · rw [if_neg e1]
    by_cases e2 : hI h k 6 = 2
    · rw [if_pos e2, bI_t (Or.inr e2)]
      simp only [vp_b1, true_and]
    · rw [if_neg e2, bI_f (fun q => q.elim e1 e2)]
      simp only [vp_b0, true_and]
theorem m_isStr (hw : WF h) (hs : s < 8) : Tr sc d 194 (ent0 194 [.ref 124, .int (nI s)] h) Q = Q (some (.int (bI (hI h 132 s = 1 ∨ hI h 132 s = 2))), h) := by
  rw [e_194]
  simp only [x_194_0, x_194_1, x_194_4, x_194_5, x_194_6, x_194_7, x_194_10, x_194_11, x_194_14, x_194_15, x_194_16, x_194_17, x_194_20, x_194_21, x_194_24, x_194_25, o_124 hw, w_124_16 hw, iOk_ok (o_132 hw), iRd_ok (o_132 hw), inb_nI (n := LN 132) hs (by decide), nI_clamp (n := s) (by omega), true_and, Option.some.injEq, exists_eq_left']
  by_cases e1 : hI h 132 s = 1
  · rw [if_pos e1, bI_t (Or.inl e1)]
    simp only [vp_b1, true_and]
  · rw [if_neg e1]
    by_cases e2 : hI h 132 s = 2
    · rw [if_pos e2, bI_t (Or.inr e2)]
      simp only [vp_b1, true_and]
    · rw [if_neg e2, bI_f (fun q => q.elim e1 e2)]
      simp only [vp_b0, true_and]
theorem c_cnt_loop {f : Nat → Bool} (hw : WF h) (hf : ∀ j, j < 8 → (f j = true) = if w = 2 then ¬ hI h (68 + 7 * j) 6 = -1 else (hI h (68 + 7 * j) 6 = 1 ∨ hI h (68 + 7 * j) 6 = 2)) : ∀ (n i : Nat), i + n = 8 → Tr sc (d + 1) 137 (40, [some (.ref 0), some (.int w), some (.int (cnP 0 f i)), some (.int (nI i))], [], h) Q = Q (some (.int (cnP 0 f 8)), h) := by
  intro n
  induction n with
  | zero =>
    intro i hi
    have e : i = 8 := by omega
    subst e
    rw [x_137_40]
    simp only [x_137_0, x_137_1, x_137_4, x_137_5, x_137_6, x_137_9, x_137_10, x_137_11, x_137_12, x_137_15, x_137_16, x_137_19, x_137_22, x_137_23, x_137_24, x_137_25, x_137_28, x_137_29, x_137_32, x_137_35, x_137_36, x_137_37, x_137_38, x_137_39, x_137_41, x_137_43, x_137_46, x_137_47, x_137_48, x_137_51, x_137_52, x_137_55, x_137_56, x_137_57, x_137_60, x_137_63, x_137_66, x_137_67, x_137_70, x_137_71, x_137_72, x_137_75, x_137_78, x_137_81, x_137_84, x_137_87, x_137_88]
    rw [if_pos (show (8 : Int32) ≤ nI 8 from Int32.le_refl _)]
  | succ n ih =>
    intro i hi
    have hlt : i < 8 := by omega
    obtain ⟨k1, k2, -⟩ := hw.shape hlt
    have hfi := hf i hlt
    rw [x_137_40]
    simp only [x_137_0, x_137_1, x_137_4, x_137_5, x_137_6, x_137_9, x_137_10, x_137_11, x_137_12, x_137_15, x_137_16, x_137_19, x_137_22, x_137_23, x_137_24, x_137_25, x_137_28, x_137_29, x_137_32, x_137_35, x_137_36, x_137_37, x_137_38, x_137_39, x_137_41, x_137_43, x_137_46, x_137_47, x_137_48, x_137_51, x_137_52, x_137_55, x_137_56, x_137_57, x_137_60, x_137_63, x_137_66, x_137_67, x_137_70, x_137_71, x_137_72, x_137_75, x_137_78, x_137_81, x_137_84, x_137_87, x_137_88, o_0 hw, w_0_2 hw, o_3 hw, Bool.or_true, Bool.true_and, Bool.and_self, true_and, k1, k2, inb_nI (n := LN 3) hlt (by decide), nI_clamp (n := i) (by omega), Option.some.injEq, exists_eq_left', c_sMiss k2, c_isStr k2, tl_s, nI_1, cl2_i, cl2_r, bI_0]
    rw [if_neg (show ¬ (8 : Int32) ≤ nI i from nI_ge hlt (by decide))]
    by_cases e : w = 2
    · rw [if_pos e] at hfi
      rw [if_pos e]
      by_cases e2 : hI h (68 + 7 * i) 6 = -1
      · rw [if_neg (fun q => q e2), ← cnP_f (a := 0) (f := f) (i := i) (by rw [hfi]; exact fun q => q e2)]
        exact ih (i + 1) (by omega)
      · rw [if_pos e2, ← cnP_t (a := 0) (f := f) (i := i) (by rw [hfi]; exact e2)]
        exact ih (i + 1) (by omega)
    · rw [if_neg e] at hfi
      rw [if_neg e]
      by_cases e2 : hI h (68 + 7 * i) 6 = 1 ∨ hI h (68 + 7 * i) 6 = 2
      · rw [if_neg (fun q => q e2), ← cnP_t (a := 0) (f := f) (i := i) (by rw [hfi]; exact e2)]
        exact ih (i + 1) (by omega)
      · rw [if_pos e2, ← cnP_f (a := 0) (f := f) (i := i) (by rw [hfi]; exact e2)]
        exact ih (i + 1) (by omega)
theorem m_cnt_1 {a : Int32} {f : Nat → Bool} (hw : WF h) (hf : ∀ j, j < 6 → (f j = true) = (w = 0 ∧ ¬ hI h 126 j < 0)) : ∀ (n i : Nat), i + n = 6 → Tr sc (d + 1) 246 (4, [some (.ref 124), some (.int w), some (.int (cnP a f i)), some (.int (nI i))], [], h) Q = Tr sc (d + 1) 246 (37, [some (.ref 124), some (.int w), some (.int (cnP a f 6)), some (.int (nI 6))], [], h) Q := by
  intro n
  induction n with
  | zero =>
    intro i hi
    have e : i = 6 := by omega
    subst e
    rw [x_246_4]
    simp only [x_246_5, x_246_7, x_246_10, x_246_11, x_246_12, x_246_15, x_246_16, x_246_19, x_246_20, x_246_21, x_246_24, x_246_25, x_246_28, x_246_29, x_246_30, x_246_31, x_246_34]
    rw [if_pos (show (6 : Int32) ≤ nI 6 from Int32.le_refl _)]
  | succ n ih =>
    intro i hi
    have hlt : i < 6 := by omega
    have hfi := hf i hlt
    rw [x_246_4]
    simp only [x_246_5, x_246_7, x_246_10, x_246_11, x_246_12, x_246_15, x_246_16, x_246_19, x_246_20, x_246_21, x_246_24, x_246_25, x_246_28, x_246_29, x_246_30, x_246_31, x_246_34, o_124 hw, w_124_6 hw, iOk_ok (o_126 hw), iRd_ok (o_126 hw), true_and, inb_nI (n := LN 126) hlt (by decide), nI_clamp (n := i) (by omega), Option.some.injEq, exists_eq_left', nI_1, cl2_i, cl2_r, Int32.add_zero]
    rw [if_neg (show ¬ (6 : Int32) ≤ nI i from nI_ge hlt (by decide))]
    by_cases e : w = 0
    · rw [if_pos e]
      by_cases e2 : hI h 126 i < 0
      · rw [if_pos e2, ← cnP_f (a := a) (f := f) (i := i) (by rw [hfi]; exact fun q => q.2 e2)]
        exact ih (i + 1) (by omega)
      · rw [if_neg e2, ← cnP_t (a := a) (f := f) (i := i) (by rw [hfi]; exact ⟨e, e2⟩)]
        exact ih (i + 1) (by omega)
    · rw [if_neg e, ← cnP_f (a := a) (f := f) (i := i) (by rw [hfi]; exact fun q => e q.1)]
      exact ih (i + 1) (by omega)
theorem m_cnt_2 {a : Int32} {f : Nat → Bool} (hw : WF h) (hf : ∀ j, j < 4 → (f j = true) = (w = 1 ∧ ¬ hI h 129 j < 0)) : ∀ (n i : Nat), i + n = 4 → Tr sc (d + 1) 246 (39, [some (.ref 124), some (.int w), some (.int (cnP a f i)), some (.int (nI i))], [], h) Q = Tr sc (d + 1) 246 (72, [some (.ref 124), some (.int w), some (.int (cnP a f 4)), some (.int (nI 4))], [], h) Q := by
  intro n
  induction n with
  | zero =>
    intro i hi
    have e : i = 4 := by omega
    subst e
    rw [x_246_39]
    simp only [x_246_40, x_246_41, x_246_44, x_246_45, x_246_46, x_246_47, x_246_50, x_246_51, x_246_54, x_246_55, x_246_56, x_246_59, x_246_60, x_246_63, x_246_64, x_246_65, x_246_66, x_246_69]
    rw [if_pos (show (4 : Int32) ≤ nI 4 from Int32.le_refl _)]
  | succ n ih =>
    intro i hi
    have hlt : i < 4 := by omega
    have hfi := hf i hlt
    rw [x_246_39]
    simp only [x_246_40, x_246_41, x_246_44, x_246_45, x_246_46, x_246_47, x_246_50, x_246_51, x_246_54, x_246_55, x_246_56, x_246_59, x_246_60, x_246_63, x_246_64, x_246_65, x_246_66, x_246_69, o_124 hw, w_124_9 hw, iOk_ok (o_129 hw), iRd_ok (o_129 hw), true_and, inb_nI (n := LN 129) hlt (by decide), nI_clamp (n := i) (by omega), Option.some.injEq, exists_eq_left', nI_1, cl2_i, cl2_r, Int32.add_zero]
    rw [if_neg (show ¬ (4 : Int32) ≤ nI i from nI_ge hlt (by decide))]
    by_cases e : w = 1
    · rw [if_pos e]
      by_cases e2 : hI h 129 i < 0
      · rw [if_pos e2, ← cnP_f (a := a) (f := f) (i := i) (by rw [hfi]; exact fun q => q.2 e2)]
        exact ih (i + 1) (by omega)
      · rw [if_neg e2, ← cnP_t (a := a) (f := f) (i := i) (by rw [hfi]; exact ⟨e, e2⟩)]
        exact ih (i + 1) (by omega)
    · rw [if_neg e, ← cnP_f (a := a) (f := f) (i := i) (by rw [hfi]; exact fun q => e q.1)]
      exact ih (i + 1) (by omega)
theorem m_cnt_3 {a : Int32} {f : Nat → Bool} (hw : WF h) (hf : ∀ j, j < 8 → (f j = true) = (¬ hI h 134 j ≤ 0 ∧ (w = 2 ∨ w = 3 ∧ (hI h 132 j = 1 ∨ hI h 132 j = 2)))) : ∀ (n i : Nat), i + n = 8 → Tr sc (d + 1) 246 (74, [some (.ref 124), some (.int w), some (.int (cnP a f i)), some (.int (nI i))], [], h) Q = Tr sc (d + 1) 246 (121, [some (.ref 124), some (.int w), some (.int (cnP a f 8)), some (.int (nI 8))], [], h) Q := by
  intro n
  induction n with
  | zero =>
    intro i hi
    have e : i = 8 := by omega
    subst e
    rw [x_246_74]
    simp only [x_246_75, x_246_77, x_246_80, x_246_81, x_246_82, x_246_85, x_246_86, x_246_87, x_246_90, x_246_91, x_246_92, x_246_95, x_246_96, x_246_97, x_246_100, x_246_101, x_246_102, x_246_105, x_246_108, x_246_109, x_246_112, x_246_113, x_246_114, x_246_115, x_246_118]
    rw [if_pos (show (8 : Int32) ≤ nI 8 from Int32.le_refl _)]
  | succ n ih =>
    intro i hi
    have hlt : i < 8 := by omega
    have hfi := hf i hlt
    rw [x_246_74]
    simp only [x_246_75, x_246_77, x_246_80, x_246_81, x_246_82, x_246_85, x_246_86, x_246_87, x_246_90, x_246_91, x_246_92, x_246_95, x_246_96, x_246_97, x_246_100, x_246_101, x_246_102, x_246_105, x_246_108, x_246_109, x_246_112, x_246_113, x_246_114, x_246_115, x_246_118, o_124 hw, w_124_18 hw, iOk_ok (o_134 hw), iRd_ok (o_134 hw), true_and, inb_nI (n := LN 134) hlt (by decide), nI_clamp (n := i) (by omega), Option.some.injEq, exists_eq_left', nI_1, cl2_i, cl2_r, Int32.add_zero, m_isStr hw hlt, tl_s, bI_0]
    rw [if_neg (show ¬ (8 : Int32) ≤ nI i from nI_ge hlt (by decide))]
    by_cases e : hI h 134 i ≤ 0
    · rw [if_pos e, ← cnP_f (a := a) (f := f) (i := i) (by rw [hfi]; exact fun q => q.1 e)]
      exact ih (i + 1) (by omega)
    · rw [if_neg e]
      by_cases e2 : w = 2
      · rw [if_pos e2, ← cnP_t (a := a) (f := f) (i := i) (by rw [hfi]; exact ⟨e, Or.inl e2⟩)]
        exact ih (i + 1) (by omega)
      · rw [if_neg e2]
        by_cases e3 : w = 3
        · rw [if_pos e3]
          by_cases e4 : hI h 132 i = 1 ∨ hI h 132 i = 2
          · rw [if_neg (fun q => q e4), ← cnP_t (a := a) (f := f) (i := i) (by rw [hfi]; exact ⟨e, Or.inr ⟨e3, e4⟩⟩)]
            exact ih (i + 1) (by omega)
          · rw [if_pos e4, ← cnP_f (a := a) (f := f) (i := i) (by rw [hfi]; exact fun q => q.2.elim e2 (fun z => e4 z.2))]
            exact ih (i + 1) (by omega)
        · rw [if_neg e3, ← cnP_f (a := a) (f := f) (i := i) (by rw [hfi]; exact fun q => q.2.elim e2 (fun z => e3 z.1))]
          exact ih (i + 1) (by omega)
/-- what the model counts -/
def mcn (h : PH) (w : Int32) : Int32 := cnP (cnP (cnP 0 (fun j => decide (w = 0 ∧ ¬ hI h 126 j < 0)) 6) (fun j => decide (w = 1 ∧ ¬ hI h 129 j < 0)) 4) (fun j => decide (¬ hI h 134 j ≤ 0 ∧ (w = 2 ∨ w = 3 ∧ (hI h 132 j = 1 ∨ hI h 132 j = 2)))) 8
theorem m_count (hw : WF h) : Tr sc (d + 1) 246 (ent0 246 [.ref 124, .int w] h) Q = Q (some (.int (if 0 ≤ w ∧ w ≤ 3 then mcn h w else -1)), h) := by
  rw [e_246]
  simp only [x_246_0, x_246_1, x_246_2, x_246_3, cl2_i, cl2_n, cl2_r]
  refine (m_cnt_1 (a := 0) (f := fun j => decide (w = 0 ∧ ¬ hI h 126 j < 0)) hw (fun j _ => decide_eq_true_eq) 6 0 rfl).trans ?_
  simp only [x_246_37, x_246_38, cl2_i, cl2_n, cl2_r]
  refine (m_cnt_2 (f := fun j => decide (w = 1 ∧ ¬ hI h 129 j < 0)) hw (fun j _ => decide_eq_true_eq) 4 0 rfl).trans ?_
  simp only [x_246_72, x_246_73, cl2_i, cl2_n, cl2_r]
  refine (m_cnt_3 (f := fun j => decide (¬ hI h 134 j ≤ 0 ∧ (w = 2 ∨ w = 3 ∧ (hI h 132 j = 1 ∨ hI h 132 j = 2)))) hw (fun j _ => decide_eq_true_eq) 8 0 rfl).trans ?_
  simp only [x_246_121, x_246_122, x_246_123, x_246_124, x_246_127, x_246_130, x_246_131, x_246_134, x_246_135, m_in, tl_s, bI_0]
  by_cases e : 0 ≤ w ∧ w ≤ 3
  · rw [if_neg (fun q => q e), if_pos e]
    rfl
  · rw [if_pos e, if_neg e]
theorem cnP_congr {a b : Int32} {f g : Nat → Bool} (hab : a = b) : ∀ (n : Nat), (∀ j, j < n → (f j = true) = (g j = true)) → cnP a f n = cnP b g n
  | 0, _ => hab
  | n + 1, hh => by
    have h1 := cnP_congr hab n (fun j hj => hh j (by omega))
    have h2 := hh n (by omega)
    by_cases e : f n = true
    · rw [cnP_t e, cnP_t (by rw [← h2]; exact e), h1]
    · rw [cnP_f e, cnP_f (by rw [← h2]; exact e), h1]
theorem mcn_0 (z : w = 0) : mcn h w = cnP 0 (fun j => decide (w = 0 ∧ ¬ hI h 126 j < 0)) 6 := by
  unfold mcn
  exact (cnP_none 8 (fun j _ => by simp [z])).trans (cnP_none 4 (fun j _ => by simp [z]))
theorem mcn_1 (z : w = 1) : mcn h w = cnP 0 (fun j => decide (w = 1 ∧ ¬ hI h 129 j < 0)) 4 := by
  unfold mcn
  exact (cnP_none 8 (fun j _ => by simp [z])).trans (cnP_congr (cnP_none 6 (fun j _ => by simp [z])) 4 (fun _ _ => rfl))
theorem i_le0n {a : Int32} (h : 1 ≤ a) : ¬ a ≤ 0 := fun q => absurd (Int32.le_trans h q) (by decide)
theorem both_count (hc : CM h) : Both sc 137 246 [.int w] h := by
  unfold Both
  obtain ⟨hw, hf, hr, ht, hs⟩ := id hc
  have fin : ∀ a : Int32, a = (if 0 ≤ w ∧ w ≤ 3 then mcn h w else -1) → Tr sc 19 246 (ent0 246 [.ref 124, .int w] h) (fun r2 => r2.1 = some (Value.int a) ∧ CM r2.2) := by
    intro a ha
    rw [m_count hw]
    exact ⟨by rw [ha], hc⟩
  have fin2 : ∀ a : Int32, a = (if 0 ≤ w ∧ w ≤ 3 then mcn h w else -1) → Tr sc 19 246 (ent0 246 [.ref 124, .int w] h) (fun r2 => (∃ v, some (Value.int a) = some v ∧ r2.1 = some v) ∧ CM r2.2) := by
    intro a ha
    rw [m_count hw]
    exact ⟨⟨_, rfl, by rw [ha]⟩, hc⟩
  rw [e_137]
  simp only [x_137_0, x_137_1, x_137_4, x_137_5, x_137_6, x_137_9, x_137_10, x_137_11, x_137_12, x_137_15, x_137_16, x_137_19, x_137_22, x_137_23, x_137_24, x_137_25, x_137_28, x_137_29, x_137_32, x_137_35, x_137_36, x_137_37, x_137_38, x_137_39, x_137_41, x_137_43, x_137_46, x_137_47, x_137_48, x_137_51, x_137_52, x_137_55, x_137_56, x_137_57, x_137_60, x_137_63, x_137_66, x_137_67, x_137_70, x_137_71, x_137_72, x_137_75, x_137_78, x_137_81, x_137_84, x_137_87, x_137_88, o_0 hw, w_0_0 hw, w_0_1 hw, true_and, Option.some.injEq, exists_eq_left', cl2_i, cl2_n, cl2_r]
  by_cases e1 : w < 0
  · rw [if_pos e1]
    exact fin _ (by rw [if_neg (fun q => Int32.not_le.mpr e1 q.1)])
  · rw [if_neg e1]
    by_cases e2 : w ≤ 3
    · rw [if_pos e2]
      have hin : 0 ≤ w ∧ w ≤ 3 := ⟨Int32.not_lt.mp e1, e2⟩
      by_cases z0 : w = 0
      · rw [if_pos z0, c_cT (b := 48) (N := 6) (f := fun j => decide (¬ hI h (48 + 2 * j) 1 < 0)) (o_1 hw) (fun j hj => ⟨(hw.row hj).1, (hw.row hj).2.2.1⟩) rfl (by decide) (fun j _ => decide_eq_true_eq)]
        simp only [x_137_0, x_137_1, x_137_4, x_137_5, x_137_6, x_137_9, x_137_10, x_137_11, x_137_12, x_137_15, x_137_16, x_137_19, x_137_22, x_137_23, x_137_24, x_137_25, x_137_28, x_137_29, x_137_32, x_137_35, x_137_36, x_137_37, x_137_38, x_137_39, x_137_41, x_137_43, x_137_46, x_137_47, x_137_48, x_137_51, x_137_52, x_137_55, x_137_56, x_137_57, x_137_60, x_137_63, x_137_66, x_137_67, x_137_70, x_137_71, x_137_72, x_137_75, x_137_78, x_137_81, x_137_84, x_137_87, x_137_88, tl_s]
        refine fin2 _ ?_
        rw [if_pos hin]
        rw [mcn_0 z0]
        refine cnP_congr rfl 6 (fun j hj => ?_)
        simp only [decide_eq_true_eq, z0, true_and, sz_neg hr hj, Int32.not_le, Int32.not_lt]
      · rw [if_neg z0]
        by_cases z1 : w = 1
        · rw [if_pos z1, c_cT (b := 60) (N := 4) (f := fun j => decide (¬ hI h (60 + 2 * j) 1 < 0)) (o_2 hw) (fun j hj => ⟨(hw.text hj).1, (hw.text hj).2.2.1⟩) rfl (by decide) (fun j _ => decide_eq_true_eq)]
          simp only [x_137_0, x_137_1, x_137_4, x_137_5, x_137_6, x_137_9, x_137_10, x_137_11, x_137_12, x_137_15, x_137_16, x_137_19, x_137_22, x_137_23, x_137_24, x_137_25, x_137_28, x_137_29, x_137_32, x_137_35, x_137_36, x_137_37, x_137_38, x_137_39, x_137_41, x_137_43, x_137_46, x_137_47, x_137_48, x_137_51, x_137_52, x_137_55, x_137_56, x_137_57, x_137_60, x_137_63, x_137_66, x_137_67, x_137_70, x_137_71, x_137_72, x_137_75, x_137_78, x_137_81, x_137_84, x_137_87, x_137_88, tl_s]
          refine fin2 _ ?_
          rw [if_pos hin]
          rw [mcn_1 z1]
          refine cnP_congr rfl 4 (fun j hj => ?_)
          simp only [decide_eq_true_eq, z1, true_and, tz_neg ht hj, Int32.not_le, Int32.not_lt]
        · rw [if_neg z1]
          refine (c_cnt_loop (f := fun j => decide (if w = 2 then ¬ hI h (68 + 7 * j) 6 = -1 else (hI h (68 + 7 * j) 6 = 1 ∨ hI h (68 + 7 * j) 6 = 2))) hw (fun j _ => decide_eq_true_eq) 8 0 rfl).mpr ?_
          refine fin2 _ ?_
          rw [if_pos hin]
          unfold mcn
          refine cnP_congr ?_ 8 (fun j hj => ?_)
          · exact ((cnP_none 4 (fun j _ => by simp [z1])).trans (cnP_none 6 (fun j _ => by simp [z0]))).symm
          · rw [decide_eq_true_eq, decide_eq_true_eq]
            rcases hs j hj with ⟨a, b⟩ | ⟨a, b, e, g, -⟩
            · rw [a, b]
              by_cases z2 : w = 2
              · simp [z2]
              · rw [if_neg z2]
                simp
            · rw [b, g]
              have g1 : ¬ hI h (68 + 7 * j) 8 ≤ 0 := i_le0n a.2.2.1.1
              by_cases z2 : w = 2
              · rw [if_pos z2]
                apply propext
                refine ⟨fun _ => ⟨g1, Or.inl z2⟩, fun _ q => ?_⟩
                have := a.1.1
                rw [q] at this
                exact absurd this (by decide)
              · rw [if_neg z2]
                apply propext
                have z3 : w = 3 := by
                  apply Int32.toInt_inj.mp
                  have h1 := Int32.le_iff_toInt_le.mp hin.1
                  have h2 := Int32.le_iff_toInt_le.mp hin.2
                  have n0 : ¬ w.toInt = 0 := fun q => z0 (Int32.toInt_inj.mp q)
                  have n1 : ¬ w.toInt = 1 := fun q => z1 (Int32.toInt_inj.mp q)
                  have n2 : ¬ w.toInt = 2 := fun q => z2 (Int32.toInt_inj.mp q)
                  have c0 : (0 : Int32).toInt = 0 := rfl
                  have c3 : (3 : Int32).toInt = 3 := rfl
                  omega
                exact ⟨fun q => ⟨g1, Or.inr ⟨z3, q⟩⟩, fun q => q.2.elim (fun y => absurd y z2) (fun y => y.2)⟩
    · rw [if_neg e2]
      exact fin _ (by rw [if_neg (fun q => e2 q.2)])
end CN
