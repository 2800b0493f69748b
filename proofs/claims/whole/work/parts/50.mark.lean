/-! ===== the model's reach; mark ===== -/
section MK
variable {sc : Nat × (Nat → Int32)} {d : Nat} {Q : PRes → Prop} {h : PH} {k s u r q : Nat} {x : Int32} {w : Int32}
theorem m_re_in {i M : Nat} {a : Int32} (hw : WF h) (hs : s < 8) (hi : i < M) (hz : hI h 134 s = nI M) (hM : M ≤ 6) : ∀ (n j : Nat) (l5 l6 : Option Value), cl2 l5 = l5 → j + n = M → ∃ l5' l6', cl2 l5' = l5' ∧ Tr sc d 210 (17, [some (.ref 124), some (.int (nI s)), some (.int (itI (fun j v => stR (fun j => hI h 136 (6 * s + j)) (fun j => hI h 137 (6 * s + j)) i j v) a j)), some (.int (nI i)), some (.int (nI j)), l5, l6], [], h) Q = Tr sc d 210 (112, [some (.ref 124), some (.int (nI s)), some (.int (itI (fun j v => stR (fun j => hI h 136 (6 * s + j)) (fun j => hI h 137 (6 * s + j)) i j v) a M)), some (.int (nI i)), some (.int (nI M)), l5', l6'], [], h) Q := by
  intro n
  induction n with
  | zero =>
    intro j l5 l6 hl hj
    have e : j = M := by omega
    subst e
    refine ⟨l5, l6, hl, ?_⟩
    rw [x_210_17]
    simp only [x_210_19, x_210_20, x_210_23, x_210_24, x_210_25, x_210_28, x_210_29, x_210_32, x_210_34, x_210_35, x_210_36, x_210_38, x_210_39, x_210_40, x_210_41, x_210_44, x_210_46, x_210_47, x_210_48, x_210_49, x_210_50, x_210_51, x_210_52, x_210_54, x_210_55, x_210_58, x_210_60, x_210_61, x_210_62, x_210_64, x_210_65, x_210_66, x_210_67, x_210_70, x_210_72, x_210_73, x_210_74, x_210_75, x_210_76, x_210_77, x_210_78, x_210_80, x_210_82, x_210_83, x_210_86, x_210_88, x_210_91, x_210_92, x_210_93, x_210_95, x_210_96, x_210_99, x_210_101, x_210_104, x_210_105, x_210_106, x_210_109, o_124 hw, w_124_18 hw, iOk_ok (o_134 hw), iRd_ok (o_134 hw), inb_nI (n := LN 134) hs (by decide), nI_clamp (n := s) (by omega), true_and, hz, Option.some.injEq, exists_eq_left']
    rw [if_pos (Int32.le_refl _)]
  | succ n ih =>
    intro j l5 l6 hl hj
    have hlt : j < M := by omega
    have gi : 6 * s + i < 48 := by omega
    have gj : 6 * s + j < 48 := by omega
    obtain ⟨l5', l6', hl', st⟩ := ih (j + 1) (some (.int (hI h 136 (6 * s + j) - hI h 136 (6 * s + i)))) (some (.int (hI h 137 (6 * s + j) - hI h 137 (6 * s + i)))) rfl (by omega)
    refine ⟨l5', l6', hl', ?_⟩
    have ex : itI (fun j v => stR (fun j => hI h 136 (6 * s + j)) (fun j => hI h 137 (6 * s + j)) i j v) a (j + 1) = stR (fun j => hI h 136 (6 * s + j)) (fun j => hI h 137 (6 * s + j)) i j (itI (fun j v => stR (fun j => hI h 136 (6 * s + j)) (fun j => hI h 137 (6 * s + j)) i j v) a j) := rfl
    rw [ex] at st
    generalize itI (fun j v => stR (fun j => hI h 136 (6 * s + j)) (fun j => hI h 137 (6 * s + j)) i j v) a j = v0 at st ⊢
    rw [x_210_17]
    simp only [x_210_19, x_210_20, x_210_23, x_210_24, x_210_25, x_210_28, x_210_29, x_210_32, x_210_34, x_210_35, x_210_36, x_210_38, x_210_39, x_210_40, x_210_41, x_210_44, x_210_46, x_210_47, x_210_48, x_210_49, x_210_50, x_210_51, x_210_52, x_210_54, x_210_55, x_210_58, x_210_60, x_210_61, x_210_62, x_210_64, x_210_65, x_210_66, x_210_67, x_210_70, x_210_72, x_210_73, x_210_74, x_210_75, x_210_76, x_210_77, x_210_78, x_210_80, x_210_82, x_210_83, x_210_86, x_210_88, x_210_91, x_210_92, x_210_93, x_210_95, x_210_96, x_210_99, x_210_101, x_210_104, x_210_105, x_210_106, x_210_109, o_124 hw, w_124_18 hw, w_124_20 hw, w_124_21 hw, iOk_ok (o_134 hw), iRd_ok (o_134 hw), iOk_ok (o_136 hw), iRd_ok (o_136 hw), iOk_ok (o_137 hw), iRd_ok (o_137 hw), inb_nI (n := LN 134) hs (by decide), inb_nI (n := LN 136) gi (by decide), inb_nI (n := LN 137) gi (by decide), inb_nI (n := LN 136) gj (by decide), inb_nI (n := LN 137) gj (by decide), nI_clamp (n := s) (by omega), nI_clamp (n := 6 * s + i) (by omega), nI_clamp (n := 6 * s + j) (by omega), mv_ix hs (show i < 6 by omega), mv_ix hs (show j < 6 by omega), true_and, hz, Option.some.injEq, exists_eq_left', nI_1, cl2_i, cl2_r, cl2_n, hl]
    rw [if_neg (nI_ge hlt (by omega))]
    unfold stR at st
    simp only at st
    by_cases z : hI h 136 (6 * s + j) - hI h 136 (6 * s + i) ≤ v0
    · rw [if_pos z]
      rw [if_pos z] at st
      by_cases z2 : hI h 137 (6 * s + j) - hI h 137 (6 * s + i) ≤ v0
      · rw [if_pos z2]
        rw [if_pos z2] at st
        exact st
      · rw [if_neg z2]
        rw [if_neg z2] at st
        exact st
    · rw [if_neg z]
      rw [if_neg z] at st
      by_cases z2 : hI h 137 (6 * s + j) - hI h 137 (6 * s + i) ≤ hI h 136 (6 * s + j) - hI h 136 (6 * s + i)
      · rw [if_pos z2]
        rw [if_pos z2] at st
        exact st
      · rw [if_neg z2]
        rw [if_neg z2] at st
        exact st
theorem m_re_loop {M : Nat} (hw : WF h) (hs : s < 8) (hz : hI h 134 s = nI M) (hM : M ≤ 6) (hb : ¬ hI h 133 s - 1 = 0) : ∀ (n i : Nat) (l4 l5 l6 : Option Value), cl2 l5 = l5 → i + n = M → Tr sc d 210 (4, [some (.ref 124), some (.int (nI s)), some (.int (itI (fun i a => itI (fun j v => stR (fun j => hI h 136 (6 * s + j)) (fun j => hI h 137 (6 * s + j)) i j v) a M) 0 i)), some (.int (nI i)), l4, l5, l6], [], h) Q = Q (some (.int (moR (fun j => hI h 136 (6 * s + j)) (fun j => hI h 137 (6 * s + j)) M / (hI h 133 s - 1))), h) := by
  intro n
  induction n with
  | zero =>
    intro i l4 l5 l6 hl hi
    have e : i = M := by omega
    subst e
    rw [x_210_4]
    simp only [x_210_5, x_210_6, x_210_9, x_210_10, x_210_11, x_210_14, x_210_15, x_210_118, x_210_119, x_210_120, x_210_123, x_210_124, x_210_125, x_210_126, x_210_127, x_210_128, o_124 hw, w_124_17 hw, w_124_18 hw, iOk_ok (o_133 hw), iRd_ok (o_133 hw), iOk_ok (o_134 hw), iRd_ok (o_134 hw), inb_nI (n := LN 133) hs (by decide), inb_nI (n := LN 134) hs (by decide), nI_clamp (n := s) (by omega), true_and, hz, hb, not_false_eq_true, Option.some.injEq, exists_eq_left']
    rw [if_pos (Int32.le_refl _)]
    rfl
  | succ n ih =>
    intro i l4 l5 l6 hl hi
    have hlt : i < M := by omega
    rw [x_210_4]
    simp only [x_210_5, x_210_6, x_210_9, x_210_10, x_210_11, x_210_14, x_210_15, o_124 hw, w_124_18 hw, iOk_ok (o_134 hw), iRd_ok (o_134 hw), inb_nI (n := LN 134) hs (by decide), nI_clamp (n := s) (by omega), true_and, hz, Option.some.injEq, exists_eq_left', cl2_i, cl2_r, cl2_n]
    rw [if_neg (nI_ge hlt (by omega))]
    obtain ⟨l5', l6', hl', st⟩ := m_re_in (sc := sc) (d := d) (Q := Q) (a := itI (fun i a => itI (fun j v => stR (fun j => hI h 136 (6 * s + j)) (fun j => hI h 137 (6 * s + j)) i j v) a M) 0 i) hw hs hlt hz hM M 0 l5 l6 hl (by omega)
    refine Eq.trans st ?_
    simp only [x_210_112, x_210_115, nI_1, cl2_i, cl2_r, cl2_n]
    exact ih (i + 1) _ _ _ hl' (by omega)
theorem m_reach {M : Nat} (hw : WF h) (hs : s < 8) (hz : hI h 134 s = nI M) (hM : M ≤ 6) (hb : ¬ hI h 133 s - 1 = 0) : Tr sc d 210 (ent0 210 [.ref 124, .int (nI s)] h) Q = Q (some (.int (moR (fun j => hI h 136 (6 * s + j)) (fun j => hI h 137 (6 * s + j)) M / (hI h 133 s - 1))), h) := by
  rw [e_210]
  simp only [x_210_0, x_210_1, x_210_2, x_210_3, cl2_r, cl2_n, cl2_i]
  exact m_re_loop hw hs hz hM hb M 0 _ _ _ rfl (by omega)
end MK
