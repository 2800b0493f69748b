/-! ===== the model's reach; mark ===== -/
section MK
variable {sc : Nat × (Nat → Int32)} {d : Nat} {Q : PRes → Prop} {h : PH} {k s u r q : Nat} {x : Int32} {w : Int32}
theorem m_re_in {i M : Nat} {a : Int32} (hw : WF h) (hs : s < 8) (hi : i < M) (hz : hI h 134 s = nI M) (hM : M ≤ 6) : ∀ (n j : Nat) (l5 l6 : Option Value), cl2 l5 = l5 → j + n = M → ∃ l5' l6', cl2 l5' = l5' ∧ Tr sc d 211 (17, [some (.ref 124), some (.int (nI s)), some (.int (itI (fun j v => stR (fun j => hI h 136 (6 * s + j)) (fun j => hI h 137 (6 * s + j)) i j v) a j)), some (.int (nI i)), some (.int (nI j)), l5, l6], [], h) Q = Tr sc d 211 (112, [some (.ref 124), some (.int (nI s)), some (.int (itI (fun j v => stR (fun j => hI h 136 (6 * s + j)) (fun j => hI h 137 (6 * s + j)) i j v) a M)), some (.int (nI i)), some (.int (nI M)), l5', l6'], [], h) Q := by
  intro n
  induction n with
  | zero =>
    intro j l5 l6 hl hj
    have e : j = M := by omega
    subst e
    refine ⟨l5, l6, hl, ?_⟩
    rw [x_211_17]
    simp only [x_211_19, x_211_20, x_211_23, x_211_24, x_211_25, x_211_28, x_211_29, x_211_32, x_211_34, x_211_35, x_211_36, x_211_38, x_211_39, x_211_40, x_211_41, x_211_44, x_211_46, x_211_47, x_211_48, x_211_49, x_211_50, x_211_51, x_211_52, x_211_54, x_211_55, x_211_58, x_211_60, x_211_61, x_211_62, x_211_64, x_211_65, x_211_66, x_211_67, x_211_70, x_211_72, x_211_73, x_211_74, x_211_75, x_211_76, x_211_77, x_211_78, x_211_80, x_211_82, x_211_83, x_211_86, x_211_88, x_211_91, x_211_92, x_211_93, x_211_95, x_211_96, x_211_99, x_211_101, x_211_104, x_211_105, x_211_106, x_211_109, o_124 hw, w_124_18 hw, iOk_ok (o_134 hw), iRd_ok (o_134 hw), inb_nI (n := LN 134) hs (by decide), nI_clamp (n := s) (by omega), true_and, hz, Option.some.injEq, exists_eq_left']
    rw [if_pos (Int32.le_refl _)]
  | succ n ih =>
    intro j l5 l6 hl hj
    have hlt : j < M := by omega
    have gi : 6 * s + i < 48 := by omega
    have gj : 6 * s + j < 48 := by omega
    obtain ⟨l5', l6', hl', st⟩ := ih (j + 1) (some (.int (hI h 136 (6 * s + j) - hI h 136 (6 * s + i)))) (some (.int (hI h 137 (6 * s + j) - hI h 137 (6 * s + i)))) rfl (by omega)
    refine ⟨l5', l6', hl', ?_⟩
    have ex : itI (fun j v => stR (fun j => hI h 136 (6 * s + j)) (fun j => hI h 137 (6 * s + j)) i j v) a (j + 1) = stR (fun j => hI h 136 (6 * s + j)) (fun j => hI h 137 (6 * s + j)) i j (itI (fun j v => stR (fun j => hI h 136 (6 * s + j)) (fun j => hI h 137 (6 * s + j)) i j v) a j) := rfl
    rw [ex] at st
    generalize itI (fun j v => stR (fun j => hI h 136 (6 * s + j)) (fun j => hI h 137 (6 * s + j)) i j v) a j = v0 at st ⊢
    rw [x_211_17]
    simp only [x_211_19, x_211_20, x_211_23, x_211_24, x_211_25, x_211_28, x_211_29, x_211_32, x_211_34, x_211_35, x_211_36, x_211_38, x_211_39, x_211_40, x_211_41, x_211_44, x_211_46, x_211_47, x_211_48, x_211_49, x_211_50, x_211_51, x_211_52, x_211_54, x_211_55, x_211_58, x_211_60, x_211_61, x_211_62, x_211_64, x_211_65, x_211_66, x_211_67, x_211_70, x_211_72, x_211_73, x_211_74, x_211_75, x_211_76, x_211_77, x_211_78, x_211_80, x_211_82, x_211_83, x_211_86, x_211_88, x_211_91, x_211_92, x_211_93, x_211_95, x_211_96, x_211_99, x_211_101, x_211_104, x_211_105, x_211_106, x_211_109, o_124 hw, w_124_18 hw, w_124_20 hw, w_124_21 hw, iOk_ok (o_134 hw), iRd_ok (o_134 hw), iOk_ok (o_136 hw), iRd_ok (o_136 hw), iOk_ok (o_137 hw), iRd_ok (o_137 hw), inb_nI (n := LN 134) hs (by decide), inb_nI (n := LN 136) gi (by decide), inb_nI (n := LN 137) gi (by decide), inb_nI (n := LN 136) gj (by decide), inb_nI (n := LN 137) gj (by decide), nI_clamp (n := s) (by omega), nI_clamp (n := 6 * s + i) (by omega), nI_clamp (n := 6 * s + j) (by omega), mv_ix hs (show i < 6 by omega), mv_ix hs (show j < 6 by omega), true_and, hz, Option.some.injEq, exists_eq_left', nI_1, cl2_i, cl2_r, cl2_n, hl]
    rw [if_neg (nI_ge hlt (by omega))]
    unfold stR at st
    simp only at st
    by_cases z : hI h 136 (6 * s + j) - hI h 136 (6 * s + i) ≤ v0
    · rw [if_pos z]
      rw [if_pos z] at st
      by_cases z2 : hI h 137 (6 * s + j) - hI h 137 (6 * s + i) ≤ v0
      · rw [if_pos z2]
        rw [if_pos z2] at st
        exact st
      · rw [if_neg z2]
        rw [if_neg z2] at st
        exact st
    · rw [if_neg z]
      rw [if_neg z] at st
      by_cases z2 : hI h 137 (6 * s + j) - hI h 137 (6 * s + i) ≤ hI h 136 (6 * s + j) - hI h 136 (6 * s + i)
      · rw [if_pos z2]
        rw [if_pos z2] at st
        exact st
      · rw [if_neg z2]
        rw [if_neg z2] at st
        exact st
theorem m_re_loop {M : Nat} (hw : WF h) (hs : s < 8) (hz : hI h 134 s = nI M) (hM : M ≤ 6) (hb : ¬ hI h 133 s - 1 = 0) : ∀ (n i : Nat) (l4 l5 l6 : Option Value), cl2 l5 = l5 → i + n = M → Tr sc d 211 (4, [some (.ref 124), some (.int (nI s)), some (.int (itI (fun i a => itI (fun j v => stR (fun j => hI h 136 (6 * s + j)) (fun j => hI h 137 (6 * s + j)) i j v) a M) 0 i)), some (.int (nI i)), l4, l5, l6], [], h) Q = Q (some (.int (moR (fun j => hI h 136 (6 * s + j)) (fun j => hI h 137 (6 * s + j)) M / (hI h 133 s - 1))), h) := by
  intro n
  induction n with
  | zero =>
    intro i l4 l5 l6 hl hi
    have e : i = M := by omega
    subst e
    rw [x_211_4]
    simp only [x_211_5, x_211_6, x_211_9, x_211_10, x_211_11, x_211_14, x_211_15, x_211_118, x_211_119, x_211_120, x_211_123, x_211_124, x_211_125, x_211_126, x_211_127, x_211_128, o_124 hw, w_124_17 hw, w_124_18 hw, iOk_ok (o_133 hw), iRd_ok (o_133 hw), iOk_ok (o_134 hw), iRd_ok (o_134 hw), inb_nI (n := LN 133) hs (by decide), inb_nI (n := LN 134) hs (by decide), nI_clamp (n := s) (by omega), true_and, hz, hb, not_false_eq_true, Option.some.injEq, exists_eq_left']
    rw [if_pos (Int32.le_refl _)]
    rfl
  | succ n ih =>
    intro i l4 l5 l6 hl hi
    have hlt : i < M := by omega
    rw [x_211_4]
    simp only [x_211_5, x_211_6, x_211_9, x_211_10, x_211_11, x_211_14, x_211_15, o_124 hw, w_124_18 hw, iOk_ok (o_134 hw), iRd_ok (o_134 hw), inb_nI (n := LN 134) hs (by decide), nI_clamp (n := s) (by omega), true_and, hz, Option.some.injEq, exists_eq_left', cl2_i, cl2_r, cl2_n]
    rw [if_neg (nI_ge hlt (by omega))]
    obtain ⟨l5', l6', hl', st⟩ := m_re_in (sc := sc) (d := d) (Q := Q) (a := itI (fun i a => itI (fun j v => stR (fun j => hI h 136 (6 * s + j)) (fun j => hI h 137 (6 * s + j)) i j v) a M) 0 i) hw hs hlt hz hM M 0 l5 l6 hl (by omega)
    refine Eq.trans st ?_
    simp only [x_211_112, x_211_115, nI_1, cl2_i, cl2_r, cl2_n]
    exact ih (i + 1) _ _ _ hl' (by omega)
theorem m_reach {M : Nat} (hw : WF h) (hs : s < 8) (hz : hI h 134 s = nI M) (hM : M ≤ 6) (hb : ¬ hI h 133 s - 1 = 0) : Tr sc d 211 (ent0 211 [.ref 124, .int (nI s)] h) Q = Q (some (.int (moR (fun j => hI h 136 (6 * s + j)) (fun j => hI h 137 (6 * s + j)) M / (hI h 133 s - 1))), h) := by
  rw [e_211]
  simp only [x_211_0, x_211_1, x_211_2, x_211_3, cl2_r, cl2_n, cl2_i]
  exact m_re_loop hw hs hz hM hb M 0 _ _ _ rfl (by omega)
end MK
