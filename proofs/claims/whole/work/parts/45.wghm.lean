/-! ===== weighed, barred: the model ===== -/
section WM
variable {sc : Nat × (Nat → Int32)} {d : Nat} {Q : PRes → Prop} {h : PH} {k s u r q : Nat} {x y z : Int32}
theorem k7 {a : Int32} : (0 ≤ a ∧ a ≤ 7) = (0 ≤ a ∧ a < 8) := propext (by
  have c5 : (7 : Int32).toInt = 7 := rfl
  have c6 : (8 : Int32).toInt = 8 := rfl
  rw [i_tri, i_tre (a := a), c5, c6]
  exact ⟨fun q => ⟨q.1, by omega⟩, fun q => ⟨q.1, by omega⟩⟩)
theorem k5 {a : Int32} : (0 ≤ a ∧ a ≤ 5) = (0 ≤ a ∧ a < 6) := propext (by
  have c5 : (5 : Int32).toInt = 5 := rfl
  have c6 : (6 : Int32).toInt = 6 := rfl
  rw [i_tri, i_tre (a := a), c5, c6]
  exact ⟨fun q => ⟨q.1, by omega⟩, fun q => ⟨q.1, by omega⟩⟩)
theorem bI_k7 (hs : s < 8) : bI (0 ≤ nI s ∧ nI s ≤ 7) = 1 := bI_t ⟨nI_pos' (by omega), nI_le (a := s) (b := 7) (by omega) (by decide)⟩
theorem bI_k5 (hs : s < 6) : bI (0 ≤ nI s ∧ nI s ≤ 5) = 1 := bI_t ⟨nI_pos' (by omega), nI_le (a := s) (b := 5) (by omega) (by decide)⟩
theorem m_am_bad {lo hi : Int32} (hb : ¬ (0 ≤ x ∧ x < 8) ∨ ¬ (0 ≤ y ∧ y < 8) ∨ ¬ (0 ≤ z ∧ z < 6)) : Tr sc (d + 2) 183 (ent0 183 [.ref 124, .int x, .int y, .int z, .int lo, .int hi] h) Q = Q (some (.int (-1)), h) := by
  rw [e_183]
  simp only [x_183_0, x_183_1, x_183_4, x_183_7, x_183_8, x_183_11, x_183_14, x_183_15, x_183_18, x_183_21, x_183_22, m_isShape, m_isRow, tl_s, bI_0, k5, k7]
  by_cases e1 : 0 ≤ x ∧ x < 8
  · rw [if_neg (fun q => q e1)]
    by_cases e2 : 0 ≤ y ∧ y < 8
    · rw [if_neg (fun q => q e2), if_pos]
      exact (hb.resolve_left (fun q => q e1)).resolve_left (fun q => q e2)
    · rw [if_pos e2]
  · rw [if_pos e1]
theorem m_am_loop {g : Nat → Bool} {lo hi : Int32} {M : Nat} (hw : WF h) (hu : u < 8) (hr : r < 6) (hM : M ≤ 6) (hz : hI h 134 u = nI M) (hg : ∀ j, j < M → (lo ≤ hI h 127 (40 * r + j) ∧ hI h 127 (40 * r + j) ≤ (if 0 ≤ hi then hi else 1 <<< (nI M &&& 31) - 1)) = (g j = true)) : ∀ (n i : Nat) (G : Bool), i + n = M → Tr sc (d + 1) 183 (74, [some (.ref 124), some (.int x), some (.int (nI u)), some (.int (nI r)), some (.int lo), some (.int hi), some (.int (bI (G = true))), some (.int (nI i))], [], h) Q = Tr sc (d + 1) 183 (143, [some (.ref 124), some (.int x), some (.int (nI u)), some (.int (nI r)), some (.int lo), some (.int hi), some (.int (bI ((G && allB g i n) = true))), some (.int (nI M))], [], h) Q := by
  intro n
  induction n with
  | zero =>
    intro i G hi'
    have e : i = M := by omega
    subst e
    rw [x_183_74]
    simp only [x_183_76, x_183_77, x_183_80, x_183_81, x_183_82, x_183_85, x_183_87, x_183_90, x_183_91, x_183_94, x_183_96, x_183_97, x_183_98, x_183_100, x_183_101, x_183_102, x_183_104, x_183_106, x_183_109, x_183_110, x_183_111, x_183_114, x_183_115, x_183_116, x_183_117, x_183_118, x_183_119, x_183_122, x_183_124, x_183_127, x_183_130, x_183_131, x_183_134, x_183_135, x_183_137, x_183_140, o_124 hw, w_124_18 hw, iOk_ok (o_134 hw), iRd_ok (o_134 hw), inb_nI (n := LN 134) hu (by decide), nI_clamp (n := u) (by omega), true_and, hz, Option.some.injEq, exists_eq_left']
    rw [if_pos (Int32.le_refl _), show (G && allB g i 0) = G from Bool.and_true G]
  | succ n ih =>
    intro i G hi'
    have hlt : i < M := by omega
    have g3 : 40 * r + i < 240 := by omega
    have hgi := hg i hlt
    have ex : allB g i (n + 1) = (g i && allB g (i + 1) n) := rfl
    have ihT := ih (i + 1) true (by omega)
    have ihF := ih (i + 1) false (by omega)
    have b1 : bI ((true : Bool) = true) = 1 := bI_t rfl
    have b0 : bI ((false : Bool) = true) = 0 := bI_f (by decide)
    rw [b1, Bool.true_and] at ihT
    rw [b0, Bool.false_and] at ihF
    rw [x_183_74]
    simp only [x_183_76, x_183_77, x_183_80, x_183_81, x_183_82, x_183_85, x_183_87, x_183_90, x_183_91, x_183_94, x_183_96, x_183_97, x_183_98, x_183_100, x_183_101, x_183_102, x_183_104, x_183_106, x_183_109, x_183_110, x_183_111, x_183_114, x_183_115, x_183_116, x_183_117, x_183_118, x_183_119, x_183_122, x_183_124, x_183_127, x_183_130, x_183_131, x_183_134, x_183_135, x_183_137, x_183_140, o_124 hw, w_124_7 hw, w_124_18 hw, iOk_ok (o_134 hw), iRd_ok (o_134 hw), iOk_ok (o_127 hw), iRd_ok (o_127 hw), inb_nI (n := LN 134) hu (by decide), inb_nI (n := LN 127) g3 (by decide), nI_clamp (n := u) (by omega), nI_clamp (n := 40 * r + i) (by omega), lay_ix (a := r) (b := i) hr (by omega), true_and, hz, Option.some.injEq, exists_eq_left', m_in, tl_s, bI_0, nI_1, cl2_i, cl2_r, cl2_n]
    rw [if_neg (nI_ge hlt (by omega)), ex]
    cases G with
    | false =>
      rw [if_pos (by decide), Bool.false_and]
      exact ihF
    | true =>
      rw [if_neg (by decide), Bool.true_and]
      by_cases e0 : 0 ≤ hi
      · rw [if_pos e0]
        rw [if_pos e0] at hgi
        by_cases e1 : g i = true
        · rw [if_neg (fun q => q (by rw [hgi]; exact e1)), e1, Bool.true_and]
          exact ihT
        · rw [if_pos (by rw [hgi]; exact e1), Bool.eq_false_iff.mpr e1, Bool.false_and]
          exact ihF
      · rw [if_neg e0]
        rw [if_neg e0] at hgi
        by_cases e1 : g i = true
        · rw [if_neg (fun q => q (by rw [hgi]; exact e1)), e1, Bool.true_and]
          exact ihT
        · rw [if_pos (by rw [hgi]; exact e1), Bool.eq_false_iff.mpr e1, Bool.false_and]
          exact ihF
theorem m_am {g : Nat → Bool} {lo hi : Int32} {M : Nat} (hw : WF h) (hs : s < 8) (hu : u < 8) (hr : r < 6) (hM : M ≤ 6) (hz : hI h 134 u = nI M) (hg : ∀ j, j < M → (lo ≤ hI h 127 (40 * r + j) ∧ hI h 127 (40 * r + j) ≤ (if 0 ≤ hi then hi else 1 <<< (nI M &&& 31) - 1)) = (g j = true)) : Tr sc (d + 2) 183 (ent0 183 [.ref 124, .int (nI s), .int (nI u), .int (nI r), .int lo, .int hi] h) Q = if hI h 134 u = 0 ∨ hI h 126 r < 0 then Q (some (.int (-3)), refm h 1) else if hI h 126 r = hI h 134 u then (if allB g 0 M = true then Q (some (.int 0), h) else Q (some (.int (-3)), refm h 3)) else Q (some (.int (-3)), refm h 5) := by
  rw [e_183]
  simp only [x_183_0, x_183_1, x_183_4, x_183_7, x_183_8, x_183_11, x_183_14, x_183_15, x_183_18, x_183_21, x_183_22, x_183_23, x_183_24, x_183_27, x_183_28, x_183_29, x_183_32, x_183_33, x_183_36, x_183_37, x_183_38, x_183_41, x_183_42, x_183_43, x_183_46, x_183_47, x_183_48, x_183_51, x_183_52, x_183_53, x_183_54, x_183_57, x_183_58, x_183_59, x_183_62, x_183_63, x_183_64, x_183_67, x_183_68, x_183_69, x_183_71, x_183_72, m_isShape, m_isRow, bI_k7 hs, bI_k7 hu, bI_k5 hr, i_10, if_false, tl_s, o_124 hw, w_124_6 hw, w_124_18 hw, iOk_ok (o_126 hw), iRd_ok (o_126 hw), iOk_ok (o_134 hw), iRd_ok (o_134 hw), inb_nI (n := LN 126) hr (by decide), inb_nI (n := LN 134) hu (by decide), nI_clamp (n := u) (by omega), nI_clamp (n := r) (by omega), true_and, Option.some.injEq, exists_eq_left', m_meets_1 hw, m_meets_5 hw, cl2_i, cl2_r, cl2_n]
  by_cases e1 : hI h 134 u = 0
  · rw [if_pos e1, if_pos (Or.inl e1)]
  · rw [if_neg e1]
    by_cases e2 : hI h 126 r < 0
    · rw [if_neg (Int32.not_le.mpr e2), if_pos (Or.inr e2)]
    · rw [if_pos (Int32.not_lt.mp e2), if_neg (fun z : hI h 134 u = 0 ∨ hI h 126 r < 0 => z.elim e1 e2)]
      by_cases e3 : hI h 126 r = hI h 134 u
      · rw [if_pos e3, if_pos e3]
        have lp := m_am_loop (sc := sc) (d := d + 1) (Q := Q) (x := nI s) hw hu hr hM hz hg M 0 true (by omega)
        refine Eq.trans lp ?_
        simp only [x_183_143, x_183_145, x_183_148, x_183_149, x_183_152, x_183_153, x_183_154, x_183_157, bI_0, Bool.true_and, o_124 hw, true_and, m_meets_3 hw, tl_s]
        by_cases e4 : allB g 0 M = true
        · rw [if_neg (fun q => q e4), if_pos e4]
        · rw [if_pos e4, if_neg e4]
      · rw [if_neg e3, if_neg e3]
end WM
