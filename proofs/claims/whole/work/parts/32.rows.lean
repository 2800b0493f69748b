/-! ===== rows: row, lay, tear, and findings ===== -/
section R3
variable {sc : Nat × (Nat → Int32)} {d : Nat} {Q : PRes → Prop} {h : PH} {k r : Nat}
theorem i_10 : ((1 : Int32) = 0) = False := by apply propext; decide
theorem i_00 : ((0 : Int32) = 0) = True := by apply propext; decide
theorem ir_of {x : Int32} {n : Nat} (hn : n < 2 ^ 31) (h : 0 ≤ x ∧ x < nI n) : ∃ k, k < n ∧ x = nI k := by
  obtain ⟨j, hj, rfl⟩ := nI_of (x := x) (Int32.not_lt.mpr h.1)
  exact ⟨j, (nI_ltI hj hn).mp h.2, rfl⟩
theorem ir_in {n k : Nat} (hn : n < 2 ^ 31) (hk : k < n) : 0 ≤ nI k ∧ nI k < nI n := ⟨nI_pos' (Nat.lt_trans hk hn), nI_lt hk hn⟩
theorem c_isMiss (ho : okp h k 5 = true) : Tr sc d 42 (ent0 42 [.ref k] h) Q = Q (some (.int (bI (hI h k 1 < 0))), h) := c_Row_isMissing ho
theorem c_hasPlace {i : Int32} (ho : okp h k 5 = true) : Tr sc d 43 (ent0 43 [.ref k, .int i] h) Q = Q (some (.int (bI (0 ≤ i ∧ i < hI h k 1))), h) := by
  rw [e_43]
  simp only [x_43_0, x_43_1, x_43_4, x_43_5, x_43_6, x_43_9, x_43_12, x_43_13, x_43_16, x_43_17, ho, true_and]
  by_cases e1 : i < 0
  · rw [if_pos e1, bI_f (fun z => Int32.not_lt.mpr z.1 e1)]
    simp only [vp_b0, true_and]
  · rw [if_neg e1]
    by_cases e2 : hI h k 1 ≤ i
    · rw [if_pos e2, bI_f (fun z => Int32.not_le.mpr z.2 e2)]
      simp only [vp_b0, true_and]
    · rw [if_neg e2, bI_t ⟨Int32.not_lt.mp e1, Int32.not_le.mp e2⟩]
      simp only [vp_b1, true_and]
theorem c_open {n v : Int32} {q : Nat} (ho : okp h k 5 = true) (hq : hR h k 0 = some q) (oq : okp h q 11 = true) (hL : LN q < 2 ^ 31) : Tr sc (d + 1) 41 (ent0 41 [.ref k, .int n, .int v] h) Q = Q (none, sI (aI h q (fun b => if b < LN q then v else hI h q b)) k 1 n) := by
  rw [e_41]
  simp only [x_41_0, x_41_1, x_41_4, x_41_5, x_41_8, x_41_9, x_41_10, x_41_13, ho, hq, true_and, Option.some.injEq, exists_eq_left', c_fillI oq hL, tl_n, okp_aI]
/-- the model asks for a row -/
theorem m_askedRow (hw : WF h) (hr : r < 6) : Tr sc (d + 2) 163 (ent0 163 [.ref 124, .int (nI r)] h) Q = if 0 ≤ hI h 126 r then Q (some (.int 0), h) else Q (some (.int (-3)), refm h 1) := by
  rw [e_163]
  have hb : bI (0 ≤ nI r ∧ nI r ≤ 5) = 1 := bI_t ⟨nI_pos' (by omega), nI_le (a := r) (b := 5) (by omega) (by decide)⟩
  simp only [x_163_0, x_163_1, x_163_4, x_163_7, x_163_8, x_163_11, x_163_12, x_163_15, x_163_16, x_163_17, x_163_20, x_163_21, x_163_22, x_163_25, x_163_28, x_163_29, m_isRow, hb, i_10, if_false, tl_s, o_124 hw, w_124_6 hw, true_and, Option.some.injEq, exists_eq_left', iOk_ok (o_126 hw), iRd_ok (o_126 hw), inb_nI (n := LN 126) hr (by decide), nI_clamp (n := r) (by omega), m_meets_1 hw]
theorem m_askedRow_bad {x : Int32} (hx : ¬ (0 ≤ x ∧ x < 6)) : Tr sc (d + 2) 163 (ent0 163 [.ref 124, .int x] h) Q = Q (some (.int (-1)), h) := by
  rw [e_163]
  have hb : bI (0 ≤ x ∧ x ≤ 5) = 0 := bI_f (fun z => hx ⟨z.1, Int32.lt_iff_toInt_lt.mpr (by have h1 := Int32.le_iff_toInt_le.mp z.2; have e5 : (5 : Int32).toInt = 5 := rfl; have e6 : (6 : Int32).toInt = 6 := rfl; omega)⟩)
  simp only [x_163_0, x_163_1, x_163_4, x_163_7, x_163_8, x_163_11, x_163_12, x_163_15, x_163_16, x_163_17, x_163_20, x_163_21, x_163_22, x_163_25, x_163_28, x_163_29, m_isRow, hb, i_00, if_true, tl_s]
end R3
