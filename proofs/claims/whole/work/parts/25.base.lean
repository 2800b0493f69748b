/-! ===== small methods of the class ===== -/
def bI (p : Prop) [Decidable p] : Int32 := if p then 1 else 0
section B1
variable {sc : Nat × (Nat → Int32)} {d : Nat} {Q : PRes → Prop} {h : PH} {k q : Nat}
theorem bI_t {p : Prop} [Decidable p] (hp : p) : bI p = 1 := if_pos hp
theorem bI_f {p : Prop} [Decidable p] (hp : ¬ p) : bI p = 0 := if_neg hp
theorem bI_0 {p : Prop} [Decidable p] : (bI p = 0) = ¬ p := by
  apply propext
  unfold bI
  split
  · constructor
    · intro e; exact absurd e (by decide)
    · intro e; contradiction
  · exact ⟨fun _ => by assumption, fun _ => rfl⟩
theorem bI_nar {p : Prop} [Decidable p] : (vp_nar .boolean (bI p) = bI p) = True := by
  apply propext
  unfold bI
  split <;> simp [vp_b0, vp_b1]
theorem i_tri {a b : Int32} : (a < b) = (a.toInt < b.toInt) := propext Int32.lt_iff_toInt_lt
theorem i_tre {a b : Int32} : (a ≤ b) = (a.toInt ≤ b.toInt) := propext Int32.le_iff_toInt_le
theorem c_isRow {r : Int32} : Tr sc d 141 (ent0 141 [.int r] h) Q = Q (some (.int (bI (0 ≤ r ∧ r < 6))), h) := by
  rw [e_141]
  simp only [x_141_0, x_141_1, x_141_4, x_141_5, x_141_7, x_141_10, x_141_11, x_141_14, x_141_15]
  by_cases e1 : r < 0
  · rw [if_pos e1, bI_f (fun z => Int32.not_lt.mpr z.1 e1)]
    simp only [vp_b0, true_and]
  · rw [if_neg e1]
    by_cases e2 : 6 ≤ r
    · rw [if_pos e2, bI_f (fun z => Int32.not_le.mpr z.2 e2)]
      simp only [vp_b0, true_and]
    · rw [if_neg e2, bI_t ⟨Int32.not_lt.mp e1, Int32.not_le.mp e2⟩]
      simp only [vp_b1, true_and]
theorem c_isText {r : Int32} : Tr sc d 142 (ent0 142 [.int r] h) Q = Q (some (.int (bI (0 ≤ r ∧ r < 4))), h) := by
  rw [e_142]
  simp only [x_142_0, x_142_1, x_142_4, x_142_5, x_142_6, x_142_9, x_142_10, x_142_13, x_142_14]
  by_cases e1 : r < 0
  · rw [if_pos e1, bI_f (fun z => Int32.not_lt.mpr z.1 e1)]
    simp only [vp_b0, true_and]
  · rw [if_neg e1]
    by_cases e2 : 4 ≤ r
    · rw [if_pos e2, bI_f (fun z => Int32.not_le.mpr z.2 e2)]
      simp only [vp_b0, true_and]
    · rw [if_neg e2, bI_t ⟨Int32.not_lt.mp e1, Int32.not_le.mp e2⟩]
      simp only [vp_b1, true_and]
theorem c_isShape {r : Int32} : Tr sc d 143 (ent0 143 [.int r] h) Q = Q (some (.int (bI (0 ≤ r ∧ r < 8))), h) := by
  rw [e_143]
  simp only [x_143_0, x_143_1, x_143_4, x_143_5, x_143_7, x_143_10, x_143_11, x_143_14, x_143_15]
  by_cases e1 : r < 0
  · rw [if_pos e1, bI_f (fun z => Int32.not_lt.mpr z.1 e1)]
    simp only [vp_b0, true_and]
  · rw [if_neg e1]
    by_cases e2 : 8 ≤ r
    · rw [if_pos e2, bI_f (fun z => Int32.not_le.mpr z.2 e2)]
      simp only [vp_b0, true_and]
    · rw [if_neg e2, bI_t ⟨Int32.not_lt.mp e1, Int32.not_le.mp e2⟩]
      simp only [vp_b1, true_and]
theorem c_isStep {a b : Int32} : Tr sc d 144 (ent0 144 [.int a, .int b] h) Q = Q (some (.int (bI (0 ≤ a ∧ a ≤ b))), h) := by
  rw [e_144]
  simp only [x_144_0, x_144_1, x_144_4, x_144_5, x_144_6, x_144_9, x_144_10, x_144_13, x_144_14]
  by_cases e1 : a < 0
  · rw [if_pos e1, bI_f (fun z => Int32.not_lt.mpr z.1 e1)]
    simp only [vp_b0, true_and]
  · rw [if_neg e1]
    by_cases e2 : b < a
    · rw [if_pos e2, bI_f (fun z => Int32.not_lt.mpr z.2 e2)]
      simp only [vp_b0, true_and]
    · rw [if_neg e2, bI_t ⟨Int32.not_lt.mp e1, Int32.not_lt.mp e2⟩]
      simp only [vp_b1, true_and]
/-- what a refusal changes in the class -/
def refu (h : PH) (f : Nat) : PH := sI (sI h 0 14 (nI f)) 47 f (hI h 47 f + 1)
theorem c_refuse {f : Nat} (hw : WF h) (hf : f < 6) : Tr sc d 145 (ent0 145 [.ref 0, .int (nI f)] h) Q = Q (some (.int (-3)), refu h f) := by
  rw [e_145]
  have hc : (nI f).toNatClampNeg = f := nI_clamp (by omega)
  simp only [x_145_0, x_145_1, x_145_2, x_145_5, x_145_6, x_145_9, x_145_10, x_145_11, x_145_12, x_145_13, x_145_14, x_145_15, x_145_17, o_0 hw, w_0_13 hw, okp_sI, hR_sI, true_and, Option.some.injEq, exists_eq_left', iOk_ok (h := sI h 0 14 (nI f)) (k := 47) (o_47 hw), iRd_ok (h := sI h 0 14 (nI f)) (k := 47) (o_47 hw), o_47 hw, inb_nI (n := LN 47) hf (by decide), hI_sI, hc, Bool.and_self]
  rfl
theorem c_refuse_1 (hw : WF h) : Tr sc d 145 (ent0 145 [.ref 0, .int 1] h) Q = Q (some (.int (-3)), refu h 1) := c_refuse (f := 1) hw (by decide)
theorem c_refuse_2 (hw : WF h) : Tr sc d 145 (ent0 145 [.ref 0, .int 2] h) Q = Q (some (.int (-3)), refu h 2) := c_refuse (f := 2) hw (by decide)
theorem c_refuse_3 (hw : WF h) : Tr sc d 145 (ent0 145 [.ref 0, .int 3] h) Q = Q (some (.int (-3)), refu h 3) := c_refuse (f := 3) hw (by decide)
theorem c_refuse_4 (hw : WF h) : Tr sc d 145 (ent0 145 [.ref 0, .int 4] h) Q = Q (some (.int (-3)), refu h 4) := c_refuse (f := 4) hw (by decide)
theorem c_refuse_5 (hw : WF h) : Tr sc d 145 (ent0 145 [.ref 0, .int 5] h) Q = Q (some (.int (-3)), refu h 5) := c_refuse (f := 5) hw (by decide)
/-- what a refusal changes in the model -/
def refm (h : PH) (f : Nat) : PH := sI (sI h 124 0 (nI f)) 125 f (hI h 125 f + 1)
theorem m_meets {f : Nat} (hw : WF h) (hf : f < 6) : Tr sc d 158 (ent0 158 [.ref 124, .int (nI f)] h) Q = Q (some (.int (-3)), refm h f) := by
  rw [e_158]
  have hc : (nI f).toNatClampNeg = f := nI_clamp (by omega)
  simp only [x_158_0, x_158_1, x_158_2, x_158_5, x_158_6, x_158_9, x_158_10, x_158_11, x_158_12, x_158_13, x_158_14, x_158_15, x_158_17, o_124 hw, w_124_1 hw, okp_sI, hR_sI, true_and, Option.some.injEq, exists_eq_left', iOk_ok (h := sI h 124 0 (nI f)) (k := 125) (o_125 hw), iRd_ok (h := sI h 124 0 (nI f)) (k := 125) (o_125 hw), o_125 hw, inb_nI (n := LN 125) hf (by decide), hI_sI, hc, Bool.and_self]
  rfl
theorem m_meets_1 (hw : WF h) : Tr sc d 158 (ent0 158 [.ref 124, .int 1] h) Q = Q (some (.int (-3)), refm h 1) := m_meets (f := 1) hw (by decide)
theorem m_meets_2 (hw : WF h) : Tr sc d 158 (ent0 158 [.ref 124, .int 2] h) Q = Q (some (.int (-3)), refm h 2) := m_meets (f := 2) hw (by decide)
theorem m_meets_3 (hw : WF h) : Tr sc d 158 (ent0 158 [.ref 124, .int 3] h) Q = Q (some (.int (-3)), refm h 3) := m_meets (f := 3) hw (by decide)
theorem m_meets_4 (hw : WF h) : Tr sc d 158 (ent0 158 [.ref 124, .int 4] h) Q = Q (some (.int (-3)), refm h 4) := m_meets (f := 4) hw (by decide)
theorem m_meets_5 (hw : WF h) : Tr sc d 158 (ent0 158 [.ref 124, .int 5] h) Q = Q (some (.int (-3)), refm h 5) := m_meets (f := 5) hw (by decide)
theorem m_in {a b c : Int32} : Tr sc d 157 (ent0 157 [.int a, .int b, .int c] h) Q = Q (some (.int (bI (b ≤ a ∧ a ≤ c))), h) := by
  rw [e_157]
  simp only [x_157_0, x_157_1, x_157_2, x_157_5, x_157_6, x_157_7, x_157_10, x_157_11, x_157_14, x_157_15]
  by_cases e1 : a < b
  · rw [if_pos e1, bI_f (fun z => Int32.not_lt.mpr z.1 e1)]
    simp only [vp_b0, true_and]
  · rw [if_neg e1]
    by_cases e2 : c < a
    · rw [if_pos e2, bI_f (fun z => Int32.not_lt.mpr z.2 e2)]
      simp only [vp_b0, true_and]
    · rw [if_neg e2, bI_t ⟨Int32.not_lt.mp e1, Int32.not_lt.mp e2⟩]
      simp only [vp_b1, true_and]
theorem m_isRow {a : Int32} : Tr sc (d + 1) 161 (ent0 161 [.int a] h) Q = Q (some (.int (bI (0 ≤ a ∧ a ≤ 5))), h) := by
  rw [e_161]
  simp only [x_161_0, x_161_1, x_161_2, x_161_3, x_161_6, m_in, tl_s, bI_nar, true_and]
theorem m_isText {a : Int32} : Tr sc (d + 1) 162 (ent0 162 [.int a] h) Q = Q (some (.int (bI (0 ≤ a ∧ a ≤ 3))), h) := by
  rw [e_162]
  simp only [x_162_0, x_162_1, x_162_2, x_162_3, x_162_6, m_in, tl_s, bI_nar, true_and]
theorem m_isShape {a : Int32} : Tr sc (d + 1) 176 (ent0 176 [.int a] h) Q = Q (some (.int (bI (0 ≤ a ∧ a ≤ 7))), h) := by
  rw [e_176]
  simp only [x_176_0, x_176_1, x_176_2, x_176_4, x_176_7, m_in, tl_s, bI_nar, true_and]
end B1
