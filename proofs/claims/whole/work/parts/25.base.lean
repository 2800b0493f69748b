/-! ===== small methods of the class ===== -/
def bI (p : Prop) [Decidable p] : Int32 := if p then 1 else 0
section B1
variable {sc : Nat × (Nat → Int32)} {d : Nat} {Q : PRes → Prop} {h : PH} {k q : Nat}
theorem bI_t {p : Prop} [Decidable p] (hp : p) : bI p = 1 := if_pos hp
theorem bI_f {p : Prop} [Decidable p] (hp : ¬ p) : bI p = 0 := if_neg hp
theorem bI_0 {p : Prop} [Decidable p] : (bI p = 0) = ¬ p := by
  apply propext
  unfold bI
  split
  · constructor
    · intro e; exact absurd e (by decide)
    · intro e; contradiction
  · exact ⟨fun _ => by assumption, fun _ => rfl⟩
theorem bI_nar {p : Prop} [Decidable p] : (vp_nar .boolean (bI p) = bI p) = True := by
  apply propext
  unfold bI
  split <;> simp [vp_b0, vp_b1]
theorem i_tri {a b : Int32} : (a < b) = (a.toInt < b.toInt) := propext Int32.lt_iff_toInt_lt
theorem i_tre {a b : Int32} : (a ≤ b) = (a.toInt ≤ b.toInt) := propext Int32.le_iff_toInt_le
theorem c_isRow {r : Int32} : Tr sc d 140 (ent0 140 [.int r] h) Q = Q (some (.int (bI (0 ≤ r ∧ r < 6))), h) := by
  rw [e_140]
  simp only [x_140_0, x_140_1, x_140_4, x_140_5, x_140_7, x_140_10, x_140_11, x_140_14, x_140_15]
  by_cases e1 : r < 0
  · rw [if_pos e1, bI_f (fun z => Int32.not_lt.mpr z.1 e1)]
    simp only [vp_b0, true_and]
  · rw [if_neg e1]
    by_cases e2 : 6 ≤ r
    · rw [if_pos e2, bI_f (fun z => Int32.not_le.mpr z.2 e2)]
      simp only [vp_b0, true_and]
    · rw [if_neg e2, bI_t ⟨Int32.not_lt.mp e1, Int32.not_le.mp e2⟩]
      simp only [vp_b1, true_and]
theorem c_isText {r : Int32} : Tr sc d 141 (ent0 141 [.int r] h) Q = Q (some (.int (bI (0 ≤ r ∧ r < 4))), h) := by
  rw [e_141]
  simp only [x_141_0, x_141_1, x_141_4, x_141_5, x_141_6, x_141_9, x_141_10, x_141_13, x_141_14]
  by_cases e1 : r < 0
  · rw [if_pos e1, bI_f (fun z => Int32.not_lt.mpr z.1 e1)]
    simp only [vp_b0, true_and]
  · rw [if_neg e1]
    by_cases e2 : 4 ≤ r
    · rw [if_pos e2, bI_f (fun z => Int32.not_le.mpr z.2 e2)]
      simp only [vp_b0, true_and]
    · rw [if_neg e2, bI_t ⟨Int32.not_lt.mp e1, Int32.not_le.mp e2⟩]
      simp only [vp_b1, true_and]
theorem c_isShape {r : Int32} : Tr sc d 142 (ent0 142 [.int r] h) Q = Q (some (.int (bI (0 ≤ r ∧ r < 8))), h) := by
  rw [e_142]
  simp only [x_142_0, x_142_1, x_142_4, x_142_5, x_142_7, x_142_10, x_142_11, x_142_14, x_142_15]
  by_cases e1 : r < 0
  · rw [if_pos e1, bI_f (fun z => Int32.not_lt.mpr z.1 e1)]
    simp only [vp_b0, true_and]
  · rw [if_neg e1]
    by_cases e2 : 8 ≤ r
    · rw [if_pos e2, bI_f (fun z => Int32.not_le.mpr z.2 e2)]
      simp only [vp_b0, true_and]
    · rw [if_neg e2, bI_t ⟨Int32.not_lt.mp e1, Int32.not_le.mp e2⟩]
      simp only [vp_b1, true_and]
theorem c_isStep {a b : Int32} : Tr sc d 143 (ent0 143 [.int a, .int b] h) Q = Q (some (.int (bI (0 ≤ a ∧ a ≤ b))), h) := by
  rw [e_143]
  simp only [x_143_0, x_143_1, x_143_4, x_143_5, x_143_6, x_143_9, x_143_10, x_143_13, x_143_14]
  by_cases e1 : a < 0
  · rw [if_pos e1, bI_f (fun z => Int32.not_lt.mpr z.1 e1)]
    simp only [vp_b0, true_and]
  · rw [if_neg e1]
    by_cases e2 : b < a
    · rw [if_pos e2, bI_f (fun z => Int32.not_lt.mpr z.2 e2)]
      simp only [vp_b0, true_and]
    · rw [if_neg e2, bI_t ⟨Int32.not_lt.mp e1, Int32.not_lt.mp e2⟩]
      simp only [vp_b1, true_and]
/-- what a refusal changes in the class -/
def refu (h : PH) (f : Nat) : PH := sI (sI h 0 14 (nI f)) 47 f (hI h 47 f + 1)
theorem c_refuse {f : Nat} (hw : WF h) (hf : f < 6) : Tr sc d 144 (ent0 144 [.ref 0, .int (nI f)] h) Q = Q (some (.int (-3)), refu h f) := by
  rw [e_144]
  have hc : (nI f).toNatClampNeg = f := nI_clamp (by omega)
  simp only [x_144_0, x_144_1, x_144_2, x_144_5, x_144_6, x_144_9, x_144_10, x_144_11, x_144_12, x_144_13, x_144_14, x_144_15, x_144_17, o_0 hw, w_0_13 hw, okp_sI, hR_sI, true_and, Option.some.injEq, exists_eq_left', iOk_ok (h := sI h 0 14 (nI f)) (k := 47) (o_47 hw), iRd_ok (h := sI h 0 14 (nI f)) (k := 47) (o_47 hw), o_47 hw, inb_nI (n := LN 47) hf (by decide), hI_sI, hc, Bool.and_self]
  rfl
theorem c_refuse_1 (hw : WF h) : Tr sc d 144 (ent0 144 [.ref 0, .int 1] h) Q = Q (some (.int (-3)), refu h 1) := c_refuse (f := 1) hw (by decide)
theorem c_refuse_2 (hw : WF h) : Tr sc d 144 (ent0 144 [.ref 0, .int 2] h) Q = Q (some (.int (-3)), refu h 2) := c_refuse (f := 2) hw (by decide)
theorem c_refuse_3 (hw : WF h) : Tr sc d 144 (ent0 144 [.ref 0, .int 3] h) Q = Q (some (.int (-3)), refu h 3) := c_refuse (f := 3) hw (by decide)
theorem c_refuse_4 (hw : WF h) : Tr sc d 144 (ent0 144 [.ref 0, .int 4] h) Q = Q (some (.int (-3)), refu h 4) := c_refuse (f := 4) hw (by decide)
theorem c_refuse_5 (hw : WF h) : Tr sc d 144 (ent0 144 [.ref 0, .int 5] h) Q = Q (some (.int (-3)), refu h 5) := c_refuse (f := 5) hw (by decide)
/-- what a refusal changes in the model -/
def refm (h : PH) (f : Nat) : PH := sI (sI h 124 0 (nI f)) 125 f (hI h 125 f + 1)
theorem m_meets {f : Nat} (hw : WF h) (hf : f < 6) : Tr sc d 157 (ent0 157 [.ref 124, .int (nI f)] h) Q = Q (some (.int (-3)), refm h f) := by
  rw [e_157]
  have hc : (nI f).toNatClampNeg = f := nI_clamp (by omega)
  simp only [x_157_0, x_157_1, x_157_2, x_157_5, x_157_6, x_157_9, x_157_10, x_157_11, x_157_12, x_157_13, x_157_14, x_157_15, x_157_17, o_124 hw, w_124_1 hw, okp_sI, hR_sI, true_and, Option.some.injEq, exists_eq_left', iOk_ok (h := sI h 124 0 (nI f)) (k := 125) (o_125 hw), iRd_ok (h := sI h 124 0 (nI f)) (k := 125) (o_125 hw), o_125 hw, inb_nI (n := LN 125) hf (by decide), hI_sI, hc, Bool.and_self]
  rfl
theorem m_meets_1 (hw : WF h) : Tr sc d 157 (ent0 157 [.ref 124, .int 1] h) Q = Q (some (.int (-3)), refm h 1) := m_meets (f := 1) hw (by decide)
theorem m_meets_2 (hw : WF h) : Tr sc d 157 (ent0 157 [.ref 124, .int 2] h) Q = Q (some (.int (-3)), refm h 2) := m_meets (f := 2) hw (by decide)
theorem m_meets_3 (hw : WF h) : Tr sc d 157 (ent0 157 [.ref 124, .int 3] h) Q = Q (some (.int (-3)), refm h 3) := m_meets (f := 3) hw (by decide)
theorem m_meets_4 (hw : WF h) : Tr sc d 157 (ent0 157 [.ref 124, .int 4] h) Q = Q (some (.int (-3)), refm h 4) := m_meets (f := 4) hw (by decide)
theorem m_meets_5 (hw : WF h) : Tr sc d 157 (ent0 157 [.ref 124, .int 5] h) Q = Q (some (.int (-3)), refm h 5) := m_meets (f := 5) hw (by decide)
theorem m_in {a b c : Int32} : Tr sc d 156 (ent0 156 [.int a, .int b, .int c] h) Q = Q (some (.int (bI (b ≤ a ∧ a ≤ c))), h) := by
  rw [e_156]
  simp only [x_156_0, x_156_1, x_156_2, x_156_5, x_156_6, x_156_7, x_156_10, x_156_11, x_156_14, x_156_15]
  by_cases e1 : a < b
  · rw [if_pos e1, bI_f (fun z => Int32.not_lt.mpr z.1 e1)]
    simp only [vp_b0, true_and]
  · rw [if_neg e1]
    by_cases e2 : c < a
    · rw [if_pos e2, bI_f (fun z => Int32.not_lt.mpr z.2 e2)]
      simp only [vp_b0, true_and]
    · rw [if_neg e2, bI_t ⟨Int32.not_lt.mp e1, Int32.not_lt.mp e2⟩]
      simp only [vp_b1, true_and]
theorem m_isRow {a : Int32} : Tr sc (d + 1) 160 (ent0 160 [.int a] h) Q = Q (some (.int (bI (0 ≤ a ∧ a ≤ 5))), h) := by
  rw [e_160]
  simp only [x_160_0, x_160_1, x_160_2, x_160_3, x_160_6, m_in, tl_s, bI_nar, true_and]
theorem m_isText {a : Int32} : Tr sc (d + 1) 161 (ent0 161 [.int a] h) Q = Q (some (.int (bI (0 ≤ a ∧ a ≤ 3))), h) := by
  rw [e_161]
  simp only [x_161_0, x_161_1, x_161_2, x_161_3, x_161_6, m_in, tl_s, bI_nar, true_and]
theorem m_isShape {a : Int32} : Tr sc (d + 1) 175 (ent0 175 [.int a] h) Q = Q (some (.int (bI (0 ≤ a ∧ a ≤ 7))), h) := by
  rw [e_175]
  simp only [x_175_0, x_175_1, x_175_2, x_175_4, x_175_7, m_in, tl_s, bI_nar, true_and]
end B1
