/-! ===== in: the model ===== -/
def CoA (h : PH) (L : List Pnt) : Prop := hI h 124 50 = nI L.length ∧ ∀ j, j < L.length → hI h 153 j = iv (L.getD j pt0).1 ∧ hI h 154 j = iv (L.getD j pt0).2
def BoI (h : PH) (a1 a2 c1 c2 : Int) : Prop := hI h 157 0 = iv a1 ∧ hI h 157 1 = iv a2 ∧ hI h 157 2 = iv c1 ∧ hI h 157 3 = iv c2
/-- what a row of leadsTo says: where move i leads from place k -/
def LdO (h : PH) (wi : Pnt → Bool) (nx : Pnt → Nat → Pnt) (L : List Pnt) (k i : Nat) : Prop := (wi (nx (L.getD k pt0) i) = true → ∃ r, r < L.length ∧ L.getD r pt0 = nx (L.getD k pt0) i ∧ hI h 156 (6 * k + i) = nI r) ∧ (wi (nx (L.getD k pt0) i) = false → hI h 156 (6 * k + i) = -1)
def Pin (a b : Nat) : Prop := a = 153 ∨ a = 154 ∨ a = 155 ∨ a = 156 ∨ (a = 124 ∧ b = 50)
section WM
variable {sc : Nat × (Nat → Int32)} {d : Nat} {Q : PRes → Prop} {h h' h1 H G : PH} {i j k n t u b M N s f : Nat} {q a1 a2 c1 c2 : Int} {sx sy ex : Nat → Int} {L LL R : List Pnt} {p : Pnt} {P : Nat → Nat → Prop} {wi : Pnt → Bool} {nx : Pnt → Nat → Pnt} {x y z kd : Int32} {e : Nat → Bool} {tn : Nat → Nat}
theorem m_sbd (hw : WF h) (hs : s < 8) (D : ShM h s kd b M tn sx sy ex) (hM : 1 ≤ M ∧ M ≤ 6) : ∀ (m i : Nat) (H : PH), i + 1 + m = M → Fq (fun a _ => a = 157) h H → (hI H 157 0 = mnF (fun j => iv (sx j)) i ∧ hI H 157 1 = mxF (fun j => iv (sx j)) i ∧ hI H 157 2 = mnF (fun j => iv (sy j)) i ∧ hI H 157 3 = mxF (fun j => iv (sy j)) i) → ∃ H', Fq (fun a _ => a = 157) h H' ∧ (hI H' 157 0 = mnF (fun j => iv (sx j)) (M - 1) ∧ hI H' 157 1 = mxF (fun j => iv (sx j)) (M - 1) ∧ hI H' 157 2 = mnF (fun j => iv (sy j)) (M - 1) ∧ hI H' 157 3 = mxF (fun j => iv (sy j)) (M - 1)) ∧ ∀ d Q l3 l4, cl2 l3 = l3 → Tr sc d 230 (2, [some (.ref 124), some (.int (nI s)), some (.int (nI (i + 1))), l3, l4], [], H) Q = Q (none, H') := by
  intro m
  induction m with
  | zero =>
    intro i H hi F a
    have hwH := F.WF hw
    have DH := D.fr F (fun a j h1 h2 q => by omega)
    have e : i = M - 1 := by omega
    rw [e] at a
    refine ⟨H, F, a, fun d Q l3 l4 h3 => ?_⟩
    rw [x_230_2]
    simp only [x_230_3, x_230_4, x_230_7, x_230_8, x_230_9, o_124 hwH, w_124_18 hwH, o_134 hwH, iOk_lt (k := 134) (by decide), iRd_lt (k := 134) (by decide), show LN 134 = 8 from rfl, x_230_167, cl2_i, cl2_r, cl2_n, cl2_l, tl_s, tl_n, true_and, and_true, Option.some.injEq, exists_eq_left', Bool.and_self, Bool.true_and, Bool.and_true, Bool.or_true, Bool.true_or, i_10, i_00, if_true, if_false, not_true_eq_false, not_false_eq_true, and_false, false_and, okp_sI, okp_sL, okp_aI, okp_aL, hR_sI, hR_sL, hR_aI, hR_aL, inb_nI (n := 8) hs (by decide), nI_clamp (n := s) (by omega), DH.2.2.1]
    rw [if_pos (nI_le (show M ≤ i + 1 by omega) (by omega))]
  | succ m ih =>
    intro i H hi F a
    obtain ⟨a0, a1, a2, a3⟩ := a
    have hlt : i + 1 < M := by omega
    have hwH := F.WF hw
    have DH := D.fr F (fun a j h1 h2 q => by omega)
    obtain ⟨-, q2, q3, -⟩ := DH.2.2.2 (i + 1) hlt
    have e0 : mnF (fun j => iv (sx j)) (i + 1) = if iv (sx (i + 1)) < mnF (fun j => iv (sx j)) i then iv (sx (i + 1)) else mnF (fun j => iv (sx j)) i := rfl
    have e1 : mxF (fun j => iv (sx j)) (i + 1) = if mxF (fun j => iv (sx j)) i < iv (sx (i + 1)) then iv (sx (i + 1)) else mxF (fun j => iv (sx j)) i := rfl
    have e2 : mnF (fun j => iv (sy j)) (i + 1) = if iv (sy (i + 1)) < mnF (fun j => iv (sy j)) i then iv (sy (i + 1)) else mnF (fun j => iv (sy j)) i := rfl
    have e3 : mxF (fun j => iv (sy j)) (i + 1) = if mxF (fun j => iv (sy j)) i < iv (sy (i + 1)) then iv (sy (i + 1)) else mxF (fun j => iv (sy j)) i := rfl
    have n0 : (nI (i + 1) = 0) = False := eq_false (nI_ne0 (by omega) (by omega))
    have ib : ∀ v, v < 4 → inb (nI v) 4 = true := fun v hv => inb_nI hv (by decide)
    have t1 : ∀ d Q l3 l4, cl2 l3 = l3 → Tr sc d 230 (2, [some (.ref 124), some (.int (nI s)), some (.int (nI (i + 1))), l3, l4], [], H) Q = Tr sc d 230 (67, [some (.ref 124), some (.int (nI s)), some (.int (nI (i + 1))), some (.int (iv (sx (i + 1)))), some (.int (iv (sy (i + 1))))], [], sI H 157 0 (mnF (fun j => iv (sx j)) (i + 1))) Q := by
      intro d Q l3 l4 h3
      rw [x_230_2]
      simp only [x_230_3, x_230_4, x_230_7, x_230_8, x_230_9, x_230_12, x_230_13, x_230_16, x_230_18, x_230_19, x_230_20, x_230_21, x_230_22, x_230_23, x_230_24, x_230_25, x_230_28, x_230_30, x_230_31, x_230_32, x_230_33, x_230_34, x_230_35, x_230_37, x_230_38, x_230_41, x_230_42, x_230_43, x_230_46, x_230_47, x_230_48, x_230_51, x_230_52, x_230_53, x_230_56, x_230_57, x_230_60, x_230_61, x_230_64, x_230_65, x_230_66, o_124 hwH, w_124_18 hwH, w_124_20 hwH, w_124_21 hwH, w_124_55 hwH, o_134 hwH, iOk_lt (k := 134) (by decide), iRd_lt (k := 134) (by decide), show LN 134 = 8 from rfl, o_136 hwH, iOk_lt (k := 136) (by decide), iRd_lt (k := 136) (by decide), show LN 136 = 48 from rfl, o_137 hwH, iOk_lt (k := 137) (by decide), iRd_lt (k := 137) (by decide), show LN 137 = 48 from rfl, o_157 hwH, iOk_lt (k := 157) (by decide), iRd_lt (k := 157) (by decide), show LN 157 = 4 from rfl, cl2_i, cl2_r, cl2_n, cl2_l, tl_s, tl_n, true_and, and_true, Option.some.injEq, exists_eq_left', Bool.and_self, Bool.true_and, Bool.and_true, Bool.or_true, Bool.true_or, i_10, i_00, if_true, if_false, not_true_eq_false, not_false_eq_true, and_false, false_and, okp_sI, okp_sL, okp_aI, okp_aL, hR_sI, hR_sL, hR_aI, hR_aL, inb_nI (n := 8) hs (by decide), nI_clamp (n := s) (by omega), DH.2.2.1, mv_ix hs (show i + 1 < 6 by omega), inb_nI (n := 48) (show 6 * s + (i + 1) < 48 by omega) (by decide), nI_clamp (n := 6 * s + (i + 1)) (by omega), q2, q3, h3, n0, show inb 0 4 = true from rfl, cl_0, a0]
      rw [if_neg (nI_ge hlt (by omega)), e0]
      by_cases z : iv (sx (i + 1)) < mnF (fun j => iv (sx j)) i
      · rw [if_neg (Int32.not_le.mpr z), if_pos z]
      · rw [if_pos (Int32.not_lt.mp z), if_neg z]
    have t2 : ∀ G, WF G → hI G 157 1 = mxF (fun j => iv (sx j)) i → ∀ d Q, Tr sc d 230 (67, [some (.ref 124), some (.int (nI s)), some (.int (nI (i + 1))), some (.int (iv (sx (i + 1)))), some (.int (iv (sy (i + 1))))], [], G) Q = Tr sc d 230 (97, [some (.ref 124), some (.int (nI s)), some (.int (nI (i + 1))), some (.int (iv (sx (i + 1)))), some (.int (iv (sy (i + 1))))], [], sI G 157 1 (mxF (fun j => iv (sx j)) (i + 1))) Q := by
      intro G hG g d Q
      simp only [x_230_67, x_230_68, x_230_71, x_230_72, x_230_73, x_230_76, x_230_77, x_230_78, x_230_81, x_230_82, x_230_83, x_230_86, x_230_87, x_230_90, x_230_91, x_230_94, x_230_95, x_230_96, o_124 hG, w_124_55 hG, o_157 hG, iOk_lt (k := 157) (by decide), iRd_lt (k := 157) (by decide), show LN 157 = 4 from rfl, cl2_i, cl2_r, cl2_n, cl2_l, tl_s, tl_n, true_and, and_true, Option.some.injEq, exists_eq_left', Bool.and_self, Bool.true_and, Bool.and_true, Bool.or_true, Bool.true_or, i_10, i_00, if_true, if_false, not_true_eq_false, not_false_eq_true, and_false, false_and, okp_sI, okp_sL, okp_aI, okp_aL, hR_sI, hR_sL, hR_aI, hR_aL, n0, show inb 1 4 = true from rfl, show (1 : Int32).toNatClampNeg = 1 from rfl, g]
      rw [e1]
      by_cases z : mxF (fun j => iv (sx j)) i < iv (sx (i + 1))
      · rw [if_neg (Int32.not_le.mpr z), if_pos z]
      · rw [if_pos (Int32.not_lt.mp z), if_neg z]
    have t3 : ∀ G, WF G → hI G 157 2 = mnF (fun j => iv (sy j)) i → ∀ d Q, Tr sc d 230 (97, [some (.ref 124), some (.int (nI s)), some (.int (nI (i + 1))), some (.int (iv (sx (i + 1)))), some (.int (iv (sy (i + 1))))], [], G) Q = Tr sc d 230 (129, [some (.ref 124), some (.int (nI s)), some (.int (nI (i + 1))), some (.int (iv (sx (i + 1)))), some (.int (iv (sy (i + 1))))], [], sI G 157 2 (mnF (fun j => iv (sy j)) (i + 1))) Q := by
      intro G hG g d Q
      simp only [x_230_97, x_230_98, x_230_101, x_230_102, x_230_103, x_230_106, x_230_108, x_230_109, x_230_112, x_230_113, x_230_114, x_230_117, x_230_119, x_230_122, x_230_123, x_230_126, x_230_127, x_230_128, o_124 hG, w_124_55 hG, o_157 hG, iOk_lt (k := 157) (by decide), iRd_lt (k := 157) (by decide), show LN 157 = 4 from rfl, cl2_i, cl2_r, cl2_n, cl2_l, tl_s, tl_n, true_and, and_true, Option.some.injEq, exists_eq_left', Bool.and_self, Bool.true_and, Bool.and_true, Bool.or_true, Bool.true_or, i_10, i_00, if_true, if_false, not_true_eq_false, not_false_eq_true, and_false, false_and, okp_sI, okp_sL, okp_aI, okp_aL, hR_sI, hR_sL, hR_aI, hR_aL, n0, show inb 2 4 = true from rfl, show (2 : Int32).toNatClampNeg = 2 from rfl, g]
      rw [e2]
      by_cases z : iv (sy (i + 1)) < mnF (fun j => iv (sy j)) i
      · rw [if_neg (Int32.not_le.mpr z), if_pos z]
      · rw [if_pos (Int32.not_lt.mp z), if_neg z]
    have t4 : ∀ G, WF G → hI G 157 3 = mxF (fun j => iv (sy j)) i → ∀ d Q, Tr sc d 230 (129, [some (.ref 124), some (.int (nI s)), some (.int (nI (i + 1))), some (.int (iv (sx (i + 1)))), some (.int (iv (sy (i + 1))))], [], G) Q = Tr sc d 230 (2, [some (.ref 124), some (.int (nI s)), some (.int (nI (i + 1 + 1))), some (.int (iv (sx (i + 1)))), some (.int (iv (sy (i + 1))))], [], sI G 157 3 (mxF (fun j => iv (sy j)) (i + 1))) Q := by
      intro G hG g d Q
      simp only [x_230_129, x_230_130, x_230_133, x_230_134, x_230_135, x_230_138, x_230_140, x_230_141, x_230_144, x_230_145, x_230_146, x_230_149, x_230_151, x_230_154, x_230_155, x_230_158, x_230_159, x_230_160, x_230_161, x_230_164, o_124 hG, w_124_55 hG, o_157 hG, iOk_lt (k := 157) (by decide), iRd_lt (k := 157) (by decide), show LN 157 = 4 from rfl, cl2_i, cl2_r, cl2_n, cl2_l, tl_s, tl_n, true_and, and_true, Option.some.injEq, exists_eq_left', Bool.and_self, Bool.true_and, Bool.and_true, Bool.or_true, Bool.true_or, i_10, i_00, if_true, if_false, not_true_eq_false, not_false_eq_true, and_false, false_and, okp_sI, okp_sL, okp_aI, okp_aL, hR_sI, hR_sL, hR_aI, hR_aL, n0, show inb 3 4 = true from rfl, show (3 : Int32).toNatClampNeg = 3 from rfl, g, nI_1]
      rw [e3]
      by_cases z : mxF (fun j => iv (sy j)) i < iv (sy (i + 1))
      · rw [if_neg (Int32.not_le.mpr z), if_pos z]
      · rw [if_pos (Int32.not_lt.mp z), if_neg z]
    obtain ⟨H', F', a', eq'⟩ := ih (i + 1) (sI (sI (sI (sI H 157 0 (mnF (fun j => iv (sx j)) (i + 1))) 157 1 (mxF (fun j => iv (sx j)) (i + 1))) 157 2 (mnF (fun j => iv (sy j)) (i + 1))) 157 3 (mxF (fun j => iv (sy j)) (i + 1))) (by omega) ((((F.sI rfl).sI rfl).sI rfl).sI rfl) ⟨by rw [rd_ne (by omega), rd_ne (by omega), rd_ne (by omega), rd_eq], by rw [rd_ne (by omega), rd_ne (by omega), rd_eq], by rw [rd_ne (by omega), rd_eq], rd_eq⟩
    refine ⟨H', F', a', fun d Q l3 l4 h3 => ?_⟩
    rw [t1 d Q l3 l4 h3, t2 (sI H 157 0 (mnF (fun j => iv (sx j)) (i + 1))) hwH (by rw [rd_ne (by omega)]; exact a1), t3 (sI (sI H 157 0 (mnF (fun j => iv (sx j)) (i + 1))) 157 1 (mxF (fun j => iv (sx j)) (i + 1))) hwH (by rw [rd_ne (by omega), rd_ne (by omega)]; exact a2), t4 (sI (sI (sI H 157 0 (mnF (fun j => iv (sx j)) (i + 1))) 157 1 (mxF (fun j => iv (sx j)) (i + 1))) 157 2 (mnF (fun j => iv (sy j)) (i + 1))) hwH (by rw [rd_ne (by omega), rd_ne (by omega), rd_ne (by omega)]; exact a3)]
    exact eq' d Q _ _ rfl
theorem m_setBounds (hw : WF h) (hs : s < 8) (D : ShM h s kd b M tn sx sy ex) (hM : 1 ≤ M ∧ M ≤ 6) : ∃ H', Fq (fun a _ => a = 157) h H' ∧ (hI H' 157 0 = mnF (fun j => iv (sx j)) (M - 1) ∧ hI H' 157 1 = mxF (fun j => iv (sx j)) (M - 1) ∧ hI H' 157 2 = mnF (fun j => iv (sy j)) (M - 1) ∧ hI H' 157 3 = mxF (fun j => iv (sy j)) (M - 1)) ∧ ∀ d Q, Tr sc d 230 (ent0 230 [.ref 124, .int (nI s)] h) Q = Q (none, H') := by
  obtain ⟨-, q2, q3, -⟩ := D.2.2.2 0 (by omega)
  have ib : ∀ v, v < 4 → inb (nI v) 4 = true := fun v hv => inb_nI hv (by decide)
  obtain ⟨H', F', a', eq'⟩ := m_sbd (sc := sc) hw hs D hM (M - 1) 0 (sI (sI (sI (sI h 157 0 (iv (sx 0))) 157 1 (iv (sx 0))) 157 2 (iv (sy 0))) 157 3 (iv (sy 0))) (by omega) ((((Fq.rf.sI (P := fun a _ => a = 157) rfl).sI rfl).sI rfl).sI rfl) ⟨by rw [rd_ne (by omega), rd_ne (by omega), rd_ne (by omega), rd_eq]; rfl, by rw [rd_ne (by omega), rd_ne (by omega), rd_eq]; rfl, by rw [rd_ne (by omega), rd_eq]; rfl, by rw [rd_eq]; rfl⟩
  refine ⟨H', F', a', fun d Q => ?_⟩
  have mx : (6 : Int32) * nI s + 0 = nI (6 * s + 0) := by
    have := mv_ix (b := 0) hs (by omega)
    rwa [nI_0] at this
  rw [e_230]
  simp only [x_230_0, x_230_1, cl2_i, cl2_r, cl2_n, cl2_l, tl_s, tl_n, true_and, and_true, Option.some.injEq, exists_eq_left', Bool.and_self, Bool.true_and, Bool.and_true, Bool.or_true, Bool.true_or, i_10, i_00, if_true, if_false, not_true_eq_false, not_false_eq_true, and_false, false_and, okp_sI, okp_sL, okp_aI, okp_aL, hR_sI, hR_sL, hR_aI, hR_aL]
  rw [x_230_2]
  simp only [x_230_3, x_230_4, x_230_7, x_230_8, x_230_9, x_230_12, x_230_13, x_230_16, x_230_18, x_230_19, x_230_20, x_230_21, x_230_22, x_230_23, x_230_24, x_230_25, x_230_28, x_230_30, x_230_31, x_230_32, x_230_33, x_230_34, x_230_35, x_230_37, x_230_38, x_230_41, x_230_42, x_230_43, x_230_46, x_230_47, x_230_48, x_230_51, x_230_52, x_230_53, x_230_56, x_230_57, x_230_60, x_230_61, x_230_64, x_230_65, x_230_66, x_230_67, x_230_68, x_230_71, x_230_72, x_230_73, x_230_76, x_230_77, x_230_78, x_230_81, x_230_82, x_230_83, x_230_86, x_230_87, x_230_90, x_230_91, x_230_94, x_230_95, x_230_96, x_230_97, x_230_98, x_230_101, x_230_102, x_230_103, x_230_106, x_230_108, x_230_109, x_230_112, x_230_113, x_230_114, x_230_117, x_230_119, x_230_122, x_230_123, x_230_126, x_230_127, x_230_128, x_230_129, x_230_130, x_230_133, x_230_134, x_230_135, x_230_138, x_230_140, x_230_141, x_230_144, x_230_145, x_230_146, x_230_149, x_230_151, x_230_154, x_230_155, x_230_158, x_230_159, x_230_160, x_230_161, x_230_164, o_124 hw, w_124_18 hw, w_124_20 hw, w_124_21 hw, w_124_55 hw, o_134 hw, iOk_lt (k := 134) (by decide), iRd_lt (k := 134) (by decide), show LN 134 = 8 from rfl, o_136 hw, iOk_lt (k := 136) (by decide), iRd_lt (k := 136) (by decide), show LN 136 = 48 from rfl, o_137 hw, iOk_lt (k := 137) (by decide), iRd_lt (k := 137) (by decide), show LN 137 = 48 from rfl, o_157 hw, iOk_lt (k := 157) (by decide), iRd_lt (k := 157) (by decide), show LN 157 = 4 from rfl, cl2_i, cl2_r, cl2_n, cl2_l, tl_s, tl_n, true_and, and_true, Option.some.injEq, exists_eq_left', Bool.and_self, Bool.true_and, Bool.and_true, Bool.or_true, Bool.true_or, i_10, i_00, if_true, if_false, not_true_eq_false, not_false_eq_true, and_false, false_and, okp_sI, okp_sL, okp_aI, okp_aL, hR_sI, hR_sL, hR_aI, hR_aL, inb_nI (n := 8) hs (by decide), nI_clamp (n := s) (by omega), D.2.2.1, mx, inb_nI (n := 48) (show 6 * s + 0 < 48 by omega) (by decide), nI_clamp (n := 6 * s + 0) (by omega), q2, q3, show inb 0 4 = true from rfl, cl_0, show inb 1 4 = true from rfl, show (1 : Int32).toNatClampNeg = 1 from rfl, show inb 2 4 = true from rfl, show (2 : Int32).toNatClampNeg = 2 from rfl, show inb 3 4 = true from rfl, show (3 : Int32).toNatClampNeg = 3 from rfl]
  rw [if_neg (show ¬ nI M ≤ 0 from nI_nle (by omega) (by omega))]
  exact eq' d Q _ _ rfl
theorem m_isWithin (hw : WF h) (hs : s < 8) (D : ShM h s kd b M tn sx sy ex) (I : BoI h a1 a2 c1 c2) (B : WkB b M q a1 a2 c1 c2 sx sy) (hp : Bn9 p) : Tr sc (d + 1) 231 (ent0 231 [.ref 124, .int (nI s), .int (iv p.1), .int (iv p.2), .int (iv q)] h) Q = Q (some (.int (bo (Wit b q a1 a2 c1 c2 p))), h) := by
  obtain ⟨i0, i1, i2, i3⟩ := I
  obtain ⟨hb, hM, hq, h1, h2, h3, h4, -⟩ := B
  have r1 := q_b hq h1
  have r2 := q_b hq h2
  have r3 := q_b hq h3
  have r4 := q_b hq h4
  have m1 := bm_r hb hp.1
  have m2 := bm_r hb hp.2
  have eb : nI b - 1 = iv ((b : Int) - 1) := by rw [iv_n, show (1 : Int32) = iv 1 from rfl, iv_sub]
  rw [e_231]
  unfold Wit
  rw [bo_d]
  simp only [x_231_0, x_231_1, x_231_4, x_231_5, x_231_6, x_231_7, x_231_8, x_231_10, x_231_12, x_231_13, x_231_14, x_231_16, x_231_17, x_231_20, x_231_21, x_231_22, x_231_23, x_231_25, x_231_26, x_231_29, x_231_30, x_231_31, x_231_32, x_231_35, x_231_38, x_231_40, x_231_41, x_231_42, x_231_44, x_231_45, x_231_48, x_231_49, x_231_50, x_231_51, x_231_53, x_231_54, x_231_57, x_231_58, x_231_59, x_231_60, x_231_63, x_231_66, x_231_67, x_231_70, x_231_71, o_124 hw, w_124_17 hw, w_124_55 hw, o_133 hw, iOk_lt (k := 133) (by decide), iRd_lt (k := 133) (by decide), show LN 133 = 8 from rfl, o_157 hw, iOk_lt (k := 157) (by decide), iRd_lt (k := 157) (by decide), show LN 157 = 4 from rfl, cl2_i, cl2_r, cl2_n, cl2_l, tl_s, tl_n, true_and, and_true, Option.some.injEq, exists_eq_left', Bool.and_self, Bool.true_and, Bool.and_true, Bool.or_true, Bool.true_or, i_10, i_00, if_true, if_false, not_true_eq_false, not_false_eq_true, and_false, false_and, okp_sI, okp_sL, okp_aI, okp_aL, hR_sI, hR_sL, hR_aI, hR_aL, inb_nI (n := 8) hs (by decide), nI_clamp (n := s) (by omega), D.2.1, eb, show inb 0 4 = true from rfl, cl_0, show inb 1 4 = true from rfl, show (1 : Int32).toNatClampNeg = 1 from rfl, show inb 2 4 = true from rfl, show (2 : Int32).toNatClampNeg = 2 from rfl, show inb 3 4 = true from rfl, show (3 : Int32).toNatClampNeg = 3 from rfl, i0, i1, i2, i3, iv_mul, m_in, bI_0, iv_le (show R3 (q * a1) from ⟨by omega, by omega⟩) m1, iv_le m1 (show R3 (q * a2) from ⟨by omega, by omega⟩), iv_le (show R3 (q * c1) from ⟨by omega, by omega⟩) m2, iv_le m2 (show R3 (q * c2) from ⟨by omega, by omega⟩), vp_b0, vp_b1]
  by_cases z1 : q * a1 ≤ ((b : Int) - 1) * p.1 ∧ ((b : Int) - 1) * p.1 ≤ q * a2
  · rw [if_neg (fun w => w z1)]
    by_cases z2 : q * c1 ≤ ((b : Int) - 1) * p.2 ∧ ((b : Int) - 1) * p.2 ≤ q * c2
    · rw [if_neg (fun w => w z2), if_pos ⟨z1, z2⟩]
    · rw [if_pos z2, if_neg (fun w => z2 w.2)]
  · rw [if_pos z1, if_neg (fun w => z1 w.1)]
/-- where a place stands; the last that is like it -/
theorem m_comeAt (hw : WF h) (A : CoA h L) (hl : L.length ≤ 2000) (hn : L.Nodup) (hb : ∀ p, p ∈ L → Bnd p) (hp : Bn9 p) : ((∀ r, r < L.length → L.getD r pt0 = p → ∀ d Q, Tr sc d 232 (ent0 232 [.ref 124, .int (iv p.1), .int (iv p.2)] h) Q = Q (some (.int (nI r)), h)) ∧ (¬ p ∈ L → ∀ d Q, Tr sc d 232 (ent0 232 [.ref 124, .int (iv p.1), .int (iv p.2)] h) Q = Q (some (.int (-9)), h))) := by
  obtain ⟨g1, g2⟩ := b9_r hp
  have key : ∀ (m i : Nat) (v : Int32), i + m = L.length → ∀ d Q, Tr sc d 232 (6, [some (.ref 124), some (.int (iv p.1)), some (.int (iv p.2)), some (.int v), some (.int (nI i))], [], h) Q = Q (some (.int ((List.range' i m).foldl (fun v j => if L.getD j pt0 = p then nI j else v) v)), h) := by
    intro m
    induction m with
    | zero =>
      intro i v hi d Q
      have ei : i = L.length := by omega
      subst ei
      rw [x_232_6]
      simp only [x_232_8, x_232_9, x_232_12, o_124 hw, x_232_50, x_232_51, cl2_i, cl2_r, cl2_n, cl2_l, tl_s, tl_n, true_and, and_true, Option.some.injEq, exists_eq_left', Bool.and_self, Bool.true_and, Bool.and_true, Bool.or_true, Bool.true_or, i_10, i_00, if_true, if_false, not_true_eq_false, not_false_eq_true, and_false, false_and, okp_sI, okp_sL, okp_aI, okp_aL, hR_sI, hR_sL, hR_aI, hR_aL, A.1]
      rw [if_pos (Int32.le_refl _)]
      rfl
    | succ m ih =>
      intro i v hi d Q
      have hlt : i < L.length := by omega
      obtain ⟨b1, b2⟩ := A.2 i hlt
      obtain ⟨⟨u1, u2⟩, u3, u4⟩ := hb _ (gd_mem hlt)
      have e1 : (iv (L.getD i pt0).1 = iv p.1) = ((L.getD i pt0).1 = p.1) := iv_eq ⟨by omega, by omega⟩ g1
      have e2 : (iv (L.getD i pt0).2 = iv p.2) = ((L.getD i pt0).2 = p.2) := iv_eq ⟨by omega, by omega⟩ g2
      rw [x_232_6]
      simp only [x_232_8, x_232_9, x_232_12, x_232_15, x_232_16, x_232_19, x_232_21, x_232_22, x_232_23, x_232_26, x_232_27, x_232_30, x_232_32, x_232_33, x_232_34, x_232_37, x_232_39, x_232_42, x_232_43, x_232_44, x_232_47, o_124 hw, w_124_51 hw, w_124_52 hw, o_153 hw, iOk_lt (k := 153) (by decide), iRd_lt (k := 153) (by decide), show LN 153 = 2001 from rfl, o_154 hw, iOk_lt (k := 154) (by decide), iRd_lt (k := 154) (by decide), show LN 154 = 2001 from rfl, cl2_i, cl2_r, cl2_n, cl2_l, tl_s, tl_n, true_and, and_true, Option.some.injEq, exists_eq_left', Bool.and_self, Bool.true_and, Bool.and_true, Bool.or_true, Bool.true_or, i_10, i_00, if_true, if_false, not_true_eq_false, not_false_eq_true, and_false, false_and, okp_sI, okp_sL, okp_aI, okp_aL, hR_sI, hR_sL, hR_aI, hR_aL, A.1, inb_nI (n := 2001) (show i < 2001 by omega) (by decide), nI_clamp (n := i) (by omega), b1, b2, e1, e2, nI_1]
      rw [if_neg (nI_ge hlt (by omega)), List.range'_succ, List.foldl_cons]
      by_cases z1 : (L.getD i pt0).1 = p.1
      · rw [if_pos z1]
        by_cases z2 : (L.getD i pt0).2 = p.2
        · rw [if_pos z2, if_pos (Prod.ext z1 z2)]
          exact ih (i + 1) _ (by omega) d Q
        · rw [if_neg z2, if_neg (fun w => z2 (by rw [w]))]
          exact ih (i + 1) _ (by omega) d Q
      · rw [if_neg z1, if_neg (fun w => z1 (by rw [w]))]
        exact ih (i + 1) _ (by omega) d Q
  have fin : ∀ (m i r : Nat) (v : Int32), i + m = L.length → r < L.length → L.getD r pt0 = p → (v = nI r ∨ i ≤ r) → (r < i → v = nI r) → (List.range' i m).foldl (fun v j => if L.getD j pt0 = p then nI j else v) v = nI r := by
    intro m
    induction m with
    | zero =>
      intro i r v h1 h2 h3 h4 h5
      exact h5 (by omega)
    | succ m ih =>
      intro i r v h1 h2 h3 h4 h5
      rw [List.range'_succ, List.foldl_cons]
      by_cases z : L.getD i pt0 = p
      · have er : i = r := gd_inj hn (by omega) h2 (by rw [z, h3])
        rw [if_pos z]
        exact ih (i + 1) r _ (by omega) h2 h3 (Or.inl (by rw [er])) (fun _ => by rw [er])
      · rw [if_neg z]
        have ne : i ≠ r := fun w => z (by rw [w]; exact h3)
        refine ih (i + 1) r _ (by omega) h2 h3 ?_ (fun w => h5 (by omega))
        rcases h4 with w | w
        · exact Or.inl w
        · exact Or.inr (by omega)
  have out : ∀ (m i : Nat) (v : Int32), i + m = L.length → ¬ p ∈ L → (List.range' i m).foldl (fun v j => if L.getD j pt0 = p then nI j else v) v = v := by
    intro m
    induction m with
    | zero => intro i v h1 h2; rfl
    | succ m ih =>
      intro i v h1 h2
      rw [List.range'_succ, List.foldl_cons, if_neg (fun z => h2 (by rw [← z]; exact gd_mem (by omega)))]
      exact ih (i + 1) v (by omega) h2
  refine ⟨fun r hr er d Q => ?_, fun ho d Q => ?_⟩
  · rw [e_232]
    simp only [x_232_0, x_232_2, x_232_3, x_232_4, cl2_i, cl2_r, cl2_n, cl2_l, tl_s, tl_n, true_and, and_true, Option.some.injEq, exists_eq_left', Bool.and_self, Bool.true_and, Bool.and_true, Bool.or_true, Bool.true_or, i_10, i_00, if_true, if_false, not_true_eq_false, not_false_eq_true, and_false, false_and, okp_sI, okp_sL, okp_aI, okp_aL, hR_sI, hR_sL, hR_aI, hR_aL]
    refine (key L.length 0 (-9) (by omega) d Q).trans ?_
    rw [fin L.length 0 r (-9) (by omega) hr er (Or.inr (Nat.zero_le _)) (fun w => absurd w (Nat.not_lt_zero _))]
  · rw [e_232]
    simp only [x_232_0, x_232_2, x_232_3, x_232_4, cl2_i, cl2_r, cl2_n, cl2_l, tl_s, tl_n, true_and, and_true, Option.some.injEq, exists_eq_left', Bool.and_self, Bool.true_and, Bool.and_true, Bool.or_true, Bool.true_or, i_10, i_00, if_true, if_false, not_true_eq_false, not_false_eq_true, and_false, false_and, okp_sI, okp_sL, okp_aI, okp_aL, hR_sI, hR_sL, hR_aI, hR_aL]
    refine (key L.length 0 (-9) (by omega) d Q).trans ?_
    rw [out L.length 0 (-9) (by omega) ho]
end WM
