/-! ===== ledBack: class and model alike ===== -/
section L2
variable {sc : Nat × (Nat → Int32)} {d : Nat} {Q : PRes → Prop} {h h' h1 h2 H : PH} {s r b N n : Nat} {x y z w : Int32}
theorem both_ledBack (hc : CM h) : Both sc 108 190 [.int x, .int y] h := by
  unfold Both
  obtain ⟨hw, hf, hr, ht, hs⟩ := id hc
  by_cases e0 : (0 ≤ x ∧ x < 8) ∧ (0 ≤ y ∧ y < 6)
  · obtain ⟨s, hsn, rfl⟩ := ir_of (n := 8) (by decide) e0.1
    obtain ⟨r, hrn, rfl⟩ := ir_of (n := 6) (by decide) e0.2
    obtain ⟨v1, v2, v3, v4, v5⟩ := hw.row hrn
    have me : ∀ (H1 : PH) (K : PRes → Prop), WF H1 → Tr sc 19 190 (ent0 190 [.ref 124, .int (nI s), .int (nI r)] H1) K = if 0 ≤ hI H1 126 r then (if 2 ≤ hI H1 126 r ∧ hI H1 126 r ≤ 4 then Tr sc 19 190 (53, [some (.ref 124), some (.int (nI s)), some (.int (nI r)), some (.int (hI H1 126 r)), none, none, none, none, none], [], H1) K else K (some (.int (-3)), refm H1 5)) else K (some (.int (-3)), refm H1 1) := by
      intro H1 K hw1
      rw [e_190]
      simp only [x_190_0, x_190_1, x_190_4, x_190_7, x_190_8, x_190_11, x_190_14, x_190_15, x_190_16, x_190_17, x_190_20, x_190_21, x_190_22, x_190_25, x_190_26, x_190_27, x_190_30, x_190_31, x_190_32, x_190_35, x_190_36, x_190_37, x_190_38, x_190_39, x_190_40, x_190_41, x_190_44, x_190_47, x_190_48, x_190_49, x_190_52, o_124 hw1, w_124_6 hw1, o_126 hw1, iOk_lt (k := 126) (by decide), iRd_lt (k := 126) (by decide), show LN 126 = 6 from rfl, cl2_i, cl2_r, cl2_n, cl2_l, tl_s, tl_n, true_and, and_true, Option.some.injEq, exists_eq_left', Bool.and_self, Bool.true_and, Bool.and_true, Bool.or_true, Bool.true_or, i_10, i_00, if_true, if_false, not_true_eq_false, not_false_eq_true, and_false, false_and, okp_sI, okp_sL, okp_aI, okp_aL, hR_sI, hR_sL, hR_aI, hR_aL, m_isShape, m_isRow, bI_k7 hsn, bI_k5 hrn, inb_nI (n := 6) hrn (by decide), nI_clamp (n := r) (by omega), m_meets_1 hw1, m_meets_5 hw1, m_in, bI_0]
      by_cases q : 2 ≤ hI H1 126 r ∧ hI H1 126 r ≤ 4
      · simp only [q, not_true_eq_false, if_false, if_true, and_self]
      · simp only [q, not_false_eq_true, if_true, if_false]
    have rf : ∀ f, f < 6 → hI (refu h f) 126 r = hI h 126 r := fun f _ => refu_I (by decide) (by decide)
    rw [e_108]
    simp only [x_108_0, x_108_1, x_108_4, x_108_7, x_108_8, x_108_11, x_108_14, x_108_15, x_108_16, x_108_17, x_108_20, x_108_21, x_108_22, x_108_25, x_108_28, x_108_29, x_108_30, x_108_33, x_108_34, x_108_35, x_108_38, x_108_39, x_108_40, x_108_43, x_108_44, x_108_45, x_108_46, x_108_49, x_108_50, x_108_51, x_108_54, x_108_55, x_108_56, x_108_59, o_0 hw, w_0_0 hw, o_1 hw, show LN 1 = 6 from rfl, cl2_i, cl2_r, cl2_n, cl2_l, tl_s, tl_n, true_and, and_true, Option.some.injEq, exists_eq_left', Bool.and_self, Bool.true_and, Bool.and_true, Bool.or_true, Bool.true_or, i_10, i_00, if_true, if_false, not_true_eq_false, not_false_eq_true, and_false, false_and, okp_sI, okp_sL, okp_aI, okp_aL, hR_sI, hR_sL, hR_aI, hR_aL, c_isShape, c_isRow, isShape_t hsn, isRow_t hrn, inb_nI (n := 6) hrn (by decide), nI_clamp (n := r) (by omega), v1, v3, c_isMiss v3, bI_0, c_refuse_1 hw, c_refuse_5 hw]
    by_cases e1 : hI h (48 + 2 * r) 1 < 0
    · rw [if_neg (fun q => q e1), me _ _ (WF_refu hw), rf 1 (by decide), if_neg (by rw [← sz_neg hr hrn]; exact e1)]
      first | exact cm_ref (by decide) hc | exact ⟨rfl, cm_ref (by decide) hc⟩ | exact ⟨⟨_, rfl, rfl⟩, cm_ref (by decide) hc⟩
    · rw [if_pos e1]
      have n2 : 0 ≤ hI h 126 r := Classical.byContradiction (fun q => e1 (by rw [sz_neg hr hrn]; exact q))
      obtain ⟨g1, g2⟩ := sz_eq hr hrn n2
      have size : ¬ (2 ≤ hI h 126 r ∧ hI h 126 r ≤ 4) → Tr sc 19 190 (ent0 190 [.ref 124, .int (nI s), .int (nI r)] (refu h 5)) (fun r2 => r2.1 = some (Value.int (-3)) ∧ CM r2.2) := by
        intro q
        rw [me _ _ (WF_refu hw), rf 5 (by decide), if_pos n2, if_neg q]
        exact ⟨rfl, cm_ref (by decide) hc⟩
      by_cases q1 : hI h (48 + 2 * r) 1 < 2
      · rw [if_pos q1]
        exact size (fun z => Int32.not_lt.mpr z.1 (by rw [← g1]; exact q1))
      · rw [if_neg q1]
        by_cases q2 : hI h (48 + 2 * r) 1 ≤ 4
        · rw [if_pos q2]
          obtain ⟨N, hN4, eN⟩ := nI_of2 (x := hI h (48 + 2 * r) 1) (M := 4) (n := 4) rfl e1 q2
          have hN2 : 2 ≤ N := by
            have := Int32.not_lt.mp q1
            rw [eN] at this
            exact (nI_leI (a := 2) (b := N) (by decide) (by omega)).mp this
          have hN : 2 ≤ N ∧ N ≤ 4 := ⟨hN2, hN4⟩
          have hv : ∀ j, j < N → hI h 127 (40 * r + j) = hI h (49 + 2 * r) j := fun j hj => (hr r hrn).2 j (by omega)
          have mN : hI h 126 r = nI N := by rw [← g1]; exact eN
          have in24 : 2 ≤ nI N ∧ nI N ≤ 4 := ⟨nI_le (a := 2) hN2 (by omega), nI_le (b := 4) hN4 (by decide)⟩
          simp only [x_108_60, x_108_61, x_108_63, x_108_64, cl2_i, cl2_r, cl2_n, cl2_l, tl_s, tl_n, true_and, and_true, Option.some.injEq, exists_eq_left', Bool.and_self, Bool.true_and, Bool.and_true, Bool.or_true, Bool.true_or, i_10, i_00, if_true, if_false, not_true_eq_false, not_false_eq_true, and_false, false_and, okp_sI, okp_sL, okp_aI, okp_aL, hR_sI, hR_sL, hR_aI, hR_aL]
          rw [eN]
          have b16 := ldb_big (v := hI h (49 + 2 * r)) (N := N) N
          have b16' : N * N ≤ 4 * 4 := Nat.mul_le_mul hN4 hN4
          have unl : ∀ H1, WF H1 → H1 = refu h 3 → (¬ (∀ j, j < N → gB N (hI h (49 + 2 * r) j) = true) ∨ (∀ j, j < N → gB N (hI h (49 + 2 * r) j) = true) ∧ ¬ (1 ≤ (ldb (hI h (49 + 2 * r)) N N).length ∧ (ldb (hI h (49 + 2 * r)) N N).length ≤ 6)) → Tr sc 19 190 (ent0 190 [.ref 124, .int (nI s), .int (nI r)] H1) (fun r2 => r2.1 = some (Value.int (-3)) ∧ CM r2.2) := by
            intro H1 hw1 eH alt
            have i1 : hI H1 126 r = nI N := by rw [eH, rf 3 (by decide)]; exact mN
            rw [me _ _ hw1, i1, if_pos (nI_pos' (by omega)), if_pos in24]
            simp only [x_190_53, x_190_54, x_190_56, x_190_57, x_190_59, x_190_60, cl2_i, cl2_r, cl2_n, cl2_l, tl_s, tl_n, true_and, and_true, Option.some.injEq, exists_eq_left', Bool.and_self, Bool.true_and, Bool.and_true, Bool.or_true, Bool.true_or, i_10, i_00, if_true, if_false, not_true_eq_false, not_false_eq_true, and_false, false_and, okp_sI, okp_sL, okp_aI, okp_aL, hR_sI, hR_sL, hR_aI, hR_aL]
            have fin : CM (refm H1 3) := by rw [eH]; exact cm_ref (by decide) hc
            refine m_ct (d := 18) (v := hI h (49 + 2 * r)) hw1 hrn hN (fun j hj => by rw [eH, refu_I (by decide) (by decide)]; exact hv j hj) (fun a l7 l8 h7 => ?_) (fun a nn l7 l8 => ?_) N 0 1 0 none none rfl (by omega) (Or.inl ⟨rfl, fun j hj => by omega, rfl⟩)
            · rcases alt with q | ⟨-, q⟩
              · exact absurd a q
              · have nin : ¬ (1 ≤ nI (ldb (hI h (49 + 2 * r)) N N).length ∧ nI (ldb (hI h (49 + 2 * r)) N N).length ≤ 6) := fun z => q ⟨(nI_leI (a := 1) (by decide) (by omega)).mp z.1, (nI_leI (b := 6) (by omega) (by decide)).mp z.2⟩
                simp only [x_190_146, x_190_148, x_190_151, x_190_153, x_190_154, x_190_156, x_190_159, x_190_162, x_190_163, x_190_164, x_190_167, o_124 hw1, cl2_i, cl2_r, cl2_n, cl2_l, tl_s, tl_n, true_and, and_true, Option.some.injEq, exists_eq_left', Bool.and_self, Bool.true_and, Bool.and_true, Bool.or_true, Bool.true_or, i_10, i_00, if_true, if_false, not_true_eq_false, not_false_eq_true, and_false, false_and, okp_sI, okp_sL, okp_aI, okp_aL, hR_sI, hR_sL, hR_aI, hR_aL, m_in, bI_0, m_meets_3 hw1]
                rw [if_pos nin]
                first | exact fin | exact ⟨rfl, fin⟩ | exact ⟨⟨_, rfl, rfl⟩, fin⟩
            · simp only [x_190_146, x_190_148, x_190_151, x_190_153, x_190_154, x_190_156, x_190_159, x_190_162, x_190_163, x_190_164, x_190_167, o_124 hw1, cl2_i, cl2_r, cl2_n, cl2_l, tl_s, tl_n, true_and, and_true, Option.some.injEq, exists_eq_left', Bool.and_self, Bool.true_and, Bool.and_true, Bool.or_true, Bool.true_or, i_10, i_00, if_true, if_false, not_true_eq_false, not_false_eq_true, and_false, false_and, okp_sI, okp_sL, okp_aI, okp_aL, hR_sI, hR_sL, hR_aI, hR_aL, m_meets_3 hw1]
              first | exact fin | exact ⟨rfl, fin⟩ | exact ⟨⟨_, rfl, rfl⟩, fin⟩
          refine c_ct (d := 18) (N := N) (l6 := none) hw hrn hN (fun a l6 h6 => ?_) (fun a => Tr_mono (unl _ (WF_refu hw) rfl (Or.inl a)) (fun r q => ⟨⟨_, rfl, q.1⟩, q.2⟩)) N 0 none rfl (by omega) (fun j hj => by omega)
          have el := ldb_len (v := hI h (49 + 2 * r)) hN4 a N (Nat.le_refl _)
          rw [← el]
          simp only [x_108_121, x_108_123, x_108_126, x_108_128, x_108_130, x_108_133, x_108_134, x_108_135, x_108_138, o_0 hw, cl2_i, cl2_r, cl2_n, cl2_l, tl_s, tl_n, true_and, and_true, Option.some.injEq, exists_eq_left', Bool.and_self, Bool.true_and, Bool.and_true, Bool.or_true, Bool.true_or, i_10, i_00, if_true, if_false, not_true_eq_false, not_false_eq_true, and_false, false_and, okp_sI, okp_sL, okp_aI, okp_aL, hR_sI, hR_sL, hR_aI, hR_aL, c_refuse_3 hw]
          by_cases q3 : (ldb (hI h (49 + 2 * r)) N N).length = 0
          · rw [if_pos (by rw [q3]; rfl)]
            exact unl _ (WF_refu hw) rfl (Or.inr ⟨a, by omega⟩)
          · rw [if_neg (nI_ne0 (by omega) (by omega))]
            by_cases q4 : (ldb (hI h (49 + 2 * r)) N N).length ≤ 6
            · rw [if_pos (show nI (ldb (hI h (49 + 2 * r)) N N).length ≤ 6 from nI_le (b := 6) q4 (by decide))]
              have g : MvG (ldb (hI h (49 + 2 * r)) N N) := mvG_of ⟨by omega, q4⟩ (ldb_g hN4 N (Nat.le_refl _))
              have T : RwC h (48 + 2 * r) (49 + 2 * r) N (hI h (49 + 2 * r)) := ⟨v3, v2, v4, v5, eN, hN, fun _ _ => rfl, by omega, by omega⟩
              simp only [x_108_139, x_108_140, x_108_143, x_108_144, x_108_147, x_108_148, x_108_149, o_0 hw, w_0_0 hw, w_0_3 hw, o_4 hw, o_1 hw, show LN 1 = 6 from rfl, cl2_i, cl2_r, cl2_n, cl2_l, tl_s, tl_n, true_and, and_true, Option.some.injEq, exists_eq_left', Bool.and_self, Bool.true_and, Bool.and_true, Bool.or_true, Bool.true_or, i_10, i_00, if_true, if_false, not_true_eq_false, not_false_eq_true, and_false, false_and, okp_sI, okp_sL, okp_aI, okp_aL, hR_sI, hR_sL, hR_aI, hR_aL, inb_nI (n := 6) hrn (by decide), nI_clamp (n := r) (by omega), v1, o_4 hw]
              refine c_leadBack (d := 17) hw T q4 (fun H f D => ?_)
              have hwH := f.WF hw
              have fS : Fq Sc h H := f.wk (fun a b q => by unfold Sc; omega)
              simp only [x_108_152, x_108_153, x_108_154, o_0 hwH, cl2_i, cl2_r, cl2_n, cl2_l, tl_s, tl_n, true_and, and_true, Option.some.injEq, exists_eq_left', Bool.and_self, Bool.true_and, Bool.and_true, Bool.or_true, Bool.true_or, i_10, i_00, if_true, if_false, not_true_eq_false, not_false_eq_true, and_false, false_and, okp_sI, okp_sL, okp_aI, okp_aL, hR_sI, hR_sL, hR_aI, hR_aL]
              refine c_keep (d := 13) hwH hsn D g hN (fun H1 f1 c1 c2 c3 c4 => ?_)
              have hw1 := f1.WF hwH
              have f1u : Fq (Pu s) h H1 := (fS.wk (fun a b q => Or.inl q)).tr (f1.wk (fun a b q => show Pu s a b by unfold Pk Pg Pv Po at q; unfold Pu Sc; omega))
              simp only [x_108_157, cl2_i, cl2_r, cl2_n, cl2_l, tl_s, tl_n, true_and, and_true, Option.some.injEq, exists_eq_left', Bool.and_self, Bool.true_and, Bool.and_true, Bool.or_true, Bool.true_or, i_10, i_00, if_true, if_false, not_true_eq_false, not_false_eq_true, and_false, false_and, okp_sI, okp_sL, okp_aI, okp_aL, hR_sI, hR_sL, hR_aI, hR_aL]
              have i1 : hI H1 126 r = nI N := by rw [f1u.i (by unfold Pu Sc; omega)]; exact mN
              rw [me _ _ hw1, i1, if_pos (nI_pos' (by omega)), if_pos in24]
              simp only [x_190_53, x_190_54, x_190_56, x_190_57, x_190_59, x_190_60, cl2_i, cl2_r, cl2_n, cl2_l, tl_s, tl_n, true_and, and_true, Option.some.injEq, exists_eq_left', Bool.and_self, Bool.true_and, Bool.and_true, Bool.or_true, Bool.true_or, i_10, i_00, if_true, if_false, not_true_eq_false, not_false_eq_true, and_false, false_and, okp_sI, okp_sL, okp_aI, okp_aL, hR_sI, hR_sL, hR_aI, hR_aL]
              have hv1 : ∀ j, j < N → hI H1 127 (40 * r + j) = hI h (49 + 2 * r) j := fun j hj => by rw [f1u.i (by unfold Pu Sc; omega)]; exact hv j hj
              refine m_ct (d := 18) (v := hI h (49 + 2 * r)) hw1 hrn hN hv1 (fun _ l7 l8 h7 => ?_) (fun a' => absurd a a') N 0 1 0 none none rfl (by omega) (Or.inl ⟨rfl, fun j hj => by omega, rfl⟩)
              have yin : 1 ≤ nI (ldb (hI h (49 + 2 * r)) N N).length ∧ nI (ldb (hI h (49 + 2 * r)) N N).length ≤ 6 := ⟨nI_le (a := 1) (by omega) (by omega), nI_le (b := 6) q4 (by decide)⟩
              simp only [x_190_146, x_190_148, x_190_151, x_190_153, x_190_154, x_190_156, x_190_159, x_190_162, x_190_163, x_190_164, x_190_167, x_190_168, x_190_169, x_190_170, x_190_173, x_190_174, x_190_175, x_190_178, x_190_179, o_124 hw1, cl2_i, cl2_r, cl2_n, cl2_l, tl_s, tl_n, true_and, and_true, Option.some.injEq, exists_eq_left', Bool.and_self, Bool.true_and, Bool.and_true, Bool.or_true, Bool.true_or, i_10, i_00, if_true, if_false, not_true_eq_false, not_false_eq_true, and_false, false_and, okp_sI, okp_sL, okp_aI, okp_aL, hR_sI, hR_sL, hR_aI, hR_aL, m_in, bI_0]
              rw [if_neg (show ¬ ¬ (1 ≤ nI (ldb (hI h (49 + 2 * r)) N N).length ∧ nI (ldb (hI h (49 + 2 * r)) N N).length ≤ 6) from fun q => q yin)]
              have f2 : Fq Pz H1 (sI (sI H1 124 11 (nI N)) 124 12 0) := (Fq.rf.sI (by unfold Pz; omega)).sI (by unfold Pz; omega)
              refine m_lb_y (h := H1) (v := hI h (49 + 2 * r)) (bs := nI N) hw1 hrn hN hv1 q4 (fun H2 l7 l8 f2 D2 => ?_) N 0 _ _ _ (by omega) f2 ⟨rfl, rfl, fun i m e => by simp [ldb] at e⟩
              have hw2 := f2.WF hw1
              simp only [x_190_281, x_190_282, x_190_283, o_124 hw2, cl2_i, cl2_r, cl2_n, cl2_l, tl_s, tl_n, true_and, and_true, Option.some.injEq, exists_eq_left', Bool.and_self, Bool.true_and, Bool.and_true, Bool.or_true, Bool.true_or, i_10, i_00, if_true, if_false, not_true_eq_false, not_false_eq_true, and_false, false_and, okp_sI, okp_sL, okp_aI, okp_aL, hR_sI, hR_sL, hR_aI, hR_aL]
              refine m_take (d := 13) hw2 hsn D2 g hN (fun H3 I m1 => ?_)
              simp only [x_190_286, cl2_i, cl2_r, cl2_n, cl2_l, tl_s, tl_n, true_and, and_true, Option.some.injEq, exists_eq_left', Bool.and_self, Bool.true_and, Bool.and_true, Bool.or_true, Bool.true_or, i_10, i_00, if_true, if_false, not_true_eq_false, not_false_eq_true, and_false, false_and, okp_sI, okp_sL, okp_aI, okp_aL, hR_sI, hR_sL, hR_aI, hR_aL]
              obtain ⟨f3, m2, m3, m4⟩ := I
              have f3u : Fq (Pu s) h H3 := f1u.tr ((f2.wk (fun a b q => Or.inl (Pz_Sc q))).tr (f3.wk (fun a b q => show Pu s a b by unfold Pt Pd at q; unfold Pu Sc; omega)))
              have keep : ∀ a j, 68 ≤ a → a < 124 → hI H3 a j = hI H1 a j := fun a j q1 q2 => by
                rw [f3.i (by unfold Pt Pd; omega), f2.i (by unfold Pz; omega)]
              have fin : CM H3 := cm_take hc hsn f3u g hN (by rw [keep _ _ (by omega) (by omega)]; exact c1) (by rw [keep _ _ (by omega) (by omega)]; exact c2) (by rw [keep _ _ (by omega) (by omega)]; exact c3) (fun i hi => by rw [keep _ _ (by omega) (by omega), keep _ _ (by omega) (by omega), keep _ _ (by omega) (by omega)]; exact c4 i hi) m1 m2 m3 (fun i hi => ⟨(m4 i hi).1, (m4 i hi).2.1, (m4 i hi).2.2.1⟩)
              first | exact fin | exact ⟨rfl, fin⟩ | exact ⟨⟨_, rfl, rfl⟩, fin⟩
            · rw [if_neg (show ¬ nI (ldb (hI h (49 + 2 * r)) N N).length ≤ 6 from fun z => q4 ((nI_leI (b := 6) (by omega) (by decide)).mp z))]
              exact unl _ (WF_refu hw) rfl (Or.inr ⟨a, by omega⟩)
        · rw [if_neg q2]
          exact size (fun z => q2 (by rw [g1]; exact z.2))
  · have mod : Tr sc 19 190 (ent0 190 [.ref 124, .int x, .int y] h) (fun r2 => r2.1 = some (.int (-1)) ∧ CM r2.2) := by
      rw [e_190]
      simp only [x_190_0, x_190_1, x_190_4, x_190_7, x_190_8, x_190_11, x_190_14, x_190_15, o_124 hw, cl2_i, cl2_r, cl2_n, cl2_l, tl_s, tl_n, true_and, and_true, Option.some.injEq, exists_eq_left', Bool.and_self, Bool.true_and, Bool.and_true, Bool.or_true, Bool.true_or, i_10, i_00, if_true, if_false, not_true_eq_false, not_false_eq_true, and_false, false_and, okp_sI, okp_sL, okp_aI, okp_aL, hR_sI, hR_sL, hR_aI, hR_aL, m_isShape, m_isRow, bI_0, k7, k5]
      by_cases q1 : 0 ≤ x ∧ x < 8
      · rw [if_neg (fun z => z q1), if_pos (fun z => e0 ⟨q1, z⟩)]
        first | exact hc | exact ⟨rfl, hc⟩ | exact ⟨⟨_, rfl, rfl⟩, hc⟩
      · rw [if_pos q1]
        first | exact hc | exact ⟨rfl, hc⟩ | exact ⟨⟨_, rfl, rfl⟩, hc⟩
    rw [e_108]
    simp only [x_108_0, x_108_1, x_108_4, x_108_7, x_108_8, x_108_11, x_108_14, x_108_15, o_0 hw, cl2_i, cl2_r, cl2_n, cl2_l, tl_s, tl_n, true_and, and_true, Option.some.injEq, exists_eq_left', Bool.and_self, Bool.true_and, Bool.and_true, Bool.or_true, Bool.true_or, i_10, i_00, if_true, if_false, not_true_eq_false, not_false_eq_true, and_false, false_and, okp_sI, okp_sL, okp_aI, okp_aL, hR_sI, hR_sL, hR_aI, hR_aL, c_isShape, c_isRow, bI_0]
    by_cases q1 : 0 ≤ x ∧ x < 8
    · rw [if_neg (fun z => z q1), if_pos (fun z => e0 ⟨q1, z⟩)]
      exact mod
    · rw [if_pos q1]
      exact mod
end L2
