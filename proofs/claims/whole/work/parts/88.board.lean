/-! ===== board, broken ===== -/
section BR
variable {sc : Nat × (Nat → Int32)} {d : Nat} {Q : PRes → Prop} {h h' h1 H G : PH} {c k e i j l n t u b M N s a : Nat} {L P : List Pnt} {K : List Wrd} {p : Pnt} {kd x y z w : Int32} {tn : Nat → Nat} {sx sy ex : Nat → Int}
/-- the class's bounds and the model's are the same numbers -/
theorem bd_two (I : ClI h 16 e L) (PM : PtM H L P) (hn : (dd L).length ≠ 0) : ∃ a b c g, (hI h 16 6 = iv a ∧ hI h 16 7 = iv b ∧ hI h 16 8 = iv c ∧ hI h 16 9 = iv g) ∧ (hI H 124 41 = iv a ∧ hI H 124 42 = iv b ∧ hI H 124 43 = iv c ∧ hI H 124 44 = iv g) ∧ Lo (·.1) L a ∧ Hi (·.1) L b ∧ Lo (·.2) L c ∧ Hi (·.2) L g := by
  obtain ⟨-, -, -, -, -, -, -, i7⟩ := I
  obtain ⟨p1, -, p4, p5, p6, p7, p8, p9⟩ := PM
  have hL : L ≠ [] := fun z => hn (by rw [z]; rfl)
  have hP : P ≠ [] := fun z => hn (by rw [← p9, z]; rfl)
  obtain ⟨a, b, c, g, ⟨a1, a2⟩, ⟨b1, b2⟩, ⟨c1, c2⟩, g1, g2⟩ := i7 hL
  obtain ⟨a', b', c', g', ⟨a1', a2'⟩, ⟨b1', b2'⟩, ⟨c1', c2'⟩, g1', g2'⟩ := p5 hP
  have ea := Lo_u (Lo_cg p7 a1') a1
  have eb := Hi_u (Hi_cg p7 b1') b1
  have ec := Lo_u (Lo_cg p7 c1') c1
  have eg := Hi_u (Hi_cg p7 g1') g1
  subst ea eb ec eg
  exact ⟨_, _, _, _, ⟨a2, b2, c2, g2⟩, ⟨a2', b2', c2', g2'⟩, a1, b1, c1, g1⟩
theorem both_board (hc : CM h) : Both sc 118 209 [.int x, .int y, .int z] h := by
  have hw := hc.1
  refine glue_sh (x := x) (T := (0 ≤ y ∧ y ≤ 5) ∧ (0 ≤ z ∧ z ≤ 3)) (CC := fun Q => Tr sc 19 118 (37, [some (.ref 0), some (.int x), some (.int y), some (.int z), some (.int 0)], [], h) Q) (MC := fun h1 Q => Tr sc 19 209 (28, [some (.ref 124), some (.int x), some (.int y), some (.int z), some (.int 0)], [], h1) Q) hc (fun Q => ?_) (fun h1 Q hw1 => ?_) (fun s hs hx hT hA => ?_) (fun A B hAB q => Tr_mono q hAB)
  · rw [e_118]
    simp only [x_118_0, x_118_1, x_118_2, x_118_3, x_118_4, x_118_7, x_118_10, x_118_11, x_118_14, x_118_15, x_118_16, x_118_19, x_118_20, x_118_23, x_118_24, x_118_27, x_118_29, x_118_31, x_118_34, x_118_36, o_0 hw, cl2_i, cl2_r, cl2_n, cl2_l, tl_s, tl_n, true_and, and_true, Option.some.injEq, exists_eq_left', Bool.and_self, Bool.true_and, Bool.and_true, Bool.or_true, Bool.true_or, i_10, i_00, if_true, if_false, not_true_eq_false, not_false_eq_true, and_false, false_and, okp_sI, okp_sL, okp_aI, okp_aL, hR_sI, hR_sL, hR_aI, hR_aL, c_isStep, c_shR hw, bI_0, i_1m1, i_3m1, g_tw, g_nt]
    exact ite_congr (propext ⟨fun q => ⟨q.1.1, q.2, q.1.2⟩, fun q => ⟨⟨q.1, q.2.2⟩, q.2.1⟩⟩) (fun _ => rfl) (fun _ => rfl)
  · rw [e_209]
    simp only [x_209_0, x_209_1, x_209_2, x_209_3, x_209_6, x_209_9, x_209_10, x_209_11, x_209_12, x_209_13, x_209_14, x_209_15, x_209_18, x_209_20, x_209_22, x_209_25, x_209_27, o_124 hw1, cl2_i, cl2_r, cl2_n, cl2_l, tl_s, tl_n, true_and, and_true, Option.some.injEq, exists_eq_left', Bool.and_self, Bool.true_and, Bool.and_true, Bool.or_true, Bool.true_or, i_10, i_00, if_true, if_false, not_true_eq_false, not_false_eq_true, and_false, false_and, okp_sI, okp_sL, okp_aI, okp_aL, hR_sI, hR_sL, hR_aI, hR_aL, m_in, bI_0, m_aStep (d := 15) hw1, i_m1, i_m3, i_0, g_nt]
    exact ite_congr (propext ⟨fun q => ⟨q.1.1, q.1.2, q.2⟩, fun q => ⟨⟨q.1, q.2.1⟩, q.2.2⟩⟩) (fun _ => rfl) (fun _ => rfl)
  · subst hx
    obtain ⟨N, hN, rfl⟩ := nI_of2 (M := 5) (n := 5) rfl (Int32.not_lt.mpr hT.1.1) hT.1.2
    obtain ⟨z', hz, rfl⟩ := nI_of2 (M := 3) (n := 3) rfl (Int32.not_lt.mpr hT.2.1) hT.2.2
    obtain ⟨kd, b, M, tn, sx, sy, ex, W, C, D⟩ := sh_ab hA
    obtain ⟨w1, w2, -⟩ := hw.shape hs
    obtain ⟨H1, e, f1, I1, he, eq1⟩ := g_gather (sc := sc) hw hs C W hN
    have hw1 := f1.WF hw
    have fS := f1.wk (fun a b q => Pcl_Sc q)
    have i2 := I1.2.2.1
    have i0 := I1.1.2
    have e7 : rmC 16 = 7776 := rfl
    have D1 := D.fr fS (fun a j h1 h2 => by unfold Sc; omega)
    by_cases q : (dd ((Ws b M tn sx sy kd ex N).map ptW)).length = 0
    · rw [q] at i2
      simp only [x_118_37, x_118_38, x_118_41, x_118_42, x_118_45, x_118_46, x_118_47, x_118_48, o_0 hw, w_0_2 hw, w_0_7 hw, o_16 hw, o_3 hw, show LN 3 = 8 from rfl, x_118_51, x_118_52, x_118_55, x_118_58, x_118_61, x_118_62, x_118_63, x_118_66, o_0 hw1, w_0_7 hw1, o_16 hw1, cl2_i, cl2_r, cl2_n, cl2_l, tl_s, tl_n, true_and, and_true, Option.some.injEq, exists_eq_left', Bool.and_self, Bool.true_and, Bool.and_true, Bool.or_true, Bool.true_or, i_10, i_00, if_true, if_false, not_true_eq_false, not_false_eq_true, and_false, false_and, okp_sI, okp_sL, okp_aI, okp_aL, hR_sI, hR_sL, hR_aI, hR_aL, inb_nI (n := 8) hs (by decide), nI_clamp (n := s) (by omega), w1, w2, eq1, i2, nI_0, c_refuse_4 hw1]
      have hwu := WF_refu (f := 4) hw1
      have D3 : ShM (refu H1 4) s kd b M tn sx sy ex := D1.fr (Fq_fr fr_refu) (fun a j h1 h2 q => by omega)
      obtain ⟨H2, P, f2, PM, eq2⟩ := m_setPoints (sc := sc) (d := 16) hwu hs D3 W hN
      have hw2 := f2.WF hwu
      have p1 := PM.1
      have p9 := PM.2.2.2.2.2.2.2
      rw [p9, q] at p1
      refine ⟨hwu, by rw [refu_I (by decide) (by decide)]; exact fS.i (by unfold Sc; omega), ?_⟩
      simp only [x_209_28, x_209_29, x_209_30, x_209_31, o_124 hwu, x_209_34, x_209_35, x_209_38, x_209_41, x_209_42, x_209_43, x_209_46, o_124 hw2, x_209_93, cl2_i, cl2_r, cl2_n, cl2_l, tl_s, tl_n, true_and, and_true, Option.some.injEq, exists_eq_left', Bool.and_self, Bool.true_and, Bool.and_true, Bool.or_true, Bool.true_or, i_10, i_00, if_true, if_false, not_true_eq_false, not_false_eq_true, and_false, false_and, okp_sI, okp_sL, okp_aI, okp_aL, hR_sI, hR_sL, hR_aI, hR_aL, eq2, p1, nI_0, m_meets_4 hw2]
      first | exact cm_eR (by decide) hc fS (f2.wk (fun a b q => P47_Sc q)) | exact ⟨rfl, cm_eR (by decide) hc fS (f2.wk (fun a b q => P47_Sc q))⟩ | exact ⟨⟨_, rfl, rfl⟩, cm_eR (by decide) hc fS (f2.wk (fun a b q => P47_Sc q))⟩
    · have n0 : ¬ nI (dd ((Ws b M tn sx sy kd ex N).map ptW)).length = 0 := nI_ne0 (by omega) (by omega)
      have fin : ∀ v, (∀ (H2 : PH) (P : List Pnt), PtM H2 ((Ws b M tn sx sy kd ex N).map ptW) P → hI H2 124 (41 + z') = v) → (WF (sI H1 0 15 v) ∧ hI (sI H1 0 15 v) 134 s = hI h 134 s ∧ Tr sc 19 209 (28, [some (.ref 124), some (.int (nI s)), some (.int (nI N)), some (.int (nI z')), some (.int 0)], [], sI H1 0 15 v) (fun r2 => r2.1 = some (Value.int 1) ∧ CM r2.2)) := by
        intro v hv
        have hw3 : WF (sI H1 0 15 v) := hw1
        have D3 : ShM (sI H1 0 15 v) s kd b M tn sx sy ex := D1.fr (Fq.rf.sI (P := fun a b => a = 0) rfl) (fun a j h1 h2 q => by omega)
        obtain ⟨H2, P, f2, PM, eq2⟩ := m_setPoints (sc := sc) (d := 16) hw3 hs D3 W hN
        have hw2 := f2.WF hw3
        have p1 := PM.1
        have p9 := PM.2.2.2.2.2.2.2
        have vv := hv H2 P PM
        rw [p9] at p1
        refine ⟨hw3, by rw [rd_ne (by omega)]; exact fS.i (by unfold Sc; omega), ?_⟩
        simp only [x_209_28, x_209_29, x_209_30, x_209_31, o_124 hw3, x_209_34, x_209_35, x_209_38, o_124 hw2, x_209_49, x_209_50, x_209_51, cl2_i, cl2_r, cl2_n, cl2_l, tl_s, tl_n, true_and, and_true, Option.some.injEq, exists_eq_left', Bool.and_self, Bool.true_and, Bool.and_true, Bool.or_true, Bool.true_or, i_10, i_00, if_true, if_false, not_true_eq_false, not_false_eq_true, and_false, false_and, okp_sI, okp_sL, okp_aI, okp_aL, hR_sI, hR_sL, hR_aI, hR_aL, eq2, p1, n0]
        rcases (show z' = 0 ∨ z' = 1 ∨ z' = 2 ∨ z' = 3 by omega) with rfl | rfl | rfl | rfl
        · simp only [x_209_49, x_209_50, x_209_51, x_209_54, x_209_55, x_209_58, x_209_61, x_209_62, x_209_63, x_209_66, x_209_67, x_209_70, x_209_73, x_209_74, x_209_75, x_209_78, x_209_79, x_209_82, x_209_85, x_209_86, x_209_89, x_209_90, x_209_93, o_124 hw2, cl2_i, cl2_r, cl2_n, cl2_l, tl_s, tl_n, true_and, and_true, Option.some.injEq, exists_eq_left', Bool.and_self, Bool.true_and, Bool.and_true, Bool.or_true, Bool.true_or, i_10, i_00, if_true, if_false, not_true_eq_false, not_false_eq_true, and_false, false_and, okp_sI, okp_sL, okp_aI, okp_aL, hR_sI, hR_sL, hR_aI, hR_aL, nI_0, show hI H2 124 41 = v from vv, m_ask hw2]
          first | exact cm_eA hc fS (f2.wk (fun a b q => P47_Sc q)) | exact ⟨rfl, cm_eA hc fS (f2.wk (fun a b q => P47_Sc q))⟩ | exact ⟨⟨_, rfl, rfl⟩, cm_eA hc fS (f2.wk (fun a b q => P47_Sc q))⟩
        · simp only [x_209_49, x_209_50, x_209_51, x_209_54, x_209_55, x_209_58, x_209_61, x_209_62, x_209_63, x_209_66, x_209_67, x_209_70, x_209_73, x_209_74, x_209_75, x_209_78, x_209_79, x_209_82, x_209_85, x_209_86, x_209_89, x_209_90, x_209_93, o_124 hw2, cl2_i, cl2_r, cl2_n, cl2_l, tl_s, tl_n, true_and, and_true, Option.some.injEq, exists_eq_left', Bool.and_self, Bool.true_and, Bool.and_true, Bool.or_true, Bool.true_or, i_10, i_00, if_true, if_false, not_true_eq_false, not_false_eq_true, and_false, false_and, okp_sI, okp_sL, okp_aI, okp_aL, hR_sI, hR_sL, hR_aI, hR_aL, show nI 1 = 1 from rfl, show hI H2 124 42 = v from vv, m_ask hw2]
          first | exact cm_eA hc fS (f2.wk (fun a b q => P47_Sc q)) | exact ⟨rfl, cm_eA hc fS (f2.wk (fun a b q => P47_Sc q))⟩ | exact ⟨⟨_, rfl, rfl⟩, cm_eA hc fS (f2.wk (fun a b q => P47_Sc q))⟩
        · simp only [x_209_49, x_209_50, x_209_51, x_209_54, x_209_55, x_209_58, x_209_61, x_209_62, x_209_63, x_209_66, x_209_67, x_209_70, x_209_73, x_209_74, x_209_75, x_209_78, x_209_79, x_209_82, x_209_85, x_209_86, x_209_89, x_209_90, x_209_93, o_124 hw2, cl2_i, cl2_r, cl2_n, cl2_l, tl_s, tl_n, true_and, and_true, Option.some.injEq, exists_eq_left', Bool.and_self, Bool.true_and, Bool.and_true, Bool.or_true, Bool.true_or, i_10, i_00, if_true, if_false, not_true_eq_false, not_false_eq_true, and_false, false_and, okp_sI, okp_sL, okp_aI, okp_aL, hR_sI, hR_sL, hR_aI, hR_aL, show (nI 2 = 0) = False from eq_false (by decide), show (nI 2 = 1) = False from eq_false (by decide), show nI 2 = 2 from rfl, show ((2 : Int32) = 0) = False from eq_false (by decide), show ((2 : Int32) = 1) = False from eq_false (by decide), show hI H2 124 43 = v from vv, m_ask hw2]
          first | exact cm_eA hc fS (f2.wk (fun a b q => P47_Sc q)) | exact ⟨rfl, cm_eA hc fS (f2.wk (fun a b q => P47_Sc q))⟩ | exact ⟨⟨_, rfl, rfl⟩, cm_eA hc fS (f2.wk (fun a b q => P47_Sc q))⟩
        · simp only [x_209_49, x_209_50, x_209_51, x_209_54, x_209_55, x_209_58, x_209_61, x_209_62, x_209_63, x_209_66, x_209_67, x_209_70, x_209_73, x_209_74, x_209_75, x_209_78, x_209_79, x_209_82, x_209_85, x_209_86, x_209_89, x_209_90, x_209_93, o_124 hw2, cl2_i, cl2_r, cl2_n, cl2_l, tl_s, tl_n, true_and, and_true, Option.some.injEq, exists_eq_left', Bool.and_self, Bool.true_and, Bool.and_true, Bool.or_true, Bool.true_or, i_10, i_00, if_true, if_false, not_true_eq_false, not_false_eq_true, and_false, false_and, okp_sI, okp_sL, okp_aI, okp_aL, hR_sI, hR_sL, hR_aI, hR_aL, show (nI 3 = 0) = False from eq_false (by decide), show (nI 3 = 1) = False from eq_false (by decide), show (nI 3 = 2) = False from eq_false (by decide), show nI 3 = 3 from rfl, show ((3 : Int32) = 0) = False from eq_false (by decide), show ((3 : Int32) = 1) = False from eq_false (by decide), show ((3 : Int32) = 2) = False from eq_false (by decide), show hI H2 124 44 = v from vv, m_ask hw2]
          first | exact cm_eA hc fS (f2.wk (fun a b q => P47_Sc q)) | exact ⟨rfl, cm_eA hc fS (f2.wk (fun a b q => P47_Sc q))⟩ | exact ⟨⟨_, rfl, rfl⟩, cm_eA hc fS (f2.wk (fun a b q => P47_Sc q))⟩
      simp only [x_118_37, x_118_38, x_118_41, x_118_42, x_118_45, x_118_46, x_118_47, x_118_48, o_0 hw, w_0_2 hw, w_0_7 hw, o_16 hw, o_3 hw, show LN 3 = 8 from rfl, x_118_51, x_118_52, x_118_55, x_118_58, o_0 hw1, w_0_7 hw1, o_16 hw1, cl2_i, cl2_r, cl2_n, cl2_l, tl_s, tl_n, true_and, and_true, Option.some.injEq, exists_eq_left', Bool.and_self, Bool.true_and, Bool.and_true, Bool.or_true, Bool.true_or, i_10, i_00, if_true, if_false, not_true_eq_false, not_false_eq_true, and_false, false_and, okp_sI, okp_sL, okp_aI, okp_aL, hR_sI, hR_sL, hR_aI, hR_aL, inb_nI (n := 8) hs (by decide), nI_clamp (n := s) (by omega), w1, w2, eq1, i2, n0]
      rcases (show z' = 0 ∨ z' = 1 ∨ z' = 2 ∨ z' = 3 by omega) with rfl | rfl | rfl | rfl
      · simp only [x_118_67, x_118_68, x_118_69, x_118_72, x_118_73, x_118_76, x_118_79, x_118_82, x_118_83, x_118_84, x_118_87, x_118_88, x_118_91, x_118_94, x_118_97, x_118_98, x_118_99, x_118_102, x_118_103, x_118_106, x_118_109, x_118_112, x_118_113, x_118_116, x_118_119, x_118_122, x_118_123, o_0 hw1, w_0_7 hw1, o_16 hw1, cl2_i, cl2_r, cl2_n, cl2_l, tl_s, tl_n, true_and, and_true, Option.some.injEq, exists_eq_left', Bool.and_self, Bool.true_and, Bool.and_true, Bool.or_true, Bool.true_or, i_10, i_00, if_true, if_false, not_true_eq_false, not_false_eq_true, and_false, false_and, okp_sI, okp_sL, okp_aI, okp_aL, hR_sI, hR_sL, hR_aI, hR_aL, nI_0]
        exact fin (hI H1 16 6) (fun H2 P PM => by
          obtain ⟨a, b, c, g, ⟨a1, -⟩, ⟨a2, -⟩, -⟩ := bd_two I1 PM q
          rw [a1]; exact a2)
      · simp only [x_118_67, x_118_68, x_118_69, x_118_72, x_118_73, x_118_76, x_118_79, x_118_82, x_118_83, x_118_84, x_118_87, x_118_88, x_118_91, x_118_94, x_118_97, x_118_98, x_118_99, x_118_102, x_118_103, x_118_106, x_118_109, x_118_112, x_118_113, x_118_116, x_118_119, x_118_122, x_118_123, o_0 hw1, w_0_7 hw1, o_16 hw1, cl2_i, cl2_r, cl2_n, cl2_l, tl_s, tl_n, true_and, and_true, Option.some.injEq, exists_eq_left', Bool.and_self, Bool.true_and, Bool.and_true, Bool.or_true, Bool.true_or, i_10, i_00, if_true, if_false, not_true_eq_false, not_false_eq_true, and_false, false_and, okp_sI, okp_sL, okp_aI, okp_aL, hR_sI, hR_sL, hR_aI, hR_aL, show nI 1 = 1 from rfl]
        exact fin (hI H1 16 7) (fun H2 P PM => by
          obtain ⟨a, b, c, g, ⟨-, a1, -⟩, ⟨-, a2, -⟩, -⟩ := bd_two I1 PM q
          rw [a1]; exact a2)
      · simp only [x_118_67, x_118_68, x_118_69, x_118_72, x_118_73, x_118_76, x_118_79, x_118_82, x_118_83, x_118_84, x_118_87, x_118_88, x_118_91, x_118_94, x_118_97, x_118_98, x_118_99, x_118_102, x_118_103, x_118_106, x_118_109, x_118_112, x_118_113, x_118_116, x_118_119, x_118_122, x_118_123, o_0 hw1, w_0_7 hw1, o_16 hw1, cl2_i, cl2_r, cl2_n, cl2_l, tl_s, tl_n, true_and, and_true, Option.some.injEq, exists_eq_left', Bool.and_self, Bool.true_and, Bool.and_true, Bool.or_true, Bool.true_or, i_10, i_00, if_true, if_false, not_true_eq_false, not_false_eq_true, and_false, false_and, okp_sI, okp_sL, okp_aI, okp_aL, hR_sI, hR_sL, hR_aI, hR_aL, show (nI 2 = 0) = False from eq_false (by decide), show (nI 2 = 1) = False from eq_false (by decide), show nI 2 = 2 from rfl, show ((2 : Int32) = 0) = False from eq_false (by decide), show ((2 : Int32) = 1) = False from eq_false (by decide)]
        exact fin (hI H1 16 8) (fun H2 P PM => by
          obtain ⟨a, b, c, g, ⟨-, -, a1, -⟩, ⟨-, -, a2, -⟩, -⟩ := bd_two I1 PM q
          rw [a1]; exact a2)
      · simp only [x_118_67, x_118_68, x_118_69, x_118_72, x_118_73, x_118_76, x_118_79, x_118_82, x_118_83, x_118_84, x_118_87, x_118_88, x_118_91, x_118_94, x_118_97, x_118_98, x_118_99, x_118_102, x_118_103, x_118_106, x_118_109, x_118_112, x_118_113, x_118_116, x_118_119, x_118_122, x_118_123, o_0 hw1, w_0_7 hw1, o_16 hw1, cl2_i, cl2_r, cl2_n, cl2_l, tl_s, tl_n, true_and, and_true, Option.some.injEq, exists_eq_left', Bool.and_self, Bool.true_and, Bool.and_true, Bool.or_true, Bool.true_or, i_10, i_00, if_true, if_false, not_true_eq_false, not_false_eq_true, and_false, false_and, okp_sI, okp_sL, okp_aI, okp_aL, hR_sI, hR_sL, hR_aI, hR_aL, show (nI 3 = 0) = False from eq_false (by decide), show (nI 3 = 1) = False from eq_false (by decide), show (nI 3 = 2) = False from eq_false (by decide), show nI 3 = 3 from rfl, show ((3 : Int32) = 0) = False from eq_false (by decide), show ((3 : Int32) = 1) = False from eq_false (by decide), show ((3 : Int32) = 2) = False from eq_false (by decide)]
        exact fin (hI H1 16 9) (fun H2 P PM => by
          obtain ⟨a, b, c, g, ⟨-, -, -, a1⟩, ⟨-, -, -, a2⟩, -⟩ := bd_two I1 PM q
          rw [a1]; exact a2)
theorem c_br_l (hw : WF h) (hs : s < 8) (C : ShC h (68 + 7 * s) kd b M tn sx sy ex) (W : ShW kd b M tn sx sy ex) : ∀ (m k : Nat) (H : PH), k + m = 5 → Fq (Pcl 16) h H → ∃ H', Fq (Pcl 16) h H' ∧ ∀ Q, Tr sc 19 119 (18, [some (.ref 0), some (.int (nI s)), some (.int 0), some (.int (nI (M ^ k))), some (.int (nI (k + 1)))], [], H) Q = Q (some (.int (brF (fun k => (dd ((Ws b M tn sx sy kd ex k).map ptW)).length) (fun k => M ^ k) m (k + 1))), H') := by
  have hM := W.2.2.1
  intro m
  induction m with
  | zero =>
    intro k H hk F
    refine ⟨H, F, fun Q => ?_⟩
    have e : k = 5 := by omega
    subst e
    rw [x_119_18]
    simp only [x_119_20, x_119_21, x_119_71, x_119_73, cl2_i, cl2_r, cl2_n, cl2_l, tl_s, tl_n, true_and, and_true, Option.some.injEq, exists_eq_left', Bool.and_self, Bool.true_and, Bool.and_true, Bool.or_true, Bool.true_or, i_10, i_00, if_true, if_false, not_true_eq_false, not_false_eq_true, and_false, false_and, okp_sI, okp_sL, okp_aI, okp_aL, hR_sI, hR_sL, hR_aI, hR_aL, show ((5 : Int32) < nI (5 + 1)) = True from eq_true (by decide)]
    rfl
  | succ m ih =>
    intro k H hk F
    have hwH := F.WF hw
    obtain ⟨w1, w2, -⟩ := hwH.shape hs
    have CH := C.fr F (fun a j q1 q2 q3 => by unfold Pcl at q3; omega)
    obtain ⟨H1, e, f1, I1, he, eq1⟩ := g_gather (sc := sc) (N := k + 1) hwH hs CH W (by omega)
    have hw1 := f1.WF hwH
    have i2 := I1.2.2.1
    have i0 := I1.1.2
    have e7 : rmC 16 = 7776 := rfl
    have pw := pow_rm (M := M) (N := k + 1) hM.2 (by omega)
    have bs : brF (fun k => (dd ((Ws b M tn sx sy kd ex k).map ptW)).length) (fun k => M ^ k) (m + 1) (k + 1) = if (dd ((Ws b M tn sx sy kd ex (k + 1)).map ptW)).length = M ^ (k + 1) then brF (fun k => (dd ((Ws b M tn sx sy kd ex k).map ptW)).length) (fun k => M ^ k) m (k + 1 + 1) else nI (k + 1) := rfl
    have lead : ∀ Q, Tr sc 19 119 (18, [some (.ref 0), some (.int (nI s)), some (.int 0), some (.int (nI (M ^ k))), some (.int (nI (k + 1)))], [], H) Q = if (dd ((Ws b M tn sx sy kd ex (k + 1)).map ptW)).length = M ^ (k + 1) then Tr sc 19 119 (18, [some (.ref 0), some (.int (nI s)), some (.int 0), some (.int (nI (M ^ (k + 1)))), some (.int (nI (k + 1 + 1)))], [], H1) Q else Q (some (.int (nI (k + 1))), H1) := by
      intro Q
      rw [x_119_18]
      simp only [x_119_20, x_119_21, x_119_24, x_119_25, x_119_26, x_119_29, x_119_30, x_119_31, x_119_34, x_119_35, x_119_36, x_119_37, x_119_40, x_119_41, x_119_44, x_119_45, x_119_46, x_119_48, o_0 hwH, w_0_2 hwH, w_0_7 hwH, o_3 hwH, show LN 3 = 8 from rfl, o_16 hwH, x_119_51, x_119_52, x_119_55, x_119_58, x_119_59, x_119_62, x_119_64, x_119_65, x_119_68, o_0 hw1, w_0_7 hw1, o_16 hw1, cl2_i, cl2_r, cl2_n, cl2_l, tl_s, tl_n, true_and, and_true, Option.some.injEq, exists_eq_left', Bool.and_self, Bool.true_and, Bool.and_true, Bool.or_true, Bool.true_or, i_10, i_00, if_true, if_false, not_true_eq_false, not_false_eq_true, and_false, false_and, okp_sI, okp_sL, okp_aI, okp_aL, hR_sI, hR_sL, hR_aI, hR_aL, show ((5 : Int32) < nI (k + 1)) = False from eq_false (nI_nlt (a := 5) (b := k + 1) (by omega) (by decide)), inb_nI (n := 8) hs (by decide), nI_clamp (n := s) (by omega), w1, w2, CH.2.2.1, pk_mul, ← Nat.pow_succ, eq1, i2, nI_1]
      by_cases q : (dd ((Ws b M tn sx sy kd ex (k + 1)).map ptW)).length = M ^ (k + 1)
      · rw [if_pos q, if_pos (by rw [q])]
      · rw [if_neg q, if_neg (fun z => q ((nI_eq (by omega) (by omega)).mp z))]
    by_cases q : (dd ((Ws b M tn sx sy kd ex (k + 1)).map ptW)).length = M ^ (k + 1)
    · obtain ⟨H', F', eq'⟩ := ih (k + 1) H1 (by omega) (F.tr f1)
      refine ⟨H', F', fun Q => ?_⟩
      rw [lead, if_pos q, bs, if_pos q]
      exact eq' Q
    · refine ⟨H1, F.tr f1, fun Q => ?_⟩
      rw [lead, if_neg q, bs, if_neg q]
theorem m_br_l (hw : WF h) (hs : s < 8) (D : ShM h s kd b M tn sx sy ex) (W : ShW kd b M tn sx sy ex) : ∀ (m k : Nat) (H : PH), k + m = 5 → Fq P47 h H → ∃ H', Fq P47 h H' ∧ ∀ Q, Tr sc 19 210 (14, [some (.ref 124), some (.int (nI s)), some (.int 0), some (.int (nI (k + 1)))], [], H) Q = Q (some (.int (brF (fun k => (dd ((Ws b M tn sx sy kd ex k).map ptW)).length) (fun k => M ^ k) m (k + 1))), H') := by
  have hM := W.2.2.1
  intro m
  induction m with
  | zero =>
    intro k H hk F
    refine ⟨H, F, fun Q => ?_⟩
    have e : k = 5 := by omega
    subst e
    rw [x_210_14]
    simp only [x_210_15, x_210_16, x_210_50, x_210_52, cl2_i, cl2_r, cl2_n, cl2_l, tl_s, tl_n, true_and, and_true, Option.some.injEq, exists_eq_left', Bool.and_self, Bool.true_and, Bool.and_true, Bool.or_true, Bool.true_or, i_10, i_00, if_true, if_false, not_true_eq_false, not_false_eq_true, and_false, false_and, okp_sI, okp_sL, okp_aI, okp_aL, hR_sI, hR_sL, hR_aI, hR_aL, show ((5 : Int32) < nI (5 + 1)) = True from eq_true (by decide)]
    rfl
  | succ m ih =>
    intro k H hk F
    have hwH := F.WF hw
    have DH := D.fr F (fun a j q1 q2 q3 => by unfold P47 at q3; omega)
    obtain ⟨H1, P, f1, PM, eq1⟩ := m_setPoints (sc := sc) (d := 16) (N := k + 1) hwH hs DH W (by omega)
    have hw1 := f1.WF hwH
    have D1 := DH.fr f1 (fun a j q1 q2 q3 => by unfold P47 at q3; omega)
    have p1 := PM.1
    have p9 := PM.2.2.2.2.2.2.2
    rw [p9] at p1
    have pw := pow_rm (M := M) (N := k + 1) hM.2 (by omega)
    have wl := Ws_len (b := b) (tn := tn) (sx := sx) (sy := sy) (kd := kd) (ex := ex) hM.1 (k + 1)
    have dl := dd_len (L := (Ws b M tn sx sy kd ex (k + 1)).map ptW)
    rw [List.length_map] at dl
    have ep : iv ((M : Int) ^ (k + 1)) = nI (M ^ (k + 1)) := by rw [iv_n, Int.natCast_pow]
    have bs : brF (fun k => (dd ((Ws b M tn sx sy kd ex k).map ptW)).length) (fun k => M ^ k) (m + 1) (k + 1) = if (dd ((Ws b M tn sx sy kd ex (k + 1)).map ptW)).length = M ^ (k + 1) then brF (fun k => (dd ((Ws b M tn sx sy kd ex k).map ptW)).length) (fun k => M ^ k) m (k + 1 + 1) else nI (k + 1) := rfl
    have lead : ∀ Q, Tr sc 19 210 (14, [some (.ref 124), some (.int (nI s)), some (.int 0), some (.int (nI (k + 1)))], [], H) Q = if (dd ((Ws b M tn sx sy kd ex (k + 1)).map ptW)).length = M ^ (k + 1) then Tr sc 19 210 (14, [some (.ref 124), some (.int (nI s)), some (.int 0), some (.int (nI (k + 1 + 1)))], [], H1) Q else Q (some (.int (nI (k + 1))), H1) := by
      intro Q
      rw [x_210_14]
      simp only [x_210_15, x_210_16, x_210_19, x_210_20, x_210_21, x_210_22, o_124 hwH, x_210_25, x_210_26, x_210_29, x_210_30, x_210_33, x_210_34, x_210_35, x_210_36, x_210_39, x_210_42, x_210_43, x_210_44, x_210_47, o_124 hw1, w_124_18 hw1, o_134 hw1, iOk_lt (k := 134) (by decide), iRd_lt (k := 134) (by decide), show LN 134 = 8 from rfl, cl2_i, cl2_r, cl2_n, cl2_l, tl_s, tl_n, true_and, and_true, Option.some.injEq, exists_eq_left', Bool.and_self, Bool.true_and, Bool.and_true, Bool.or_true, Bool.true_or, i_10, i_00, if_true, if_false, not_true_eq_false, not_false_eq_true, and_false, false_and, okp_sI, okp_sL, okp_aI, okp_aL, hR_sI, hR_sL, hR_aI, hR_aL, show ((5 : Int32) < nI (k + 1)) = False from eq_false (nI_nlt (a := 5) (b := k + 1) (by omega) (by decide)), inb_nI (n := 8) hs (by decide), nI_clamp (n := s) (by omega), D1.2.2.1, eq1, p1, m_power (b := M) (n := k + 1) (by omega), ep, nI_1]
      by_cases q : (dd ((Ws b M tn sx sy kd ex (k + 1)).map ptW)).length = M ^ (k + 1)
      · rw [if_pos q, if_pos (by rw [q])]
      · rw [if_neg q, if_neg (fun z => q ((nI_eq (by omega) (by omega)).mp z))]
    by_cases q : (dd ((Ws b M tn sx sy kd ex (k + 1)).map ptW)).length = M ^ (k + 1)
    · obtain ⟨H', F', eq'⟩ := ih (k + 1) H1 (by omega) (F.tr f1)
      refine ⟨H', F', fun Q => ?_⟩
      rw [lead, if_pos q, bs, if_pos q]
      exact eq' Q
    · refine ⟨H1, F.tr f1, fun Q => ?_⟩
      rw [lead, if_neg q, bs, if_neg q]
theorem both_broken (hc : CM h) : Both sc 119 210 [.int x] h := by
  have hw := hc.1
  refine glue_sh (x := x) (T := True) (CC := fun Q => Tr sc 19 119 (13, [some (.ref 0), some (.int x), some (.int 0), none, none], [], h) Q) (MC := fun h1 Q => Tr sc 19 210 (12, [some (.ref 124), some (.int x), some (.int 0), none], [], h1) Q) hc (fun Q => ?_) (fun h1 Q hw1 => ?_) (fun s hs hx hT hA => ?_) (fun A B hAB q => Tr_mono q hAB)
  · rw [e_119]
    simp only [x_119_0, x_119_1, x_119_2, x_119_3, x_119_6, x_119_7, x_119_8, x_119_11, x_119_12, o_0 hw, cl2_i, cl2_r, cl2_n, cl2_l, tl_s, tl_n, true_and, and_true, Option.some.injEq, exists_eq_left', Bool.and_self, Bool.true_and, Bool.and_true, Bool.or_true, Bool.true_or, i_10, i_00, if_true, if_false, not_true_eq_false, not_false_eq_true, and_false, false_and, okp_sI, okp_sL, okp_aI, okp_aL, hR_sI, hR_sL, hR_aI, hR_aL, c_shR hw, i_1m1, i_3m1]
  · rw [e_210]
    simp only [x_210_0, x_210_1, x_210_2, x_210_5, x_210_6, x_210_7, x_210_10, x_210_11, o_124 hw1, cl2_i, cl2_r, cl2_n, cl2_l, tl_s, tl_n, true_and, and_true, Option.some.injEq, exists_eq_left', Bool.and_self, Bool.true_and, Bool.and_true, Bool.or_true, Bool.true_or, i_10, i_00, if_true, if_false, not_true_eq_false, not_false_eq_true, and_false, false_and, okp_sI, okp_sL, okp_aI, okp_aL, hR_sI, hR_sL, hR_aI, hR_aL, m_shR hw1, i_m1, i_m3, i_0]
  · subst hx
    obtain ⟨kd, b, M, tn, sx, sy, ex, W, C, D⟩ := sh_ab hA
    obtain ⟨H1, f1, eq1⟩ := c_br_l (sc := sc) hw hs C W 5 0 h (by omega) Fq.rf
    have eq1' : ∀ Q, Tr sc 19 119 (18, [some (.ref 0), some (.int (nI s)), some (.int 0), some (.int 1), some (.int 1)], [], h) Q = Q (some (.int (brF (fun k => (dd ((Ws b M tn sx sy kd ex k).map ptW)).length) (fun k => M ^ k) 5 1)), H1) := eq1
    have hw1 := f1.WF hw
    have fS := f1.wk (fun a b q => Pcl_Sc q)
    have D1 := D.fr fS (fun a j h1 h2 => by unfold Sc; omega)
    obtain ⟨H2, f2, eq2⟩ := m_br_l (sc := sc) hw1 hs D1 W 5 0 H1 (by omega) Fq.rf
    have eq2' : ∀ Q, Tr sc 19 210 (14, [some (.ref 124), some (.int (nI s)), some (.int 0), some (.int 1)], [], H1) Q = Q (some (.int (brF (fun k => (dd ((Ws b M tn sx sy kd ex k).map ptW)).length) (fun k => M ^ k) 5 1)), H2) := eq2
    simp only [x_119_13, x_119_14, x_119_15, x_119_16, cl2_i, cl2_r, cl2_n, cl2_l, tl_s, tl_n, true_and, and_true, Option.some.injEq, exists_eq_left', Bool.and_self, Bool.true_and, Bool.and_true, Bool.or_true, Bool.true_or, i_10, i_00, if_true, if_false, not_true_eq_false, not_false_eq_true, and_false, false_and, okp_sI, okp_sL, okp_aI, okp_aL, hR_sI, hR_sL, hR_aI, hR_aL, eq1']
    refine ⟨hw1, fS.i (by unfold Sc; omega), ?_⟩
    simp only [x_210_12, x_210_13, cl2_i, cl2_r, cl2_n, cl2_l, tl_s, tl_n, true_and, and_true, Option.some.injEq, exists_eq_left', Bool.and_self, Bool.true_and, Bool.and_true, Bool.or_true, Bool.true_or, i_10, i_00, if_true, if_false, not_true_eq_false, not_false_eq_true, and_false, false_and, okp_sI, okp_sL, okp_aI, okp_aL, hR_sI, hR_sL, hR_aI, hR_aL, eq2']
    first | exact cm_e0 hc (fS.tr (f2.wk (fun a b q => P47_Sc q))) | exact ⟨rfl, cm_e0 hc (fS.tr (f2.wk (fun a b q => P47_Sc q)))⟩ | exact ⟨⟨_, rfl, rfl⟩, cm_e0 hc (fS.tr (f2.wk (fun a b q => P47_Sc q)))⟩
end BR
