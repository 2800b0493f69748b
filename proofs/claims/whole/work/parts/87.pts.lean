/-! ===== points, at, board, broken ===== -/
def brF (f g : Nat → Nat) : Nat → Nat → Int32
  | 0, _ => -9
  | m + 1, k => if f k = g k then brF f g m (k + 1) else nI k
section PT
variable {sc : Nat × (Nat → Int32)} {d : Nat} {Q : PRes → Prop} {h h' h1 H G : PH} {c k e i j l n t u b M N s a : Nat} {L P : List Pnt} {K : List Wrd} {p : Pnt} {kd x y z w : Int32} {tn : Nat → Nat} {sx sy ex : Nat → Int}
theorem Pcl_Sc (q : Pcl 16 a b) : Sc a b := by unfold Pcl at q; unfold Sc; omega
theorem P47_Sc (q : P47 a b) : Sc a b := by unfold P47 at q; unfold Sc; omega
theorem pow_rm (hM : M ≤ 6) (hN : N ≤ 5) : M ^ N ≤ 7776 := by
  have h2 := Nat.pow_le_pow_left hM N
  have h3 := Nat.pow_le_pow_right (show 0 < 6 by decide) hN
  have h4 : (6 : Nat) ^ 5 = 7776 := by decide
  omega
theorem g_gather (hw : WF h) (hs : s < 8) (C : ShC h (68 + 7 * s) kd b M tn sx sy ex) (W : ShW kd b M tn sx sy ex) (hN : N ≤ 5) : ∃ H e, Fq (Pcl 16) h H ∧ ClI H 16 e ((Ws b M tn sx sy kd ex N).map ptW) ∧ M ^ N < 2 ^ e ∧ ∀ Q, Tr sc 18 10 (ent0 10 [.ref 16, .ref (68 + 7 * s), .int (nI N)] h) Q = Q (none, H) := by
  obtain ⟨H, e, f, I, he, eq⟩ := c_gather (sc := sc) hw (Or.inl rfl : IsCl 16) (is_sh hs) C W hN (pow_rm W.2.2.1.2 hN)
  refine ⟨H, e, f, I, he, fun Q => ?_⟩
  have := eq (15 - N) Q
  rw [show 15 - N + N + 3 = 18 by omega] at this
  exact this
theorem both_points (hc : CM h) : Both sc 116 207 [.int x, .int y] h := by
  have hw := hc.1
  refine glue_sh (x := x) (T := 0 ≤ y ∧ y ≤ 5) (CC := fun Q => Tr sc 19 116 (17, [some (.ref 0), some (.int x), some (.int y), some (.int 0)], [], h) Q) (MC := fun h1 Q => Tr sc 19 207 (14, [some (.ref 124), some (.int x), some (.int y), some (.int 0)], [], h1) Q) hc (fun Q => ?_) (fun h1 Q hw1 => ?_) (fun s hs hx hT hA => ?_) (fun A B hAB q => Tr_mono q hAB)
  · rw [e_116]
    simp only [x_116_0, x_116_1, x_116_2, x_116_3, x_116_4, x_116_7, x_116_10, x_116_11, x_116_12, x_116_15, x_116_16, o_0 hw, cl2_i, cl2_r, cl2_n, cl2_l, tl_s, tl_n, true_and, and_true, Option.some.injEq, exists_eq_left', Bool.and_self, Bool.true_and, Bool.and_true, Bool.or_true, Bool.true_or, i_10, i_00, if_true, if_false, not_true_eq_false, not_false_eq_true, and_false, false_and, okp_sI, okp_sL, okp_aI, okp_aL, hR_sI, hR_sL, hR_aI, hR_aL, c_isStep, c_shR hw, bI_0, Classical.not_not, i_1m1, i_3m1]
  · rw [e_207]
    simp only [x_207_0, x_207_1, x_207_2, x_207_3, x_207_4, x_207_7, x_207_8, x_207_9, x_207_12, x_207_13, o_124 hw1, cl2_i, cl2_r, cl2_n, cl2_l, tl_s, tl_n, true_and, and_true, Option.some.injEq, exists_eq_left', Bool.and_self, Bool.true_and, Bool.and_true, Bool.or_true, Bool.true_or, i_10, i_00, if_true, if_false, not_true_eq_false, not_false_eq_true, and_false, false_and, okp_sI, okp_sL, okp_aI, okp_aL, hR_sI, hR_sL, hR_aI, hR_aL, m_aStep (d := 15) hw1, i_m1, i_m3, i_0]
  · subst hx
    obtain ⟨N, hN, rfl⟩ := nI_of2 (M := 5) (n := 5) rfl (Int32.not_lt.mpr hT.1) hT.2
    obtain ⟨kd, b, M, tn, sx, sy, ex, W, C, D⟩ := sh_ab hA
    obtain ⟨w1, w2, -⟩ := hw.shape hs
    obtain ⟨H1, e, f1, I1, he, eq1⟩ := g_gather (sc := sc) hw hs C W hN
    have hw1 := f1.WF hw
    have fS := f1.wk (fun a b q => Pcl_Sc q)
    obtain ⟨i0, i1, i2, ⟨v, v1, v2⟩, -⟩ := id I1
    simp only [x_116_17, x_116_18, x_116_21, x_116_22, x_116_25, x_116_26, x_116_27, x_116_28, o_0 hw, w_0_2 hw, w_0_7 hw, o_16 hw, o_3 hw, show LN 3 = 8 from rfl, x_116_31, x_116_32, x_116_33, x_116_36, x_116_39, x_116_42, x_116_43, x_116_46, x_116_49, o_0 hw1, w_0_7 hw1, o_16 hw1, cl2_i, cl2_r, cl2_n, cl2_l, tl_s, tl_n, true_and, and_true, Option.some.injEq, exists_eq_left', Bool.and_self, Bool.true_and, Bool.and_true, Bool.or_true, Bool.true_or, i_10, i_00, if_true, if_false, not_true_eq_false, not_false_eq_true, and_false, false_and, okp_sI, okp_sL, okp_aI, okp_aL, hR_sI, hR_sL, hR_aI, hR_aL, inb_nI (n := 8) hs (by decide), nI_clamp (n := s) (by omega), w1, w2, eq1, v2, rd_ne (q := 0) (a := 16) (Or.inl (by decide)), i2]
    generalize hh3 : sI H1 0 15 (nI v) = h3
    have hw3 : WF h3 := by rw [← hh3]; exact hw1
    have D3 : ShM h3 s kd b M tn sx sy ex := by
      rw [← hh3]
      exact (D.fr fS (fun a j h1 h2 => by unfold Sc; omega)).fr (Fq.rf.sI (P := fun a b => a = 0) rfl) (fun a j h1 h2 q => by omega)
    obtain ⟨H2, P, f2, PM, eq2⟩ := m_setPoints (sc := sc) (d := 16) hw3 hs D3 W hN
    have hw2 := f2.WF hw3
    obtain ⟨p1, ⟨v', p2, p3⟩, p4, p5, p6, p7, p8, p9⟩ := PM
    refine ⟨hw3, by rw [← hh3, rd_ne (by omega)]; exact fS.i (by unfold Sc; omega), ?_⟩
    simp only [x_207_14, x_207_15, x_207_16, x_207_17, o_124 hw3, x_207_20, x_207_21, x_207_22, x_207_25, x_207_26, x_207_29, x_207_32, o_124 hw2, cl2_i, cl2_r, cl2_n, cl2_l, tl_s, tl_n, true_and, and_true, Option.some.injEq, exists_eq_left', Bool.and_self, Bool.true_and, Bool.and_true, Bool.or_true, Bool.true_or, i_10, i_00, if_true, if_false, not_true_eq_false, not_false_eq_true, and_false, false_and, okp_sI, okp_sL, okp_aI, okp_aL, hR_sI, hR_sL, hR_aI, hR_aL, eq2, m_ask hw2, p1, p3, p9, mc_u p2 v1]
    rw [← hh3] at f2
    first | exact cm_eA hc fS (f2.wk (fun a b q => P47_Sc q)) | exact ⟨rfl, cm_eA hc fS (f2.wk (fun a b q => P47_Sc q))⟩ | exact ⟨⟨_, rfl, rfl⟩, cm_eA hc fS (f2.wk (fun a b q => P47_Sc q))⟩
theorem m_at_l (hw : WF h) (hl : K.length ≤ 7776) (hA : ∀ j, j < K.length → WA h j (K.getD j w0)) (hR : ∀ u, u ∈ K → Rg (ptW u)) (hc : hI h 124 31 = nI K.length) (r1 : R3 p.1) (r2 : R3 p.2) : ∀ (m j : Nat), j + m = K.length → Tr sc d 208 (29, [some (.ref 124), some (.int x), some (.int y), some (.int (iv p.1)), some (.int (iv p.2)), some (.int 0), some (.int (nI (((K.map ptW).take j).count p))), some (.int (nI j))], [], h) Q = Q (some (.int (nI ((K.map ptW).count p))), h) := by
  intro m
  induction m with
  | zero =>
    intro j hj
    have e : j = K.length := by omega
    subst e
    rw [x_208_29]
    simp only [x_208_31, x_208_32, x_208_35, o_124 hw, x_208_77, x_208_79, cl2_i, cl2_r, cl2_n, cl2_l, tl_s, tl_n, true_and, and_true, Option.some.injEq, exists_eq_left', Bool.and_self, Bool.true_and, Bool.and_true, Bool.or_true, Bool.true_or, i_10, i_00, if_true, if_false, not_true_eq_false, not_false_eq_true, and_false, false_and, okp_sI, okp_sL, okp_aI, okp_aL, hR_sI, hR_sL, hR_aI, hR_aL, hc]
    rw [if_pos (Int32.le_refl _), show (K.map ptW).take K.length = K.map ptW by rw [← List.length_map (f := ptW), List.take_length]]
  | succ m ih =>
    intro j hj
    have hlt : j < K.length := by omega
    obtain ⟨b1, b2, -, -⟩ := hA j hlt
    have hm : K.getD j w0 ∈ K := by
      rw [show K.getD j w0 = K[j] by rw [List.getD_eq_getElem?_getD, List.getElem?_eq_getElem hlt]; rfl]
      exact List.getElem_mem _
    obtain ⟨g1, g2⟩ := Rg_r (hR _ hm)
    have es : ((K.map ptW).take (j + 1)).count p = ((K.map ptW).take j).count p + (if ptW (K.getD j w0) = p then 1 else 0) := by
      rw [List.take_succ, List.count_append]
      congr 1
      rw [← gd_map, List.getD_eq_getElem?_getD, List.getElem?_eq_getElem (by rw [List.length_map]; exact hlt)]
      show List.count p [(K.map ptW)[j]'(by rw [List.length_map]; exact hlt)] = _
      rw [List.count_singleton]
      by_cases q : (K.map ptW)[j]'(by rw [List.length_map]; exact hlt) = p
      · rw [if_pos (by simpa using q)]; exact (if_pos q).symm
      · rw [if_neg (by simpa using q)]; exact (if_neg q).symm
    have ih' := ih (j + 1) (by omega)
    rw [es] at ih'
    rw [x_208_29]
    simp only [x_208_31, x_208_32, x_208_35, x_208_38, x_208_40, x_208_41, x_208_44, x_208_46, x_208_47, x_208_48, x_208_51, x_208_52, x_208_55, x_208_57, x_208_58, x_208_60, x_208_63, x_208_64, x_208_67, x_208_68, x_208_69, x_208_71, x_208_74, o_124 hw, w_124_32 hw, w_124_33 hw, o_141 hw, iOk_lt (k := 141) (by decide), iRd_lt (k := 141) (by decide), show LN 141 = 7776 from rfl, o_142 hw, iOk_lt (k := 142) (by decide), iRd_lt (k := 142) (by decide), show LN 142 = 7776 from rfl, cl2_i, cl2_r, cl2_n, cl2_l, tl_s, tl_n, true_and, and_true, Option.some.injEq, exists_eq_left', Bool.and_self, Bool.true_and, Bool.and_true, Bool.or_true, Bool.true_or, i_10, i_00, if_true, if_false, not_true_eq_false, not_false_eq_true, and_false, false_and, okp_sI, okp_sL, okp_aI, okp_aL, hR_sI, hR_sL, hR_aI, hR_aL, hc, inb_nI (n := 7776) (show j < 7776 by omega) (by decide), nI_clamp (n := j) (by omega), b1, b2, iv_eq (x := (K.getD j w0).1) (y := p.1) g1 r1, iv_eq (x := (K.getD j w0).2.1) (y := p.2) g2 r2, nI_1]
    rw [if_neg (nI_ge hlt (by omega))]
    by_cases q1 : (K.getD j w0).1 = p.1
    · rw [if_pos q1]
      by_cases q2 : (K.getD j w0).2.1 = p.2
      · rw [if_pos (show ptW (K.getD j w0) = p from Prod.ext q1 q2)] at ih'
        rw [if_pos q2]
        exact ih'
      · rw [if_neg (show ¬ ptW (K.getD j w0) = p from fun z => q2 (by rw [← z]; rfl))] at ih'
        rw [if_neg q2, Int32.add_zero]
        exact ih'
    · rw [if_neg (show ¬ ptW (K.getD j w0) = p from fun z => q1 (by rw [← z]; rfl))] at ih'
      rw [if_neg q1, Int32.add_zero]
      exact ih'
theorem both_at (hc : CM h) : Both sc 117 208 [.int x, .int y, .int z, .int w] h := by
  have hw := hc.1
  refine glue_sh (x := x) (T := 0 ≤ y ∧ y ≤ 5) (CC := fun Q => Tr sc 19 117 (20, [some (.ref 0), some (.int x), some (.int y), some (.int z), some (.int w), some (.int 0), none], [], h) Q) (MC := fun h1 Q => Tr sc 19 208 (17, [some (.ref 124), some (.int x), some (.int y), some (.int z), some (.int w), some (.int 0), none, none], [], h1) Q) hc (fun Q => ?_) (fun h1 Q hw1 => ?_) (fun s hs hx hT hA => ?_) (fun A B hAB q => Tr_mono q hAB)
  · rw [e_117]
    simp only [x_117_0, x_117_1, x_117_2, x_117_3, x_117_4, x_117_7, x_117_10, x_117_12, x_117_14, x_117_17, x_117_19, o_0 hw, cl2_i, cl2_r, cl2_n, cl2_l, tl_s, tl_n, true_and, and_true, Option.some.injEq, exists_eq_left', Bool.and_self, Bool.true_and, Bool.and_true, Bool.or_true, Bool.true_or, i_10, i_00, if_true, if_false, not_true_eq_false, not_false_eq_true, and_false, false_and, okp_sI, okp_sL, okp_aI, okp_aL, hR_sI, hR_sL, hR_aI, hR_aL, c_isStep, c_shR hw, bI_0, Classical.not_not, i_1m1, i_3m1]
  · rw [e_208]
    simp only [x_208_0, x_208_1, x_208_2, x_208_3, x_208_4, x_208_7, x_208_9, x_208_11, x_208_14, x_208_16, o_124 hw1, cl2_i, cl2_r, cl2_n, cl2_l, tl_s, tl_n, true_and, and_true, Option.some.injEq, exists_eq_left', Bool.and_self, Bool.true_and, Bool.and_true, Bool.or_true, Bool.true_or, i_10, i_00, if_true, if_false, not_true_eq_false, not_false_eq_true, and_false, false_and, okp_sI, okp_sL, okp_aI, okp_aL, hR_sI, hR_sL, hR_aI, hR_aL, m_aStep (d := 15) hw1, i_m1, i_m3, i_0]
  · subst hx
    obtain ⟨N, hN, rfl⟩ := nI_of2 (M := 5) (n := 5) rfl (Int32.not_lt.mpr hT.1) hT.2
    obtain ⟨kd, b, M, tn, sx, sy, ex, W, C, D⟩ := sh_ab hA
    obtain ⟨w1, w2, -⟩ := hw.shape hs
    obtain ⟨H1, e, f1, I1, he, eq1⟩ := g_gather (sc := sc) hw hs C W hN
    have hw1 := f1.WF hw
    have fS := f1.wk (fun a b q => Pcl_Sc q)
    obtain ⟨i0, i1, i2, -, i4, -, i6, -⟩ := id I1
    have hM := W.2.2.1
    have D1 := D.fr fS (fun a j h1 h2 => by unfold Sc; omega)
    have wl := Ws_len (b := b) (tn := tn) (sx := sx) (sy := sy) (kd := kd) (ex := ex) hM.1 N
    have pw := pow_rm hM.2 hN
    have hR : ∀ u, u ∈ Ws b M tn sx sy kd ex N → Rg (ptW u) := fun u hu => Ws_rg W.2.1 (sw_b W) hN u hu
    have r1 := iv_r z
    have r2 := iv_r w
    obtain ⟨p, hz, hw'⟩ : ∃ p : Pnt, z = iv p.1 ∧ w = iv p.2 ∧ R3 p.1 ∧ R3 p.2 := ⟨(z.toInt, w.toInt), iv_of z, iv_of w, r1, r2⟩
    obtain ⟨hw', rp1, rp2⟩ := hw'
    subst hz hw'
    have fin : ∀ v, v = nI (((Ws b M tn sx sy kd ex N).map ptW).count p) → (WF H1 ∧ hI H1 134 s = hI h 134 s ∧ Tr sc 19 208 (17, [some (.ref 124), some (.int (nI s)), some (.int (nI N)), some (.int (iv p.1)), some (.int (iv p.2)), some (.int 0), none, none], [], H1) (fun r2 => r2.1 = some (Value.int v) ∧ CM r2.2)) := by
      intro v hv
      refine ⟨hw1, fS.i (by unfold Sc; omega), ?_⟩
      simp only [x_208_17, x_208_18, x_208_19, x_208_20, o_124 hw1, cl2_i, cl2_r, cl2_n, cl2_l, tl_s, tl_n, true_and, and_true, Option.some.injEq, exists_eq_left', Bool.and_self, Bool.true_and, Bool.and_true, Bool.or_true, Bool.true_or, i_10, i_00, if_true, if_false, not_true_eq_false, not_false_eq_true, and_false, false_and, okp_sI, okp_sL, okp_aI, okp_aL, hR_sI, hR_sL, hR_aI, hR_aL]
      refine m_setWords (d := 17) hw1 hs D1 W hN (fun H f c1 c2 => ?_)
      have hwH := f.WF hw1
      simp only [x_208_23, x_208_24, x_208_26, x_208_27, o_124 hwH, cl2_i, cl2_r, cl2_n, cl2_l, tl_s, tl_n, true_and, and_true, Option.some.injEq, exists_eq_left', Bool.and_self, Bool.true_and, Bool.and_true, Bool.or_true, Bool.true_or, i_10, i_00, if_true, if_false, not_true_eq_false, not_false_eq_true, and_false, false_and, okp_sI, okp_sL, okp_aI, okp_aL, hR_sI, hR_sL, hR_aI, hR_aL]
      have lp := fun Q => m_at_l (sc := sc) (d := 19) (p := p) (x := nI s) (y := nI N) (Q := Q) hwH (by omega) c2 hR c1 rp1 rp2 _ 0 (Nat.zero_add _)
      simp only [List.take_zero, List.count_nil, nI_0] at lp
      refine (Eq.mpr (lp _) ?_ : _)
      have cc := cm_e0 hc (fS.tr (f.wk (fun a b q => P4_Sc q)))
      subst hv
      first | exact ⟨rfl, cc⟩ | exact ⟨⟨_, rfl, rfl⟩, cc⟩
    by_cases q : p ∈ (Ws b M tn sx sy kd ex N).map ptW
    · obtain ⟨i, hi, ei⟩ := mem_gd (dd_mem.mpr q)
      have ii := fun Q => c_indexOf_in (Q := Q) (sc := sc) (d := 17) hw1 (Or.inl rfl) I1 hi ei
      have ti := (i4 i hi).2
      rw [ei] at ti
      have hib : i < 7776 := by have := i0.2; have e : rmC 16 = 7776 := rfl; omega
      simp only [x_117_20, x_117_21, x_117_24, x_117_25, x_117_28, x_117_29, x_117_30, x_117_31, o_0 hw, w_0_2 hw, w_0_7 hw, o_16 hw, o_3 hw, show LN 3 = 8 from rfl, x_117_34, x_117_35, x_117_38, x_117_39, x_117_41, x_117_44, x_117_46, x_117_48, x_117_51, x_117_52, x_117_55, x_117_56, x_117_59, x_117_62, x_117_64, x_117_65, o_0 hw1, w_0_7 hw1, o_16 hw1, o_16 hw1, w_16_0 hw1, w_16_1 hw1, w_16_2 hw1, o_18 hw1, iOk_lt (k := 18) (by decide), iRd_lt (k := 18) (by decide), show LN 18 = 7776 from rfl, cl2_i, cl2_r, cl2_n, cl2_l, tl_s, tl_n, true_and, and_true, Option.some.injEq, exists_eq_left', Bool.and_self, Bool.true_and, Bool.and_true, Bool.or_true, Bool.true_or, i_10, i_00, if_true, if_false, not_true_eq_false, not_false_eq_true, and_false, false_and, okp_sI, okp_sL, okp_aI, okp_aL, hR_sI, hR_sL, hR_aI, hR_aL, inb_nI (n := 8) hs (by decide), nI_clamp (n := s) (by omega), w1, w2, eq1, ii, show (0 ≤ nI i) = True from eq_true (nI_pos' (by omega)), inb_nI (n := 7776) hib (by decide), nI_clamp (n := i) (by omega), ti]
      exact fin _ rfl
    · have ii := fun Q => c_indexOf_out (Q := Q) (sc := sc) (d := 17) hw1 (Or.inl rfl) I1 (Nat.lt_of_le_of_lt (Nat.le_trans dd_len (by rw [List.length_map]; exact wl)) he) q rp1 rp2
      simp only [x_117_20, x_117_21, x_117_24, x_117_25, x_117_28, x_117_29, x_117_30, x_117_31, o_0 hw, w_0_2 hw, w_0_7 hw, o_16 hw, o_3 hw, show LN 3 = 8 from rfl, x_117_34, x_117_35, x_117_38, x_117_39, x_117_41, x_117_44, x_117_46, x_117_48, x_117_51, x_117_52, x_117_55, x_117_56, x_117_59, x_117_62, x_117_64, x_117_65, o_0 hw1, w_0_7 hw1, o_16 hw1, cl2_i, cl2_r, cl2_n, cl2_l, tl_s, tl_n, true_and, and_true, Option.some.injEq, exists_eq_left', Bool.and_self, Bool.true_and, Bool.and_true, Bool.or_true, Bool.true_or, i_10, i_00, if_true, if_false, not_true_eq_false, not_false_eq_true, and_false, false_and, okp_sI, okp_sL, okp_aI, okp_aL, hR_sI, hR_sL, hR_aI, hR_aL, inb_nI (n := 8) hs (by decide), nI_clamp (n := s) (by omega), w1, w2, eq1, ii, i_m1]
      exact fin 0 (by rw [List.count_eq_zero.mpr q]; rfl)
end PT
