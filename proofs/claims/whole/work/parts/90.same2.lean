/-! ===== same, class and model ===== -/
section SB
variable {sc : Nat × (Nat → Int32)} {d : Nat} {Q : PRes → Prop} {h h' h1 H G : PH} {c k e e2 i j l n t u b M N s a b' M' : Nat} {L L2 P A B : List Pnt} {K : List Wrd} {p : Pnt} {kd kd' x y z w : Int32} {tn tn' : Nat → Nat} {sx sy ex sx' sy' ex' : Nat → Int} {dx dy : Int}
theorem g_3 {p q r A B : Prop} [Decidable p] [Decidable q] [Decidable r] : (if ¬ p then A else if ¬ q then A else if ¬ r then A else B) = if p ∧ q ∧ r then B else A := by
  by_cases e1 : p
  · by_cases e2 : q
    · by_cases e3 : r
      · simp [e1, e2, e3]
      · simp [e1, e2, e3]
    · simp [e1, e2]
  · simp [e1]
theorem i_le7 {x : Int32} : (x ≤ 7) = (x < 8) := by
  rw [i_tre, i_tri, show (7 : Int32).toInt = 7 from rfl, show (8 : Int32).toInt = 8 from rfl]
  apply propext; omega
theorem Psa_Sc (q : Psa a b) : Sc a b := by unfold Psa P47 at q; unfold Sc; omega
theorem m_same_r (hw : WF h) (hs : s < 8) (ht : t < 8) (D : ShM h s kd b M tn sx sy ex) (W : ShW kd b M tn sx sy ex) (D' : ShM h t kd' b' M' tn' sx' sy' ex') (W' : ShW kd' b' M' tn' sx' sy' ex') (hN : N ≤ 4) : ∃ H A B, Fq Psa h H ∧ ((A.map ky2).Pairwise (· < ·) ∧ (∀ p, p ∈ A ↔ p ∈ (Ws b M tn sx sy kd ex N).map ptW) ∧ A.length = (dd ((Ws b M tn sx sy kd ex N).map ptW)).length) ∧ ((B.map ky2).Pairwise (· < ·) ∧ (∀ p, p ∈ B ↔ p ∈ (Ws b' M' tn' sx' sy' kd' ex' N).map ptW) ∧ B.length = (dd ((Ws b' M' tn' sx' sy' kd' ex' N).map ptW)).length) ∧ ((A.length = B.length ∧ ∀ j, j < A.length → DfA A B j) → ∀ Q, Tr sc 19 241 (49, [some (.ref 124), some (.int (nI s)), some (.int (nI t)), some (.int (nI N)), none, none, none], [], h) Q = Q (some (.int 1), sI H 124 2 (if A.length = 0 then 0 else iv ((B.getD 0 pt0).1 - (A.getD 0 pt0).1)))) ∧ (¬ (A.length = B.length ∧ ∀ j, j < A.length → DfA A B j) → ∀ Q, Tr sc 19 241 (49, [some (.ref 124), some (.int (nI s)), some (.int (nI t)), some (.int (nI N)), none, none, none], [], h) Q = Q (some (.int 0), H)) := by
  have pw : ∀ M : Nat, M ≤ 6 → M ^ N ≤ 1296 := fun M hM => by
    have h2 := Nat.pow_le_pow_left hM N
    have h3 := Nat.pow_le_pow_right (show 0 < 6 by decide) hN
    have h4 : (6 : Nat) ^ 4 = 1296 := by decide
    omega
  have wl := Ws_len (b := b) (tn := tn) (sx := sx) (sy := sy) (kd := kd) (ex := ex) W.2.2.1.1 N
  have wl' := Ws_len (b := b') (tn := tn') (sx := sx') (sy := sy') (kd := kd') (ex := ex') W'.2.2.1.1 N
  have p1 := pw M W.2.2.1.2
  have p2 := pw M' W'.2.2.1.2
  have hR : ∀ u, u ∈ (Ws b M tn sx sy kd ex N).map ptW → Rg u := fun u hu => by
    obtain ⟨v, h1, h2⟩ := List.mem_map.mp hu
    rw [← h2]; exact Ws_rg W.2.1 (sw_b W) (by omega) v h1
  have hR' : ∀ u, u ∈ (Ws b' M' tn' sx' sy' kd' ex' N).map ptW → Rg u := fun u hu => by
    obtain ⟨v, h1, h2⟩ := List.mem_map.mp hu
    rw [← h2]; exact Ws_rg W'.2.1 (sw_b W') (by omega) v h1
  obtain ⟨H1, A, f1, PM1, eq1⟩ := m_setPoints (sc := sc) (d := 16) (N := N) hw hs D W (by omega)
  have hw1 := f1.WF hw
  obtain ⟨a1, -, a4, -, -, a7, a8, a9⟩ := PM1
  have la : A.length ≤ 1296 := by
    have := dd_len (L := (Ws b M tn sx sy kd ex N).map ptW)
    rw [List.length_map] at this
    omega
  obtain ⟨H2, f2, c2, eq2⟩ := m_sa_c (sc := sc) (d := 19) (x := nI s) (y := nI t) (z := nI N) hw1 la a4 A.length 0 H1 (by omega) Fq.rf (fun j hj => absurd hj (Nat.not_lt_zero _))
  have hw2 := f2.WF hw1
  have D2 : ShM H2 t kd' b' M' tn' sx' sy' ex' := (D'.fr f1 (fun a j q1 q2 q3 => by unfold P47 at q3; omega)).fr f2 (fun a j q1 q2 q3 => by omega)
  obtain ⟨H3, B, f3, PM3, eq3⟩ := m_setPoints (sc := sc) (d := 16) (N := N) hw2 ht D2 W' (by omega)
  have hw3 := f3.WF hw2
  obtain ⟨b1, -, b4, -, -, b7, b8, b9⟩ := PM3
  have lb : B.length ≤ 1296 := by
    have := dd_len (L := (Ws b' M' tn' sx' sy' kd' ex' N).map ptW)
    rw [List.length_map] at this
    omega
  have c3 : ∀ j, j < A.length → hI H3 162 j = iv (A.getD j pt0).1 ∧ hI H3 163 j = iv (A.getD j pt0).2 := fun j hj => by
    rw [f3.i (by unfold P47; omega), f3.i (by unfold P47; omega)]; exact c2 j hj
  have F : Fq Psa h H3 := (f1.wk (fun a b q => Or.inl q)).tr ((f2.wk (fun a b q => Or.inr q)).tr (f3.wk (fun a b q => Or.inl q)))
  have lead : ∀ Q, Tr sc 19 241 (49, [some (.ref 124), some (.int (nI s)), some (.int (nI t)), some (.int (nI N)), none, none, none], [], h) Q = Tr sc 19 241 (130, [some (.ref 124), some (.int (nI s)), some (.int (nI t)), some (.int (nI N)), some (.int (nI A.length)), some (.int (if A.length = B.length then 1 else 0)), some (.int 0)], [], H3) Q := by
    intro Q
    simp only [x_241_49, x_241_50, x_241_51, x_241_52, o_124 hw, x_241_55, x_241_56, x_241_59, x_241_61, x_241_62, o_124 hw1, cl2_i, cl2_r, cl2_n, cl2_l, tl_s, tl_n, true_and, and_true, Option.some.injEq, exists_eq_left', Bool.and_self, Bool.true_and, Bool.and_true, Bool.or_true, Bool.true_or, i_10, i_00, if_true, if_false, not_true_eq_false, not_false_eq_true, and_false, false_and, okp_sI, okp_sL, okp_aI, okp_aL, hR_sI, hR_sL, hR_aI, hR_aL, eq1, a1]
    refine (eq2 Q).trans ?_
    simp only [x_241_105, x_241_106, x_241_107, x_241_108, o_124 hw2, x_241_111, x_241_113, x_241_114, x_241_117, x_241_120, x_241_121, x_241_124, x_241_125, x_241_127, x_241_128, o_124 hw3, cl2_i, cl2_r, cl2_n, cl2_l, tl_s, tl_n, true_and, and_true, Option.some.injEq, exists_eq_left', Bool.and_self, Bool.true_and, Bool.and_true, Bool.or_true, Bool.true_or, i_10, i_00, if_true, if_false, not_true_eq_false, not_false_eq_true, and_false, false_and, okp_sI, okp_sL, okp_aI, okp_aL, hR_sI, hR_sL, hR_aI, hR_aL, eq3, b1]
    by_cases q : A.length = B.length
    · rw [if_pos q, if_pos (by rw [q])]
    · rw [if_neg q, if_neg (fun z => q ((nI_eq (by omega) (by omega)).mp z))]
  refine ⟨H3, A, B, F, ⟨a8, a7, a9⟩, ⟨b8, b7, b9⟩, fun hc Q => ?_, fun hn Q => ?_⟩
  · obtain ⟨l1, -⟩ := m_sa_l (sc := sc) (d := 19) (x := nI s) (y := nI t) (z := nI N) hw3 la hc.1 (fun p hp => hR p ((a7 p).mp hp)) (fun p hp => hR' p ((b7 p).mp hp)) c3 b4 A.length 0 (by omega)
    obtain ⟨l6, e6⟩ := l1 (fun j _ hj => hc.2 j hj)
    rw [lead, if_pos hc.1]
    refine (e6 Q).trans ?_
    by_cases q : A.length = 0
    · rw [if_pos q]
      simp only [x_241_217, x_241_219, x_241_222, x_241_223, x_241_225, x_241_228, x_241_229, o_124 hw3, x_241_245, x_241_246, x_241_249, x_241_252, x_241_253, o_124 hw3, cl2_i, cl2_r, cl2_n, cl2_l, tl_s, tl_n, true_and, and_true, Option.some.injEq, exists_eq_left', Bool.and_self, Bool.true_and, Bool.and_true, Bool.or_true, Bool.true_or, i_10, i_00, if_true, if_false, not_true_eq_false, not_false_eq_true, and_false, false_and, okp_sI, okp_sL, okp_aI, okp_aL, hR_sI, hR_sL, hR_aI, hR_aL, q, nI_0, m_ask hw3]
    · have q0 : 0 < A.length := by omega
      obtain ⟨g1, g2⟩ := c3 0 q0
      obtain ⟨g3, g4⟩ := b4 0 (by omega)
      rw [if_neg q]
      simp only [x_241_217, x_241_219, x_241_222, x_241_223, x_241_225, o_124 hw3, x_241_232, x_241_233, x_241_236, x_241_237, x_241_238, x_241_239, x_241_242, x_241_243, x_241_244, x_241_245, x_241_246, x_241_249, x_241_252, x_241_253, o_124 hw3, w_124_39 hw3, w_124_60 hw3, o_146 hw3, iOk_lt (k := 146) (by decide), iRd_lt (k := 146) (by decide), show LN 146 = 7776 from rfl, o_162 hw3, iOk_lt (k := 162) (by decide), iRd_lt (k := 162) (by decide), show LN 162 = 1296 from rfl, cl2_i, cl2_r, cl2_n, cl2_l, tl_s, tl_n, true_and, and_true, Option.some.injEq, exists_eq_left', Bool.and_self, Bool.true_and, Bool.and_true, Bool.or_true, Bool.true_or, i_10, i_00, if_true, if_false, not_true_eq_false, not_false_eq_true, and_false, false_and, okp_sI, okp_sL, okp_aI, okp_aL, hR_sI, hR_sL, hR_aI, hR_aL, show (nI A.length = 0) = False from eq_false (nI_ne0 q0 (by omega)), show inb 0 7776 = true from rfl, show inb 0 1296 = true from rfl, cl_0, g1, g3, iv_sub, m_ask hw3]
  · by_cases q : A.length = B.length
    · have hj : ∃ j, 0 ≤ j ∧ j < A.length ∧ ¬ DfA A B j := by
        apply Classical.byContradiction
        intro z
        refine hn ⟨q, fun j hj => ?_⟩
        apply Classical.byContradiction
        intro w
        exact z ⟨j, Nat.zero_le _, hj, w⟩
      obtain ⟨-, l2⟩ := m_sa_l (sc := sc) (d := 19) (x := nI s) (y := nI t) (z := nI N) hw3 la q (fun p hp => hR p ((a7 p).mp hp)) (fun p hp => hR' p ((b7 p).mp hp)) c3 b4 A.length 0 (by omega)
      obtain ⟨l6, e6⟩ := l2 hj
      rw [lead, if_pos q]
      refine (e6 Q).trans ?_
      simp only [x_241_217, x_241_219, x_241_252, x_241_253, cl2_i, cl2_r, cl2_n, cl2_l, tl_s, tl_n, true_and, and_true, Option.some.injEq, exists_eq_left', Bool.and_self, Bool.true_and, Bool.and_true, Bool.or_true, Bool.true_or, i_10, i_00, if_true, if_false, not_true_eq_false, not_false_eq_true, and_false, false_and, okp_sI, okp_sL, okp_aI, okp_aL, hR_sI, hR_sL, hR_aI, hR_aL]
    · rw [lead, if_neg q, x_241_130]
      simp only [x_241_132, x_241_134, x_241_137, x_241_139, x_241_217, x_241_219, x_241_252, x_241_253, cl2_i, cl2_r, cl2_n, cl2_l, tl_s, tl_n, true_and, and_true, Option.some.injEq, exists_eq_left', Bool.and_self, Bool.true_and, Bool.and_true, Bool.or_true, Bool.true_or, i_10, i_00, if_true, if_false, not_true_eq_false, not_false_eq_true, and_false, false_and, okp_sI, okp_sL, okp_aI, okp_aL, hR_sI, hR_sL, hR_aI, hR_aL, ite_self]
theorem both_same (hc : CM h) : Both sc 132 241 [.int x, .int y, .int z] h := by
  unfold Both
  obtain ⟨hw, -, -, -, hss⟩ := id hc
  have Hm : ∀ h1 Q, WF h1 → Tr sc 19 241 (ent0 241 [.ref 124, .int x, .int y, .int z] h1) Q = if (0 ≤ x ∧ x < 8) ∧ (0 ≤ y ∧ y < 8) ∧ (0 ≤ z ∧ z ≤ 4) then Tr sc 19 241 (25, [some (.ref 124), some (.int x), some (.int y), some (.int z), none, none, none], [], h1) Q else Q (some (.int (-1)), h1) := by
    intro h1 Q hw1
    rw [e_241]
    simp only [x_241_0, x_241_1, x_241_4, x_241_7, x_241_8, x_241_11, x_241_14, x_241_15, x_241_16, x_241_17, x_241_20, x_241_23, x_241_24, o_124 hw1, cl2_i, cl2_r, cl2_n, cl2_l, tl_s, tl_n, true_and, and_true, Option.some.injEq, exists_eq_left', Bool.and_self, Bool.true_and, Bool.and_true, Bool.or_true, Bool.true_or, i_10, i_00, if_true, if_false, not_true_eq_false, not_false_eq_true, and_false, false_and, okp_sI, okp_sL, okp_aI, okp_aL, hR_sI, hR_sL, hR_aI, hR_aL, m_isShape (d := 17), m_in, bI_0, g_3, i_le7]
  rw [e_132]
  simp only [x_132_0, x_132_1, x_132_4, x_132_7, x_132_8, x_132_11, x_132_14, x_132_15, x_132_16, x_132_19, x_132_22, x_132_23, o_0 hw, cl2_i, cl2_r, cl2_n, cl2_l, tl_s, tl_n, true_and, and_true, Option.some.injEq, exists_eq_left', Bool.and_self, Bool.true_and, Bool.and_true, Bool.or_true, Bool.true_or, i_10, i_00, if_true, if_false, not_true_eq_false, not_false_eq_true, and_false, false_and, okp_sI, okp_sL, okp_aI, okp_aL, hR_sI, hR_sL, hR_aI, hR_aL, c_isShape, c_isStep, bI_0, g_3]
  by_cases e0 : (0 ≤ x ∧ x < 8) ∧ (0 ≤ y ∧ y < 8) ∧ (0 ≤ z ∧ z ≤ 4)
  · rw [if_pos e0]
    obtain ⟨s, hs, rfl⟩ := ir_of (n := 8) (by decide) e0.1
    obtain ⟨t, ht, rfl⟩ := ir_of (n := 8) (by decide) e0.2.1
    obtain ⟨N, hN, rfl⟩ := nI_of2 (M := 4) (n := 4) rfl (Int32.not_lt.mpr e0.2.2.1) e0.2.2.2
    obtain ⟨w1, w2, -⟩ := hw.shape hs
    obtain ⟨w3, w4, -⟩ := hw.shape ht
    have Hm' : ∀ h1 Q, WF h1 → Tr sc 19 241 (ent0 241 [.ref 124, .int (nI s), .int (nI t), .int (nI N)] h1) Q = if hI h1 134 s = 0 then Q (some (.int (-3)), refm h1 1) else if hI h1 134 t = 0 then Q (some (.int (-3)), refm h1 1) else Tr sc 19 241 (49, [some (.ref 124), some (.int (nI s)), some (.int (nI t)), some (.int (nI N)), none, none, none], [], h1) Q := by
      intro h1 Q hw1
      rw [Hm h1 Q hw1, if_pos e0]
      simp only [x_241_25, x_241_26, x_241_29, x_241_30, x_241_31, x_241_34, x_241_35, x_241_38, x_241_39, x_241_40, x_241_43, x_241_44, x_241_45, x_241_48, o_124 hw1, w_124_18 hw1, o_134 hw1, iOk_lt (k := 134) (by decide), iRd_lt (k := 134) (by decide), show LN 134 = 8 from rfl, cl2_i, cl2_r, cl2_n, cl2_l, tl_s, tl_n, true_and, and_true, Option.some.injEq, exists_eq_left', Bool.and_self, Bool.true_and, Bool.and_true, Bool.or_true, Bool.true_or, i_10, i_00, if_true, if_false, not_true_eq_false, not_false_eq_true, and_false, false_and, okp_sI, okp_sL, okp_aI, okp_aL, hR_sI, hR_sL, hR_aI, hR_aL, inb_nI (n := 8) hs (by decide), nI_clamp (n := s) (by omega), inb_nI (n := 8) ht (by decide), nI_clamp (n := t) (by omega), m_meets_1 hw1]
    have hwu := WF_refu (f := 1) hw
    simp only [x_132_24, x_132_25, x_132_28, x_132_29, x_132_30, x_132_33, x_132_36, x_132_37, x_132_40, x_132_41, x_132_42, x_132_45, x_132_48, x_132_49, x_132_50, x_132_53, o_0 hw, w_0_2 hw, o_3 hw, show LN 3 = 8 from rfl, cl2_i, cl2_r, cl2_n, cl2_l, tl_s, tl_n, true_and, and_true, Option.some.injEq, exists_eq_left', Bool.and_self, Bool.true_and, Bool.and_true, Bool.or_true, Bool.true_or, i_10, i_00, if_true, if_false, not_true_eq_false, not_false_eq_true, and_false, false_and, okp_sI, okp_sL, okp_aI, okp_aL, hR_sI, hR_sL, hR_aI, hR_aL, inb_nI (n := 8) hs (by decide), nI_clamp (n := s) (by omega), inb_nI (n := 8) ht (by decide), nI_clamp (n := t) (by omega), w1, w2, w3, w4, c_sMiss w2, c_sMiss w4, bI_0, c_refuse_1 hw]
    by_cases e1 : hI h 134 s = 0
    · rw [if_neg (show ¬ ¬ hI h (68 + 7 * s) 6 = -1 from fun z => z (sm_t hss hs e1)), Hm' _ _ hwu, if_pos (show hI (refu h 1) 134 s = 0 by rw [refu_I (by decide) (by decide)]; exact e1)]
      first | exact cm_ref (by decide) hc | exact ⟨rfl, cm_ref (by decide) hc⟩ | exact ⟨⟨_, rfl, rfl⟩, cm_ref (by decide) hc⟩
    · rw [if_pos (sm_f hss hs e1)]
      by_cases e3 : hI h 134 t = 0
      · rw [if_neg (show ¬ ¬ hI h (68 + 7 * t) 6 = -1 from fun z => z (sm_t hss ht e3)), Hm' _ _ hwu, if_neg (show ¬ hI (refu h 1) 134 s = 0 by rw [refu_I (by decide) (by decide)]; exact e1), if_pos (show hI (refu h 1) 134 t = 0 by rw [refu_I (by decide) (by decide)]; exact e3)]
        first | exact cm_ref (by decide) hc | exact ⟨rfl, cm_ref (by decide) hc⟩ | exact ⟨⟨_, rfl, rfl⟩, cm_ref (by decide) hc⟩
      · rw [if_pos (sm_f hss ht e3)]
        obtain ⟨kd, b, M, tn, sx, sy, ex, W, C, D⟩ := sh_ab (sh_at hss hs e1)
        obtain ⟨kd', b', M', tn', sx', sy', ex', W', C', D'⟩ := sh_ab (sh_at hss ht e3)
        have pw : M' ^ N ≤ 1296 := by
          have h2 := Nat.pow_le_pow_left W'.2.2.1.2 N
          have h3 := Nat.pow_le_pow_right (show 0 < 6 by decide) hN
          have h4 : (6 : Nat) ^ 4 = 1296 := by decide
          omega
        obtain ⟨H1, e, f1, I1, he, eq1⟩ := g_gather (sc := sc) (N := N) hw hs C W (by omega)
        have hw1 := f1.WF hw
        have C1 := C'.fr f1 (fun a j q1 q2 q3 => by unfold Pcl at q3; omega)
        obtain ⟨H2, e2, f2, I2, he2, eq2'⟩ := c_gather (sc := sc) (c := 20) (N := N) hw1 (Or.inr rfl) (is_sh ht) C1 W' (by omega) pw
        have eq2 : ∀ Q, Tr sc 18 10 (ent0 10 [.ref 20, .ref (68 + 7 * t), .int (nI N)] H1) Q = Q (none, H2) := fun Q => by
          have := eq2' (15 - N) Q
          rw [show 15 - N + N + 3 = 18 by omega] at this
          exact this
        have hw2 := f2.WF hw1
        have I1' : ClI H2 16 e ((Ws b M tn sx sy kd ex N).map ptW) := I1.fr f2 (fun a b q1 q2 q3 => by unfold Pcl at q3; omega)
        have fS : Fq Sc h H2 := (f1.wk (fun a b q => Pcl_Sc q)).tr (f2.wk (fun a b q => by unfold Pcl at q; unfold Sc; omega))
        have l1 := I1'.2.2.1
        have l2 := I2.2.2.1
        have b1 := I1'.1.2
        have b2 := I2.1.2
        have r1 : rmC 16 = 7776 := rfl
        have r2 : rmC 20 = 1296 := rfl
        have hR : ∀ u, u ∈ (Ws b M tn sx sy kd ex N).map ptW → Rg u := I1'.2.2.2.2.2.2.1
        have hR' : ∀ u, u ∈ (Ws b' M' tn' sx' sy' kd' ex' N).map ptW → Rg u := I2.2.2.2.2.2.2.1
        have wl' := Ws_len (b := b') (tn := tn') (sx := sx') (sy := sy') (kd := kd') (ex := ex') W'.2.2.1.1 N
        have hl2 : (dd ((Ws b' M' tn' sx' sy' kd' ex' N).map ptW)).length < 2 ^ e2 := by
          have := dd_len (L := (Ws b' M' tn' sx' sy' kd' ex' N).map ptW)
          rw [List.length_map] at this
          omega
        have Dh : ∀ {s kd b M tn sx sy ex}, ShM h s kd b M tn sx sy ex → ∀ v, ShM (sI H2 0 15 v) s kd b M tn sx sy ex := fun D v => (D.fr fS (fun a j h1 h2 => by unfold Sc; omega)).fr (Fq.rf.sI (P := fun a b => a = 0) rfl) (fun a j h1 h2 q => by omega)
        have Dh0 : ∀ {s kd b M tn sx sy ex}, ShM h s kd b M tn sx sy ex → ShM H2 s kd b M tn sx sy ex := fun D => D.fr fS (fun a j h1 h2 => by unfold Sc; omega)
        have k1 : hI H2 134 s = hI h 134 s := fS.i (by unfold Sc; omega)
        have k2 : hI H2 134 t = hI h 134 t := fS.i (by unfold Sc; omega)
        simp only [x_132_54, x_132_55, x_132_58, x_132_59, x_132_62, x_132_63, x_132_64, x_132_65, o_0 hw, w_0_2 hw, w_0_7 hw, o_16 hw, o_3 hw, show LN 3 = 8 from rfl, x_132_68, x_132_69, x_132_72, x_132_73, x_132_76, x_132_77, x_132_78, x_132_79, o_0 hw1, w_0_2 hw1, w_0_8 hw1, o_20 hw1, o_3 hw1, show LN 3 = 8 from rfl, x_132_82, x_132_83, x_132_86, x_132_89, x_132_90, x_132_93, x_132_96, o_0 hw2, w_0_7 hw2, w_0_8 hw2, o_16 hw2, o_20 hw2, cl2_i, cl2_r, cl2_n, cl2_l, tl_s, tl_n, true_and, and_true, Option.some.injEq, exists_eq_left', Bool.and_self, Bool.true_and, Bool.and_true, Bool.or_true, Bool.true_or, i_10, i_00, if_true, if_false, not_true_eq_false, not_false_eq_true, and_false, false_and, okp_sI, okp_sL, okp_aI, okp_aL, hR_sI, hR_sL, hR_aI, hR_aL, inb_nI (n := 8) hs (by decide), nI_clamp (n := s) (by omega), inb_nI (n := 8) ht (by decide), nI_clamp (n := t) (by omega), w1, w2, (hw1.shape ht).1, (hw1.shape ht).2.1, eq1, eq2, l1, l2]
        generalize hL : (Ws b M tn sx sy kd ex N).map ptW = L at *
        generalize hL' : (Ws b' M' tn' sx' sy' kd' ex' N).map ptW = L' at *
        by_cases q : (dd L).length = (dd L').length
        · rw [if_pos (by rw [q])]
          by_cases q0 : (dd L).length = 0
          · simp only [x_132_101, x_132_102, x_132_105, x_132_108, x_132_111, x_132_112, x_132_113, x_132_116, x_132_117, o_0 hw2, w_0_7 hw2, o_16 hw2, cl2_i, cl2_r, cl2_n, cl2_l, tl_s, tl_n, true_and, and_true, Option.some.injEq, exists_eq_left', Bool.and_self, Bool.true_and, Bool.and_true, Bool.or_true, Bool.true_or, i_10, i_00, if_true, if_false, not_true_eq_false, not_false_eq_true, and_false, false_and, okp_sI, okp_sL, okp_aI, okp_aL, hR_sI, hR_sL, hR_aI, hR_aL, l1, q0, nI_0]
            have hw3 : WF (sI H2 0 15 0) := hw2
            obtain ⟨H4, A, B, f4, ⟨x1, x2, x3⟩, ⟨x4, x5, x6⟩, x7, -⟩ := m_same_r (sc := sc) hw3 hs ht (Dh D 0) W (Dh D' 0) W' hN
            rw [hL] at x3
            rw [hL'] at x6
            rw [Hm' _ _ hw3, if_neg (show ¬ hI (sI H2 0 15 0) 134 s = 0 by rw [rd_ne (by omega), k1]; exact e1), if_neg (show ¬ hI (sI H2 0 15 0) 134 t = 0 by rw [rd_ne (by omega), k2]; exact e3), x7 ⟨by omega, fun j hj => by omega⟩, if_pos (by omega)]
            first | exact cm_eA hc fS (f4.wk (fun a b q => Psa_Sc q)) | exact ⟨rfl, cm_eA hc fS (f4.wk (fun a b q => Psa_Sc q))⟩ | exact ⟨⟨_, rfl, rfl⟩, cm_eA hc fS (f4.wk (fun a b q => Psa_Sc q))⟩
          · have n0 : (nI (dd L).length = 0) = False := eq_false (nI_ne0 (by omega) (by omega))
            obtain ⟨a1, -, a2, -, ⟨la1, ha1⟩, -, ⟨la2, ha2⟩, -⟩ := I1'.2.2.2.2.2.2.2 (fun z => q0 (by rw [z]; rfl))
            obtain ⟨c1, -, c2, -, ⟨lc1, hc1⟩, -, ⟨lc2, hc2⟩, -⟩ := I2.2.2.2.2.2.2.2 (fun z => q0 (by rw [q, z]; rfl))
            have ra1 : -4096 ≤ a1 ∧ a1 < 4096 := by obtain ⟨u, hu, eu⟩ := la1.2; have := (hR u hu).1; dsimp only at eu; omega
            have ra2 : -4096 ≤ a2 ∧ a2 < 4096 := by obtain ⟨u, hu, eu⟩ := la2.2; have := (hR u hu).2; dsimp only at eu; omega
            have rc1 : -4096 ≤ c1 ∧ c1 < 4096 := by obtain ⟨u, hu, eu⟩ := lc1.2; have := (hR' u hu).1; dsimp only at eu; omega
            have rc2 : -4096 ≤ c2 ∧ c2 < 4096 := by obtain ⟨u, hu, eu⟩ := lc2.2; have := (hR' u hu).2; dsimp only at eu; omega
            have am := c_amt (sc := sc) (d := 16) (dx := c1 - a1) (dy := c2 - a2) (Q := fun r => Tr sc 19 132 (167, [some (.ref 0), some (.int (nI s)), some (.int (nI t)), some (.int (nI N)), some (.int (iv (c1 - a1))), some (.int (iv (c2 - a2)))], r.1.toList ++ [], r.2) (fun r1 => Tr sc 19 241 (ent0 241 [.ref 124, .int (nI s), .int (nI t), .int (nI N)] r1.2) (fun r2 => (∃ v, r1.1 = some v ∧ r2.1 = some v) ∧ CM r2.2))) hw2 I1' I2 hl2 ⟨by omega, by omega⟩ ⟨by omega, by omega⟩ (dd L).length 0 (by omega)
            simp only [x_132_101, x_132_102, x_132_105, x_132_108, x_132_111, x_132_112, x_132_113, x_132_116, x_132_117, x_132_118, x_132_119, x_132_122, x_132_125, x_132_126, x_132_129, x_132_132, x_132_133, x_132_135, x_132_136, x_132_139, x_132_142, x_132_143, x_132_146, x_132_149, x_132_150, x_132_152, x_132_153, x_132_156, x_132_157, x_132_160, x_132_162, x_132_164, o_0 hw2, w_0_7 hw2, w_0_8 hw2, o_16 hw2, o_20 hw2, cl2_i, cl2_r, cl2_n, cl2_l, tl_s, tl_n, true_and, and_true, Option.some.injEq, exists_eq_left', Bool.and_self, Bool.true_and, Bool.and_true, Bool.or_true, Bool.true_or, i_10, i_00, if_true, if_false, not_true_eq_false, not_false_eq_true, and_false, false_and, okp_sI, okp_sL, okp_aI, okp_aL, hR_sI, hR_sL, hR_aI, hR_aL, l1, n0, ha1, ha2, hc1, hc2, iv_sub]
            rw [e_21]
            simp only [x_21_0, x_21_1, cl2_i, cl2_r, cl2_n, cl2_l, tl_s, tl_n, true_and, and_true, Option.some.injEq, exists_eq_left', Bool.and_self, Bool.true_and, Bool.and_true, Bool.or_true, Bool.true_or, i_10, i_00, if_true, if_false, not_true_eq_false, not_false_eq_true, and_false, false_and, okp_sI, okp_sL, okp_aI, okp_aL, hR_sI, hR_sL, hR_aI, hR_aL]
            by_cases al : ∀ p, p ∈ L → mvQ p (c1 - a1) (c2 - a2) ∈ L'
            · refine (Eq.mpr (am.1 (fun j _ hj => al _ (dd_mem.mp (gd_mem hj)))) ?_ : _)
              simp only [x_132_167, x_132_170, x_132_171, x_132_172, x_132_173, x_132_175, x_132_178, x_132_179, o_0 hw2, cl2_i, cl2_r, cl2_n, cl2_l, tl_s, tl_n, true_and, and_true, Option.some.injEq, exists_eq_left', Bool.and_self, Bool.true_and, Bool.and_true, Bool.or_true, Bool.true_or, i_10, i_00, if_true, if_false, not_true_eq_false, not_false_eq_true, and_false, false_and, okp_sI, okp_sL, okp_aI, okp_aL, hR_sI, hR_sL, hR_aI, hR_aL]
              have hw3 : WF (sI H2 0 15 (iv (c1 - a1))) := hw2
              obtain ⟨H4, A, B, f4, ⟨x1, x2, x3⟩, ⟨x4, x5, x6⟩, x7, -⟩ := m_same_r (sc := sc) hw3 hs ht (Dh D (iv (c1 - a1))) W (Dh D' (iv (c1 - a1))) W' hN
              rw [hL] at x2 x3
              rw [hL'] at x5 x6
              have st := same_to (dx := c1 - a1) (dy := c2 - a2) x1 x4 (by omega) (fun p hp => hR' p ((x5 p).mp hp)) (fun p hp => (x5 _).mpr (al p ((x2 p).mp hp)))
              obtain ⟨sd, sx0⟩ := same_df (by omega) st
              rw [Hm' _ _ hw3, if_neg (show ¬ hI (sI H2 0 15 (iv (c1 - a1))) 134 s = 0 by rw [rd_ne (by omega), k1]; exact e1), if_neg (show ¬ hI (sI H2 0 15 (iv (c1 - a1))) 134 t = 0 by rw [rd_ne (by omega), k2]; exact e3), x7 ⟨by omega, sd⟩, if_neg (by omega), sx0]
              first | exact cm_eA hc fS (f4.wk (fun a b q => Psa_Sc q)) | exact ⟨rfl, cm_eA hc fS (f4.wk (fun a b q => Psa_Sc q))⟩ | exact ⟨⟨_, rfl, rfl⟩, cm_eA hc fS (f4.wk (fun a b q => Psa_Sc q))⟩
            · have hj : ∃ j, 0 ≤ j ∧ j < (dd L).length ∧ ¬ mvQ ((dd L).getD j pt0) (c1 - a1) (c2 - a2) ∈ L' := by
                apply Classical.byContradiction
                intro z
                refine al (fun p hp => ?_)
                apply Classical.byContradiction
                intro w
                obtain ⟨j, hj, ej⟩ := mem_gd (dd_mem.mpr hp)
                exact z ⟨j, Nat.zero_le _, hj, by rw [ej]; exact w⟩
              refine (Eq.mpr (am.2 hj) ?_ : _)
              simp only [x_132_167, x_132_170, x_132_171, cl2_i, cl2_r, cl2_n, cl2_l, tl_s, tl_n, true_and, and_true, Option.some.injEq, exists_eq_left', Bool.and_self, Bool.true_and, Bool.and_true, Bool.or_true, Bool.true_or, i_10, i_00, if_true, if_false, not_true_eq_false, not_false_eq_true, and_false, false_and, okp_sI, okp_sL, okp_aI, okp_aL, hR_sI, hR_sL, hR_aI, hR_aL]
              obtain ⟨H4, A, B, f4, ⟨x1, x2, x3⟩, ⟨x4, x5, x6⟩, -, x8⟩ := m_same_r (sc := sc) hw2 hs ht (Dh0 D) W (Dh0 D') W' hN
              rw [hL] at x2 x3
              rw [hL'] at x5 x6
              rw [Hm' _ _ hw2, if_neg (by rw [k1]; exact e1), if_neg (by rw [k2]; exact e3), x8 (fun z => al (fun p hp => (x5 _).mp (same_fr (by omega) z.1 (Lo_cg (fun p => (x2 p).symm) la1) (Lo_cg (fun p => (x2 p).symm) la2) (Lo_cg (fun p => (x5 p).symm) lc1) (Lo_cg (fun p => (x5 p).symm) lc2) z.2 p ((x2 p).mpr hp))))]
              first | exact cm_e0 hc (fS.tr (f4.wk (fun a b q => Psa_Sc q))) | exact ⟨rfl, cm_e0 hc (fS.tr (f4.wk (fun a b q => Psa_Sc q)))⟩ | exact ⟨⟨_, rfl, rfl⟩, cm_e0 hc (fS.tr (f4.wk (fun a b q => Psa_Sc q)))⟩
        · rw [if_neg (fun z => q ((nI_eq (by omega) (by omega)).mp z))]
          simp only [x_132_99, x_132_100, cl2_i, cl2_r, cl2_n, cl2_l, tl_s, tl_n, true_and, and_true, Option.some.injEq, exists_eq_left', Bool.and_self, Bool.true_and, Bool.and_true, Bool.or_true, Bool.true_or, i_10, i_00, if_true, if_false, not_true_eq_false, not_false_eq_true, and_false, false_and, okp_sI, okp_sL, okp_aI, okp_aL, hR_sI, hR_sL, hR_aI, hR_aL]
          obtain ⟨H4, A, B, f4, ⟨x1, x2, x3⟩, ⟨x4, x5, x6⟩, -, x8⟩ := m_same_r (sc := sc) hw2 hs ht (Dh0 D) W (Dh0 D') W' hN
          rw [hL] at x3
          rw [hL'] at x6
          rw [Hm' _ _ hw2, if_neg (by rw [k1]; exact e1), if_neg (by rw [k2]; exact e3), x8 (fun z => q (by omega))]
          first | exact cm_e0 hc (fS.tr (f4.wk (fun a b q => Psa_Sc q))) | exact ⟨rfl, cm_e0 hc (fS.tr (f4.wk (fun a b q => Psa_Sc q)))⟩ | exact ⟨⟨_, rfl, rfl⟩, cm_e0 hc (fS.tr (f4.wk (fun a b q => Psa_Sc q)))⟩
  · rw [if_neg e0, Hm _ _ hw, if_neg e0]
    first | exact hc | exact ⟨rfl, hc⟩ | exact ⟨⟨_, rfl, rfl⟩, hc⟩
end SB
