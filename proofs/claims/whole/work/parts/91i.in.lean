/-! ===== in, class and model ===== -/
section WI
variable {sc : Nat × (Nat → Int32)} {d : Nat} {Q : PRes → Prop} {h h' h1 H G : PH} {i j k n t u b M N s f : Nat} {q a1 a2 c1 c2 : Int} {sx sy ex : Nat → Int} {L LL R : List Pnt} {p : Pnt} {x y z w kd : Int32} {tn : Nat → Nat}
theorem c_reachAll (hw : WF h) (I : WkI h b M q a1 a2 c1 c2 sx sy) (B : WkB b M q a1 a2 c1 c2 sx sy) (hp : Bn9 p) : ∃ H LL, Fq (Pcl 16) h H ∧ ClI H 16 12 LL ∧ (dd LL).length ≤ 2006 ∧ LsI (Wit b q a1 a2 c1 c2) (dd LL) ∧ dd LL = wlk (Wit b q a1 a2 c1 c2) (nxP b q sx sy) M 2001 0 (adW (Wit b q a1 a2 c1 c2) [] p) ∧ ∀ Q, Tr sc 18 91 (ent0 91 [.ref 40, .int (iv p.1), .int (iv p.2)] h) Q = Q (some (.int (bo (decide ((dd LL).length ≤ 2000)))), H) := by
  obtain ⟨H1, e, F1, C1, ⟨-, he⟩, eq1⟩ := c_clear (sc := sc) (k := 16) (E := 2000) hw (Or.inl rfl) (by decide)
  have e12 := he rfl rfl
  subst e12
  have hw1 := F1.WF hw
  have I1 := I.fr F1 (fun x y z1 z2 => by unfold Pcl at z2; omega)
  obtain ⟨H2, LL, F2, C2, l2, d2, eq2⟩ := c_addIf (sc := sc) (p := p) hw1 I1 B C1 (by decide) (by decide) hp
  have hw2 := F2.WF hw1
  have I2 := I1.fr F2 (fun x y z1 z2 => by unfold Pcl at z2; omega)
  have d2' : dd LL = adW (Wit b q a1 a2 c1 c2) [] p := d2
  have al := adW_len (wi := Wit b q a1 a2 c1 c2) (L := []) (p := p)
  rw [← d2', List.length_nil] at al
  rw [List.length_nil] at l2
  have LI0 : LsI (Wit b q a1 a2 c1 c2) (dd LL) := by rw [d2']; exact adW_I ⟨List.nodup_nil, fun x hx => by cases hx⟩
  obtain ⟨H3, LL', F3, C3, l3, d3, eq3⟩ := c_ra_l (sc := sc) (x := iv p.1) (y := iv p.2) hw2 I2 B 2001 0 H2 LL (by omega) Fq.rf C2 (by omega) (by omega) LI0
  refine ⟨H3, LL', F1.tr (F2.tr F3), C3, l3, by rw [d3]; exact wlk_I _ _ _ LI0, by rw [d3, d2'], fun Q => ?_⟩
  have eq1' : ∀ Q, Tr sc 17 9 (ent0 9 [.ref 16, .int 2000] h) Q = Q (none, H1) := fun Q => eq1 15 Q
  rw [e_91]
  simp only [x_91_0, x_91_1, x_91_4, x_91_7, o_40 hw, w_40_3 hw, o_16 hw, x_91_10, x_91_11, x_91_12, x_91_13, o_40 hw1, x_91_16, x_91_17, cl2_i, cl2_r, cl2_n, cl2_l, tl_s, tl_n, true_and, and_true, Option.some.injEq, exists_eq_left', Bool.and_self, Bool.true_and, Bool.and_true, Bool.or_true, Bool.true_or, i_10, i_00, if_true, if_false, not_true_eq_false, not_false_eq_true, and_false, false_and, okp_sI, okp_sL, okp_aI, okp_aL, hR_sI, hR_sL, hR_aI, hR_aL, o_16 hw, eq1', eq2]
  exact eq3 15 Q none
theorem mn_ex {g : Nat → Int} (hM : 1 ≤ M) (hg : ∀ i, i < M → -9 ≤ g i ∧ g i ≤ 9) : (∃ v, mnF (fun j => iv (g j)) (M - 1) = iv v ∧ -9 ≤ v ∧ v ≤ 9) ∧ ∃ v, mxF (fun j => iv (g j)) (M - 1) = iv v ∧ -9 ≤ v ∧ v ≤ 9 := by
  obtain ⟨⟨j, hj, e⟩, -⟩ := mnF_spec (f := fun j => iv (g j)) (M - 1)
  obtain ⟨⟨j', hj', e'⟩, -⟩ := mxF_spec (f := fun j => iv (g j)) (M - 1)
  exact ⟨⟨g j, e, hg j (by omega)⟩, g j', e', hg j' (by omega)⟩
theorem Pin_Sc {a b : Nat} (q : Pin a b) : Sc a b := by unfold Pin at q; unfold Sc; omega
theorem both_in (hc : CM h) : Both sc 126 233 [.int x, .int y, .int z, .int w] h := by
  have hw := hc.1
  refine glue_st (x := x) (T := (-200 ≤ y ∧ y ≤ 200) ∧ (-200 ≤ z ∧ z ≤ 200) ∧ (1 ≤ w ∧ w ≤ 12)) (CC := fun Q => Tr sc 19 126 (65, [some (.ref 0), some (.int x), some (.int y), some (.int z), some (.int w), some (.int 1), some (.int 0)], [], h) Q) (MC := fun h1 Q => Tr sc 19 233 (68, [some (.ref 124), some (.int x), some (.int y), some (.int z), some (.int w), some (.int 0), none, none, none, none, none], [], h1) Q) hc (fun Q => ?_) (fun h1 Q hw1 => ?_) (fun s hs hx hT hA hkd => ?_) (fun A B hAB q => Tr_mono q hAB)
  · rw [e_126]
    simp only [x_126_0, x_126_1, x_126_4, x_126_7, x_126_8, x_126_11, x_126_14, x_126_15, x_126_18, x_126_21, x_126_22, x_126_25, x_126_28, x_126_30, x_126_31, x_126_34, x_126_36, x_126_38, x_126_41, x_126_42, x_126_45, x_126_46, x_126_48, x_126_49, x_126_50, x_126_52, x_126_55, x_126_57, x_126_59, x_126_62, x_126_64, o_0 hw, cl2_i, cl2_r, cl2_n, cl2_l, tl_s, tl_n, true_and, and_true, Option.some.injEq, exists_eq_left', Bool.and_self, Bool.true_and, Bool.and_true, Bool.or_true, Bool.true_or, i_10, i_00, if_true, if_false, not_true_eq_false, not_false_eq_true, and_false, false_and, okp_sI, okp_sL, okp_aI, okp_aL, hR_sI, hR_sL, hR_aI, hR_aL, c_stR (d := 16) hw, i_1m1, i_3m1, g_tw]
    exact ite_congr (propext ⟨fun q => ⟨q.1.1.1, q.2, q.1.2, q.1.1.2⟩, fun q => ⟨⟨⟨q.1, q.2.2.2⟩, q.2.2.1⟩, q.2.1⟩⟩) (fun _ => rfl) (fun _ => rfl)
  · rw [e_233]
    simp only [x_233_0, x_233_1, x_233_4, x_233_7, x_233_10, x_233_13, x_233_14, x_233_17, x_233_20, x_233_23, x_233_26, x_233_28, x_233_29, x_233_31, x_233_34, x_233_37, x_233_38, x_233_39, x_233_40, x_233_41, x_233_44, x_233_46, x_233_48, x_233_51, x_233_53, x_233_54, x_233_55, x_233_56, x_233_59, x_233_62, x_233_63, x_233_64, x_233_67, o_124 hw1, cl2_i, cl2_r, cl2_n, cl2_l, tl_s, tl_n, true_and, and_true, Option.some.injEq, exists_eq_left', Bool.and_self, Bool.true_and, Bool.and_true, Bool.or_true, Bool.true_or, i_10, i_00, if_true, if_false, not_true_eq_false, not_false_eq_true, and_false, false_and, okp_sI, okp_sL, okp_aI, okp_aL, hR_sI, hR_sL, hR_aI, hR_aL, m_in, bI_0, m_shR (d := 16) hw1, i_m1, i_m3, i_0, g_nt]
    by_cases e0 : 0 ≤ x ∧ x < 8
    · obtain ⟨s, hs, rfl⟩ := ir_of (n := 8) (by decide) e0
      simp only [x_233_59, x_233_62, x_233_63, x_233_64, x_233_67, o_124 hw1, cl2_i, cl2_r, cl2_n, cl2_l, tl_s, tl_n, true_and, and_true, Option.some.injEq, exists_eq_left', Bool.and_self, Bool.true_and, Bool.and_true, Bool.or_true, Bool.true_or, i_10, i_00, if_true, if_false, not_true_eq_false, not_false_eq_true, and_false, false_and, okp_sI, okp_sL, okp_aI, okp_aL, hR_sI, hR_sL, hR_aI, hR_aL, nI_clamp (n := s) (by omega), m_isStr hw1 hs, bI_0, m_meets_3 hw1]
      refine (ite_congr (propext ⟨fun q => ⟨q.1.1.1, q.2, q.1.2, q.1.1.2⟩, fun q => ⟨⟨⟨q.1, q.2.2.2⟩, q.2.2.1⟩, q.2.1⟩⟩) (fun _ => ?_) (fun _ => rfl))
      by_cases e1 : hI h1 134 s = 0
      · rw [if_pos e1, if_pos e1]
      · rw [if_neg e1, if_neg e1]
        by_cases e2 : hI h1 132 s = 1 ∨ hI h1 132 s = 2
        · first | rw [if_neg (fun w => w e2), if_pos e2] | rw [if_pos e2, if_pos e2]
        · first | rw [if_pos e2, if_neg e2] | rw [if_neg e2, if_neg e2]
    · rw [if_neg (fun q => e0 q.1.1.1), if_neg (fun q => e0 q.1)]
  · subst hx
    obtain ⟨kd, b, M, tn, sx, sy, ex, W, C, D⟩ := sh_ab hA
    obtain ⟨w1, w2, -⟩ := hw.shape hs
    have hM := W.2.2.1
    have hsx : ∀ i, i < M → -9 ≤ sx i ∧ sx i ≤ 9 := fun i hi => (sw_b W i hi).1
    have hsy : ∀ i, i < M → -9 ≤ sy i ∧ sy i ≤ 9 := fun i hi => (sw_b W i hi).2
    obtain ⟨⟨a1, x1, y1⟩, a2, x2, y2⟩ := mn_ex hM.1 hsx
    obtain ⟨⟨c1, x3, y3⟩, c2, x4, y4⟩ := mn_ex hM.1 hsy
    obtain ⟨⟨t1, t2⟩, ⟨t3, t4⟩, t5, t6⟩ := hT
    rw [i_tre] at t1 t2 t3 t4 t5 t6
    rw [show (-200 : Int32).toInt = -200 from rfl] at t1 t3
    rw [show (200 : Int32).toInt = 200 from rfl] at t2 t4
    rw [show (1 : Int32).toInt = 1 from rfl] at t5
    rw [show (12 : Int32).toInt = 12 from rfl] at t6
    obtain ⟨p, hy, hz, bp⟩ : ∃ p : Pnt, y = iv p.1 ∧ z = iv p.2 ∧ Bn9 p := ⟨(y.toInt, z.toInt), iv_of y, iv_of z, ⟨⟨by dsimp only; omega, by dsimp only; omega⟩, by dsimp only; omega, by dsimp only; omega⟩⟩
    obtain ⟨q, hq, bq⟩ : ∃ q : Int, w = iv q ∧ (1 ≤ q ∧ q ≤ 12) := ⟨w.toInt, iv_of w, t5, t6⟩
    subst hy hz hq
    have B : WkB b M q a1 a2 c1 c2 sx sy := ⟨W.2.1, hM, bq, y1, y2, y3, y4, sw_b W⟩
    obtain ⟨H1, F1, I1, eq1⟩ := c_begin (sc := sc) (q := q) hw (is_sh hs) C hM x1 x2 x3 x4
    have hw1 := F1.WF hw
    obtain ⟨H2, LL, F2, C2, l2, LI, dR, eq2⟩ := c_reachAll (sc := sc) hw1 I1 B bp
    have hw2 := F2.WF hw1
    have I2 := I1.fr F2 (fun x y z1 z2 => by unfold Pcl at z2; omega)
    have fS : Fq Sc h H2 := (F1.wk (fun a b q => by unfold Sc; omega)).tr (F2.wk (fun a b q => Pcl_Sc q))
    -- the model from any heap that agrees
    have mod : ∀ H3, WF H3 → ShM H3 s kd b M tn sx sy ex → ∃ H4 H4', Fq Sc H3 H4 ∧ Fq Sc H3 H4' ∧ ((dd LL).length ≤ 2000 → ∃ e, (∀ q', q' < (dd LL).length → e q' = true → ¬ Gfw (dd LL).length (Sto (nxP b q sx sy) M (dd LL)) q') ∧ (∀ q', q' < (dd LL).length → e q' = false → ∃ r, r < (dd LL).length ∧ Sto (nxP b q sx sy) M (dd LL) q' r ∧ e r = false) ∧ ∀ Q, Tr sc 19 233 (68, [some (.ref 124), some (.int (nI s)), some (.int (iv p.1)), some (.int (iv p.2)), some (.int (iv q)), some (.int 0), none, none, none, none, none], [], H3) Q = Q (some (.int (if lft e (dd LL).length = 0 then 0 else 1)), sI H4 124 2 (nI (lft e (dd LL).length)))) ∧ (2000 < (dd LL).length → ∀ Q, Tr sc 19 233 (68, [some (.ref 124), some (.int (nI s)), some (.int (iv p.1)), some (.int (iv p.2)), some (.int (iv q)), some (.int 0), none, none, none, none, none], [], H3) Q = Q (some (.int (-6)), H4')) := by
      intro H3 hw3 D3
      obtain ⟨H5, f5, ⟨b0, b1, b2, b3⟩, eq5⟩ := m_setBounds (sc := sc) hw3 hs D3 hM
      have hw5 := f5.WF hw3
      have I5 : BoI H5 a1 a2 c1 c2 := ⟨by rw [b0, x1], by rw [b1, x2], by rw [b2, x3], by rw [b3, x4]⟩
      have D5 := D3.fr f5 (fun a j h1 h2 q => by omega)
      have f6 : Fq (fun a b => a = 124 ∧ b = 50) H5 (sI H5 124 50 0) := Fq.rf.sI ⟨rfl, rfl⟩
      have hw6 := f6.WF hw5
      have D6 := D5.fr f6 (fun a j h1 h2 q => by omega)
      have I6 : BoI (sI H5 124 50 0) a1 a2 c1 c2 := by
        obtain ⟨i0, i1, i2, i3⟩ := I5
        exact ⟨by rw [rd_ne (by omega)]; exact i0, by rw [rd_ne (by omega)]; exact i1, by rw [rd_ne (by omega)]; exact i2, by rw [rd_ne (by omega)]; exact i3⟩
      have wt : ∀ d Q, Tr sc (d + 1) 231 (ent0 231 [.ref 124, .int (nI s), .int (iv p.1), .int (iv p.2), .int (iv q)] (sI H5 124 50 0)) Q = Q (some (.int (bo (Wit b q a1 a2 c1 c2 p))), sI H5 124 50 0) := fun d Q => m_isWithin hw6 hs D6 I6 B bp
      have start : ∃ H7, Fq Pin (sI H5 124 50 0) H7 ∧ CoA H7 (adW (Wit b q a1 a2 c1 c2) [] p) ∧ ∀ Q, Tr sc 19 233 (68, [some (.ref 124), some (.int (nI s)), some (.int (iv p.1)), some (.int (iv p.2)), some (.int (iv q)), some (.int 0), none, none, none, none, none], [], H3) Q = Tr sc 19 233 (112, [some (.ref 124), some (.int (nI s)), some (.int (iv p.1)), some (.int (iv p.2)), some (.int (iv q)), some (.int 0), some (.int (nI 0)), none, none, none, none], [], H7) Q := by
        cases hwt : Wit b q a1 a2 c1 c2 p
        · refine ⟨sI H5 124 50 0, Fq.rf, ?_, fun Q => ?_⟩
          · unfold adW
            rw [hwt, if_neg (by decide)]
            exact ⟨rd_eq, fun j hj => absurd hj (Nat.not_lt_zero _)⟩
          · simp only [x_233_68, x_233_69, x_233_70, o_124 hw3, x_233_73, x_233_74, x_233_75, x_233_78, x_233_79, x_233_80, x_233_81, x_233_82, x_233_84, x_233_87, o_124 hw5, x_233_109, x_233_110, cl2_i, cl2_r, cl2_n, cl2_l, tl_s, tl_n, true_and, and_true, Option.some.injEq, exists_eq_left', Bool.and_self, Bool.true_and, Bool.and_true, Bool.or_true, Bool.true_or, i_10, i_00, if_true, if_false, not_true_eq_false, not_false_eq_true, and_false, false_and, okp_sI, okp_sL, okp_aI, okp_aL, hR_sI, hR_sL, hR_aI, hR_aL, eq5, wt, hwt, show bo false = 0 from rfl]
            rfl
        · refine ⟨sI (sI (sI (sI H5 124 50 0) 153 0 (iv p.1)) 154 0 (iv p.2)) 124 50 1, ((Fq.rf.sI (by unfold Pin; omega)).sI (by unfold Pin; omega)).sI (by unfold Pin; omega), ?_, fun Q => ?_⟩
          · unfold adW addP
            rw [hwt, if_pos rfl, if_neg (fun z => by cases z)]
            refine ⟨rd_eq, fun j hj => ?_⟩
            have ej : j = 0 := Nat.lt_one_iff.mp hj
            subst ej
            exact ⟨by rw [rd_ne (by omega), rd_ne (by omega), rd_eq]; rfl, by rw [rd_ne (by omega), rd_eq]; rfl⟩
          · simp only [x_233_68, x_233_69, x_233_70, o_124 hw3, x_233_73, x_233_74, x_233_75, x_233_78, x_233_79, x_233_80, x_233_81, x_233_82, x_233_84, x_233_87, x_233_90, x_233_91, x_233_94, x_233_95, x_233_96, x_233_97, x_233_98, x_233_101, x_233_102, x_233_103, x_233_104, x_233_105, x_233_106, x_233_109, x_233_110, o_124 hw5, w_124_51 hw5, w_124_52 hw5, o_153 hw5, iOk_lt (k := 153) (by decide), iRd_lt (k := 153) (by decide), show LN 153 = 2001 from rfl, o_154 hw5, iOk_lt (k := 154) (by decide), iRd_lt (k := 154) (by decide), show LN 154 = 2001 from rfl, cl2_i, cl2_r, cl2_n, cl2_l, tl_s, tl_n, true_and, and_true, Option.some.injEq, exists_eq_left', Bool.and_self, Bool.true_and, Bool.and_true, Bool.or_true, Bool.true_or, i_10, i_00, if_true, if_false, not_true_eq_false, not_false_eq_true, and_false, false_and, okp_sI, okp_sL, okp_aI, okp_aL, hR_sI, hR_sL, hR_aI, hR_aL, eq5, wt, hwt, show bo true = 1 from rfl, show inb 0 2001 = true from rfl, cl_0]
            rfl
      obtain ⟨H7, f7, A7, eq7⟩ := start
      have hw7 := f7.WF hw6
      have D7 := D6.fr f7 (fun a j h1 h2 q => by unfold Pin at q; omega)
      have I7 : BoI H7 a1 a2 c1 c2 := by
        obtain ⟨i0, i1, i2, i3⟩ := I6
        exact ⟨by rw [f7.i (by unfold Pin; omega)]; exact i0, by rw [f7.i (by unfold Pin; omega)]; exact i1, by rw [f7.i (by unfold Pin; omega)]; exact i2, by rw [f7.i (by unfold Pin; omega)]; exact i3⟩
      have al := adW_len (wi := Wit b q a1 a2 c1 c2) (L := []) (p := p)
      rw [List.length_nil] at al
      obtain ⟨H8, f8, R8⟩ := m_in_o (sc := sc) (x := iv p.1) (y := iv p.2) hw7 hs D7 I7 B 2001 0 H7 (adW (Wit b q a1 a2 c1 c2) [] p) (by omega) Fq.rf (by omega) (adW_I ⟨List.nodup_nil, fun x hx => by cases hx⟩) A7 (Nat.zero_le _) (fun k' j h1 => absurd h1 (Nat.not_lt_zero _)) (fun k' h1 => absurd h1 (Nat.not_lt_zero _))
      rw [← dR] at R8
      have fS8 : Fq Sc H3 H8 := (f5.wk (fun a b q => by unfold Sc; omega)).tr ((f6.wk (fun a b q => by unfold Sc; omega)).tr ((f7.wk (fun a b q => Pin_Sc q)).tr (f8.wk (fun a b q => Pin_Sc q))))
      rcases R8 with ⟨r1, r2, r3, r4, r5⟩ | ⟨r1, r2⟩
      · have hw8 := f8.WF hw7
        have D8 := D7.fr f8 (fun a j h1 h2 q => by unfold Pin at q; omega)
        obtain ⟨H9, e, f9, E9, V9, W9, eq9⟩ := m_wk_s (sc := sc) (x := iv p.1) (y := iv p.2) (z := iv q) hw8 hs D8 hM.2 LI r1 r2.1 r3 (dd LL).length (fun _ => false) H8 (lft_le _) Fq.rf (fun x hx => by rw [r4 x hx]; rfl) (fun q' _ z => by cases z)
        refine ⟨H9, H8, fS8.tr (f9.wk (fun a b q => by unfold Sc; omega)), fS8, fun _ => ⟨e, V9, W9, fun Q => ?_⟩, fun z => by omega⟩
        obtain ⟨l6, l7, l8, l9, l10, ⟨z6, z7, z8, z9⟩, eq8⟩ := r5 17 Q none none none none rfl rfl rfl
        refine (eq7 Q).trans (eq8.trans ?_)
        simp only [x_233_320, x_233_321, cl2_i, cl2_r, cl2_n, cl2_l, tl_s, tl_n, true_and, and_true, Option.some.injEq, exists_eq_left', Bool.and_self, Bool.true_and, Bool.and_true, Bool.or_true, Bool.true_or, i_10, i_00, if_true, if_false, not_true_eq_false, not_false_eq_true, and_false, false_and, okp_sI, okp_sL, okp_aI, okp_aL, hR_sI, hR_sL, hR_aI, hR_aL]
        refine (eq9 18 Q l7 l8 l9 l10 z7).trans ?_
        simp only [x_233_383, x_233_384, x_233_386, x_233_387, cl2_i, cl2_r, cl2_n, cl2_l, tl_s, tl_n, true_and, and_true, Option.some.injEq, exists_eq_left', Bool.and_self, Bool.true_and, Bool.and_true, Bool.or_true, Bool.true_or, i_10, i_00, if_true, if_false, not_true_eq_false, not_false_eq_true, and_false, false_and, okp_sI, okp_sL, okp_aI, okp_aL, hR_sI, hR_sL, hR_aI, hR_aL]
        exact m_wk_c (f9.WF hw8) r1 (by rw [f9.i (by omega)]; exact r2.1) E9 (dd LL).length 0 (by omega) 18 Q l9 l10
      · exact ⟨H8, H8, fS8, fS8, fun z => by omega, fun _ Q => (eq7 Q).trans (r2 17 Q none none none none rfl rfl rfl)⟩
    simp only [x_126_65, x_126_66, x_126_69, x_126_70, x_126_73, x_126_74, x_126_75, x_126_77, o_0 hw, w_0_2 hw, w_0_11 hw, o_40 hw, o_3 hw, show LN 3 = 8 from rfl, x_126_80, x_126_81, x_126_84, x_126_85, x_126_86, x_126_89, o_0 hw1, w_0_11 hw1, o_40 hw1, cl2_i, cl2_r, cl2_n, cl2_l, tl_s, tl_n, true_and, and_true, Option.some.injEq, exists_eq_left', Bool.and_self, Bool.true_and, Bool.and_true, Bool.or_true, Bool.true_or, i_10, i_00, if_true, if_false, not_true_eq_false, not_false_eq_true, and_false, false_and, okp_sI, okp_sL, okp_aI, okp_aL, hR_sI, hR_sL, hR_aI, hR_aL, inb_nI (n := 8) hs (by decide), nI_clamp (n := s) (by omega), w1, w2, eq1, eq2]
    by_cases q2 : (dd LL).length ≤ 2000
    · obtain ⟨H3, e, F3, V3, W3, eq3⟩ := c_settle (sc := sc) hw2 I2 B C2 LI q2
      have hw3 := F3.WF hw2
      have fS3 := fS.tr (F3.wk (fun a b q => by unfold Sc; omega) : Fq Sc H2 H3)
      have ll := lft_le (e := e) (dd LL).length
      have eq3' : ∀ Q, Tr sc 18 93 (ent0 93 [.ref 40] H2) Q = Q (some (.int (nI (lft e (dd LL).length))), H3) := fun Q => eq3 14 Q
      rw [decide_eq_true q2]
      simp only [x_126_95, x_126_96, x_126_97, x_126_100, o_0 hw2, w_0_11 hw2, o_40 hw2, x_126_103, x_126_106, x_126_107, x_126_110, x_126_113, x_126_114, x_126_117, x_126_118, o_0 hw3, cl2_i, cl2_r, cl2_n, cl2_l, tl_s, tl_n, true_and, and_true, Option.some.injEq, exists_eq_left', Bool.and_self, Bool.true_and, Bool.and_true, Bool.or_true, Bool.true_or, i_10, i_00, if_true, if_false, not_true_eq_false, not_false_eq_true, and_false, false_and, okp_sI, okp_sL, okp_aI, okp_aL, hR_sI, hR_sL, hR_aI, hR_aL, show bo true = 1 from rfl, eq3', rd_eq]
      have fin : ∀ v, v = (if lft e (dd LL).length = 0 then (0 : Int32) else 1) → (WF (sI H3 0 15 (nI (lft e (dd LL).length))) ∧ hI (sI H3 0 15 (nI (lft e (dd LL).length))) 134 s = hI h 134 s ∧ hI (sI H3 0 15 (nI (lft e (dd LL).length))) 132 s = hI h 132 s ∧ Tr sc 19 233 (68, [some (.ref 124), some (.int (nI s)), some (.int (iv p.1)), some (.int (iv p.2)), some (.int (iv q)), some (.int 0), none, none, none, none, none], [], sI H3 0 15 (nI (lft e (dd LL).length))) (fun r2 => r2.1 = some (Value.int v) ∧ CM r2.2)) := by
        intro v hv
        refine ⟨hw3, by rw [rd_ne (by omega)]; exact fS3.i (by unfold Sc; omega), by rw [rd_ne (by omega)]; exact fS3.i (by unfold Sc; omega), ?_⟩
        obtain ⟨H4, H4', f4, -, m1, -⟩ := mod (sI H3 0 15 (nI (lft e (dd LL).length))) hw3 ((D.fr fS3 (fun a j h1 h2 => by unfold Sc; omega)).fr (Fq.rf.sI (P := fun a b => a = 0) rfl) (fun a j h1 h2 q => by omega))
        obtain ⟨e', V', W', eq'⟩ := m1 q2
        have el : lft e' (dd LL).length = lft e (dd LL).length := gf_two V' W' V3 W3
        rw [eq', el, hv]
        first | exact cm_eA hc fS3 f4 | exact ⟨rfl, cm_eA hc fS3 f4⟩ | exact ⟨⟨_, rfl, rfl⟩, cm_eA hc fS3 f4⟩
      by_cases q0 : lft e (dd LL).length = 0
      · rw [q0, nI_0, if_pos (by decide)]
        rw [q0, nI_0] at fin
        exact fin 0 rfl
      · rw [if_neg (nI_nle (by omega) (by omega))]
        exact fin 1 (by rw [if_neg q0])
    · rw [decide_eq_false q2]
      simp only [x_126_89, x_126_92, x_126_94, cl2_i, cl2_r, cl2_n, cl2_l, tl_s, tl_n, true_and, and_true, Option.some.injEq, exists_eq_left', Bool.and_self, Bool.true_and, Bool.and_true, Bool.or_true, Bool.true_or, i_10, i_00, if_true, if_false, not_true_eq_false, not_false_eq_true, and_false, false_and, okp_sI, okp_sL, okp_aI, okp_aL, hR_sI, hR_sL, hR_aI, hR_aL, show bo false = 0 from rfl]
      obtain ⟨H4, H4', -, f4', -, m2⟩ := mod H2 hw2 (D.fr fS (fun a j h1 h2 => by unfold Sc; omega))
      refine ⟨hw2, fS.i (by unfold Sc; omega), fS.i (by unfold Sc; omega), ?_⟩
      rw [m2 (by omega)]
      first | exact cm_e0 hc (fS.tr f4') | exact ⟨rfl, cm_e0 hc (fS.tr f4')⟩ | exact ⟨⟨_, rfl, rfl⟩, cm_e0 hc (fS.tr f4')⟩
end WI
