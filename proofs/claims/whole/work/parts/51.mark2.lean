/-! ===== mark ===== -/
section MK2
variable {sc : Nat × (Nat → Int32)} {d : Nat} {Q : PRes → Prop} {h : PH} {k s u r q : Nat} {x : Int32} {w : Int32}
theorem itI_congr {F G : Nat → Int32 → Int32} {a : Int32} : ∀ (n : Nat), (∀ i, i < n → ∀ b, F i b = G i b) → itI F a n = itI G a n
  | 0, _ => rfl
  | n + 1, hh => by
    have h1 := itI_congr (F := F) (G := G) (a := a) n (fun i hi b => hh i (by omega) b)
    have e1 : itI F a (n + 1) = F n (itI F a n) := rfl
    have e2 : itI G a (n + 1) = G n (itI G a n) := rfl
    rw [e1, e2, h1, hh n (by omega)]
theorem moR_congr {x y x' y' : Nat → Int32} {M : Nat} (hx : ∀ j, j < M → x j = x' j) (hy : ∀ j, j < M → y j = y' j) : moR x y M = moR x' y' M := by
  unfold moR
  refine itI_congr M (fun i hi a => itI_congr M (fun j hj v => ?_))
  unfold stR
  rw [hx i hi, hx j hj, hy i hi, hy j hj]
theorem sm_of {f : Nat → Int32} {M : Nat} (hf : ∀ j, j < M → -9 ≤ f j ∧ f j ≤ 9) : Sm f M := fun j hj => by
  have h1 := Int32.le_iff_toInt_le.mp (hf j hj).1
  have h2 := Int32.le_iff_toInt_le.mp (hf j hj).2
  have c1 : (-9 : Int32).toInt = -9 := rfl
  have c2 : (9 : Int32).toInt = 9 := rfl
  omega
/-- reach, in class and model, of a shape that is there -/
theorem re_both (hs' : CMs h) (hs : s < 8) (hn : ¬ hI h 134 s = 0) : ∃ N, N + 1 ≤ 6 ∧ hI h (68 + 7 * s) 8 = nI (N + 1) ∧ hI h 134 s = nI (N + 1) ∧ (2 ≤ hI h (68 + 7 * s) 7 ∧ hI h (68 + 7 * s) 7 ≤ 4) ∧ ¬ hI h 133 s - 1 = 0 ∧ moR (fun j => hI h 136 (6 * s + j)) (fun j => hI h 137 (6 * s + j)) (N + 1) / (hI h 133 s - 1) = wiR (hI h (70 + 7 * s)) (hI h (71 + 7 * s)) N / (hI h (68 + 7 * s) 7 - 1) := by
  obtain ⟨⟨-, kb, ⟨m1, m2⟩, kt⟩, k1, k2, k3, k4⟩ := sh_at hs' hs hn
  obtain ⟨M, hM, hz⟩ := nI_of2 (x := hI h (68 + 7 * s) 8) (M := 6) (n := 6) rfl (Int32.not_lt.mpr (i_le0 m1)) m2
  cases M with
  | zero => exact absurd (by rw [k3, hz]; rfl) hn
  | succ N =>
    rw [hz] at kt k4
    have lt : ∀ j, j < N + 1 → nI j < nI (N + 1) := fun j hj => nI_lt hj (by omega)
    have hx : Sm (hI h (70 + 7 * s)) (N + 1) := sm_of (fun j hj => (kt j (lt j hj) (by omega)).2.1)
    have hy : Sm (hI h (71 + 7 * s)) (N + 1) := sm_of (fun j hj => (kt j (lt j hj) (by omega)).2.2.1)
    refine ⟨N, hM, hz, by rw [k3, hz], kb, ?_, ?_⟩
    · intro e
      have h1 := Int32.le_iff_toInt_le.mp kb.1
      have h2 := Int32.le_iff_toInt_le.mp kb.2
      have c2 : (2 : Int32).toInt = 2 := rfl
      have c4 : (4 : Int32).toInt = 4 := rfl
      have c1 : (1 : Int32).toInt = 1 := rfl
      have c0 : (0 : Int32).toInt = 0 := rfl
      have e1 : (hI h 133 s - 1).toInt = (0 : Int32).toInt := by rw [e]
      rw [k2, Int32.toInt_sub, c1, c0, show ((hI h (68 + 7 * s) 7).toInt - 1).bmod (2 ^ 32) = (hI h (68 + 7 * s) 7).toInt - 1 by apply Int.bmod_eq_of_le <;> omega] at e1
      omega
    · rw [k2, ← (re_eq hx hy).1]
      congr 1
      exact moR_congr (fun j hj => (k4 j (by omega) (lt j hj)).2.1) (fun j hj => (k4 j (by omega) (lt j hj)).2.2.1)
theorem both_mark (hc : CM h) : Both sc 112 195 [.int x, .int w] h := by
  unfold Both
  obtain ⟨hw, hf, hr, ht, hs⟩ := id hc
  by_cases ew : 1 ≤ w ∧ w ≤ 4
  · have z1 : (w < 1) = False := eq_false (Int32.not_lt.mpr ew.1)
    have z2 : (4 < w) = False := eq_false (Int32.not_lt.mpr ew.2)
    by_cases e0 : 0 ≤ x ∧ x < 8
    · obtain ⟨s, hsn, rfl⟩ := ir_of (n := 8) (by decide) e0
      obtain ⟨w1, w2, ⟨r0, r1, r2, r3, -⟩, ⟨o0, o1, o2, o3, -⟩, ⟨n0, n1, n2, n3, -⟩⟩ := hw.shape hsn
      rw [e_112]
      simp only [x_112_0, x_112_1, x_112_2, x_112_3, x_112_4, x_112_7, x_112_8, x_112_9, x_112_12, x_112_13, x_112_16, x_112_17, x_112_20, x_112_21, x_112_22, x_112_25, x_112_26, x_112_27, x_112_28, x_112_31, x_112_32, x_112_33, z1, z2, if_false, c_shRef hw hsn, i_10, o_0 hw, true_and, tl_s, i_3m1, i_00, if_true, cl2_i, cl2_r, cl2_n, w_0_2 hw, o_3 hw, Bool.or_true, Bool.and_self, inb_nI (n := LN 3) hsn (by decide), nI_clamp (n := s) (by omega), w1, Option.some.injEq, exists_eq_left']
      by_cases e1 : hI h 134 s = 0
      · rw [if_pos (sm_t hs hsn e1)]
        have hw1 := WF_refu (f := 1) hw
        rw [e_195]
        simp only [x_195_0, x_195_1, x_195_2, x_195_3, x_195_6, x_195_9, x_195_10, x_195_11, x_195_12, x_195_13, x_195_16, x_195_17, x_195_18, x_195_21, x_195_22, m_in, tl_s, bI_t ew, i_10, if_false, m_askedShape hw1 hsn, o_124 hw1, true_and]
        rw [if_pos (show hI (refu h 1) 134 s = 0 by rw [refu_I (by decide) (by decide)]; exact e1)]
        simp only [tl_s, x_195_0, x_195_1, x_195_2, x_195_3, x_195_6, x_195_9, x_195_10, x_195_11, x_195_12, x_195_13, x_195_16, x_195_17, x_195_18, x_195_21, x_195_22, i_m3, if_false, cl2_i, Option.some.injEq, exists_eq_left', true_and]
        first | exact cm_ref (by decide) hc | exact ⟨rfl, cm_ref (by decide) hc⟩ | exact ⟨⟨_, rfl, rfl⟩, cm_ref (by decide) hc⟩
      · rw [if_neg (sm_f hs hsn e1)]
        obtain ⟨N, hN, hz, hz4, hb, hb3, hre⟩ := re_both hs hsn e1
        obtain ⟨⟨-, -, -, kt⟩, k1, k2, k3, k4⟩ := sh_at hs hsn e1
        rw [hz] at kt k4
        have mod : ∀ (H : PH) (QQ : PRes → Prop), WF H → hI H 132 s = hI h 132 s → hI H 134 s = hI h 134 s → Tr sc 19 195 (ent0 195 [.ref 124, .int (nI s), .int w] H) QQ = if hI h (68 + 7 * s) 6 = w then Tr sc 19 195 (52, [some (.ref 124), some (.int (nI s)), some (.int w), some (.int 0)], [], H) QQ else if w = 1 then (if ¬ (hI h (68 + 7 * s) 6 = 1 ∨ hI h (68 + 7 * s) 6 = 2) then QQ (some (.int (-3)), refm H 3) else Tr sc 19 195 (52, [some (.ref 124), some (.int (nI s)), some (.int w), some (.int 0)], [], H) QQ) else QQ (some (.int (-3)), refm H 3) := by
          intro H QQ hwH f2 f4
          rw [e_195]
          simp only [x_195_0, x_195_1, x_195_2, x_195_3, x_195_6, x_195_9, x_195_10, x_195_11, x_195_12, x_195_13, x_195_16, x_195_17, x_195_18, x_195_21, x_195_22, m_in, tl_s, bI_t ew, i_10, if_false, m_askedShape hwH hsn, o_124 hwH, true_and]
          rw [if_neg (by rw [f4]; exact e1)]
          simp only [x_195_16, x_195_17, x_195_18, x_195_21, x_195_22, x_195_23, x_195_24, x_195_27, x_195_28, x_195_29, x_195_30, x_195_33, x_195_34, x_195_35, x_195_38, x_195_39, x_195_40, x_195_43, x_195_46, x_195_47, x_195_48, x_195_51, tl_s, i_0, if_true, cl2_i, cl2_r, cl2_n, o_124 hwH, w_124_16 hwH, iOk_ok (o_132 hwH), iRd_ok (o_132 hwH), inb_nI (n := LN 132) hsn (by decide), nI_clamp (n := s) (by omega), f2, k1, m_isStr hwH hsn, m_meets_3 hwH, bI_0, true_and, Option.some.injEq, exists_eq_left']
        have refd : ¬ hI h (68 + 7 * s) 6 = w → (w = 1 → ¬ (hI h (68 + 7 * s) 6 = 1 ∨ hI h (68 + 7 * s) 6 = 2)) → Tr sc 19 195 (ent0 195 [.ref 124, .int (nI s), .int w] (refu h 3)) (fun r2 => r2.1 = some (Value.int (-3)) ∧ CM r2.2) := by
          intro q1 q2
          rw [mod _ _ (WF_refu hw) (refu_I (by decide) (by decide)) (refu_I (by decide) (by decide)), if_neg q1]
          by_cases q3 : w = 1
          · rw [if_pos q3, if_pos (q2 q3)]
            exact ⟨rfl, cm_ref (by decide) hc⟩
          · rw [if_neg q3]
            exact ⟨rfl, cm_ref (by decide) hc⟩
        simp only [x_112_35, x_112_36, x_112_37, x_112_40, x_112_42, x_112_45, x_112_48, x_112_50, x_112_53, x_112_54, x_112_55, x_112_57, x_112_60, x_112_63, x_112_64, x_112_65, x_112_68, x_112_69, x_112_70, x_112_71, x_112_74, x_112_76, x_112_79, x_112_82, x_112_83, x_112_84, x_112_87, x_112_89, x_112_92, x_112_95, x_112_97, x_112_100, o_0 hw, true_and, w2, c_isStr w2, tl_s, bI_0, c_reach w2 r1 r2 o1 o2 n1 n2 hz hN hb, c_weightOfAll w2 r3 o3 n3 hz hN, c_barredPairs w2 r3 o3 n3 hz hN, c_refuse_3 hw, cl2_i, cl2_r, cl2_n, Option.some.injEq, exists_eq_left']
        by_cases q1 : w = 1
        · rw [if_pos q1]
          by_cases q2 : hI h (68 + 7 * s) 6 = 1 ∨ hI h (68 + 7 * s) 6 = 2
          · rw [if_neg (fun q => q q2), mod h _ hw rfl rfl]
            have T : Tr sc 19 195 (52, [some (.ref 124), some (.int (nI s)), some (.int w), some (.int 0)], [], h) (fun r2 => r2.1 = some (Value.int (wiR (hI h (70 + 7 * s)) (hI h (71 + 7 * s)) N / (hI h (68 + 7 * s) 7 - 1))) ∧ CM r2.2) := by
              simp only [x_195_52, x_195_53, x_195_54, x_195_57, x_195_58, x_195_59, x_195_62, x_195_97, o_124 hw, true_and, m_reach hw hsn hz4 hN hb3, tl_s, hre]
              rw [if_pos q1]
              first | exact hc | exact ⟨rfl, hc⟩
            by_cases q3 : hI h (68 + 7 * s) 6 = w
            · rw [if_pos q3]
              exact T
            · rw [if_neg q3, if_pos q1, if_neg (fun q => q q2)]
              exact T
          · have q3 : ¬ w = hI h (68 + 7 * s) 6 := fun q => q2 (Or.inl (by rw [← q]; exact q1))
            rw [if_pos q2, if_neg q3]
            exact refd (fun q => q3 q.symm) (fun _ => q2)
        · rw [if_neg q1]
          by_cases q3 : w = hI h (68 + 7 * s) 6
          · rw [if_pos q3]
            have lt : ∀ j, j < N + 1 → nI j < nI (N + 1) := fun j hj => nI_lt hj (by omega)
            by_cases q4 : w = 2
            · rw [if_pos q4, mod h _ hw rfl rfl, if_pos q3.symm]
              simp only [x_195_52, x_195_53, x_195_54, x_195_57, x_195_58, x_195_59, x_195_62, x_195_65, x_195_66, x_195_67, x_195_70, x_195_71, x_195_74, x_195_75, x_195_76, x_195_97, o_124 hw, true_and, w_124_18 hw, iOk_ok (o_134 hw), iRd_ok (o_134 hw), inb_nI (n := LN 134) hsn (by decide), nI_clamp (n := s) (by omega), hz4, hz, tl_s, Option.some.injEq, exists_eq_left']
              rw [if_neg q1, if_pos q4]
              first | exact hc | exact ⟨rfl, hc⟩
            · rw [if_neg q4]
              by_cases q5 : w = 3
              · rw [if_pos q5, mod h _ hw rfl rfl, if_pos q3.symm]
                simp only [x_195_52, x_195_53, x_195_54, x_195_57, x_195_58, x_195_59, x_195_62, x_195_65, x_195_66, x_195_67, x_195_79, x_195_80, x_195_81, x_195_84, x_195_85, x_195_86, x_195_89, x_195_97, o_124 hw, true_and, m_weightOf hw hsn hz4 hN, tl_s]
                rw [if_neg q1, if_neg q4, if_pos q5]
                have kd3 : hI h (68 + 7 * s) 6 = 3 := by rw [← q3]; exact q5
                have val : wtS (fun j => if hI h 132 s = 3 then hI h 138 (6 * s + j) else 1) (N + 1) = wtS (fun j => if hI h (68 + 7 * s) 6 = 3 then hI h (72 + 7 * s) j else 1) (N + 1) := wtS_congr (N + 1) (fun j hj => by
                  rw [k1, if_pos kd3, if_pos kd3]
                  exact (k4 j (by omega) (lt j hj)).2.2.2 (Or.inl kd3))
                rw [val]
                first | exact hc | exact ⟨rfl, hc⟩
              · rw [if_neg q5, mod h _ hw rfl rfl, if_pos q3.symm]
                have w4 : w = 4 := by
                  apply Int32.toInt_inj.mp
                  have h1 := Int32.le_iff_toInt_le.mp ew.1
                  have h2 := Int32.le_iff_toInt_le.mp ew.2
                  have n1 : ¬ w.toInt = 1 := fun q => q1 (Int32.toInt_inj.mp q)
                  have n2 : ¬ w.toInt = 2 := fun q => q4 (Int32.toInt_inj.mp q)
                  have n3 : ¬ w.toInt = 3 := fun q => q5 (Int32.toInt_inj.mp q)
                  have c1 : (1 : Int32).toInt = 1 := rfl
                  have c4 : (4 : Int32).toInt = 4 := rfl
                  omega
                have kd4 : hI h (68 + 7 * s) 6 = 4 := by rw [← q3]; exact w4
                simp only [x_195_52, x_195_53, x_195_54, x_195_57, x_195_58, x_195_59, x_195_62, x_195_65, x_195_66, x_195_67, x_195_79, x_195_80, x_195_81, x_195_92, x_195_93, x_195_94, x_195_97, o_124 hw, true_and, m_barredOf hw hsn hz4 hN (by rw [k1]; exact kd4), tl_s]
                rw [if_neg q1, if_neg q4, if_neg q5]
                have val : itI (fun i a => cnP a (bit1 (hI h 138 (6 * s + i))) (N + 1)) 0 (N + 1) = wtS (fun j => bcF (hI h (72 + 7 * s) j)) (N + 1) := bo_eq (f := fun i => hI h 138 (6 * s + i)) hN (fun j hj => ⟨decide_eq_true ((kt j (lt j hj) (by omega)).2.2.2.2.2 kd4), (k4 j (by omega) (lt j hj)).2.2.2 (Or.inr kd4)⟩) (N + 1) (Nat.le_refl _)
                rw [val]
                first | exact hc | exact ⟨rfl, hc⟩
          · rw [if_neg q3]
            exact refd (fun q => q3 q.symm) (fun q => absurd q q1)
    · rw [e_112]
      simp only [x_112_0, x_112_1, x_112_2, x_112_3, x_112_4, x_112_7, x_112_8, x_112_9, x_112_12, x_112_13, x_112_16, x_112_17, x_112_20, x_112_21, x_112_22, x_112_25, x_112_26, z1, z2, if_false, c_shRef_bad e0, o_0 hw, true_and, tl_s, i_1m1, cl2_i, cl2_r, cl2_n]
      rw [e_195]
      simp only [x_195_0, x_195_1, x_195_2, x_195_3, x_195_6, x_195_9, x_195_10, x_195_11, x_195_12, x_195_13, x_195_16, x_195_17, x_195_18, x_195_21, x_195_22, m_in, tl_s, bI_t ew, i_10, if_false, m_askedShape_bad e0, o_124 hw, true_and, i_m1, cl2_i, Option.some.injEq, exists_eq_left']
      first | exact hc | exact ⟨rfl, hc⟩ | exact ⟨⟨_, rfl, rfl⟩, hc⟩
  · have bad : Tr sc 19 195 (ent0 195 [.ref 124, .int x, .int w] h) (fun r2 => (∃ v, some (Value.int (-1)) = some v ∧ r2.1 = some v) ∧ CM r2.2) := by
      rw [e_195]
      simp only [x_195_0, x_195_1, x_195_2, x_195_3, x_195_6, x_195_9, x_195_10, x_195_11, x_195_12, x_195_13, x_195_16, x_195_17, x_195_18, x_195_21, x_195_22, m_in, tl_s, bI_f ew, i_00, if_true]
      first | exact hc | exact ⟨rfl, hc⟩ | exact ⟨⟨_, rfl, rfl⟩, hc⟩
    have sh : Tr sc 18 146 (ent0 146 [.ref 0, .int x, .int 0] h) (fun z => Tr sc (18 + 1) 112 (20, [some (.ref 0), some (.int x), some (.int w), none, none], z.1.toList ++ [], z.2) (fun r1 => Tr sc 19 195 (ent0 195 [.ref 124, .int x, .int w] r1.2) (fun r2 => (∃ v, r1.1 = some v ∧ r2.1 = some v) ∧ CM r2.2))) := by
      by_cases e0 : 0 ≤ x ∧ x < 8
      · obtain ⟨s, hsn, rfl⟩ := ir_of (n := 8) (by decide) e0
        rw [c_shRef hw hsn, if_pos rfl]
        simp only [x_112_20, x_112_21, x_112_22, x_112_25, x_112_26, tl_s, i_1m1, if_false, cl2_i, cl2_r, cl2_n]
        exact bad
      · rw [c_shRef_bad e0]
        simp only [x_112_20, x_112_21, x_112_22, x_112_25, x_112_26, tl_s, i_1m1, if_false, cl2_i, cl2_r, cl2_n]
        exact bad
    rw [e_112]
    simp only [x_112_0, x_112_1, x_112_2, x_112_3, x_112_4, x_112_7, x_112_8, x_112_9, x_112_12, x_112_13, x_112_16, x_112_17, o_0 hw, true_and]
    by_cases z1 : w < 1
    · rw [if_pos z1]
      exact sh
    · rw [if_neg z1, if_pos (Int32.not_le.mp (fun q => ew ⟨Int32.not_lt.mp z1, q⟩))]
      exact sh
end MK2
