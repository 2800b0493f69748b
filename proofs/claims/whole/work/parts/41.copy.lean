/-! ===== copy ===== -/
section CP
variable {sc : Nat × (Nat → Int32)} {d : Nat} {Q : PRes → Prop} {h : PH} {k s : Nat} {x i y j n w : Int32}
theorem i32_40 {x : Int32} (h0 : 0 ≤ x.toInt) (h1 : x.toInt ≤ 40) : ∃ a : Nat, a ≤ 40 ∧ x = nI a :=
  nI_of2 (M := 40) rfl (fun q => by have q1 := Int32.lt_iff_toInt_lt.mp q; have e : (0 : Int32).toInt = 0 := rfl; omega) (Int32.le_iff_toInt_le.mpr (by have e : (40 : Int32).toInt = 40 := rfl; omega))
theorem c_hasPlaces (ho : okp h k 5 = true) (h0 : 0 ≤ (hI h k 1).toInt) (h1 : (hI h k 1).toInt ≤ 60) : Tr sc d 44 (ent0 44 [.ref k, .int i, .int n] h) Q = Q (some (.int (bI (0 ≤ i.toInt ∧ i.toInt ≤ (hI h k 1).toInt ∧ i.toInt + n.toInt ≤ (hI h k 1).toInt))), h) := by
  rw [e_44]
  simp only [x_44_0, x_44_1, x_44_4, x_44_5, x_44_6, x_44_9, x_44_12, x_44_13, x_44_14, x_44_17, x_44_18, x_44_19, x_44_22, x_44_23, x_44_26, x_44_27, ho, true_and]
  have e0 : (0 : Int32).toInt = 0 := rfl
  by_cases q1 : i < 0
  · rw [if_pos q1, bI_f (fun z => by have q2 := Int32.lt_iff_toInt_lt.mp q1; omega)]
    simp only [vp_b0, true_and]
  · rw [if_neg q1]
    have q1' := Int32.le_iff_toInt_le.mp (Int32.not_lt.mp q1)
    by_cases q2 : hI h k 1 < i
    · rw [if_pos q2, bI_f (fun z => by have q3 := Int32.lt_iff_toInt_lt.mp q2; omega)]
      simp only [vp_b0, true_and]
    · rw [if_neg q2]
      have q2' := Int32.le_iff_toInt_le.mp (Int32.not_lt.mp q2)
      have es : (hI h k 1 - i).toInt = (hI h k 1).toInt - i.toInt := by
        rw [Int32.toInt_sub]
        apply Int.bmod_eq_of_le <;> omega
      by_cases q3 : hI h k 1 - i < n
      · rw [if_pos q3, bI_f (fun z => by have q4 := Int32.lt_iff_toInt_lt.mp q3; omega)]
        simp only [vp_b0, true_and]
      · rw [if_neg q3, bI_t (by have q4 := Int32.le_iff_toInt_le.mp (Int32.not_lt.mp q3); omega)]
        simp only [vp_b1, true_and]
theorem lcmp_le {a b : Int64} : (lg_cmp a b ≤ 0) = (a.toInt ≤ b.toInt) := by
  apply propext
  unfold lg_cmp
  by_cases e1 : b < a
  · rw [if_pos e1]
    have := Int64.lt_iff_toInt_lt.mp e1
    exact ⟨fun q => absurd q (by decide), fun q => by omega⟩
  · rw [if_neg e1]
    have := Int64.le_iff_toInt_le.mp (Int64.not_lt.mp e1)
    refine ⟨fun _ => this, fun _ => ?_⟩
    split <;> decide
theorem lcmp_gt {a b : Int64} : (0 < lg_cmp a b) = (b.toInt < a.toInt) := by
  have h1 := lcmp_le (a := a) (b := b)
  apply propext
  rw [← Int32.not_le, h1]
  omega
theorem l_add2 {a b : Int32} : (a.toInt64 + b.toInt64).toInt = a.toInt + b.toInt := by
  rw [Int64.toInt_add, Int32.toInt_toInt64, Int32.toInt_toInt64]
  have h1 := Int32.toInt_lt a
  have h2 := Int32.le_toInt a
  have h3 := Int32.toInt_lt b
  have h4 := Int32.le_toInt b
  apply Int.bmod_eq_of_le <;> omega
theorem cp_ix {r a b : Nat} (hr : r < 6) (ha : a < 40) : 40 * nI r + nI a + nI b = nI (40 * r + a + b) := by
  rw [lay_ix hr ha, nI_add]
theorem m_cp1 {r a t N : Nat} (hw : WF h) (hr : r < 6) (hN : a + N ≤ 40) : ∀ (m b : Nat), b + m = N → ∀ f : Nat → Int32, Tr sc d 168 (104, [some (.ref 124), some (.int (nI r)), some (.int (nI a)), some (.int (nI t)), some (.int j), some (.int (nI N)), some (.int (nI b))], [], aI h 128 f) Q = Tr sc d 168 (138, [some (.ref 124), some (.int (nI r)), some (.int (nI a)), some (.int (nI t)), some (.int j), some (.int (nI N)), some (.int (nI N))], [], aI h 128 (fun c => if b ≤ c ∧ c < N then hI h 127 (40 * r + a + c) else f c)) Q := by
  intro m
  induction m with
  | zero =>
    intro b hb f
    have e : b = N := by omega
    subst e
    rw [x_168_104]
    simp only [x_168_106, x_168_108, x_168_111, x_168_112, x_168_115, x_168_117, x_168_118, x_168_121, x_168_123, x_168_124, x_168_125, x_168_126, x_168_127, x_168_129, x_168_130, x_168_131, x_168_132, x_168_135]
    rw [if_pos (Int32.le_refl _)]
    congr 5
    funext c
    rw [if_neg (by omega)]
  | succ m ih =>
    intro b hb f
    have hlt : b < N := by omega
    have g3 : 40 * r + a + b < 240 := by omega
    have hw1 : WF (aI h 128 f) := Fr_WF (Fr_aI (P := fun x => x = 128) rfl) hw
    rw [x_168_104]
    simp only [x_168_106, x_168_108, x_168_111, x_168_112, x_168_115, x_168_117, x_168_118, x_168_121, x_168_123, x_168_124, x_168_125, x_168_126, x_168_127, x_168_129, x_168_130, x_168_131, x_168_132, x_168_135, o_124 hw1, w_124_7 hw1, w_124_8 hw1, o_128 hw1, iOk_ok (o_127 hw1), iRd_ok (o_127 hw1), inb_nI (i := b) (n := LN 128) (Nat.lt_of_lt_of_le hlt (by have : LN 128 = 40 := rfl; omega)) (by decide), inb_nI (n := LN 127) g3 (by decide), nI_clamp (n := b) (by omega), nI_clamp (n := 40 * r + a + b) (by omega), cp_ix hr (show a < 40 by omega), Bool.and_self, true_and, Option.some.injEq, exists_eq_left', nI_1, cl2_i, cl2_n, cl2_r, sI_aI, hI_aI, Nat.reduceEqDiff, if_false]
    rw [if_neg (nI_ge hlt (by omega)), ih (b + 1) (by omega)]
    congr 5
    funext c
    by_cases e1 : c = b
    · rw [if_neg (by omega), if_pos e1, if_pos (by omega), e1]
    · by_cases e2 : b + 1 ≤ c ∧ c < N
      · rw [if_pos e2, if_pos (by omega)]
      · rw [if_neg e2, if_neg e1, if_neg (by omega)]
theorem m_cp2 {r a t N : Nat} {g : Nat → Int32} (hw : WF h) (ht : t < 6) (hN : a + N ≤ 40) (hg : ∀ c, hI h 128 c = g c) : ∀ (m b : Nat), b + m = N → ∀ f : Nat → Int32, Tr sc d 168 (141, [some (.ref 124), some (.int (nI r)), some (.int i), some (.int (nI t)), some (.int (nI a)), some (.int (nI N)), some (.int (nI b))], [], aI h 127 f) Q = Q (some (.int 1), aI h 127 (fun c => if 40 * t + a + b ≤ c ∧ c < 40 * t + a + N then g (c - (40 * t + a)) else f c)) := by
  intro m
  induction m with
  | zero =>
    intro b hb f
    have e : b = N := by omega
    subst e
    rw [x_168_141]
    simp only [x_168_143, x_168_145, x_168_148, x_168_149, x_168_152, x_168_154, x_168_155, x_168_156, x_168_158, x_168_159, x_168_161, x_168_162, x_168_163, x_168_166, x_168_168, x_168_169, x_168_170, x_168_173, x_168_176, x_168_177]
    rw [if_pos (Int32.le_refl _)]
    congr 3
    funext c
    rw [if_neg (by omega)]
  | succ m ih =>
    intro b hb f
    have hlt : b < N := by omega
    have g3 : 40 * t + a + b < 240 := by omega
    have hw1 : WF (aI h 127 f) := Fr_WF (Fr_aI (P := fun x => x = 127) rfl) hw
    rw [x_168_141]
    simp only [x_168_143, x_168_145, x_168_148, x_168_149, x_168_152, x_168_154, x_168_155, x_168_156, x_168_158, x_168_159, x_168_161, x_168_162, x_168_163, x_168_166, x_168_168, x_168_169, x_168_170, x_168_173, x_168_176, x_168_177, o_124 hw1, w_124_7 hw1, w_124_8 hw1, o_127 hw1, iOk_ok (o_128 hw1), iRd_ok (o_128 hw1), inb_nI (i := b) (n := LN 128) (Nat.lt_of_lt_of_le hlt (by have : LN 128 = 40 := rfl; omega)) (by decide), inb_nI (n := LN 127) g3 (by decide), nI_clamp (n := b) (by omega), nI_clamp (n := 40 * t + a + b) (by omega), cp_ix ht (show a < 40 by omega), Bool.and_self, true_and, Option.some.injEq, exists_eq_left', nI_1, cl2_i, cl2_n, cl2_r, sI_aI, hI_aI, Nat.reduceEqDiff, if_false, hg]
    rw [if_neg (nI_ge hlt (by omega)), ih (b + 1) (by omega)]
    congr 3
    funext c
    by_cases e1 : c = 40 * t + a + b
    · rw [if_neg (by omega), if_pos e1, if_pos (by omega), show c - (40 * t + a) = b by omega]
    · by_cases e2 : 40 * t + a + (b + 1) ≤ c ∧ c < 40 * t + a + N
      · rw [if_pos e2, if_pos (by omega)]
      · rw [if_neg e2, if_neg e1, if_neg (by omega)]
/-- a row's size, when it is there -/
theorem sz_at {r : Nat} (c : CMr h) (hr : r < 6) (e : ¬ hI h (48 + 2 * r) 1 < 0) : hI h 126 r = hI h (48 + 2 * r) 1 ∧ 0 ≤ (hI h (48 + 2 * r) 1).toInt ∧ (hI h (48 + 2 * r) 1).toInt ≤ 40 := by
  have e2 : 0 ≤ hI h 126 r := Classical.not_not.mp (fun q => e (by rw [sz_neg c hr]; exact q))
  obtain ⟨e3, e4⟩ := sz_eq c hr e2
  rw [e3]
  have h1 := Int32.le_iff_toInt_le.mp e2
  have h2 := Int32.le_iff_toInt_le.mp e4
  have c0 : (0 : Int32).toInt = 0 := rfl
  have c4 : (40 : Int32).toInt = 40 := rfl
  exact ⟨rfl, by omega, by omega⟩
theorem both_copy (hc : CM h) : Both sc 100 168 [.int x, .int i, .int y, .int j, .int n] h := by
  unfold Both
  obtain ⟨hw, hf, hr, ht, hs⟩ := id hc
  have bad : ¬ (0 ≤ x ∧ x < 6) ∨ ¬ (0 ≤ y ∧ y < 6) → Tr sc 19 168 (ent0 168 [.ref 124, .int x, .int i, .int y, .int j, .int n] h) (fun r2 => (∃ v, some (Value.int (-1)) = some v ∧ r2.1 = some v) ∧ CM r2.2) := by
    intro e
    have k5 : ∀ z : Int32, (0 ≤ z ∧ z ≤ 5) = (0 ≤ z ∧ z < 6) := fun z => propext (by
      have c5 : (5 : Int32).toInt = 5 := rfl
      have c6 : (6 : Int32).toInt = 6 := rfl
      rw [i_tri, i_tre (a := z), c5, c6]
      exact ⟨fun q => ⟨q.1, by omega⟩, fun q => ⟨q.1, by omega⟩⟩)
    rw [e_168]
    simp only [x_168_0, x_168_1, x_168_4, x_168_7, x_168_8, x_168_11, x_168_14, x_168_15, x_168_16, x_168_18, x_168_21, x_168_22, x_168_23, x_168_26, x_168_27, x_168_28, x_168_31, x_168_32, x_168_33, x_168_36, x_168_37, x_168_40, x_168_41, x_168_42, x_168_45, x_168_46, x_168_47, x_168_50, x_168_51, x_168_52, x_168_55, x_168_57, x_168_60, x_168_61, x_168_62, x_168_64, x_168_65, x_168_66, x_168_67, x_168_70, x_168_71, x_168_72, x_168_73, x_168_74, x_168_77, x_168_79, x_168_80, x_168_82, x_168_83, x_168_84, x_168_85, x_168_88, x_168_89, x_168_90, x_168_91, x_168_92, x_168_95, x_168_96, x_168_97, x_168_100, m_isRow, tl_s, bI_0, k5]
    by_cases e1 : 0 ≤ x ∧ x < 6
    · rw [if_neg (fun q => q e1), if_pos (e.resolve_left (fun q => q e1))]
      first | exact hc | exact ⟨rfl, hc⟩ | exact ⟨⟨_, rfl, rfl⟩, hc⟩
    · rw [if_pos e1]
      first | exact hc | exact ⟨rfl, hc⟩ | exact ⟨⟨_, rfl, rfl⟩, hc⟩
  rw [e_100]
  by_cases e0 : 0 ≤ x ∧ x < 6
  · by_cases e1 : 0 ≤ y ∧ y < 6
    · obtain ⟨r, hrn, rfl⟩ := ir_of (n := 6) (by decide) e0
      obtain ⟨t, htn, rfl⟩ := ir_of (n := 6) (by decide) e1
      obtain ⟨w1, w2, w3, w4, w5⟩ := hw.row hrn
      obtain ⟨v1, v2, v3, v4, v5⟩ := hw.row htn
      have mr : ∀ {q : Nat}, q < 6 → bI (0 ≤ nI q ∧ nI q ≤ 5) = 1 := fun {q} hq => bI_t ⟨nI_pos' (by omega), nI_le (a := q) (b := 5) (by omega) (by decide)⟩
      simp only [x_100_0, x_100_1, x_100_4, x_100_7, x_100_8, x_100_11, x_100_14, x_100_15, x_100_16, x_100_18, x_100_21, x_100_22, x_100_23, x_100_26, x_100_27, x_100_28, x_100_31, x_100_32, x_100_33, x_100_36, x_100_39, x_100_40, x_100_43, x_100_44, x_100_45, x_100_48, x_100_51, x_100_52, x_100_53, x_100_56, x_100_57, x_100_58, x_100_61, x_100_62, x_100_63, x_100_64, x_100_66, x_100_69, x_100_72, x_100_73, x_100_76, x_100_77, x_100_78, x_100_80, x_100_82, x_100_85, x_100_88, x_100_89, x_100_90, x_100_93, c_isRow, isRow_t hrn, isRow_t htn, i_10, if_false, tl_s, o_0 hw, w_0_0 hw, o_1 hw, Bool.true_or, inb_nI (n := LN 1) hrn (by decide), inb_nI (n := LN 1) htn (by decide), Bool.and_self, nI_clamp (n := r) (by omega), nI_clamp (n := t) (by omega), w1, w3, v1, v3, true_and, Option.some.injEq, exists_eq_left', c_isMiss w3, c_isMiss v3, bI_0, c_refuse_1 hw, c_refuse_5 hw]
      by_cases e2 : 0 ≤ n
      · rw [if_pos e2]
        have e2' := Int32.le_iff_toInt_le.mp e2
        have c0 : (0 : Int32).toInt = 0 := rfl
        by_cases e3 : hI h (48 + 2 * r) 1 < 0 ∨ hI h (48 + 2 * t) 1 < 0
        · have hw1 := WF_refu (f := 1) hw
          have g1 : ∀ q, hI (refu h 1) 126 q = hI h 126 q := fun q => refu_I (by decide) (by decide)
          have fin : Tr sc 19 168 (ent0 168 [.ref 124, .int (nI r), .int i, .int (nI t), .int j, .int n] (refu h 1)) (fun r2 => r2.1 = some (Value.int (-3)) ∧ CM r2.2) := by
            rw [e_168]
            simp only [x_168_0, x_168_1, x_168_4, x_168_7, x_168_8, x_168_11, x_168_14, x_168_15, x_168_16, x_168_18, x_168_21, x_168_22, x_168_23, x_168_26, x_168_27, x_168_28, x_168_31, x_168_32, x_168_33, x_168_36, x_168_37, x_168_40, x_168_41, x_168_42, x_168_45, x_168_46, x_168_47, x_168_50, x_168_51, x_168_52, x_168_55, x_168_57, x_168_60, x_168_61, x_168_62, x_168_64, x_168_65, x_168_66, x_168_67, x_168_70, x_168_71, x_168_72, x_168_73, x_168_74, x_168_77, x_168_79, x_168_80, x_168_82, x_168_83, x_168_84, x_168_85, x_168_88, x_168_89, x_168_90, x_168_91, x_168_92, x_168_95, x_168_96, x_168_97, x_168_100, m_isRow, mr hrn, mr htn, i_10, if_false, tl_s, o_124 hw1, w_124_6 hw1, iOk_ok (o_126 hw1), iRd_ok (o_126 hw1), inb_nI (n := LN 126) hrn (by decide), inb_nI (n := LN 126) htn (by decide), nI_clamp (n := r) (by omega), nI_clamp (n := t) (by omega), g1, true_and, Option.some.injEq, exists_eq_left', m_meets_1 hw1]
            rw [if_pos e2]
            by_cases q1 : hI h 126 r < 0
            · rw [if_pos q1]
              first | exact cm_ref (by decide) hc | exact ⟨rfl, cm_ref (by decide) hc⟩ | exact ⟨⟨_, rfl, rfl⟩, cm_ref (by decide) hc⟩
            · rw [if_neg q1, if_neg (show ¬ 0 ≤ hI h 126 t by
                rw [← sz_neg hr htn]
                refine e3.resolve_left ?_
                rw [sz_neg hr hrn]
                exact fun q => q (Int32.not_lt.mp q1))]
              first | exact cm_ref (by decide) hc | exact ⟨rfl, cm_ref (by decide) hc⟩ | exact ⟨⟨_, rfl, rfl⟩, cm_ref (by decide) hc⟩
          by_cases q1 : hI h (48 + 2 * r) 1 < 0
          · rw [if_neg (fun q => q q1)]
            exact fin
          · rw [if_pos q1, if_neg (fun q => q (e3.resolve_left q1))]
            exact fin
        · have e4 : ¬ hI h (48 + 2 * r) 1 < 0 := fun q => e3 (Or.inl q)
          have e5 : ¬ hI h (48 + 2 * t) 1 < 0 := fun q => e3 (Or.inr q)
          rw [if_pos e4, if_pos e5]
          obtain ⟨s1, s2, s3⟩ := sz_at hr hrn e4
          obtain ⟨u1, u2, u3⟩ := sz_at hr htn e5
          have mod : ∀ (H : PH), WF H → (∀ q, hI H 126 q = hI h 126 q) → ∀ (QQ : PRes → Prop), Tr sc 19 168 (ent0 168 [.ref 124, .int (nI r), .int i, .int (nI t), .int j, .int n] H) QQ = if (0 ≤ i.toInt ∧ i.toInt + n.toInt ≤ (hI h (48 + 2 * r) 1).toInt) ∧ (0 ≤ j.toInt ∧ j.toInt + n.toInt ≤ (hI h (48 + 2 * t) 1).toInt) then Tr sc 19 168 (104, [some (.ref 124), some (.int (nI r)), some (.int i), some (.int (nI t)), some (.int j), some (.int n), some (.int 0)], [], H) QQ else QQ (some (.int (-3)), refm H 2) := by
            intro H hw1 g1 QQ
            rw [e_168]
            simp only [x_168_0, x_168_1, x_168_4, x_168_7, x_168_8, x_168_11, x_168_14, x_168_15, x_168_16, x_168_18, x_168_21, x_168_22, x_168_23, x_168_26, x_168_27, x_168_28, x_168_31, x_168_32, x_168_33, x_168_36, x_168_37, x_168_40, x_168_41, x_168_42, x_168_45, x_168_46, x_168_47, x_168_50, x_168_51, x_168_52, x_168_55, x_168_57, x_168_60, x_168_61, x_168_62, x_168_64, x_168_65, x_168_66, x_168_67, x_168_70, x_168_71, x_168_72, x_168_73, x_168_74, x_168_77, x_168_79, x_168_80, x_168_82, x_168_83, x_168_84, x_168_85, x_168_88, x_168_89, x_168_90, x_168_91, x_168_92, x_168_95, x_168_96, x_168_97, x_168_100, x_168_101, x_168_102, m_isRow, mr hrn, mr htn, i_10, if_false, tl_s, o_124 hw1, w_124_6 hw1, iOk_ok (o_126 hw1), iRd_ok (o_126 hw1), inb_nI (n := LN 126) hrn (by decide), inb_nI (n := LN 126) htn (by decide), nI_clamp (n := r) (by omega), nI_clamp (n := t) (by omega), g1, true_and, Option.some.injEq, exists_eq_left', m_meets_2 hw1, lcmp_le, lcmp_gt, l_add2, Int32.toInt_toInt64, s1, u1, cl2_i, cl2_n, cl2_r]
            rw [if_pos e2, if_neg e4, if_pos (Int32.not_lt.mp e5)]
            by_cases q1 : i < 0
            · have q1' := Int32.lt_iff_toInt_lt.mp q1
              rw [if_pos q1, if_neg (by omega)]
            · have q1' := Int32.le_iff_toInt_le.mp (Int32.not_lt.mp q1)
              rw [if_neg q1]
              by_cases q2 : j < 0
              · have q2' := Int32.lt_iff_toInt_lt.mp q2
                rw [if_pos q2, if_neg (by omega)]
              · have q2' := Int32.le_iff_toInt_le.mp (Int32.not_lt.mp q2)
                rw [if_neg q2]
                by_cases q3 : (hI h (48 + 2 * r) 1).toInt < i.toInt + n.toInt
                · rw [if_pos q3, if_neg (by omega)]
                · rw [if_neg q3]
                  by_cases q4 : j.toInt + n.toInt ≤ (hI h (48 + 2 * t) 1).toInt
                  · rw [if_pos q4, if_pos (by omega)]
                  · rw [if_neg q4, if_neg (by omega)]
          simp only [c_hasPlaces w3 s2 (show (hI h (48 + 2 * r) 1).toInt ≤ 60 by omega), c_hasPlaces v3 u2 (show (hI h (48 + 2 * t) 1).toInt ≤ 60 by omega), x_100_0, x_100_1, x_100_4, x_100_7, x_100_8, x_100_11, x_100_14, x_100_15, x_100_16, x_100_18, x_100_21, x_100_22, x_100_23, x_100_26, x_100_27, x_100_28, x_100_31, x_100_32, x_100_33, x_100_36, x_100_39, x_100_40, x_100_43, x_100_44, x_100_45, x_100_48, x_100_51, x_100_52, x_100_53, x_100_56, x_100_57, x_100_58, x_100_61, x_100_62, x_100_63, x_100_64, x_100_66, x_100_69, x_100_72, x_100_73, x_100_76, x_100_77, x_100_78, x_100_80, x_100_82, x_100_85, x_100_88, x_100_89, x_100_90, x_100_93, tl_s, bI_0, o_0 hw, w_0_0 hw, o_1 hw, v1, v3, true_and, Option.some.injEq, exists_eq_left', c_refuse_2 hw, Bool.true_or, Bool.and_self, inb_nI (n := LN 1) htn (by decide), nI_clamp (n := t) (by omega)]
          by_cases e6 : (0 ≤ i.toInt ∧ i.toInt + n.toInt ≤ (hI h (48 + 2 * r) 1).toInt) ∧ (0 ≤ j.toInt ∧ j.toInt + n.toInt ≤ (hI h (48 + 2 * t) 1).toInt)
          · rw [if_neg (fun q => q (by omega)), if_neg (fun q => q (by omega))]
            obtain ⟨N, hN, rfl⟩ := i32_40 (x := n) (by omega) (by omega)
            obtain ⟨a, ha, rfl⟩ := i32_40 (x := i) (by omega) (by omega)
            obtain ⟨b, hb, rfl⟩ := i32_40 (x := j) (by omega) (by omega)
            have tN : (nI N).toInt = N := nI_toInt (by omega)
            have ta : (nI a).toInt = a := nI_toInt (by omega)
            have tb : (nI b).toInt = b := nI_toInt (by omega)
            rw [tN, ta, tb] at e6
            have nn : ∀ q : Nat, q ≤ 40 → (nI q < 0) = False := fun q hq => eq_false (Int32.not_lt.mpr (nI_pos' (by omega)))
            simp only [x_100_94, x_100_95, x_100_98, x_100_99, x_100_100, x_100_103, x_100_104, x_100_105, x_100_108, x_100_109, x_100_110, x_100_113, x_100_115, x_100_117, x_100_120, x_100_121, o_0 hw, w_0_0 hw, o_1 hw, Bool.true_or, inb_nI (n := LN 1) hrn (by decide), inb_nI (n := LN 1) htn (by decide), Bool.and_self, nI_clamp (n := r) (by omega), nI_clamp (n := t) (by omega), nI_clamp (n := a) (by omega), nI_clamp (n := b) (by omega), nI_clamp (n := N) (by omega), w1, w2, w3, w4, w5, v1, v2, v3, v4, v5, true_and, Option.some.injEq, exists_eq_left', nn N hN, nn a ha, nn b hb, not_false_eq_true, if_true]
            refine ⟨⟨by omega, by omega, by decide⟩, ?_⟩
            generalize hh : aI h (49 + 2 * t) (va_cpy (hI h (49 + 2 * r)) (hI h (49 + 2 * t)) a b N) = h1
            have hf1 : Fr (fun a => a = 49 + 2 * t) h h1 := by rw [← hh]; exact Fr_aI rfl
            have hw1 : WF h1 := Fr_WF hf1 hw
            rw [mod h1 hw1 (fun q => (hf1.2.2 126 (by omega) q).1), if_pos (by rw [tN, ta, tb]; exact e6)]
            have l1 := fun QQ => m_cp1 (sc := sc) (d := 19) (Q := QQ) (h := h1) (r := r) (a := a) (t := t) (N := N) (j := nI b) hw1 hrn (by omega) N 0 (by omega) (hI h1 128)
            simp only [aI_id] at l1
            refine (l1 _).mpr ?_
            simp only [x_168_138, x_168_139, cl2_i, cl2_n, cl2_r]
            generalize hh2 : aI h1 128 (fun c => if 0 ≤ c ∧ c < N then hI h1 127 (40 * r + a + c) else hI h1 128 c) = h2
            have hf2 : Fr (fun a => a = 128) h1 h2 := by rw [← hh2]; exact Fr_aI rfl
            have hw2 : WF h2 := Fr_WF hf2 hw1
            have l2 := fun QQ => m_cp2 (sc := sc) (d := 19) (Q := QQ) (h := h2) (r := r) (a := b) (t := t) (N := N) (i := nI a) (g := hI h2 128) hw2 htn (by omega) (fun _ => rfl) N 0 (by omega) (hI h2 127)
            simp only [aI_id] at l2
            refine (l2 _).mpr ?_
            refine ⟨rfl, ?_⟩
            have hf3 : Fr (fun x => x = 49 + 2 * t ∨ x = 128 ∨ x = 127) h (aI h2 127 (fun c => if 40 * t + b + 0 ≤ c ∧ c < 40 * t + b + N then hI h2 128 (c - (40 * t + b)) else hI h2 127 c)) := ((hf1.wk (fun x q => Or.inl q)).tr (hf2.wk (fun x q => Or.inr (Or.inl q)))).tr (Fr_aI (Or.inr (Or.inr rfl)))
            refine ⟨Fr_WF hf3 hw, CMf_fr hf3 (fun x q z => by omega) hf, ?_, CMt_fr hf3 (fun x q z => by omega) ht, CMs_fr hf3 (fun x q z => by omega) hs⟩
            have v127 : ∀ c, hI h2 127 c = hI h 127 c := fun c => (hf2.2.2 127 (by decide) c).1.trans (hf1.2.2 127 (by omega) c).1
            have v128 : ∀ c, c < N → hI h2 128 c = hI h 127 (40 * r + a + c) := fun c hcN => by
              rw [← hh2, hI_aI, if_pos rfl, if_pos ⟨by omega, hcN⟩]
              exact (hf1.2.2 127 (by omega) _).1
            intro r' hr'
            obtain ⟨c1, c2⟩ := hr r' hr'
            have f1 := (hf3.2.2 (48 + 2 * r') (by omega) 1).1
            have f2 := (hf3.2.2 126 (by omega) r').1
            refine ⟨by rw [f1, f2]; exact c1, fun m hm => ?_⟩
            have lL : ∀ (F : Nat → Int32) (c : Nat), hI (aI h2 127 F) 127 c = F c := fun F c => by rw [hI_aI, if_pos rfl]
            have lR : ∀ (F : Nat → Int32), hI (aI h2 127 F) (49 + 2 * r') m = hI h2 (49 + 2 * r') m := fun F => by rw [hI_aI, if_neg (by omega)]
            rw [lL, lR, (hf2.2.2 (49 + 2 * r') (by omega) m).1, ← hh, hI_aI]
            by_cases q1 : r' = t
            · subst q1
              rw [if_pos rfl]
              unfold va_cpy
              by_cases q2 : b ≤ m ∧ m < b + N
              · rw [if_pos (by omega), if_pos q2, v128 _ (by omega), show 40 * r + a + (40 * r' + m - (40 * r' + b)) = 40 * r + (a + (m - b)) by omega]
                exact (hr r hrn).2 _ (by omega)
              · rw [if_neg (by omega), if_neg q2, v127]
                exact c2 m hm
            · rw [if_neg (by omega), if_neg (by omega), v127]
              exact c2 m hm
          · have hw1 := WF_refu (f := 2) hw
            have fin : Tr sc 19 168 (ent0 168 [.ref 124, .int (nI r), .int i, .int (nI t), .int j, .int n] (refu h 2)) (fun r2 => r2.1 = some (Value.int (-3)) ∧ CM r2.2) := by
              rw [mod _ hw1 (fun q => refu_I (by decide) (by decide)), if_neg e6]
              first | exact cm_ref (by decide) hc | exact ⟨rfl, cm_ref (by decide) hc⟩ | exact ⟨⟨_, rfl, rfl⟩, cm_ref (by decide) hc⟩
            by_cases q1 : 0 ≤ i.toInt ∧ i.toInt ≤ (hI h (48 + 2 * r) 1).toInt ∧ i.toInt + n.toInt ≤ (hI h (48 + 2 * r) 1).toInt
            · rw [if_neg (fun q => q q1), if_pos (fun q => e6 (by omega))]
              exact fin
            · rw [if_pos q1]
              exact fin
      · rw [if_neg e2]
        have hw1 := WF_refu (f := 5) hw
        rw [e_168]
        simp only [x_168_0, x_168_1, x_168_4, x_168_7, x_168_8, x_168_11, x_168_14, x_168_15, x_168_16, x_168_18, x_168_21, x_168_22, x_168_23, x_168_26, x_168_27, x_168_28, x_168_31, x_168_32, x_168_33, x_168_36, x_168_37, x_168_40, x_168_41, x_168_42, x_168_45, x_168_46, x_168_47, x_168_50, x_168_51, x_168_52, x_168_55, x_168_57, x_168_60, x_168_61, x_168_62, x_168_64, x_168_65, x_168_66, x_168_67, x_168_70, x_168_71, x_168_72, x_168_73, x_168_74, x_168_77, x_168_79, x_168_80, x_168_82, x_168_83, x_168_84, x_168_85, x_168_88, x_168_89, x_168_90, x_168_91, x_168_92, x_168_95, x_168_96, x_168_97, x_168_100, m_isRow, mr hrn, mr htn, i_10, if_false, tl_s, o_124 hw1, true_and, m_meets_5 hw1]
        rw [if_neg e2]
        first | exact cm_ref (by decide) hc | exact ⟨rfl, cm_ref (by decide) hc⟩ | exact ⟨⟨_, rfl, rfl⟩, cm_ref (by decide) hc⟩
    · have hb : bI (0 ≤ y ∧ y < 6) = 0 := bI_f e1
      have hb1 : bI (0 ≤ x ∧ x < 6) = 1 := bI_t e0
      simp only [x_100_0, x_100_1, x_100_4, x_100_7, x_100_8, x_100_11, x_100_14, x_100_15, x_100_16, x_100_18, c_isRow, hb, hb1, i_00, i_10, if_true, if_false, tl_s]
      exact bad (Or.inr e1)
  · have hb : bI (0 ≤ x ∧ x < 6) = 0 := bI_f e0
    simp only [x_100_0, x_100_1, x_100_4, x_100_7, x_100_8, x_100_11, x_100_14, x_100_15, x_100_16, x_100_18, c_isRow, hb, i_00, if_true, tl_s]
    exact bad (Or.inl e0)
end CP
