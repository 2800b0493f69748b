/-! ===== the model reads; fault ===== -/
section RE2
variable {sc : Nat × (Nat → Int32)} {d : Nat} {Q : PRes → Prop} {h h' h1 H : PH} {k s r t b M R i j v p q n : Nat} {x y z w f l bs : Int32} {tx ch : Nat → Int32} {ms : List (Int32 × Int32 × Int32)}
def TxM (h : PH) (t n : Nat) (tx : Nat → Int32) : Prop := hI h 129 t = nI n ∧ n ≤ 60 ∧ t < 4 ∧ ∀ p, p < 60 → hI h 130 (60 * t + p) = tx p
theorem TxM.fr (T : TxM h t n tx) (fr : Fq Pz h h') : TxM h' t n tx := by
  obtain ⟨t1, t2, t3, t4⟩ := T
  exact ⟨by rw [fr.i (by unfold Pz; omega)]; exact t1, t2, t3, fun p hp => by rw [fr.i (by unfold Pz; omega)]; exact t4 p hp⟩
theorem m_here (hw : WF h) (T : TxM h t n tx) (hp : hI h 124 14 = nI p) (hp6 : p < 1000) : Tr sc d 172 (ent0 172 [.ref 124, .int (nI t)] h) Q = Q (some (.int (chF tx n p)), h) := by
  obtain ⟨t1, t2, t3, t4⟩ := T
  rw [e_172]
  simp only [x_172_0, x_172_1, x_172_4, x_172_5, x_172_8, x_172_9, x_172_10, o_124 hw, w_124_9 hw, o_129 hw, iOk_lt (k := 129) (by decide), iRd_lt (k := 129) (by decide), show LN 129 = 4 from rfl, cl2_i, cl2_r, cl2_n, cl2_l, tl_s, tl_n, true_and, and_true, Option.some.injEq, exists_eq_left', Bool.and_self, Bool.true_and, Bool.and_true, Bool.or_true, Bool.true_or, i_10, i_00, if_true, if_false, not_true_eq_false, not_false_eq_true, and_false, false_and, okp_sI, okp_sL, okp_aI, okp_aL, hR_sI, hR_sL, hR_aI, hR_aL, hp, inb_nI (n := 4) t3 (by decide), nI_clamp (n := t) (by omega), t1]
  by_cases e : p < n
  · rw [if_neg (nI_ge e (by omega)), ch_v e]
    simp only [x_172_13, x_172_14, x_172_17, x_172_19, x_172_20, x_172_21, x_172_22, x_172_25, x_172_26, x_172_27, x_172_30, x_172_32, o_124 hw, w_124_10 hw, o_130 hw, iOk_lt (k := 130) (by decide), iRd_lt (k := 130) (by decide), show LN 130 = 240 from rfl, cl2_i, cl2_r, cl2_n, cl2_l, tl_s, tl_n, true_and, and_true, Option.some.injEq, exists_eq_left', Bool.and_self, Bool.true_and, Bool.and_true, Bool.or_true, Bool.true_or, i_10, i_00, if_true, if_false, not_true_eq_false, not_false_eq_true, and_false, false_and, okp_sI, okp_sL, okp_aI, okp_aL, hR_sI, hR_sL, hR_aI, hR_aL, hp, put_ix t3 (show p < 60 by omega), inb_nI (n := 240) (show 60 * t + p < 240 by omega) (by decide), nI_clamp (n := 60 * t + p) (by omega), t4 p (by omega)]
  · rw [if_pos (nI_le (by omega) (by omega))]
    simp only [x_172_30, x_172_32, cl2_i, cl2_r, cl2_n, cl2_l, tl_s, tl_n, true_and, and_true, Option.some.injEq, exists_eq_left', Bool.and_self, Bool.true_and, Bool.and_true, Bool.or_true, Bool.true_or, i_10, i_00, if_true, if_false, not_true_eq_false, not_false_eq_true, and_false, false_and, okp_sI, okp_sL, okp_aI, okp_aL, hR_sI, hR_sL, hR_aI, hR_aL]
    unfold chF
    rw [if_neg e]
theorem m_num (hw : WF h) (T : TxM h t n tx) (hp : hI h 124 14 = nI p) (hp6 : p < 900) (Qt : 48 ≤ chF tx n (pfQ (chF tx n) p) ∧ chF tx n (pfQ (chF tx n) p) ≤ 57 → ∀ h', Fq (fun a b => a = 124 ∧ (b = 14 ∨ b = 15)) h h' → hI h' 124 14 = nI (pfQ (chF tx n) p + 1) → hI h' 124 15 = vlF (chF tx n) p → Q (some (.int 1), h')) (Qf : ¬ (48 ≤ chF tx n (pfQ (chF tx n) p) ∧ chF tx n (pfQ (chF tx n) p) ≤ 57) → ∀ h', Fq (fun a b => a = 124 ∧ (b = 14 ∨ b = 15)) h h' → hI h' 124 14 = nI (pfQ (chF tx n) p) → Q (some (.int 0), h')) : Tr sc (d + 1) 173 (ent0 173 [.ref 124, .int (nI t)] h) Q := by
  have z15 : ∀ a b, (a = 124 ∧ (b = 14 ∨ b = 15)) → Pz a b := fun a b q => by unfold Pz; omega
  have part : ∀ (c : Int32) (H : PH), Fq (fun a b => a = 124 ∧ (b = 14 ∨ b = 15)) h H → hI H 124 14 = nI (pfQ (chF tx n) p) → ((c = 1 ∧ chF tx n p = 45) ∨ (c = 0 ∧ ¬ chF tx n p = 45)) → Tr sc (d + 1) 173 (34, [some (.ref 124), some (.int (nI t)), some (.int c)], [], H) Q := by
    intro c H fr hq hc
    have hwH := fr.WF hw
    have T' := T.fr (fr.wk z15)
    have hq6 : pfQ (chF tx n) p < 1000 := by unfold pfQ; split <;> omega
    generalize hqq : pfQ (chF tx n) p = q at *
    simp only [x_173_34, x_173_35, x_173_36, x_173_39, x_173_41, x_173_43, x_173_46, o_124 hwH, cl2_i, cl2_r, cl2_n, cl2_l, tl_s, tl_n, true_and, and_true, Option.some.injEq, exists_eq_left', Bool.and_self, Bool.true_and, Bool.and_true, Bool.or_true, Bool.true_or, i_10, i_00, if_true, if_false, not_true_eq_false, not_false_eq_true, and_false, false_and, okp_sI, okp_sL, okp_aI, okp_aL, hR_sI, hR_sL, hR_aI, hR_aL, m_here hwH T' hq hq6, m_in, bI_0]
    by_cases e : 48 ≤ chF tx n q ∧ chF tx n q ≤ 57
    · rw [if_neg (show ¬ ¬ (48 ≤ chF tx n q ∧ chF tx n q ≤ 57) from fun z => z e)]
      have vl : vlF (chF tx n) p = if chF tx n p = 45 then 48 - chF tx n q else chF tx n q - 48 := by unfold vlF; rw [hqq]
      simp only [x_173_51, x_173_52, x_173_53, x_173_56, x_173_58, x_173_59, x_173_60, x_173_63, x_173_64, x_173_67, x_173_68, x_173_69, x_173_72, x_173_74, x_173_75, x_173_78, x_173_79, x_173_80, x_173_83, x_173_84, x_173_85, x_173_88, x_173_89, o_124 hwH, cl2_i, cl2_r, cl2_n, cl2_l, tl_s, tl_n, true_and, and_true, Option.some.injEq, exists_eq_left', Bool.and_self, Bool.true_and, Bool.and_true, Bool.or_true, Bool.true_or, i_10, i_00, if_true, if_false, not_true_eq_false, not_false_eq_true, and_false, false_and, okp_sI, okp_sL, okp_aI, okp_aL, hR_sI, hR_sL, hR_aI, hR_aL, m_here hwH T' hq hq6, hI_sI, Nat.reduceEqDiff, hq, nI_1, vp_b1]
      rcases hc with ⟨c1, c2⟩ | ⟨c1, c2⟩
      · rw [if_neg (by rw [c1]; decide)]
        refine Qt e _ ((fr.sI ⟨rfl, Or.inr rfl⟩).sI ⟨rfl, Or.inl rfl⟩) ?_ ?_
        · simp only [hI_sI, if_true]
        · simp only [hI_sI, if_true, Nat.reduceEqDiff, if_false]
          rw [vl, if_pos c2]
      · rw [if_pos c1]
        refine Qt e _ ((fr.sI ⟨rfl, Or.inr rfl⟩).sI ⟨rfl, Or.inl rfl⟩) ?_ ?_
        · simp only [hI_sI, if_true]
        · simp only [hI_sI, if_true, Nat.reduceEqDiff, if_false]
          rw [vl, if_neg c2]
    · rw [if_pos e]
      simp only [x_173_49, x_173_50, cl2_i, cl2_r, cl2_n, cl2_l, tl_s, tl_n, true_and, and_true, Option.some.injEq, exists_eq_left', Bool.and_self, Bool.true_and, Bool.and_true, Bool.or_true, Bool.true_or, i_10, i_00, if_true, if_false, not_true_eq_false, not_false_eq_true, and_false, false_and, okp_sI, okp_sL, okp_aI, okp_aL, hR_sI, hR_sL, hR_aI, hR_aL, vp_b0]
      exact Qf e H fr hq
  rw [e_173]
  simp only [x_173_0, x_173_1, x_173_2, x_173_5, x_173_7, x_173_10, x_173_11, x_173_14, x_173_15, x_173_16, x_173_17, x_173_18, x_173_21, x_173_22, x_173_25, x_173_26, x_173_29, x_173_30, x_173_31, o_124 hw, cl2_i, cl2_r, cl2_n, cl2_l, tl_s, tl_n, true_and, and_true, Option.some.injEq, exists_eq_left', Bool.and_self, Bool.true_and, Bool.and_true, Bool.or_true, Bool.true_or, i_10, i_00, if_true, if_false, not_true_eq_false, not_false_eq_true, and_false, false_and, okp_sI, okp_sL, okp_aI, okp_aL, hR_sI, hR_sL, hR_aI, hR_aL, m_here hw T hp (show p < 1000 by omega), hp]
  by_cases e : chF tx n p = 45
  · simp only [e, if_true, x_173_10, x_173_11, x_173_14, x_173_15, x_173_16, x_173_17, x_173_18, x_173_21, x_173_22, x_173_25, x_173_26, x_173_29, x_173_30, x_173_31, cl2_i, cl2_r, cl2_n, cl2_l, tl_s, tl_n, true_and, and_true, Option.some.injEq, exists_eq_left', Bool.and_self, Bool.true_and, Bool.and_true, Bool.or_true, Bool.true_or, i_10, i_00, if_true, if_false, not_true_eq_false, not_false_eq_true, and_false, false_and, okp_sI, okp_sL, okp_aI, okp_aL, hR_sI, hR_sL, hR_aI, hR_aL, o_124 hw, hp, nI_1]
    refine part 1 _ (Fq.rf.sI ⟨rfl, Or.inl rfl⟩) ?_ (Or.inl ⟨rfl, e⟩)
    rw [hI_sI, if_pos rfl, if_pos rfl]
    unfold pfQ
    rw [if_pos e]
  · simp only [e, if_false, x_173_14, x_173_15, x_173_16, x_173_17, x_173_18, x_173_21, x_173_22, x_173_25, x_173_26, x_173_29, x_173_30, x_173_31, cl2_i, cl2_r, cl2_n, cl2_l, tl_s, tl_n, true_and, and_true, Option.some.injEq, exists_eq_left', Bool.and_self, Bool.true_and, Bool.and_true, Bool.or_true, Bool.true_or, i_10, i_00, if_true, if_false, not_true_eq_false, not_false_eq_true, and_false, false_and, okp_sI, okp_sL, okp_aI, okp_aL, hR_sI, hR_sL, hR_aI, hR_aL, o_124 hw, hp, Int32.add_zero]
    refine part 0 _ (Fq.rf.sI ⟨rfl, Or.inl rfl⟩) ?_ (Or.inr ⟨rfl, e⟩)
    rw [hI_sI, if_pos rfl, if_pos rfl]
    unfold pfQ
    rw [if_neg e]
/-- one move, from the model's loop's head when it goes on -/
theorem m_mv {l2 : Option Value} (hw : WF h) (T : TxM h t n tx) (hp : hI h 124 14 = nI p) (hp6 : p < 800) (hD : DM h bs ms) (hm : ms.length < 6) (hl : cl2 l2 = l2) (Qt : (mvP (chF tx n) p).1 = true → ∀ h' l2', cl2 l2' = l2' → Fq Pz h h' → hI h' 124 14 = nI (mvP (chF tx n) p).2.1 → DM h' bs (ms ++ [(mvP (chF tx n) p).2.2]) → Tr sc (d + 2) 174 (44, [some (.ref 124), some (.int (nI t)), l2'], [], h') Q) (Qf : ¬ (mvP (chF tx n) p).1 = true → ∀ h', Fq Pz h h' → hI h' 124 14 = nI (mvP (chF tx n) p).2.1 → Q (some (.int (nI (mvP (chF tx n) p).2.1)), h')) : Tr sc (d + 2) 174 (64, [some (.ref 124), some (.int (nI t)), l2], [], h) Q := by
  have z15 : ∀ a b, (a = 124 ∧ (b = 14 ∨ b = 15)) → Pz a b := fun a b q => by unfold Pz; omega
  obtain ⟨g1, g2, g3⟩ := hD
  have n6 : ¬ nI ms.length = 6 := fun z => by have := (nI_eq (a := ms.length) (b := 6) (by omega) (by decide)).mp z; omega
  simp only [x_174_64, x_174_65, x_174_66, x_174_69, x_174_71, x_174_74, x_174_75, x_174_78, x_174_80, x_174_83, x_174_84, x_174_87, o_124 hw, cl2_i, cl2_r, cl2_n, cl2_l, tl_s, tl_n, true_and, and_true, Option.some.injEq, exists_eq_left', Bool.and_self, Bool.true_and, Bool.and_true, Bool.or_true, Bool.true_or, i_10, i_00, if_true, if_false, not_true_eq_false, not_false_eq_true, and_false, false_and, okp_sI, okp_sL, okp_aI, okp_aL, hR_sI, hR_sL, hR_aI, hR_aL, m_here hw T hp (show p < 1000 by omega), g2, n6, hp]
  by_cases c1 : chF tx n p = 47
  · rw [if_pos c1]
    generalize hh1 : sI h 124 14 (nI p + 1) = h1
    have f1 : Fq Pz h h1 := by rw [← hh1]; exact Fq.rf.sI (by unfold Pz; omega)
    have p1 : hI h1 124 14 = nI (p + 1) := by rw [← hh1, hI_sI, if_pos rfl, if_pos rfl, nI_1]
    have hw1 := f1.WF hw
    have T1 := T.fr f1
    simp only [x_174_88, x_174_89, x_174_90, x_174_93, x_174_94, x_174_95, o_124 hw, cl2_i, cl2_r, cl2_n, cl2_l, tl_s, tl_n, true_and, and_true, Option.some.injEq, exists_eq_left', Bool.and_self, Bool.true_and, Bool.and_true, Bool.or_true, Bool.true_or, i_10, i_00, if_true, if_false, not_true_eq_false, not_false_eq_true, and_false, false_and, okp_sI, okp_sL, okp_aI, okp_aL, hR_sI, hR_sL, hR_aI, hR_aL, hp, hh1]
    simp only [x_174_98, x_174_99, x_174_100, x_174_103, x_174_105, x_174_107, x_174_110, x_174_113, x_174_114, x_174_117, o_124 hw1, cl2_i, cl2_r, cl2_n, cl2_l, tl_s, tl_n, true_and, and_true, Option.some.injEq, exists_eq_left', Bool.and_self, Bool.true_and, Bool.and_true, Bool.or_true, Bool.true_or, i_10, i_00, if_true, if_false, not_true_eq_false, not_false_eq_true, and_false, false_and, okp_sI, okp_sL, okp_aI, okp_aL, hR_sI, hR_sL, hR_aI, hR_aL, m_here hw1 T1 p1 (show p + 1 < 1000 by omega), m_in, bI_0, p1]
    by_cases c2 : 97 ≤ chF tx n (p + 1) ∧ chF tx n (p + 1) ≤ 104
    · rw [if_neg (show ¬ ¬ (97 ≤ chF tx n (p + 1) ∧ chF tx n (p + 1) ≤ 104) from fun z => z c2)]
      have gm1 : hI h1 124 12 = nI ms.length := by rw [← hh1]; exact g2
      have e3 : (3 : Int32) * nI ms.length = nI (3 * ms.length) := by rw [show (3 : Int32) = nI 3 from rfl, pk_mul]
      simp only [x_174_118, x_174_119, x_174_122, x_174_123, x_174_124, x_174_127, x_174_128, x_174_129, x_174_130, x_174_133, x_174_135, x_174_136, x_174_137, x_174_138, x_174_139, x_174_142, x_174_143, x_174_144, x_174_147, x_174_148, o_124 hw1, w_124_13 hw1, o_131 hw1, iOk_lt (k := 131) (by decide), iRd_lt (k := 131) (by decide), show LN 131 = 18 from rfl, cl2_i, cl2_r, cl2_n, cl2_l, tl_s, tl_n, true_and, and_true, Option.some.injEq, exists_eq_left', Bool.and_self, Bool.true_and, Bool.and_true, Bool.or_true, Bool.true_or, i_10, i_00, if_true, if_false, not_true_eq_false, not_false_eq_true, and_false, false_and, okp_sI, okp_sL, okp_aI, okp_aL, hR_sI, hR_sL, hR_aI, hR_aL, gm1, e3, m_here hw1 T1 p1 (show p + 1 < 1000 by omega), inb_nI (i := 3 * ms.length) (n := 18) (by omega) (by decide), nI_clamp (n := 3 * ms.length) (by omega), hI_sI, Nat.reduceEqDiff, p1, nI_1]
      generalize hh2 : sI (sI h1 131 (3 * ms.length) (chF tx n (p + 1) - 97)) 124 14 (nI (p + 1 + 1)) = h2
      have f2 : Fq Pz h h2 := by rw [← hh2]; exact (f1.sI (by unfold Pz; omega)).sI (by unfold Pz; omega)
      have p2 : hI h2 124 14 = nI (p + 2) := by rw [← hh2]; rfl
      have hw2 := f2.WF hw
      have T2 := T.fr f2
      have gm2 : hI h2 124 12 = nI ms.length := by rw [← hh2]; exact gm1
      have q0 : hI h2 131 (3 * ms.length) = chF tx n (p + 1) - 97 := by rw [← hh2]; simp only [hI_sI, if_true, Nat.reduceEqDiff, if_false]
      have keep2 : hI h2 124 11 = bs ∧ ∀ a, a < 3 * ms.length → hI h2 131 a = hI h 131 a := by
        refine ⟨?_, fun a ha => ?_⟩
        · rw [← hh2, ← hh1]; exact g1
        · rw [← hh2, ← hh1]; simp only [hI_sI, if_true, Nat.reduceEqDiff, if_false, if_neg (show ¬ a = 3 * ms.length by omega)]
      have mv0 : mvP (chF tx n) p = (if 48 ≤ chF tx n (pfQ (chF tx n) (p + 2)) ∧ chF tx n (pfQ (chF tx n) (p + 2)) ≤ 57 then (if 48 ≤ chF tx n (pfQ (chF tx n) (pfQ (chF tx n) (p + 2) + 1)) ∧ chF tx n (pfQ (chF tx n) (pfQ (chF tx n) (p + 2) + 1)) ≤ 57 then (true, pfQ (chF tx n) (pfQ (chF tx n) (p + 2) + 1) + 1, chF tx n (p + 1) - 97, vlF (chF tx n) (p + 2), vlF (chF tx n) (pfQ (chF tx n) (p + 2) + 1)) else (false, pfQ (chF tx n) (pfQ (chF tx n) (p + 2) + 1), 0, 0, 0)) else (false, pfQ (chF tx n) (p + 2), 0, 0, 0)) := by unfold mvP; rw [if_pos c1, if_pos c2]
      have bq := pfQ_b (ch := chF tx n) (p := p + 2)
      have l13 : ((3 : Int32) ≤ 1) = False := eq_false (by decide)
      have l23 : ((3 : Int32) ≤ 1 + 1) = False := eq_false (by decide)
      have l33 : ((3 : Int32) ≤ 1 + 1 + 1) = True := eq_true (by decide)
      rw [x_174_149]
      simp only [x_174_150, x_174_151, x_174_154, x_174_155, x_174_156, o_124 hw2, cl2_i, cl2_r, cl2_n, cl2_l, tl_s, tl_n, true_and, and_true, Option.some.injEq, exists_eq_left', Bool.and_self, Bool.true_and, Bool.and_true, Bool.or_true, Bool.true_or, i_10, i_00, if_true, if_false, not_true_eq_false, not_false_eq_true, and_false, false_and, okp_sI, okp_sL, okp_aI, okp_aL, hR_sI, hR_sL, hR_aI, hR_aL, l13]
      refine m_num hw2 T2 p2 (by omega) (fun o1 h3 f3 p3 v3 => ?_) (fun o1 h3 f3 p3 => ?_)
      · have hw3 := f3.WF hw2
        have T3 := T2.fr (f3.wk z15)
        have gm3 : hI h3 124 12 = nI ms.length := by rw [f3.i (by omega)]; exact gm2
        have e31 : nI (3 * ms.length) + 1 = nI (3 * ms.length + 1) := nI_1 _
        simp only [x_174_159, x_174_162, x_174_163, x_174_166, x_174_167, x_174_168, x_174_171, x_174_172, x_174_173, x_174_176, x_174_177, x_174_178, x_174_179, x_174_180, x_174_183, x_174_184, x_174_187, o_124 hw3, w_124_13 hw3, o_131 hw3, iOk_lt (k := 131) (by decide), iRd_lt (k := 131) (by decide), show LN 131 = 18 from rfl, cl2_i, cl2_r, cl2_n, cl2_l, tl_s, tl_n, true_and, and_true, Option.some.injEq, exists_eq_left', Bool.and_self, Bool.true_and, Bool.and_true, Bool.or_true, Bool.true_or, i_10, i_00, if_true, if_false, not_true_eq_false, not_false_eq_true, and_false, false_and, okp_sI, okp_sL, okp_aI, okp_aL, hR_sI, hR_sL, hR_aI, hR_aL, gm3, e3, e31, v3, inb_nI (i := 3 * ms.length + 1) (n := 18) (by omega) (by decide), nI_clamp (n := 3 * ms.length + 1) (by omega)]
        generalize hh4 : sI h3 131 (3 * ms.length + 1) (vlF (chF tx n) (p + 2)) = h4
        have f4 : Fq Pz h3 h4 := by rw [← hh4]; exact Fq.rf.sI (by unfold Pz; omega)
        have p4 : hI h4 124 14 = nI (pfQ (chF tx n) (p + 2) + 1) := by rw [← hh4]; exact p3
        have hw4 := f4.WF hw3
        have T4 := T3.fr f4
        have gm4 : hI h4 124 12 = nI ms.length := by rw [← hh4]; exact gm3
        rw [x_174_149]
        simp only [x_174_150, x_174_151, x_174_154, x_174_155, x_174_156, o_124 hw4, cl2_i, cl2_r, cl2_n, cl2_l, tl_s, tl_n, true_and, and_true, Option.some.injEq, exists_eq_left', Bool.and_self, Bool.true_and, Bool.and_true, Bool.or_true, Bool.true_or, i_10, i_00, if_true, if_false, not_true_eq_false, not_false_eq_true, and_false, false_and, okp_sI, okp_sL, okp_aI, okp_aL, hR_sI, hR_sL, hR_aI, hR_aL, l23]
        refine m_num hw4 T4 p4 (by omega) (fun o2 h5 f5 p5 v5 => ?_) (fun o2 h5 f5 p5 => ?_)
        · have hw5 := f5.WF hw4
          have gm5 : hI h5 124 12 = nI ms.length := by rw [f5.i (by omega)]; exact gm4
          have e32 : nI (3 * ms.length) + (1 + 1) = nI (3 * ms.length + 2) := by rw [show (1 + 1 : Int32) = nI 2 from rfl, nI_add]
          have mv1 : mvP (chF tx n) p = (true, pfQ (chF tx n) (pfQ (chF tx n) (p + 2) + 1) + 1, chF tx n (p + 1) - 97, vlF (chF tx n) (p + 2), vlF (chF tx n) (pfQ (chF tx n) (p + 2) + 1)) := by rw [mv0, if_pos o1, if_pos o2]
          simp only [x_174_159, x_174_162, x_174_163, x_174_166, x_174_167, x_174_168, x_174_171, x_174_172, x_174_173, x_174_176, x_174_177, x_174_178, x_174_179, x_174_180, x_174_183, x_174_184, x_174_187, o_124 hw5, w_124_13 hw5, o_131 hw5, iOk_lt (k := 131) (by decide), iRd_lt (k := 131) (by decide), show LN 131 = 18 from rfl, cl2_i, cl2_r, cl2_n, cl2_l, tl_s, tl_n, true_and, and_true, Option.some.injEq, exists_eq_left', Bool.and_self, Bool.true_and, Bool.and_true, Bool.or_true, Bool.true_or, i_10, i_00, if_true, if_false, not_true_eq_false, not_false_eq_true, and_false, false_and, okp_sI, okp_sL, okp_aI, okp_aL, hR_sI, hR_sL, hR_aI, hR_aL, gm5, e3, e32, v5, inb_nI (i := 3 * ms.length + 2) (n := 18) (by omega) (by decide), nI_clamp (n := 3 * ms.length + 2) (by omega)]
          rw [x_174_149]
          simp only [x_174_150, x_174_151, o_124 hw5, x_174_190, x_174_191, x_174_192, x_174_195, x_174_196, x_174_197, x_174_200, o_124 hw5, cl2_i, cl2_r, cl2_n, cl2_l, tl_s, tl_n, true_and, and_true, Option.some.injEq, exists_eq_left', Bool.and_self, Bool.true_and, Bool.and_true, Bool.or_true, Bool.true_or, i_10, i_00, if_true, if_false, not_true_eq_false, not_false_eq_true, and_false, false_and, okp_sI, okp_sL, okp_aI, okp_aL, hR_sI, hR_sL, hR_aI, hR_aL, l33, hI_sI, Nat.reduceEqDiff, gm5, nI_1]
          refine Qt (by rw [mv1]) _ _ rfl ((((f2.tr (f3.wk z15)).tr (f4.tr (f5.wk z15))).sI (by unfold Pz; omega)).sI (by unfold Pz; omega)) ?_ ⟨?_, ?_, fun i m e => ?_⟩
          · rw [mv1]
            simp only [hI_sI, Nat.reduceEqDiff, if_false, if_true]
            exact p5
          · simp only [hI_sI, Nat.reduceEqDiff, if_false, if_true]
            rw [f5.i (by omega), ← hh4, hI_sI, if_neg (by decide), f3.i (by omega)]
            exact keep2.1
          · simp only [hI_sI, Nat.reduceEqDiff, if_false, if_true]
            rw [List.length_append]; rfl
          · have k5 : ∀ a, a < 3 * ms.length + 1 → hI h5 131 a = hI h2 131 a := fun a ha => by
              rw [f5.i (by omega), ← hh4, hI_sI, if_pos rfl, if_neg (by omega), f3.i (by omega)]
            have k6 : hI h5 131 (3 * ms.length + 1) = vlF (chF tx n) (p + 2) := by
              rw [f5.i (by omega), ← hh4, hI_sI, if_pos rfl, if_pos rfl]
            rcases ap_get e with ⟨q1, q2⟩ | ⟨q1, q2⟩
            · obtain ⟨r1, r2, r3⟩ := g3 i m q2
              simp only [hI_sI, Nat.reduceEqDiff, if_false, if_true, if_neg (show ¬ 3 * i = 3 * ms.length + 2 by omega), if_neg (show ¬ 3 * i + 1 = 3 * ms.length + 2 by omega), if_neg (show ¬ 3 * i + 2 = 3 * ms.length + 2 by omega), if_neg (show ¬ 3 * i = 3 * ms.length + 1 by omega), if_neg (show ¬ 3 * i = 3 * ms.length by omega)]
              rw [k5 _ (by omega), k5 _ (by omega), k5 _ (by omega), keep2.2 _ (by omega), keep2.2 _ (by omega), keep2.2 _ (by omega)]
              exact ⟨r1, r2, r3⟩
            · rw [q2, q1, mv1]
              simp only [hI_sI, Nat.reduceEqDiff, if_false, if_true, if_neg (show ¬ 3 * ms.length = 3 * ms.length + 2 by omega), if_neg (show ¬ 3 * ms.length + 1 = 3 * ms.length + 2 by omega), if_neg (show ¬ 3 * ms.length = 3 * ms.length + 1 by omega)]
              rw [k5 _ (by omega), q0, k6]
              simp
        · have hw5 := f5.WF hw4
          simp only [x_174_159, x_174_162, x_174_163, x_174_166, o_124 hw5, cl2_i, cl2_r, cl2_n, cl2_l, tl_s, tl_n, true_and, and_true, Option.some.injEq, exists_eq_left', Bool.and_self, Bool.true_and, Bool.and_true, Bool.or_true, Bool.true_or, i_10, i_00, if_true, if_false, not_true_eq_false, not_false_eq_true, and_false, false_and, okp_sI, okp_sL, okp_aI, okp_aL, hR_sI, hR_sL, hR_aI, hR_aL, p5]
          have mv1 : mvP (chF tx n) p = (false, pfQ (chF tx n) (pfQ (chF tx n) (p + 2) + 1), 0, 0, 0) := by rw [mv0, if_pos o1, if_neg o2]
          have := Qf (by rw [mv1]; exact Bool.false_ne_true) h5 ((f2.tr (f3.wk z15)).tr (f4.tr (f5.wk z15))) (by rw [mv1]; exact p5)
          rw [mv1] at this
          exact this
      · have hw3 := f3.WF hw2
        simp only [x_174_159, x_174_162, x_174_163, x_174_166, o_124 hw3, cl2_i, cl2_r, cl2_n, cl2_l, tl_s, tl_n, true_and, and_true, Option.some.injEq, exists_eq_left', Bool.and_self, Bool.true_and, Bool.and_true, Bool.or_true, Bool.true_or, i_10, i_00, if_true, if_false, not_true_eq_false, not_false_eq_true, and_false, false_and, okp_sI, okp_sL, okp_aI, okp_aL, hR_sI, hR_sL, hR_aI, hR_aL, p3]
        have mv1 : mvP (chF tx n) p = (false, pfQ (chF tx n) (p + 2), 0, 0, 0) := by rw [mv0, if_neg o1]
        have := Qf (by rw [mv1]; exact Bool.false_ne_true) h3 (f2.tr (f3.wk z15)) (by rw [mv1]; exact p3)
        rw [mv1] at this
        exact this
    · rw [if_pos c2]
      have mv1 : mvP (chF tx n) p = (false, p + 1, 0, 0, 0) := by unfold mvP; rw [if_pos c1, if_neg c2]
      have := Qf (by rw [mv1]; exact Bool.false_ne_true) h1 f1 (by rw [mv1]; exact p1)
      rw [mv1] at this
      exact this
  · rw [if_neg c1]
    have mv1 : mvP (chF tx n) p = (false, p, 0, 0, 0) := by unfold mvP; rw [if_neg c1]
    have := Qf (by rw [mv1]; exact Bool.false_ne_true) h Fq.rf (by rw [mv1]; exact hp)
    rw [mv1] at this
    exact this
theorem m_rl (hw : WF h) : ∀ (k i p : Nat) (H : PH) (l2 : Option Value) (acc : List (Int32 × Int32 × Int32)), cl2 l2 = l2 → i + k = 6 → 1 ≤ i → acc.length = i → p ≤ 1 + 6 * i → Fq Pz h H → TxM H t n tx → hI H 124 14 = nI p → DM H bs acc → (∀ H', Fq Pz h H' → ((rdL (chF tx n) n k p).1 = -9 → DM H' bs (acc ++ (rdL (chF tx n) n k p).2)) → Q (some (.int (rdL (chF tx n) n k p).1), H')) → Tr sc (d + 2) 174 (44, [some (.ref 124), some (.int (nI t)), l2], [], H) Q := by
  intro k
  induction k with
  | zero =>
    intro i p H l2 acc hl hi h1 ha hp fr T p1 D hK
    have e : i = 6 := by omega
    subst e
    have hwH := fr.WF hw
    obtain ⟨t1, t2, t3, t4⟩ := id T
    have g2 := D.2.1
    rw [ha] at g2
    have e2 : (nI 6 = 0) = False := eq_false (by decide)
    have e3 : (nI 6 = 6) = True := eq_true rfl
    rw [x_174_44]
    simp only [x_174_45, x_174_48, x_174_51, x_174_52, x_174_55, x_174_56, x_174_59, x_174_60, x_174_61, x_174_64, x_174_65, x_174_66, x_174_69, x_174_71, x_174_74, x_174_75, x_174_78, x_174_80, x_174_83, x_174_84, x_174_87, o_124 hwH, w_124_9 hwH, o_129 hwH, iOk_lt (k := 129) (by decide), iRd_lt (k := 129) (by decide), show LN 129 = 4 from rfl, x_174_203, x_174_205, cl2_i, cl2_r, cl2_n, cl2_l, tl_s, tl_n, true_and, and_true, Option.some.injEq, exists_eq_left', Bool.and_self, Bool.true_and, Bool.and_true, Bool.or_true, Bool.true_or, i_10, i_00, if_true, if_false, not_true_eq_false, not_false_eq_true, and_false, false_and, okp_sI, okp_sL, okp_aI, okp_aL, hR_sI, hR_sL, hR_aI, hR_aL, g2, e2, e3, p1, inb_nI (n := 4) t3 (by decide), nI_clamp (n := t) (by omega), t1, m_here hwH T p1 (show p < 1000 by omega)]
    have rd : rdL (chF tx n) n 0 p = (if n ≤ p then -9 else nI p, []) := rfl
    rw [rd] at hK
    by_cases q : n ≤ p
    · rw [if_pos (nI_le q (by omega))]
      rw [if_pos q] at hK
      exact hK H fr (fun _ => by rw [List.append_nil]; exact D)
    · rw [if_neg (nI_ge (by omega) (by omega))]
      rw [if_neg q] at hK
      have := hK H fr (fun z => absurd z (nI_m9 (by omega)))
      split <;> exact this
  | succ k ih =>
    intro i p H l2 acc hl hi h1 ha hp fr T p1 D hK
    have hwH := fr.WF hw
    obtain ⟨t1, t2, t3, t4⟩ := id T
    have g2 := D.2.1
    rw [ha] at g2
    have e2 : (nI i = 0) = False := eq_false (nI_ne0 (by omega) (by omega))
    have rd : rdL (chF tx n) n (k + 1) p = if n ≤ p then (-9, []) else if (mvP (chF tx n) p).1 = true then ((rdL (chF tx n) n k (mvP (chF tx n) p).2.1).1, (mvP (chF tx n) p).2.2 :: (rdL (chF tx n) n k (mvP (chF tx n) p).2.1).2) else (nI (mvP (chF tx n) p).2.1, []) := rfl
    rw [rd] at hK
    rw [x_174_44]
    simp only [x_174_45, x_174_48, x_174_51, x_174_52, x_174_55, x_174_56, x_174_59, x_174_60, x_174_61, o_124 hwH, w_124_9 hwH, o_129 hwH, iOk_lt (k := 129) (by decide), iRd_lt (k := 129) (by decide), show LN 129 = 4 from rfl, x_174_203, x_174_205, cl2_i, cl2_r, cl2_n, cl2_l, tl_s, tl_n, true_and, and_true, Option.some.injEq, exists_eq_left', Bool.and_self, Bool.true_and, Bool.and_true, Bool.or_true, Bool.true_or, i_10, i_00, if_true, if_false, not_true_eq_false, not_false_eq_true, and_false, false_and, okp_sI, okp_sL, okp_aI, okp_aL, hR_sI, hR_sL, hR_aI, hR_aL, g2, e2, p1, inb_nI (n := 4) t3 (by decide), nI_clamp (n := t) (by omega), t1]
    by_cases q : n ≤ p
    · rw [if_pos (nI_le q (by omega))]
      rw [if_pos q] at hK
      exact hK H fr (fun _ => by rw [List.append_nil]; exact D)
    · rw [if_neg (nI_ge (by omega) (by omega))]
      rw [if_neg q] at hK
      have mb := mvP_b (ch := chF tx n) (p := p)
      refine m_mv hwH T p1 (by omega) D (by omega) hl (fun o h' l2' hl' f' p' D' => ?_) (fun o h' f' p' => ?_)
      · rw [if_pos o] at hK
        refine ih (i + 1) _ h' l2' _ hl' (by omega) (by omega) (by rw [List.length_append, ha]; rfl) (by omega) (fr.tr f') (T.fr f') p' D' (fun H' f2 z => hK H' f2 (fun w => ?_))
        have := z w
        rw [List.append_assoc] at this
        exact this
      · rw [if_neg o] at hK
        exact hK h' (fr.tr f') (fun z => absurd z (nI_m9 (by omega)))
theorem m_reads (hw : WF h) (T : TxM h t n tx) (hK : ∀ H, Fq Pz h H → ((rdA (chF tx n) n).1 = -9 → DM H (chF tx n 0 - 48) (rdA (chF tx n) n).2) → Q (some (.int (rdA (chF tx n) n).1), H)) : Tr sc (d + 2) 174 (ent0 174 [.ref 124, .int (nI t)] h) Q := by
  generalize hh1 : sI (sI h 124 14 0) 124 12 0 = h1
  have f1 : Fq Pz h h1 := by rw [← hh1]; exact (Fq.rf.sI (by unfold Pz; omega)).sI (by unfold Pz; omega)
  have hw1 := f1.WF hw
  have T1 := T.fr f1
  have p1 : hI h1 124 14 = nI 0 := by rw [← hh1]; rfl
  rw [e_174]
  simp only [x_174_0, x_174_1, x_174_2, x_174_5, x_174_6, x_174_7, o_124 hw, cl2_i, cl2_r, cl2_n, cl2_l, tl_s, tl_n, true_and, and_true, Option.some.injEq, exists_eq_left', Bool.and_self, Bool.true_and, Bool.and_true, Bool.or_true, Bool.true_or, i_10, i_00, if_true, if_false, not_true_eq_false, not_false_eq_true, and_false, false_and, okp_sI, okp_sL, okp_aI, okp_aL, hR_sI, hR_sL, hR_aI, hR_aL, hh1]
  simp only [x_174_10, x_174_11, x_174_12, x_174_15, x_174_17, x_174_19, x_174_22, x_174_25, x_174_26, o_124 hw1, cl2_i, cl2_r, cl2_n, cl2_l, tl_s, tl_n, true_and, and_true, Option.some.injEq, exists_eq_left', Bool.and_self, Bool.true_and, Bool.and_true, Bool.or_true, Bool.true_or, i_10, i_00, if_true, if_false, not_true_eq_false, not_false_eq_true, and_false, false_and, okp_sI, okp_sL, okp_aI, okp_aL, hR_sI, hR_sL, hR_aI, hR_aL, m_here hw1 T1 p1 (by decide), m_in, bI_0]
  by_cases c : 50 ≤ chF tx n 0 ∧ chF tx n 0 ≤ 52
  · rw [if_neg (show ¬ ¬ (50 ≤ chF tx n 0 ∧ chF tx n 0 ≤ 52) from fun z => z c)]
    simp only [x_174_27, x_174_28, x_174_29, x_174_30, x_174_33, x_174_35, x_174_36, x_174_39, x_174_40, x_174_41, o_124 hw1, cl2_i, cl2_r, cl2_n, cl2_l, tl_s, tl_n, true_and, and_true, Option.some.injEq, exists_eq_left', Bool.and_self, Bool.true_and, Bool.and_true, Bool.or_true, Bool.true_or, i_10, i_00, if_true, if_false, not_true_eq_false, not_false_eq_true, and_false, false_and, okp_sI, okp_sL, okp_aI, okp_aL, hR_sI, hR_sL, hR_aI, hR_aL, m_here hw1 T1 p1 (by decide)]
    generalize hh2 : sI (sI h1 124 11 (chF tx n 0 - 48)) 124 14 1 = h2
    have f2 : Fq Pz h h2 := by rw [← hh2]; exact (f1.sI (by unfold Pz; omega)).sI (by unfold Pz; omega)
    have hw2 := f2.WF hw
    have T2 := T.fr f2
    have p2 : hI h2 124 14 = nI 1 := by rw [← hh2]; rfl
    have D2 : DM h2 (chF tx n 0 - 48) [] := ⟨by rw [← hh2]; rfl, by rw [← hh2, ← hh1]; rfl, fun i m e => by simp at e⟩
    have rd : rdA (chF tx n) n = if (mvP (chF tx n) 1).1 = true then ((rdL (chF tx n) n 5 (mvP (chF tx n) 1).2.1).1, (mvP (chF tx n) 1).2.2 :: (rdL (chF tx n) n 5 (mvP (chF tx n) 1).2.1).2) else (nI (mvP (chF tx n) 1).2.1, []) := by unfold rdA; rw [if_pos c]
    rw [rd] at hK
    have g2 : hI h2 124 12 = 0 := D2.2.1
    rw [x_174_44]
    simp only [x_174_45, x_174_48, o_124 hw2, cl2_i, cl2_r, cl2_n, cl2_l, tl_s, tl_n, true_and, and_true, Option.some.injEq, exists_eq_left', Bool.and_self, Bool.true_and, Bool.and_true, Bool.or_true, Bool.true_or, i_10, i_00, if_true, if_false, not_true_eq_false, not_false_eq_true, and_false, false_and, okp_sI, okp_sL, okp_aI, okp_aL, hR_sI, hR_sL, hR_aI, hR_aL, g2]
    have mb := mvP_b (ch := chF tx n) (p := 1)
    refine m_mv hw2 T2 p2 (by omega) D2 (by decide) rfl (fun o h' l2' hl' f' p' D' => ?_) (fun o h' f' p' => ?_)
    · rw [if_pos o] at hK
      exact m_rl (h := h) hw 5 1 _ h' l2' _ hl' (by omega) (by omega) rfl (by omega) (f2.tr f') (T2.fr f') p' D' (fun H' f3 z => hK H' f3 (fun w => z w))
    · rw [if_neg o] at hK
      exact hK h' (f2.tr f') (fun z => absurd z (nI_m9 (by omega)))
  · rw [if_pos c]
    have rd : rdA (chF tx n) n = (0, []) := by unfold rdA; rw [if_neg c]
    rw [rd] at hK
    exact hK _ f1 (fun z => absurd z (by decide))
end RE2
