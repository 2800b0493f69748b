/-! ===== takeMoves, takeMore: the model ===== -/
def MvM (h H : PH) (s u i : Nat) : Prop := Fr (fun a => 132 ≤ a ∧ a ≤ 138) h H ∧ (∀ a, hI H 132 a = hI h 132 a) ∧ (∀ a, hI H 138 a = hI h 138 a) ∧ (∀ a, hI H 133 a = if a = s then hI h 133 u else hI h 133 a) ∧ (∀ a, hI H 134 a = if a = s then hI h 134 u else hI h 134 a) ∧ (∀ a, hI H 135 a = if 6 * s ≤ a ∧ a < 6 * s + i then hI h 135 (6 * u + (a - 6 * s)) else hI h 135 a) ∧ (∀ a, hI H 136 a = if 6 * s ≤ a ∧ a < 6 * s + i then hI h 136 (6 * u + (a - 6 * s)) else hI h 136 a) ∧ (∀ a, hI H 137 a = if 6 * s ≤ a ∧ a < 6 * s + i then hI h 137 (6 * u + (a - 6 * s)) else hI h 137 a)
section MM
variable {sc : Nat × (Nat → Int32)} {d : Nat} {Q : PRes → Prop} {h : PH} {k s u r q : Nat} {x y z : Int32}
theorem iOk_sI {H : PH} {k j a : Nat} {w i : Int32} : iOk sc (sI H k j w) a i = iOk sc H a i := rfl
/-- one more copied -/
theorem cp_step {f f0 : Nat → Int32} {i : Nat} (hs : s < 8) (hu : u < 8) (hi : i < 6) (hf : ∀ a, f a = if 6 * s ≤ a ∧ a < 6 * s + i then f0 (6 * u + (a - 6 * s)) else f0 a) (a : Nat) : (if a = 6 * s + i then f (6 * u + i) else f a) = if 6 * s ≤ a ∧ a < 6 * s + (i + 1) then f0 (6 * u + (a - 6 * s)) else f0 a := by
  by_cases e : a = 6 * s + i
  · rw [if_pos e, if_pos (by omega), hf, if_neg (by omega), show a - 6 * s = i by omega]
  · rw [if_neg e, hf]
    by_cases e2 : 6 * s ≤ a ∧ a < 6 * s + i
    · rw [if_pos e2, if_pos (by omega)]
    · rw [if_neg e2, if_neg (by omega)]
theorem m_tm_loop (hw : WF h) (hs : s < 8) (hu : u < 8) (hK : ∀ h', MvM h h' s u 6 → Q (none, h')) : ∀ (n i : Nat) (H : PH), i + n = 6 → MvM h H s u i → Tr sc d 181 (26, [some (.ref 124), some (.int (nI s)), some (.int (nI u)), some (.int (nI i))], [], H) Q := by
  intro n
  induction n with
  | zero =>
    intro i H hi hm
    have e : i = 6 := by omega
    subst e
    rw [x_181_26]
    simp only [x_181_27, x_181_29, x_181_32, x_181_33, x_181_36, x_181_38, x_181_39, x_181_40, x_181_41, x_181_42, x_181_43, x_181_46, x_181_48, x_181_49, x_181_50, x_181_51, x_181_52, x_181_53, x_181_54, x_181_55, x_181_58, x_181_60, x_181_61, x_181_62, x_181_63, x_181_64, x_181_65, x_181_68, x_181_70, x_181_71, x_181_72, x_181_73, x_181_74, x_181_75, x_181_76, x_181_77, x_181_80, x_181_82, x_181_83, x_181_84, x_181_85, x_181_86, x_181_87, x_181_90, x_181_92, x_181_93, x_181_94, x_181_95, x_181_96, x_181_97, x_181_98, x_181_101, x_181_104]
    rw [if_pos (show (6 : Int32) ≤ nI 6 from Int32.le_refl _)]
    exact hK H hm
  | succ n ih =>
    intro i H hi hm
    have hlt : i < 6 := by omega
    obtain ⟨fr, m2, m8, m3, m4, m5, m6, m7⟩ := hm
    have hwH := Fr_WF fr hw
    have g3 : 6 * s + i < 48 := by omega
    have g4 : 6 * u + i < 48 := by omega
    rw [x_181_26]
    simp only [x_181_27, x_181_29, x_181_32, x_181_33, x_181_36, x_181_38, x_181_39, x_181_40, x_181_41, x_181_42, x_181_43, x_181_46, x_181_48, x_181_49, x_181_50, x_181_51, x_181_52, x_181_53, x_181_54, x_181_55, x_181_58, x_181_60, x_181_61, x_181_62, x_181_63, x_181_64, x_181_65, x_181_68, x_181_70, x_181_71, x_181_72, x_181_73, x_181_74, x_181_75, x_181_76, x_181_77, x_181_80, x_181_82, x_181_83, x_181_84, x_181_85, x_181_86, x_181_87, x_181_90, x_181_92, x_181_93, x_181_94, x_181_95, x_181_96, x_181_97, x_181_98, x_181_101, x_181_104, okp_sI, hR_sI, iOk_sI, o_124 hwH, w_124_19 hwH, w_124_20 hwH, w_124_21 hwH, o_135 hwH, o_136 hwH, o_137 hwH, iOk_ok (o_135 hwH), iRd_lt (k := 135) (by decide), iOk_ok (o_136 hwH), iRd_lt (k := 136) (by decide), iOk_ok (o_137 hwH), iRd_lt (k := 137) (by decide), inb_nI (n := LN 135) g3 (by decide), inb_nI (n := LN 136) g3 (by decide), inb_nI (n := LN 137) g3 (by decide), inb_nI (n := LN 135) g4 (by decide), inb_nI (n := LN 136) g4 (by decide), inb_nI (n := LN 137) g4 (by decide), nI_clamp (n := 6 * s + i) (by omega), nI_clamp (n := 6 * u + i) (by omega), mv_ix hs hlt, mv_ix hu hlt, true_and, Bool.and_self, hI_sI, Nat.reduceEqDiff, if_false, Option.some.injEq, exists_eq_left', nI_1, cl2_i, cl2_r, cl2_n]
    rw [if_neg (show ¬ (6 : Int32) ≤ nI i from nI_ge hlt (by decide))]
    refine ih (i + 1) _ (by omega) ⟨((fr.tr (Fr_sI ⟨by decide, by decide⟩)).tr (Fr_sI ⟨by decide, by decide⟩)).tr (Fr_sI ⟨by decide, by decide⟩), fun a => ?_, fun a => ?_, fun a => ?_, fun a => ?_, fun a => ?_, fun a => ?_, fun a => ?_⟩
    · rw [rd_ne (Or.inl (by decide)), rd_ne (Or.inl (by decide)), rd_ne (Or.inl (by decide))]; exact m2 a
    · rw [rd_ne (Or.inl (by decide)), rd_ne (Or.inl (by decide)), rd_ne (Or.inl (by decide))]; exact m8 a
    · rw [rd_ne (Or.inl (by decide)), rd_ne (Or.inl (by decide)), rd_ne (Or.inl (by decide))]; exact m3 a
    · rw [rd_ne (Or.inl (by decide)), rd_ne (Or.inl (by decide)), rd_ne (Or.inl (by decide))]; exact m4 a
    · rw [rd_ne (Or.inl (by decide)), rd_ne (Or.inl (by decide)), hI_sI, if_pos rfl]
      exact cp_step (f := hI H 135) (f0 := hI h 135) hs hu hlt m5 a
    · rw [rd_ne (Or.inl (by decide)), hI_sI, if_pos rfl, rd_ne (a := 136) (q := 135) (Or.inl (by decide))]
      exact cp_step (f := hI H 136) (f0 := hI h 136) hs hu hlt m6 a
    · rw [hI_sI, if_pos rfl, rd_ne (a := 137) (q := 136) (Or.inl (by decide)), rd_ne (a := 137) (q := 135) (Or.inl (by decide))]
      exact cp_step (f := hI H 137) (f0 := hI h 137) hs hu hlt m7 a
theorem m_takeMoves (hw : WF h) (hs : s < 8) (hu : u < 8) (hK : ∀ h', MvM h h' s u 6 → Q (none, h')) : Tr sc d 181 (ent0 181 [.ref 124, .int (nI s), .int (nI u)] h) Q := by
  rw [e_181]
  simp only [x_181_0, x_181_1, x_181_4, x_181_5, x_181_6, x_181_9, x_181_10, x_181_11, x_181_12, x_181_13, x_181_16, x_181_17, x_181_18, x_181_21, x_181_22, x_181_23, x_181_24, x_181_25, okp_sI, hR_sI, iOk_sI, o_124 hw, w_124_17 hw, w_124_18 hw, o_133 hw, o_134 hw, iOk_ok (o_133 hw), iRd_lt (k := 133) (by decide), iOk_ok (o_134 hw), iRd_lt (k := 134) (by decide), inb_nI (n := LN 133) hs (by decide), inb_nI (n := LN 134) hs (by decide), inb_nI (n := LN 133) hu (by decide), inb_nI (n := LN 134) hu (by decide), nI_clamp (n := s) (by omega), nI_clamp (n := u) (by omega), true_and, Bool.and_self, hI_sI, Nat.reduceEqDiff, if_false, Option.some.injEq, exists_eq_left', cl2_i, cl2_r, cl2_n]
  refine m_tm_loop hw hs hu hK 6 0 _ rfl ⟨(Fr_sI ⟨by decide, by decide⟩).tr (Fr_sI ⟨by decide, by decide⟩), fun a => rfl, fun a => rfl, fun a => ?_, fun a => ?_, fun a => ?_, fun a => ?_, fun a => ?_⟩
  · rw [rd_ne (Or.inl (by decide)), hI_sI, if_pos rfl]
  · rw [hI_sI, if_pos rfl, rd_ne (a := 134) (q := 133) (Or.inl (by decide))]
  · rw [if_neg (by omega)]; rfl
  · rw [if_neg (by omega)]; rfl
  · rw [if_neg (by omega)]; rfl
/-- what takeMore leaves behind -/
def MvE (h H : PH) (s u r M : Nat) (kd : Int32) : Prop := Fr (fun a => 132 ≤ a ∧ a ≤ 138) h H ∧ (∀ a, hI H 132 a = if a = s then kd else hI h 132 a) ∧ (∀ a, hI H 138 a = if 6 * s ≤ a ∧ a < 6 * s + M then hI h 127 (40 * r + (a - 6 * s)) else hI h 138 a) ∧ (∀ a, hI H 133 a = if a = s then hI h 133 u else hI h 133 a) ∧ (∀ a, hI H 134 a = if a = s then hI h 134 u else hI h 134 a) ∧ (∀ a, hI H 135 a = if 6 * s ≤ a ∧ a < 6 * s + 6 then hI h 135 (6 * u + (a - 6 * s)) else hI h 135 a) ∧ (∀ a, hI H 136 a = if 6 * s ≤ a ∧ a < 6 * s + 6 then hI h 136 (6 * u + (a - 6 * s)) else hI h 136 a) ∧ (∀ a, hI H 137 a = if 6 * s ≤ a ∧ a < 6 * s + 6 then hI h 137 (6 * u + (a - 6 * s)) else hI h 137 a)
theorem m_te_loop {M : Nat} {kd : Int32} (hw : WF h) (hs : s < 8) (hr : r < 6) (hM : M ≤ 6) (hz : hI h 134 u = nI M) (hK : ∀ h', MvE h h' s u r M kd → Q (none, h')) : ∀ (n i : Nat) (H : PH), i + n = M → Fr (fun a => 132 ≤ a ∧ a ≤ 138) h H → (∀ a, hI H 132 a = hI h 132 a) → (∀ a, hI H 138 a = if 6 * s ≤ a ∧ a < 6 * s + i then hI h 127 (40 * r + (a - 6 * s)) else hI h 138 a) → (∀ a, hI H 133 a = if a = s then hI h 133 u else hI h 133 a) → (∀ a, hI H 134 a = if a = s then hI h 134 u else hI h 134 a) → (∀ a, hI H 135 a = if 6 * s ≤ a ∧ a < 6 * s + 6 then hI h 135 (6 * u + (a - 6 * s)) else hI h 135 a) → (∀ a, hI H 136 a = if 6 * s ≤ a ∧ a < 6 * s + 6 then hI h 136 (6 * u + (a - 6 * s)) else hI h 136 a) → (∀ a, hI H 137 a = if 6 * s ≤ a ∧ a < 6 * s + 6 then hI h 137 (6 * u + (a - 6 * s)) else hI h 137 a) → Tr sc d 183 (9, [some (.ref 124), some (.int (nI s)), some (.int (nI u)), some (.int (nI r)), some (.int kd), some (.int (nI i))], [], H) Q := by
  intro n
  induction n with
  | zero =>
    intro i H hi fr m2 m8 m3 m4 m5 m6 m7
    have e : i = M := by omega
    subst e
    have hwH := Fr_WF fr hw
    have z4 : hI H 134 s = nI i := by rw [m4, if_pos rfl]; exact hz
    rw [x_183_9]
    simp only [x_183_11, x_183_12, x_183_15, x_183_16, x_183_17, x_183_20, x_183_21, x_183_24, x_183_26, x_183_27, x_183_28, x_183_30, x_183_31, x_183_32, x_183_35, x_183_37, x_183_38, x_183_39, x_183_41, x_183_42, x_183_43, x_183_44, x_183_47, x_183_50, x_183_51, x_183_54, x_183_55, x_183_57, x_183_58, o_124 hwH, w_124_16 hwH, w_124_18 hwH, o_132 hwH, iOk_ok (o_134 hwH), iRd_lt (k := 134) (by decide), inb_nI (n := LN 132) hs (by decide), inb_nI (n := LN 134) hs (by decide), nI_clamp (n := s) (by omega), z4, true_and, Bool.and_self, Option.some.injEq, exists_eq_left']
    rw [if_pos (Int32.le_refl _)]
    refine hK _ ⟨fr.tr (Fr_sI ⟨by decide, by decide⟩), fun a => ?_, fun a => ?_, fun a => ?_, fun a => ?_, fun a => ?_, fun a => ?_, fun a => ?_⟩
    · rw [hI_sI, if_pos rfl, m2]
    · rw [rd_ne (Or.inl (by decide))]; exact m8 a
    · rw [rd_ne (Or.inl (by decide))]; exact m3 a
    · rw [rd_ne (Or.inl (by decide))]; exact m4 a
    · rw [rd_ne (Or.inl (by decide))]; exact m5 a
    · rw [rd_ne (Or.inl (by decide))]; exact m6 a
    · rw [rd_ne (Or.inl (by decide))]; exact m7 a
  | succ n ih =>
    intro i H hi fr m2 m8 m3 m4 m5 m6 m7
    have hlt : i < M := by omega
    have hwH := Fr_WF fr hw
    have z4 : hI H 134 s = nI M := by rw [m4, if_pos rfl]; exact hz
    have g3 : 6 * s + i < 48 := by omega
    have g4 : 40 * r + i < 240 := by omega
    have v7 : hI H 127 (40 * r + i) = hI h 127 (40 * r + i) := (fr.2.2 127 (by omega) _).1
    rw [x_183_9]
    simp only [x_183_11, x_183_12, x_183_15, x_183_16, x_183_17, x_183_20, x_183_21, x_183_24, x_183_26, x_183_27, x_183_28, x_183_30, x_183_31, x_183_32, x_183_35, x_183_37, x_183_38, x_183_39, x_183_41, x_183_42, x_183_43, x_183_44, x_183_47, x_183_50, x_183_51, x_183_54, x_183_55, x_183_57, x_183_58, o_124 hwH, w_124_7 hwH, w_124_18 hwH, w_124_22 hwH, o_138 hwH, iOk_ok (o_127 hwH), iRd_lt (k := 127) (by decide), iOk_ok (o_134 hwH), iRd_lt (k := 134) (by decide), inb_nI (n := LN 134) hs (by decide), inb_nI (n := LN 138) g3 (by decide), inb_nI (n := LN 127) g4 (by decide), nI_clamp (n := s) (by omega), nI_clamp (n := 6 * s + i) (by omega), nI_clamp (n := 40 * r + i) (by omega), mv_ix hs (show i < 6 by omega), lay_ix (a := r) (b := i) hr (by omega), z4, v7, true_and, Bool.and_self, Option.some.injEq, exists_eq_left', nI_1, cl2_i, cl2_r, cl2_n]
    rw [if_neg (nI_ge hlt (by omega))]
    refine ih (i + 1) _ (by omega) (fr.tr (Fr_sI ⟨by decide, by decide⟩)) (fun a => ?_) (fun a => ?_) (fun a => ?_) (fun a => ?_) (fun a => ?_) (fun a => ?_) (fun a => ?_)
    · rw [rd_ne (Or.inl (by decide))]; exact m2 a
    · rw [hI_sI, if_pos rfl]
      by_cases e : a = 6 * s + i
      · rw [if_pos e, if_pos (by omega), show a - 6 * s = i by omega]
      · rw [if_neg e, m8]
        by_cases e2 : 6 * s ≤ a ∧ a < 6 * s + i
        · rw [if_pos e2, if_pos (by omega)]
        · rw [if_neg e2, if_neg (by omega)]
    · rw [rd_ne (Or.inl (by decide))]; exact m3 a
    · rw [rd_ne (Or.inl (by decide))]; exact m4 a
    · rw [rd_ne (Or.inl (by decide))]; exact m5 a
    · rw [rd_ne (Or.inl (by decide))]; exact m6 a
    · rw [rd_ne (Or.inl (by decide))]; exact m7 a
theorem m_takeMore {M : Nat} {kd : Int32} (hw : WF h) (hs : s < 8) (hu : u < 8) (hr : r < 6) (hM : M ≤ 6) (hz : hI h 134 u = nI M) (hK : ∀ h', MvE h h' s u r M kd → Q (none, h')) : Tr sc (d + 1) 183 (ent0 183 [.ref 124, .int (nI s), .int (nI u), .int (nI r), .int kd] h) Q := by
  rw [e_183]
  simp only [x_183_0, x_183_1, x_183_2, x_183_3, o_124 hw, true_and]
  refine m_takeMoves hw hs hu (fun H hm => ?_)
  simp only [tl_n, x_183_6, x_183_7, cl2_i, cl2_r, cl2_n]
  obtain ⟨fr, m2, m8, m3, m4, m5, m6, m7⟩ := hm
  refine m_te_loop hw hs hr hM hz hK M 0 H (by omega) fr m2 (fun a => ?_) m3 m4 m5 m6 m7
  rw [if_neg (by omega)]; exact m8 a
end MM
