/-! ===== takeMoves, takeMore: the model ===== -/
def MvM (h H : PH) (s u i : Nat) : Prop := Fr (fun a => 132 ≤ a ∧ a ≤ 138) h H ∧ (∀ a, hI H 132 a = hI h 132 a) ∧ (∀ a, hI H 138 a = hI h 138 a) ∧ (∀ a, hI H 133 a = if a = s then hI h 133 u else hI h 133 a) ∧ (∀ a, hI H 134 a = if a = s then hI h 134 u else hI h 134 a) ∧ (∀ a, hI H 135 a = if 6 * s ≤ a ∧ a < 6 * s + i then hI h 135 (6 * u + (a - 6 * s)) else hI h 135 a) ∧ (∀ a, hI H 136 a = if 6 * s ≤ a ∧ a < 6 * s + i then hI h 136 (6 * u + (a - 6 * s)) else hI h 136 a) ∧ (∀ a, hI H 137 a = if 6 * s ≤ a ∧ a < 6 * s + i then hI h 137 (6 * u + (a - 6 * s)) else hI h 137 a)
section MM
variable {sc : Nat × (Nat → Int32)} {d : Nat} {Q : PRes → Prop} {h : PH} {k s u r q : Nat} {x y z : Int32}
theorem iOk_sI {H : PH} {k j a : Nat} {w i : Int32} : iOk sc (sI H k j w) a i = iOk sc H a i := rfl
/-- one more copied -/
theorem cp_step {f f0 : Nat → Int32} {i : Nat} (hs : s < 8) (hu : u < 8) (hi : i < 6) (hf : ∀ a, f a = if 6 * s ≤ a ∧ a < 6 * s + i then f0 (6 * u + (a - 6 * s)) else f0 a) (a : Nat) : (if a = 6 * s + i then f (6 * u + i) else f a) = if 6 * s ≤ a ∧ a < 6 * s + (i + 1) then f0 (6 * u + (a - 6 * s)) else f0 a := by
  by_cases e : a = 6 * s + i
  · rw [if_pos e, if_pos (by omega), hf, if_neg (by omega), show a - 6 * s = i by omega]
  · rw [if_neg e, hf]
    by_cases e2 : 6 * s ≤ a ∧ a < 6 * s + i
    · rw [if_pos e2, if_pos (by omega)]
    · rw [if_neg e2, if_neg (by omega)]
theorem m_tm_loop (hw : WF h) (hs : s < 8) (hu : u < 8) (hK : ∀ h', MvM h h' s u 6 → Q (none, h')) : ∀ (n i : Nat) (H : PH), i + n = 6 → MvM h H s u i → Tr sc d 182 (26, [some (.ref 124), some (.int (nI s)), some (.int (nI u)), some (.int (nI i))], [], H) Q := by
  intro n
  induction n with
  | zero =>
    intro i H hi hm
    have e : i = 6 := by omega
    subst e
    rw [x_182_26]
    simp only [x_182_27, x_182_29, x_182_32, x_182_33, x_182_36, x_182_38, x_182_39, x_182_40, x_182_41, x_182_42, x_182_43, x_182_46, x_182_48, x_182_49, x_182_50, x_182_51, x_182_52, x_182_53, x_182_54, x_182_55, x_182_58, x_182_60, x_182_61, x_182_62, x_182_63, x_182_64, x_182_65, x_182_68, x_182_70, x_182_71, x_182_72, x_182_73, x_182_74, x_182_75, x_182_76, x_182_77, x_182_80, x_182_82, x_182_83, x_182_84, x_182_85, x_182_86, x_182_87, x_182_90, x_182_92, x_182_93, x_182_94, x_182_95, x_182_96, x_182_97, x_182_98, x_182_101, x_182_104]
    rw [if_pos (show (6 : Int32) ≤ nI 6 from Int32.le_refl _)]
    exact hK H hm
  | succ n ih =>
    intro i H hi hm
    have hlt : i < 6 := by omega
    obtain ⟨fr, m2, m8, m3, m4, m5, m6, m7⟩ := hm
    have hwH := Fr_WF fr hw
    have g3 : 6 * s + i < 48 := by omega
    have g4 : 6 * u + i < 48 := by omega
    rw [x_182_26]
    simp only [x_182_27, x_182_29, x_182_32, x_182_33, x_182_36, x_182_38, x_182_39, x_182_40, x_182_41, x_182_42, x_182_43, x_182_46, x_182_48, x_182_49, x_182_50, x_182_51, x_182_52, x_182_53, x_182_54, x_182_55, x_182_58, x_182_60, x_182_61, x_182_62, x_182_63, x_182_64, x_182_65, x_182_68, x_182_70, x_182_71, x_182_72, x_182_73, x_182_74, x_182_75, x_182_76, x_182_77, x_182_80, x_182_82, x_182_83, x_182_84, x_182_85, x_182_86, x_182_87, x_182_90, x_182_92, x_182_93, x_182_94, x_182_95, x_182_96, x_182_97, x_182_98, x_182_101, x_182_104, okp_sI, hR_sI, iOk_sI, o_124 hwH, w_124_19 hwH, w_124_20 hwH, w_124_21 hwH, o_135 hwH, o_136 hwH, o_137 hwH, iOk_ok (o_135 hwH), iRd_lt (k := 135) (by decide), iOk_ok (o_136 hwH), iRd_lt (k := 136) (by decide), iOk_ok (o_137 hwH), iRd_lt (k := 137) (by decide), inb_nI (n := LN 135) g3 (by decide), inb_nI (n := LN 136) g3 (by decide), inb_nI (n := LN 137) g3 (by decide), inb_nI (n := LN 135) g4 (by decide), inb_nI (n := LN 136) g4 (by decide), inb_nI (n := LN 137) g4 (by decide), nI_clamp (n := 6 * s + i) (by omega), nI_clamp (n := 6 * u + i) (by omega), mv_ix hs hlt, mv_ix hu hlt, true_and, Bool.and_self, hI_sI, Nat.reduceEqDiff, if_false, Option.some.injEq, exists_eq_left', nI_1, cl2_i, cl2_r, cl2_n]
    rw [if_neg (show ¬ (6 : Int32) ≤ nI i from nI_ge hlt (by decide))]
    refine ih (i + 1) _ (by omega) ⟨((fr.tr (Fr_sI ⟨by decide, by decide⟩)).tr (Fr_sI ⟨by decide, by decide⟩)).tr (Fr_sI ⟨by decide, by decide⟩), fun a => ?_, fun a => ?_, fun a => ?_, fun a => ?_, fun a => ?_, fun a => ?_, fun a => ?_⟩
    · rw [rd_ne (Or.inl (by decide)), rd_ne (Or.inl (by decide)), rd_ne (Or.inl (by decide))]; exact m2 a
    · rw [rd_ne (Or.inl (by decide)), rd_ne (Or.inl (by decide)), rd_ne (Or.inl (by decide))]; exact m8 a
    · rw [rd_ne (Or.inl (by decide)), rd_ne (Or.inl (by decide)), rd_ne (Or.inl (by decide))]; exact m3 a
    · rw [rd_ne (Or.inl (by decide)), rd_ne (Or.inl (by decide)), rd_ne (Or.inl (by decide))]; exact m4 a
    · rw [rd_ne (Or.inl (by decide)), rd_ne (Or.inl (by decide)), hI_sI, if_pos rfl]
      exact cp_step (f := hI H 135) (f0 := hI h 135) hs hu hlt m5 a
    · rw [rd_ne (Or.inl (by decide)), hI_sI, if_pos rfl, rd_ne (a := 136) (q := 135) (Or.inl (by decide))]
      exact cp_step (f := hI H 136) (f0 := hI h 136) hs hu hlt m6 a
    · rw [hI_sI, if_pos rfl, rd_ne (a := 137) (q := 136) (Or.inl (by decide)), rd_ne (a := 137) (q := 135) (Or.inl (by decide))]
      exact cp_step (f := hI H 137) (f0 := hI h 137) hs hu hlt m7 a
theorem m_takeMoves (hw : WF h) (hs : s < 8) (hu : u < 8) (hK : ∀ h', MvM h h' s u 6 → Q (none, h')) : Tr sc d 182 (ent0 182 [.ref 124, .int (nI s), .int (nI u)] h) Q := by
  rw [e_182]
  simp only [x_182_0, x_182_1, x_182_4, x_182_5, x_182_6, x_182_9, x_182_10, x_182_11, x_182_12, x_182_13, x_182_16, x_182_17, x_182_18, x_182_21, x_182_22, x_182_23, x_182_24, x_182_25, okp_sI, hR_sI, iOk_sI, o_124 hw, w_124_17 hw, w_124_18 hw, o_133 hw, o_134 hw, iOk_ok (o_133 hw), iRd_lt (k := 133) (by decide), iOk_ok (o_134 hw), iRd_lt (k := 134) (by decide), inb_nI (n := LN 133) hs (by decide), inb_nI (n := LN 134) hs (by decide), inb_nI (n := LN 133) hu (by decide), inb_nI (n := LN 134) hu (by decide), nI_clamp (n := s) (by omega), nI_clamp (n := u) (by omega), true_and, Bool.and_self, hI_sI, Nat.reduceEqDiff, if_false, Option.some.injEq, exists_eq_left', cl2_i, cl2_r, cl2_n]
  refine m_tm_loop hw hs hu hK 6 0 _ rfl ⟨(Fr_sI ⟨by decide, by decide⟩).tr (Fr_sI ⟨by decide, by decide⟩), fun a => rfl, fun a => rfl, fun a => ?_, fun a => ?_, fun a => ?_, fun a => ?_, fun a => ?_⟩
  · rw [rd_ne (Or.inl (by decide)), hI_sI, if_pos rfl]
  · rw [hI_sI, if_pos rfl, rd_ne (a := 134) (q := 133) (Or.inl (by decide))]
  · rw [if_neg (by omega)]; rfl
  · rw [if_neg (by omega)]; rfl
  · rw [if_neg (by omega)]; rfl
/-- what takeMore leaves behind -/
def MvE (h H : PH) (s u r M : Nat) (kd : Int32) : Prop := Fr (fun a => 132 ≤ a ∧ a ≤ 138) h H ∧ (∀ a, hI H 132 a = if a = s then kd else hI h 132 a) ∧ (∀ a, hI H 138 a = if 6 * s ≤ a ∧ a < 6 * s + M then hI h 127 (40 * r + (a - 6 * s)) else hI h 138 a) ∧ (∀ a, hI H 133 a = if a = s then hI h 133 u else hI h 133 a) ∧ (∀ a, hI H 134 a = if a = s then hI h 134 u else hI h 134 a) ∧ (∀ a, hI H 135 a = if 6 * s ≤ a ∧ a < 6 * s + 6 then hI h 135 (6 * u + (a - 6 * s)) else hI h 135 a) ∧ (∀ a, hI H 136 a = if 6 * s ≤ a ∧ a < 6 * s + 6 then hI h 136 (6 * u + (a - 6 * s)) else hI h 136 a) ∧ (∀ a, hI H 137 a = if 6 * s ≤ a ∧ a < 6 * s + 6 then hI h 137 (6 * u + (a - 6 * s)) else hI h 137 a)
theorem m_te_loop {M : Nat} {kd : Int32} (hw : WF h) (hs : s < 8) (hr : r < 6) (hM : M ≤ 6) (hz : hI h 134 u = nI M) (hK : ∀ h', MvE h h' s u r M kd → Q (none, h')) : ∀ (n i : Nat) (H : PH), i + n = M → Fr (fun a => 132 ≤ a ∧ a ≤ 138) h H → (∀ a, hI H 132 a = hI h 132 a) → (∀ a, hI H 138 a = if 6 * s ≤ a ∧ a < 6 * s + i then hI h 127 (40 * r + (a - 6 * s)) else hI h 138 a) → (∀ a, hI H 133 a = if a = s then hI h 133 u else hI h 133 a) → (∀ a, hI H 134 a = if a = s then hI h 134 u else hI h 134 a) → (∀ a, hI H 135 a = if 6 * s ≤ a ∧ a < 6 * s + 6 then hI h 135 (6 * u + (a - 6 * s)) else hI h 135 a) → (∀ a, hI H 136 a = if 6 * s ≤ a ∧ a < 6 * s + 6 then hI h 136 (6 * u + (a - 6 * s)) else hI h 136 a) → (∀ a, hI H 137 a = if 6 * s ≤ a ∧ a < 6 * s + 6 then hI h 137 (6 * u + (a - 6 * s)) else hI h 137 a) → Tr sc d 184 (9, [some (.ref 124), some (.int (nI s)), some (.int (nI u)), some (.int (nI r)), some (.int kd), some (.int (nI i))], [], H) Q := by
  intro n
  induction n with
  | zero =>
    intro i H hi fr m2 m8 m3 m4 m5 m6 m7
    have e : i = M := by omega
    subst e
    have hwH := Fr_WF fr hw
    have z4 : hI H 134 s = nI i := by rw [m4, if_pos rfl]; exact hz
    rw [x_184_9]
    simp only [x_184_11, x_184_12, x_184_15, x_184_16, x_184_17, x_184_20, x_184_21, x_184_24, x_184_26, x_184_27, x_184_28, x_184_30, x_184_31, x_184_32, x_184_35, x_184_37, x_184_38, x_184_39, x_184_41, x_184_42, x_184_43, x_184_44, x_184_47, x_184_50, x_184_51, x_184_54, x_184_55, x_184_57, x_184_58, o_124 hwH, w_124_16 hwH, w_124_18 hwH, o_132 hwH, iOk_ok (o_134 hwH), iRd_lt (k := 134) (by decide), inb_nI (n := LN 132) hs (by decide), inb_nI (n := LN 134) hs (by decide), nI_clamp (n := s) (by omega), z4, true_and, Bool.and_self, Option.some.injEq, exists_eq_left']
    rw [if_pos (Int32.le_refl _)]
    refine hK _ ⟨fr.tr (Fr_sI ⟨by decide, by decide⟩), fun a => ?_, fun a => ?_, fun a => ?_, fun a => ?_, fun a => ?_, fun a => ?_, fun a => ?_⟩
    · rw [hI_sI, if_pos rfl, m2]
    · rw [rd_ne (Or.inl (by decide))]; exact m8 a
    · rw [rd_ne (Or.inl (by decide))]; exact m3 a
    · rw [rd_ne (Or.inl (by decide))]; exact m4 a
    · rw [rd_ne (Or.inl (by decide))]; exact m5 a
    · rw [rd_ne (Or.inl (by decide))]; exact m6 a
    · rw [rd_ne (Or.inl (by decide))]; exact m7 a
  | succ n ih =>
    intro i H hi fr m2 m8 m3 m4 m5 m6 m7
    have hlt : i < M := by omega
    have hwH := Fr_WF fr hw
    have z4 : hI H 134 s = nI M := by rw [m4, if_pos rfl]; exact hz
    have g3 : 6 * s + i < 48 := by omega
    have g4 : 40 * r + i < 240 := by omega
    have v7 : hI H 127 (40 * r + i) = hI h 127 (40 * r + i) := (fr.2.2 127 (by omega) _).1
    rw [x_184_9]
    simp only [x_184_11, x_184_12, x_184_15, x_184_16, x_184_17, x_184_20, x_184_21, x_184_24, x_184_26, x_184_27, x_184_28, x_184_30, x_184_31, x_184_32, x_184_35, x_184_37, x_184_38, x_184_39, x_184_41, x_184_42, x_184_43, x_184_44, x_184_47, x_184_50, x_184_51, x_184_54, x_184_55, x_184_57, x_184_58, o_124 hwH, w_124_7 hwH, w_124_18 hwH, w_124_22 hwH, o_138 hwH, iOk_ok (o_127 hwH), iRd_lt (k := 127) (by decide), iOk_ok (o_134 hwH), iRd_lt (k := 134) (by decide), inb_nI (n := LN 134) hs (by decide), inb_nI (n := LN 138) g3 (by decide), inb_nI (n := LN 127) g4 (by decide), nI_clamp (n := s) (by omega), nI_clamp (n := 6 * s + i) (by omega), nI_clamp (n := 40 * r + i) (by omega), mv_ix hs (show i < 6 by omega), lay_ix (a := r) (b := i) hr (by omega), z4, v7, true_and, Bool.and_self, Option.some.injEq, exists_eq_left', nI_1, cl2_i, cl2_r, cl2_n]
    rw [if_neg (nI_ge hlt (by omega))]
    refine ih (i + 1) _ (by omega) (fr.tr (Fr_sI ⟨by decide, by decide⟩)) (fun a => ?_) (fun a => ?_) (fun a => ?_) (fun a => ?_) (fun a => ?_) (fun a => ?_) (fun a => ?_)
    · rw [rd_ne (Or.inl (by decide))]; exact m2 a
    · rw [hI_sI, if_pos rfl]
      by_cases e : a = 6 * s + i
      · rw [if_pos e, if_pos (by omega), show a - 6 * s = i by omega]
      · rw [if_neg e, m8]
        by_cases e2 : 6 * s ≤ a ∧ a < 6 * s + i
        · rw [if_pos e2, if_pos (by omega)]
        · rw [if_neg e2, if_neg (by omega)]
    · rw [rd_ne (Or.inl (by decide))]; exact m3 a
    · rw [rd_ne (Or.inl (by decide))]; exact m4 a
    · rw [rd_ne (Or.inl (by decide))]; exact m5 a
    · rw [rd_ne (Or.inl (by decide))]; exact m6 a
    · rw [rd_ne (Or.inl (by decide))]; exact m7 a
theorem m_takeMore {M : Nat} {kd : Int32} (hw : WF h) (hs : s < 8) (hu : u < 8) (hr : r < 6) (hM : M ≤ 6) (hz : hI h 134 u = nI M) (hK : ∀ h', MvE h h' s u r M kd → Q (none, h')) : Tr sc (d + 1) 184 (ent0 184 [.ref 124, .int (nI s), .int (nI u), .int (nI r), .int kd] h) Q := by
  rw [e_184]
  simp only [x_184_0, x_184_1, x_184_2, x_184_3, o_124 hw, true_and]
  refine m_takeMoves hw hs hu (fun H hm => ?_)
  simp only [tl_n, x_184_6, x_184_7, cl2_i, cl2_r, cl2_n]
  obtain ⟨fr, m2, m8, m3, m4, m5, m6, m7⟩ := hm
  refine m_te_loop hw hs hr hM hz hK M 0 H (by omega) fr m2 (fun a => ?_) m3 m4 m5 m6 m7
  rw [if_neg (by omega)]; exact m8 a
end MM
