/-! ===== takeMoves, weights ===== -/
section TM
variable {sc : Nat × (Nat → Int32)} {d : Nat} {Q : PRes → Prop} {h : PH} {k s q : Nat}
theorem rd_ne {H : PH} {q a i j : Nat} {v : Int32} (e : a ≠ q ∨ j ≠ i) : hI (sI H q i v) a j = hI H a j := by
  rw [hI_sI]
  by_cases e1 : a = q
  · rw [if_pos e1, if_neg (e.resolve_left (fun z => z e1))]
  · rw [if_neg e1]
theorem rd_eq {H : PH} {q i : Nat} {v : Int32} : hI (sI H q i v) q i = v := by
  rw [hI_sI, if_pos rfl, if_pos rfl]
/-- what takeMoves leaves behind -/
def TkM (h h' : PH) (k q0 q1 q2 : Nat) (b : Int32) (M : Nat) (t x y : Nat → Int32) : Prop := Fr (fun a => a = k ∨ a = q0 ∨ a = q1 ∨ a = q2) h h' ∧ hI h' k 7 = b ∧ hI h' k 8 = nI M ∧ hI h' k 6 = hI h k 6 ∧ ∀ j, j < M → hI h' q0 j = t j ∧ hI h' q1 j = x j ∧ hI h' q2 j = y j
theorem c_tm_loop {q0 q1 q2 k' p0 p1 p2 M : Nat} {t x y : Nat → Int32} {b : Int32} (ho : okp h k 6 = true) (ho' : okp h k' 6 = true) (r0 : hR h k 0 = some q0) (r1 : hR h k 1 = some q1) (r2 : hR h k 2 = some q2) (r0' : hR h k' 0 = some p0) (r1' : hR h k' 1 = some p1) (r2' : hR h k' 2 = some p2) (o0 : okp h q0 11 = true) (o1 : okp h q1 11 = true) (o2 : okp h q2 11 = true) (o0' : okp h p0 11 = true) (o1' : okp h p1 11 = true) (o2' : okp h p2 11 = true) (n0 : LN q0 = 6) (n1 : LN q1 = 6) (n2 : LN q2 = 6) (n0' : LN p0 = 6) (n1' : LN p1 = 6) (n2' : LN p2 = 6) (kn : k ≠ q0 ∧ k ≠ q1 ∧ k ≠ q2) (qn : q0 ≠ q1 ∧ q0 ≠ q2 ∧ q1 ≠ q2) (pn : p1 ≠ q0 ∧ p2 ≠ q0 ∧ p2 ≠ q1) (hM : M ≤ 6) (hK : ∀ h', TkM h h' k q0 q1 q2 b M t x y → Q (none, h')) : ∀ (n i : Nat) (H : PH), i + n = M → Fr (fun a => a = k ∨ a = q0 ∨ a = q1 ∨ a = q2) h H → hI H k 7 = b → hI H k 8 = nI M → hI H k 6 = hI h k 6 → (∀ j, j < i → hI H q0 j = t j ∧ hI H q1 j = x j ∧ hI H q2 j = y j) → (∀ j, i ≤ j → j < M → hI H p0 j = t j ∧ hI H p1 j = x j ∧ hI H p2 j = y j) → Tr sc d 53 (18, [some (.ref k), some (.ref k'), some (.int (nI i))], [], H) Q := by
  intro n
  induction n with
  | zero =>
    intro i H hi fr f7 f8 f6 g1 g2
    have e : i = M := by omega
    subst e
    rw [x_53_18]
    simp only [x_53_19, x_53_20, x_53_23, x_53_26, x_53_27, x_53_30, x_53_31, x_53_32, x_53_35, x_53_36, x_53_37, x_53_38, x_53_39, x_53_42, x_53_43, x_53_44, x_53_47, x_53_48, x_53_49, x_53_50, x_53_51, x_53_54, x_53_55, x_53_56, x_53_59, x_53_60, x_53_61, x_53_62, x_53_65, x_53_68, Fr_okp fr, ho, true_and, f8]
    rw [if_pos (Int32.le_refl _)]
    exact hK H ⟨fr, f7, f8, f6, g1⟩
  | succ n ih =>
    intro i H hi fr f7 f8 f6 g1 g2
    have hlt : i < M := by omega
    obtain ⟨v0, v1, v2⟩ := g2 i (Nat.le_refl _) hlt
    have w1 : ∀ v, hI (sI H q0 i v) p1 i = x i := fun v => by rw [rd_ne (Or.inl pn.1)]; exact v1
    have w2 : ∀ v w, hI (sI (sI H q0 i v) q1 i w) p2 i = y i := fun v w => by rw [rd_ne (Or.inl pn.2.2), rd_ne (Or.inl pn.2.1)]; exact v2
    have oO : ∀ a, okp H a 11 = okp h a 11 := fun a => Fr_okp fr a 11
    have iO : ∀ (H' : PH) (a : Nat), okp H' a 11 = true → LN a = 6 → iOk sc H' a (nI i) = True := fun H' a z1 z2 => by rw [iOk_ok z1, z2, inb_nI (i := i) (n := 6) (by omega) (by decide)]; simp
    have iR : ∀ (H' : PH) (a : Nat), okp H' a 11 = true → iRd sc H' a (nI i) = hI H' a i := fun H' a z1 => by rw [iRd_ok z1, nI_clamp (n := i) (by omega)]
    rw [x_53_18]
    simp only [x_53_19, x_53_20, x_53_23, x_53_26, x_53_27, x_53_30, x_53_31, x_53_32, x_53_35, x_53_36, x_53_37, x_53_38, x_53_39, x_53_42, x_53_43, x_53_44, x_53_47, x_53_48, x_53_49, x_53_50, x_53_51, x_53_54, x_53_55, x_53_56, x_53_59, x_53_60, x_53_61, x_53_62, x_53_65, x_53_68, okp_sI, hR_sI, Fr_okp fr, fr.2.1, ho, ho', r0, r1, r2, r0', r1', r2', o0, o1, o2, true_and, f8, Option.some.injEq, exists_eq_left', iO H p0 (by rw [oO]; exact o0') n0', iR H p0 (by rw [oO]; exact o0'), v0, iO (sI H q0 i (t i)) p1 (by rw [okp_sI, oO]; exact o1') n1', iR (sI H q0 i (t i)) p1 (by rw [okp_sI, oO]; exact o1'), w1, iO (sI (sI H q0 i (t i)) q1 i (x i)) p2 (by rw [okp_sI, okp_sI, oO]; exact o2') n2', iR (sI (sI H q0 i (t i)) q1 i (x i)) p2 (by rw [okp_sI, okp_sI, oO]; exact o2'), w2, n0, n1, n2, inb_nI (i := i) (n := 6) (by omega) (by decide), nI_clamp (n := i) (by omega), Bool.and_self, nI_1, cl2_r, cl2_n, cl2_i]
    rw [if_neg (nI_ge hlt (by omega))]
    have rk : ∀ j, hI (sI (sI (sI H q0 i (t i)) q1 i (x i)) q2 i (y i)) k j = hI H k j := fun j => by
      rw [rd_ne (Or.inl kn.2.2), rd_ne (Or.inl kn.2.1), rd_ne (Or.inl kn.1)]
    have rj : ∀ a j, j ≠ i → hI (sI (sI (sI H q0 i (t i)) q1 i (x i)) q2 i (y i)) a j = hI H a j := fun a j z => by
      rw [rd_ne (Or.inr z), rd_ne (Or.inr z), rd_ne (Or.inr z)]
    refine ih (i + 1) _ (by omega) (((fr.tr (Fr_sI (Or.inr (Or.inl rfl)))).tr (Fr_sI (Or.inr (Or.inr (Or.inl rfl))))).tr (Fr_sI (Or.inr (Or.inr (Or.inr rfl))))) (by rw [rk]; exact f7) (by rw [rk]; exact f8) (by rw [rk]; exact f6) (fun j hj => ?_) (fun j hj hjM => ?_)
    · by_cases z : j = i
      · subst z
        refine ⟨?_, ?_, rd_eq⟩
        · rw [rd_ne (Or.inl qn.2.1), rd_ne (Or.inl qn.1), rd_eq]
        · rw [rd_ne (Or.inl qn.2.2), rd_eq]
      · rw [rj _ _ z, rj _ _ z, rj _ _ z]
        exact g1 j (by omega)
    · have z : j ≠ i := by omega
      rw [rj _ _ z, rj _ _ z, rj _ _ z]
      exact g2 j (by omega) hjM
/-- weights' sum -/
def wtS (f : Nat → Int32) : Nat → Int32
  | 0 => 0
  | n + 1 => wtS f n + f n
theorem wtS_congr {f g : Nat → Int32} : ∀ (n : Nat), (∀ j, j < n → f j = g j) → wtS f n = wtS g n
  | 0, _ => rfl
  | n + 1, hh => by
    unfold wtS
    rw [wtS_congr n (fun j hj => hh j (by omega)), hh n (by omega)]
theorem c_weightOf {i q3 : Nat} (ho : okp h k 6 = true) (r3 : hR h k 3 = some q3) (o3 : okp h q3 11 = true) (n3 : LN q3 = 6) (hi : i < 6) : Tr sc d 56 (ent0 56 [.ref k, .int (nI i)] h) Q = Q (some (.int (if hI h k 6 = 3 then hI h q3 i else 1)), h) := by
  rw [e_56]
  simp only [x_56_0, x_56_1, x_56_4, x_56_5, x_56_8, x_56_9, x_56_12, x_56_13, x_56_14, x_56_17, x_56_18, ho, r3, true_and, Option.some.injEq, exists_eq_left', iOk_ok o3, iRd_ok o3, n3, inb_nI (i := i) (n := 6) hi (by decide), nI_clamp (n := i) (by omega)]
  by_cases e : hI h k 6 = 3
  · rw [if_pos e, if_pos e]
  · rw [if_neg e, if_neg e]
theorem c_wt_loop {q3 M : Nat} (ho : okp h k 6 = true) (r3 : hR h k 3 = some q3) (o3 : okp h q3 11 = true) (n3 : LN q3 = 6) (hz : hI h k 8 = nI M) (hM : M ≤ 6) : ∀ (n i : Nat), i + n = M → Tr sc (d + 1) 57 (4, [some (.ref k), some (.int (wtS (fun j => if hI h k 6 = 3 then hI h q3 j else 1) i)), some (.int (nI i))], [], h) Q = Q (some (.int (wtS (fun j => if hI h k 6 = 3 then hI h q3 j else 1) M)), h) := by
  intro n
  induction n with
  | zero =>
    intro i hi
    have e : i = M := by omega
    subst e
    rw [x_57_4]
    simp only [x_57_0, x_57_1, x_57_2, x_57_3, x_57_5, x_57_6, x_57_9, x_57_12, x_57_13, x_57_14, x_57_15, x_57_18, x_57_19, x_57_20, x_57_23, x_57_26, x_57_27, ho, true_and, hz]
    rw [if_pos (Int32.le_refl _)]
  | succ n ih =>
    intro i hi
    have hlt : i < M := by omega
    rw [x_57_4]
    simp only [x_57_0, x_57_1, x_57_2, x_57_3, x_57_5, x_57_6, x_57_9, x_57_12, x_57_13, x_57_14, x_57_15, x_57_18, x_57_19, x_57_20, x_57_23, x_57_26, x_57_27, ho, true_and, hz, c_weightOf ho r3 o3 n3 (show i < 6 by omega), tl_s, nI_1, cl2_r, cl2_n, cl2_i]
    rw [if_neg (nI_ge hlt (by omega))]
    exact ih (i + 1) (by omega)
theorem c_weightOfAll {q3 M : Nat} (ho : okp h k 6 = true) (r3 : hR h k 3 = some q3) (o3 : okp h q3 11 = true) (n3 : LN q3 = 6) (hz : hI h k 8 = nI M) (hM : M ≤ 6) : Tr sc (d + 1) 57 (ent0 57 [.ref k] h) Q = Q (some (.int (wtS (fun j => if hI h k 6 = 3 then hI h q3 j else 1) M)), h) := by
  rw [e_57]
  simp only [x_57_0, x_57_1, x_57_2, x_57_3, cl2_r, cl2_n, cl2_i]
  exact c_wt_loop ho r3 o3 n3 hz hM M 0 (by omega)
theorem m_wt_loop {M : Nat} (hw : WF h) (hs : s < 8) (hz : hI h 134 s = nI M) (hM : M ≤ 6) : ∀ (n i : Nat), i + n = M → Tr sc d 185 (4, [some (.ref 124), some (.int (nI s)), some (.int (wtS (fun j => if hI h 132 s = 3 then hI h 138 (6 * s + j) else 1) i)), some (.int (nI i))], [], h) Q = Q (some (.int (wtS (fun j => if hI h 132 s = 3 then hI h 138 (6 * s + j) else 1) M)), h) := by
  intro n
  induction n with
  | zero =>
    intro i hi
    have e : i = M := by omega
    subst e
    rw [x_185_4]
    simp only [x_185_0, x_185_1, x_185_2, x_185_3, x_185_5, x_185_6, x_185_9, x_185_10, x_185_11, x_185_14, x_185_15, x_185_16, x_185_19, x_185_20, x_185_21, x_185_22, x_185_25, x_185_26, x_185_29, x_185_31, x_185_32, x_185_33, x_185_34, x_185_35, x_185_36, x_185_39, x_185_40, x_185_41, x_185_42, x_185_45, x_185_48, x_185_49, o_124 hw, w_124_18 hw, iOk_ok (o_134 hw), iRd_ok (o_134 hw), inb_nI (n := LN 134) hs (by decide), nI_clamp (n := s) (by omega), true_and, hz, Option.some.injEq, exists_eq_left']
    rw [if_pos (Int32.le_refl _)]
  | succ n ih =>
    intro i hi
    have hlt : i < M := by omega
    have g3 : 6 * s + i < 48 := by omega
    rw [x_185_4]
    simp only [x_185_0, x_185_1, x_185_2, x_185_3, x_185_5, x_185_6, x_185_9, x_185_10, x_185_11, x_185_14, x_185_15, x_185_16, x_185_19, x_185_20, x_185_21, x_185_22, x_185_25, x_185_26, x_185_29, x_185_31, x_185_32, x_185_33, x_185_34, x_185_35, x_185_36, x_185_39, x_185_40, x_185_41, x_185_42, x_185_45, x_185_48, x_185_49, o_124 hw, w_124_16 hw, w_124_18 hw, w_124_22 hw, iOk_ok (o_132 hw), iRd_ok (o_132 hw), iOk_ok (o_134 hw), iRd_ok (o_134 hw), iOk_ok (o_138 hw), iRd_ok (o_138 hw), inb_nI (n := LN 132) hs (by decide), inb_nI (n := LN 134) hs (by decide), inb_nI (n := LN 138) g3 (by decide), nI_clamp (n := s) (by omega), nI_clamp (n := 6 * s + i) (by omega), mv_ix hs (show i < 6 by omega), true_and, hz, Option.some.injEq, exists_eq_left', nI_1, cl2_i, cl2_r, cl2_n]
    rw [if_neg (nI_ge hlt (by omega))]
    have st := ih (i + 1) (by omega)
    have ex : ∀ f : Nat → Int32, wtS f (i + 1) = wtS f i + f i := fun _ => rfl
    rw [ex] at st
    by_cases e : hI h 132 s = 3
    · rw [if_pos e]
      rw [if_pos e] at st
      exact st
    · rw [if_neg e]
      rw [if_neg e] at st
      exact st
theorem m_weightOf {M : Nat} (hw : WF h) (hs : s < 8) (hz : hI h 134 s = nI M) (hM : M ≤ 6) : Tr sc d 185 (ent0 185 [.ref 124, .int (nI s)] h) Q = Q (some (.int (wtS (fun j => if hI h 132 s = 3 then hI h 138 (6 * s + j) else 1) M)), h) := by
  rw [e_185]
  simp only [x_185_0, x_185_1, x_185_2, x_185_3, cl2_r, cl2_n, cl2_i]
  exact m_wt_loop hw hs hz hM M 0 (by omega)
end TM
