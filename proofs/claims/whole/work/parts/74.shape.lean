/-! ===== fault and shape: class and model alike ===== -/
section SP
variable {sc : Nat × (Nat → Int32)} {d : Nat} {Q : PRes → Prop} {h h' h1 h2 H : PH} {k s r b M R i j v p n t op : Nat} {kd x y z w : Int32} {ms : Mv3} {ch tx : Nat → Int32}
theorem cm_src {q : Nat} (c : CM h) : CM (sR h 11 0 (some q)) := ⟨c.1.src, c.2.1, c.2.2.1, c.2.2.2.1, c.2.2.2.2⟩
def Pu (s a b : Nat) : Prop := Sc a b ∨ (68 + 7 * s ≤ a ∧ a < 72 + 7 * s) ∨ ((132 ≤ a ∧ a ≤ 134) ∧ b = s) ∨ ((135 ≤ a ∧ a ≤ 138) ∧ 6 * s ≤ b ∧ b < 6 * s + 6)
theorem kdN_c : (kdN b ms = 0 ∨ kdN b ms = 1 ∨ kdN b ms = 2) ∧ (kdN b ms = 1 ∨ kdN b ms = 2 → ∀ i, i < ms.length → gtT ms i = 0) := by
  unfold kdN
  by_cases q : ∀ i, i < ms.length → gtT ms i = 0
  · rw [if_pos q]
    refine ⟨?_, fun _ => q⟩
    split
    · exact Or.inr (Or.inl rfl)
    · exact Or.inr (Or.inr rfl)
  · rw [if_neg q]
    exact ⟨Or.inl rfl, fun z => by rcases z with z | z <;> exact absurd z (by decide)⟩
theorem cm_take (c : CM h) (hs : s < 8) (f : Fq (Pu s) h H) (g : MvG ms) (hb : 2 ≤ b ∧ b ≤ 4) (c1 : hI H (68 + 7 * s) 6 = kdN b ms) (c2 : hI H (68 + 7 * s) 7 = nI b) (c3 : hI H (68 + 7 * s) 8 = nI ms.length) (c4 : ∀ i, i < ms.length → hI H (69 + 7 * s) i = nI (gtT ms i) ∧ hI H (70 + 7 * s) i = iv (gtX ms i) ∧ hI H (71 + 7 * s) i = iv (gtY ms i)) (m1 : hI H 132 s = kdN b ms) (m2 : hI H 133 s = nI b) (m3 : hI H 134 s = nI ms.length) (m4 : ∀ i, i < ms.length → hI H 135 (6 * s + i) = nI (gtT ms i) ∧ hI H 136 (6 * s + i) = iv (gtX ms i) ∧ hI H 137 (6 * s + i) = iv (gtY ms i)) : CM H := by
  have kI : ∀ a b, ¬ Pu s a b → hI H a b = hI h a b := fun a b q => f.i q
  obtain ⟨hw, hf, hr, ht, hsh⟩ := c
  refine ⟨f.WF hw, ?_, ?_, ?_, ?_⟩
  · obtain ⟨f1, f2, f3, f4, f5, f6⟩ := hf
    refine ⟨by rw [kI 0 14 (by unfold Pu Sc; omega), kI 124 0 (by unfold Pu Sc; omega)]; exact f1, fun e he => by rw [kI 47 e (by unfold Pu Sc; omega), kI 125 e (by unfold Pu Sc; omega)]; exact f2 e he, by rw [kI 0 15 (by unfold Pu Sc; omega), kI 124 2 (by unfold Pu Sc; omega)]; exact f3, by rw [f.l (by unfold Pu Sc; omega), f.l (a := 124) (by unfold Pu Sc; omega)]; exact f4, by rw [f.l (by unfold Pu Sc; omega), f.l (a := 124) (by unfold Pu Sc; omega)]; exact f5, by rw [f.l (by unfold Pu Sc; omega), f.l (a := 124) (by unfold Pu Sc; omega)]; exact f6⟩
  · intro r hr'
    obtain ⟨c1, c2⟩ := hr r hr'
    rw [kI (48 + 2 * r) 1 (by unfold Pu Sc; omega), kI 126 r (by unfold Pu Sc; omega)]
    refine ⟨c1, fun j hj => ?_⟩
    rw [kI 127 _ (by unfold Pu Sc; omega), kI (49 + 2 * r) j (by unfold Pu Sc; omega)]
    exact c2 j hj
  · intro r hr'
    obtain ⟨c1, c2⟩ := ht r hr'
    rw [kI (60 + 2 * r) 1 (by unfold Pu Sc; omega), kI 129 r (by unfold Pu Sc; omega)]
    refine ⟨c1, fun j hj => ?_⟩
    rw [kI 130 _ (by unfold Pu Sc; omega), kI (61 + 2 * r) j (by unfold Pu Sc; omega)]
    exact c2 j hj
  · intro s' hs'
    by_cases e : s' = s
    · subst e
      refine Or.inr ⟨⟨?_, ?_, ?_, fun i h1 h2 => ?_⟩, by rw [m1, c1], by rw [m2, c2], by rw [m3, c3], fun i h1 h2 => ?_⟩
      · rw [c1]
        rcases (kdN_c (b := b) (ms := ms)).1 with q | q | q <;> rw [q] <;> decide
      · rw [c2]; exact ⟨nI_le (a := 2) (by omega) (by omega), nI_le (b := 4) (by omega) (by decide)⟩
      · rw [c3]; exact ⟨nI_le (a := 1) g.1.1 (by have := g.1.2; omega), nI_le (b := 6) g.1.2 (by decide)⟩
      · rw [c3] at h1
        have hi : i < ms.length := nI_lt' (by omega) (by have := g.1.2; omega) h1
        obtain ⟨e1, e2, e3⟩ := c4 i hi
        obtain ⟨t7, -, x9, y9⟩ := g.2 i hi
        rw [c1, e1, e2, e3]
        have m9 : (-9 : Int32) = iv (-9) := rfl
        have p9 : (9 : Int32) = iv 9 := rfl
        refine ⟨⟨nI_pos' (by omega), nI_le (b := 7) t7 (by decide)⟩, ⟨?_, ?_⟩, ⟨?_, ?_⟩, fun z => ?_, fun z => ?_, fun z => ?_⟩
        · rw [m9, iv_le ⟨by decide, by decide⟩ ⟨by omega, by omega⟩]; exact x9.1
        · rw [p9, iv_le ⟨by omega, by omega⟩ ⟨by decide, by decide⟩]; exact x9.2
        · rw [m9, iv_le ⟨by decide, by decide⟩ ⟨by omega, by omega⟩]; exact y9.1
        · rw [p9, iv_le ⟨by omega, by omega⟩ ⟨by decide, by decide⟩]; exact y9.2
        · rw [kdN_c.2 z i hi]; rfl
        · rcases (kdN_c (b := b) (ms := ms)).1 with q | q | q <;> rw [q] at z <;> exact absurd z (by decide)
        · rcases (kdN_c (b := b) (ms := ms)).1 with q | q | q <;> rw [q] at z <;> exact absurd z (by decide)
      · rw [c3] at h2
        have hi : i < ms.length := nI_lt' (by omega) (by have := g.1.2; omega) h2
        obtain ⟨e1, e2, e3⟩ := c4 i hi
        obtain ⟨n1, n2, n3⟩ := m4 i hi
        refine ⟨by rw [e1, n1], by rw [e2, n2], by rw [e3, n3], fun z => ?_⟩
        rw [c1] at z
        rcases (kdN_c (b := b) (ms := ms)).1 with q | q | q <;> rw [q] at z <;> rcases z with z | z <;> exact absurd z (by decide)
    · have kf : ∀ a, (∀ b, ¬ Pu s a b) → hI H a = hI h a := fun a ha => funext (fun b => kI a b (ha b))
      have c1 := hsh s' hs'
      rw [kf (68 + 7 * s') (by unfold Pu Sc; omega), kf (69 + 7 * s') (by unfold Pu Sc; omega), kf (70 + 7 * s') (by unfold Pu Sc; omega), kf (71 + 7 * s') (by unfold Pu Sc; omega), kf (72 + 7 * s') (by unfold Pu Sc; omega), kI 132 s' (by unfold Pu Sc; omega), kI 133 s' (by unfold Pu Sc; omega), kI 134 s' (by unfold Pu Sc; omega)]
      rcases c1 with z | ⟨z1, z2, z3, z4, z5⟩
      · exact Or.inl z
      · refine Or.inr ⟨z1, z2, z3, z4, fun i h1 h2 => ?_⟩
        rw [kI 135 _ (by unfold Pu Sc; omega), kI 136 _ (by unfold Pu Sc; omega), kI 137 _ (by unfold Pu Sc; omega), kI 138 _ (by unfold Pu Sc; omega)]
        exact z5 i h1 h2
/-- a text that is there, in both -/
theorem tx_at (c : CM h) (ht : t < 4) (hn : ¬ hI h (60 + 2 * t) 1 < 0) : ∃ n, TxC (sR h 11 0 (some (60 + 2 * t))) (60 + 2 * t) (61 + 2 * t) n (hI h (61 + 2 * t)) ∧ TxM h t n (hI h (61 + 2 * t)) := by
  obtain ⟨hw, hf, hr, htx, hs⟩ := c
  obtain ⟨c1, c2⟩ := htx t ht
  obtain ⟨v1, v2, v3, v4, v5⟩ := hw.text ht
  rcases c1 with ⟨a, -⟩ | ⟨a1, a2, a3⟩
  · exact absurd (by rw [a]; decide) hn
  · obtain ⟨n, hn60, e⟩ := nI_of2 (x := hI h (60 + 2 * t) 1) (M := 60) (n := 60) rfl (Int32.not_lt.mpr a1) a2
    have e1 : ∀ a b, a ≠ 11 → hR (sR h 11 0 (some (60 + 2 * t))) a b = hR h a b := fun a b q => by rw [hR_sR, if_neg q]
    refine ⟨n, ⟨v3, by rw [e1 _ _ (by omega)]; exact v2, v4, v5, e, hn60, fun _ => rfl, by rw [hR_sR, if_pos rfl, if_pos rfl], by omega, by omega⟩, by rw [a3]; exact e, hn60, ht, fun p hp => c2 p hp⟩
theorem Pr_Sc {a b : Nat} (q : Pr a b) : Sc a b := by unfold Pr at q; unfold Sc; omega
theorem Pz_Sc {a b : Nat} (q : Pz a b) : Sc a b := by unfold Pz at q; unfold Sc; omega
theorem both_fault (hc : CM h) : Both sc 104 175 [.int x] h := by
  unfold Both
  obtain ⟨hw, hf, hr, ht, hs⟩ := id hc
  by_cases e0 : 0 ≤ x ∧ x < 4
  · obtain ⟨t, htn, rfl⟩ := ir_of (n := 4) (by decide) e0
    obtain ⟨v1, v2, v3, v4, v5⟩ := hw.text htn
    rw [e_104]
    simp only [x_104_0, x_104_1, x_104_4, x_104_7, x_104_8, x_104_9, x_104_10, x_104_13, x_104_14, x_104_15, x_104_18, x_104_21, x_104_22, x_104_23, x_104_26, o_0 hw, w_0_1 hw, o_2 hw, show LN 2 = 4 from rfl, cl2_i, cl2_r, cl2_n, cl2_l, tl_s, tl_n, true_and, and_true, Option.some.injEq, exists_eq_left', Bool.and_self, Bool.true_and, Bool.and_true, Bool.or_true, Bool.true_or, i_10, i_00, if_true, if_false, not_true_eq_false, not_false_eq_true, and_false, false_and, okp_sI, okp_sL, okp_aI, okp_aL, hR_sI, hR_sL, hR_aI, hR_aL, c_isText, isText_t htn, inb_nI (n := 4) htn (by decide), nI_clamp (n := t) (by omega), v1, v3, c_isMiss v3, bI_0, c_refuse_1 hw]
    by_cases e1 : hI h (60 + 2 * t) 1 < 0
    · rw [if_neg (fun q => q e1)]
      have hw1 := WF_refu (f := 1) hw
      rw [e_175]
      simp only [x_175_0, x_175_1, x_175_2, o_124 hw1, cl2_i, cl2_r, cl2_n, cl2_l, tl_s, tl_n, true_and, and_true, Option.some.injEq, exists_eq_left', Bool.and_self, Bool.true_and, Bool.and_true, Bool.or_true, Bool.true_or, i_10, i_00, if_true, if_false, not_true_eq_false, not_false_eq_true, and_false, false_and, okp_sI, okp_sL, okp_aI, okp_aL, hR_sI, hR_sL, hR_aI, hR_aL, m_askedText hw1 htn]
      rw [if_neg (show ¬ 0 ≤ hI (refu h 1) 129 t by rw [refu_I (by decide) (by decide), ← tz_neg ht htn]; exact e1)]
      simp only [x_175_5, x_175_6, x_175_7, x_175_10, x_175_11, x_175_14, x_175_15, x_175_16, x_175_19, cl2_i, cl2_r, cl2_n, cl2_l, tl_s, tl_n, true_and, and_true, Option.some.injEq, exists_eq_left', Bool.and_self, Bool.true_and, Bool.and_true, Bool.or_true, Bool.true_or, i_10, i_00, if_true, if_false, not_true_eq_false, not_false_eq_true, and_false, false_and, okp_sI, okp_sL, okp_aI, okp_aL, hR_sI, hR_sL, hR_aI, hR_aL, i_m3]
      first | exact cm_ref (by decide) hc | exact ⟨rfl, cm_ref (by decide) hc⟩ | exact ⟨⟨_, rfl, rfl⟩, cm_ref (by decide) hc⟩
    · rw [if_pos e1]
      obtain ⟨n, T, TM⟩ := tx_at hc htn e1
      simp only [x_104_27, x_104_28, x_104_31, x_104_32, x_104_35, x_104_36, x_104_37, x_104_38, x_104_41, o_0 hw, w_0_1 hw, w_0_3 hw, w_0_4 hw, o_11 hw, o_2 hw, show LN 2 = 4 from rfl, o_4 hw, cl2_i, cl2_r, cl2_n, cl2_l, tl_s, tl_n, true_and, and_true, Option.some.injEq, exists_eq_left', Bool.and_self, Bool.true_and, Bool.and_true, Bool.or_true, Bool.true_or, i_10, i_00, if_true, if_false, not_true_eq_false, not_false_eq_true, and_false, false_and, okp_sI, okp_sL, okp_aI, okp_aL, hR_sI, hR_sL, hR_aI, hR_aL, inb_nI (n := 4) htn (by decide), nI_clamp (n := t) (by omega), v1, o_11 hw, w_0_4 hw]
      refine c_read (d := 14) hw T (fun H f D => ?_)
      have hwH := f.WF hw.src
      have fS : Fq Sc (sR h 11 0 (some (60 + 2 * t))) H := f.wk (fun _ _ => Pr_Sc)
      simp only [x_104_44, cl2_i, cl2_r, cl2_n, cl2_l, tl_s, tl_n, true_and, and_true, Option.some.injEq, exists_eq_left', Bool.and_self, Bool.true_and, Bool.and_true, Bool.or_true, Bool.true_or, i_10, i_00, if_true, if_false, not_true_eq_false, not_false_eq_true, and_false, false_and, okp_sI, okp_sL, okp_aI, okp_aL, hR_sI, hR_sL, hR_aI, hR_aL]
      have TM' : TxM H t n (hI h (61 + 2 * t)) := ⟨by rw [fS.i (by unfold Sc; omega)]; exact TM.1, TM.2.1, TM.2.2.1, fun p hp => by rw [fS.i (by unfold Sc; omega)]; exact TM.2.2.2 p hp⟩
      rw [e_175]
      simp only [x_175_0, x_175_1, x_175_2, o_124 hwH, cl2_i, cl2_r, cl2_n, cl2_l, tl_s, tl_n, true_and, and_true, Option.some.injEq, exists_eq_left', Bool.and_self, Bool.true_and, Bool.and_true, Bool.or_true, Bool.true_or, i_10, i_00, if_true, if_false, not_true_eq_false, not_false_eq_true, and_false, false_and, okp_sI, okp_sL, okp_aI, okp_aL, hR_sI, hR_sL, hR_aI, hR_aL, m_askedText hwH htn]
      rw [if_pos (show 0 ≤ hI H 129 t by rw [TM'.1]; exact nI_pos' (by have := TM.2.1; omega))]
      simp only [x_175_5, x_175_6, x_175_7, x_175_10, x_175_11, x_175_14, x_175_15, x_175_16, o_124 hwH, cl2_i, cl2_r, cl2_n, cl2_l, tl_s, tl_n, true_and, and_true, Option.some.injEq, exists_eq_left', Bool.and_self, Bool.true_and, Bool.and_true, Bool.or_true, Bool.true_or, i_10, i_00, if_true, if_false, not_true_eq_false, not_false_eq_true, and_false, false_and, okp_sI, okp_sL, okp_aI, okp_aL, hR_sI, hR_sL, hR_aI, hR_aL, i_0]
      refine m_reads (d := 16) hwH TM' (fun H2 f2 D2 => ?_)
      simp only [x_175_19, cl2_i, cl2_r, cl2_n, cl2_l, tl_s, tl_n, true_and, and_true, Option.some.injEq, exists_eq_left', Bool.and_self, Bool.true_and, Bool.and_true, Bool.or_true, Bool.true_or, i_10, i_00, if_true, if_false, not_true_eq_false, not_false_eq_true, and_false, false_and, okp_sI, okp_sL, okp_aI, okp_aL, hR_sI, hR_sL, hR_aI, hR_aL]
      first | exact cm_e0 (cm_src hc) (fS.tr (f2.wk (fun _ _ => Pz_Sc))) | exact ⟨rfl, cm_e0 (cm_src hc) (fS.tr (f2.wk (fun _ _ => Pz_Sc)))⟩ | exact ⟨⟨_, rfl, rfl⟩, cm_e0 (cm_src hc) (fS.tr (f2.wk (fun _ _ => Pz_Sc)))⟩
  · rw [e_104]
    simp only [x_104_0, x_104_1, x_104_4, x_104_7, x_104_8, cl2_i, cl2_r, cl2_n, cl2_l, tl_s, tl_n, true_and, and_true, Option.some.injEq, exists_eq_left', Bool.and_self, Bool.true_and, Bool.and_true, Bool.or_true, Bool.true_or, i_10, i_00, if_true, if_false, not_true_eq_false, not_false_eq_true, and_false, false_and, okp_sI, okp_sL, okp_aI, okp_aL, hR_sI, hR_sL, hR_aI, hR_aL, c_isText, bI_f e0]
    rw [e_175]
    simp only [x_175_0, x_175_1, x_175_2, x_175_5, x_175_6, x_175_7, x_175_10, x_175_11, x_175_14, x_175_15, x_175_16, x_175_19, o_124 hw, cl2_i, cl2_r, cl2_n, cl2_l, tl_s, tl_n, true_and, and_true, Option.some.injEq, exists_eq_left', Bool.and_self, Bool.true_and, Bool.and_true, Bool.or_true, Bool.true_or, i_10, i_00, if_true, if_false, not_true_eq_false, not_false_eq_true, and_false, false_and, okp_sI, okp_sL, okp_aI, okp_aL, hR_sI, hR_sL, hR_aI, hR_aL, m_askedText_bad e0, i_m1]
    first | exact hc | exact ⟨rfl, hc⟩ | exact ⟨⟨_, rfl, rfl⟩, hc⟩
theorem both_shape (hc : CM h) : Both sc 105 181 [.int x, .int y] h := by
  unfold Both
  obtain ⟨hw, hf, hr, ht, hs⟩ := id hc
  have bad : ¬ ((0 ≤ x ∧ x < 8) ∧ (0 ≤ y ∧ y < 4)) → Tr sc 19 105 (ent0 105 [.ref 0, .int x, .int y] h) (fun r1 => Tr sc 19 181 (ent0 181 [.ref 124, .int x, .int y] r1.2) (fun r2 => (∃ v, r1.1 = some v ∧ r2.1 = some v) ∧ CM r2.2)) := by
    intro q
    have k3 : (0 ≤ y ∧ y ≤ 3) = (0 ≤ y ∧ y < 4) := propext (by
      have c3 : (3 : Int32).toInt = 3 := rfl
      have c4 : (4 : Int32).toInt = 4 := rfl
      rw [i_tre (a := y), i_tri (a := y), c3, c4]
      exact ⟨fun q => ⟨q.1, by omega⟩, fun q => ⟨q.1, by omega⟩⟩)
    have mod : Tr sc 19 181 (ent0 181 [.ref 124, .int x, .int y] h) (fun r2 => r2.1 = some (.int (-1)) ∧ CM r2.2) := by
      rw [e_181]
      simp only [x_181_0, x_181_1, x_181_4, x_181_7, x_181_8, x_181_11, x_181_14, x_181_15, o_124 hw, cl2_i, cl2_r, cl2_n, cl2_l, tl_s, tl_n, true_and, and_true, Option.some.injEq, exists_eq_left', Bool.and_self, Bool.true_and, Bool.and_true, Bool.or_true, Bool.true_or, i_10, i_00, if_true, if_false, not_true_eq_false, not_false_eq_true, and_false, false_and, okp_sI, okp_sL, okp_aI, okp_aL, hR_sI, hR_sL, hR_aI, hR_aL, m_isShape, m_isText, bI_0, k7, k3]
      by_cases q1 : 0 ≤ x ∧ x < 8
      · rw [if_neg (fun z => z q1), if_pos (fun z => q ⟨q1, z⟩)]
        first | exact hc | exact ⟨rfl, hc⟩ | exact ⟨⟨_, rfl, rfl⟩, hc⟩
      · rw [if_pos q1]
        first | exact hc | exact ⟨rfl, hc⟩ | exact ⟨⟨_, rfl, rfl⟩, hc⟩
    rw [e_105]
    simp only [x_105_0, x_105_1, x_105_4, x_105_7, x_105_8, x_105_11, x_105_14, x_105_15, o_0 hw, cl2_i, cl2_r, cl2_n, cl2_l, tl_s, tl_n, true_and, and_true, Option.some.injEq, exists_eq_left', Bool.and_self, Bool.true_and, Bool.and_true, Bool.or_true, Bool.true_or, i_10, i_00, if_true, if_false, not_true_eq_false, not_false_eq_true, and_false, false_and, okp_sI, okp_sL, okp_aI, okp_aL, hR_sI, hR_sL, hR_aI, hR_aL, c_isShape, c_isText, bI_0]
    by_cases q1 : 0 ≤ x ∧ x < 8
    · rw [if_neg (fun z => z q1), if_pos (fun z => q ⟨q1, z⟩)]
      exact mod
    · rw [if_pos q1]
      exact mod
  by_cases e0 : (0 ≤ x ∧ x < 8) ∧ (0 ≤ y ∧ y < 4)
  · obtain ⟨s, hsn, rfl⟩ := ir_of (n := 8) (by decide) e0.1
    obtain ⟨t, htn, rfl⟩ := ir_of (n := 4) (by decide) e0.2
    obtain ⟨v1, v2, v3, v4, v5⟩ := hw.text htn
    have b3 : bI (0 ≤ nI t ∧ nI t ≤ 3) = 1 := bI_t ⟨nI_pos' (by omega), nI_le (a := t) (b := 3) (by omega) (by decide)⟩
    rw [e_105]
    simp only [x_105_0, x_105_1, x_105_4, x_105_7, x_105_8, x_105_11, x_105_14, x_105_15, x_105_16, x_105_17, x_105_20, x_105_21, x_105_22, x_105_25, x_105_28, x_105_29, x_105_30, x_105_33, o_0 hw, w_0_1 hw, o_2 hw, show LN 2 = 4 from rfl, cl2_i, cl2_r, cl2_n, cl2_l, tl_s, tl_n, true_and, and_true, Option.some.injEq, exists_eq_left', Bool.and_self, Bool.true_and, Bool.and_true, Bool.or_true, Bool.true_or, i_10, i_00, if_true, if_false, not_true_eq_false, not_false_eq_true, and_false, false_and, okp_sI, okp_sL, okp_aI, okp_aL, hR_sI, hR_sL, hR_aI, hR_aL, c_isShape, c_isText, isShape_t hsn, isText_t htn, inb_nI (n := 4) htn (by decide), nI_clamp (n := t) (by omega), v1, v3, c_isMiss v3, bI_0, c_refuse_1 hw]
    by_cases e1 : hI h (60 + 2 * t) 1 < 0
    · rw [if_neg (fun q => q e1)]
      have hw1 := WF_refu (f := 1) hw
      rw [e_181]
      simp only [x_181_0, x_181_1, x_181_4, x_181_7, x_181_8, x_181_11, x_181_14, x_181_15, x_181_16, x_181_17, x_181_20, x_181_21, x_181_22, x_181_25, x_181_26, x_181_27, x_181_30, o_124 hw1, w_124_9 hw1, o_129 hw1, iOk_lt (k := 129) (by decide), iRd_lt (k := 129) (by decide), show LN 129 = 4 from rfl, cl2_i, cl2_r, cl2_n, cl2_l, tl_s, tl_n, true_and, and_true, Option.some.injEq, exists_eq_left', Bool.and_self, Bool.true_and, Bool.and_true, Bool.or_true, Bool.true_or, i_10, i_00, if_true, if_false, not_true_eq_false, not_false_eq_true, and_false, false_and, okp_sI, okp_sL, okp_aI, okp_aL, hR_sI, hR_sL, hR_aI, hR_aL, m_isShape, m_isText, bI_k7 hsn, b3, inb_nI (n := 4) htn (by decide), nI_clamp (n := t) (by omega), m_meets_1 hw1]
      rw [if_neg (show ¬ 0 ≤ hI (refu h 1) 129 t by rw [refu_I (by decide) (by decide), ← tz_neg ht htn]; exact e1)]
      first | exact cm_ref (by decide) hc | exact ⟨rfl, cm_ref (by decide) hc⟩ | exact ⟨⟨_, rfl, rfl⟩, cm_ref (by decide) hc⟩
    · rw [if_pos e1]
      obtain ⟨n, T, TM⟩ := tx_at hc htn e1
      simp only [x_105_34, x_105_35, x_105_38, x_105_39, x_105_42, x_105_43, x_105_44, x_105_45, x_105_48, o_0 hw, w_0_1 hw, w_0_3 hw, w_0_4 hw, o_11 hw, o_2 hw, show LN 2 = 4 from rfl, o_4 hw, cl2_i, cl2_r, cl2_n, cl2_l, tl_s, tl_n, true_and, and_true, Option.some.injEq, exists_eq_left', Bool.and_self, Bool.true_and, Bool.and_true, Bool.or_true, Bool.true_or, i_10, i_00, if_true, if_false, not_true_eq_false, not_false_eq_true, and_false, false_and, okp_sI, okp_sL, okp_aI, okp_aL, hR_sI, hR_sL, hR_aI, hR_aL, inb_nI (n := 4) htn (by decide), nI_clamp (n := t) (by omega), v1, o_11 hw, w_0_4 hw]
      refine c_read (d := 14) hw T (fun H f D => ?_)
      have hwH := f.WF hw.src
      have fS : Fq Sc (sR h 11 0 (some (60 + 2 * t))) H := f.wk (fun _ _ => Pr_Sc)
      have c0 := cm_src (q := 60 + 2 * t) hc
      have hn60 := TM.2.1
      simp only [x_105_51, x_105_53, x_105_56, x_105_58, x_105_59, x_105_60, x_105_61, o_0 hwH, cl2_i, cl2_r, cl2_n, cl2_l, tl_s, tl_n, true_and, and_true, Option.some.injEq, exists_eq_left', Bool.and_self, Bool.true_and, Bool.and_true, Bool.or_true, Bool.true_or, i_10, i_00, if_true, if_false, not_true_eq_false, not_false_eq_true, and_false, false_and, okp_sI, okp_sL, okp_aI, okp_aL, hR_sI, hR_sL, hR_aI, hR_aL]
      generalize hcode : rdA (chF (hI h (61 + 2 * t)) n) n = rd at *
      have mod0 : ∀ (H1 : PH) (K : PRes → Prop), WF H1 → Fq (Pu s) (sR h 11 0 (some (60 + 2 * t))) H1 → (∀ H2, Fq Pz H1 H2 → (rd.1 = -9 → DM H2 (chF (hI h (61 + 2 * t)) n 0 - 48) rd.2) → Tr sc 19 181 (36, [some (.ref 124), some (.int (nI s)), some (.int (nI t))], [.int rd.1], H2) K) → Tr sc 19 181 (ent0 181 [.ref 124, .int (nI s), .int (nI t)] H1) K := by
        intro H1 K hw1 f1 hK
        have TM' : TxM H1 t n (hI h (61 + 2 * t)) := ⟨by rw [f1.i (by unfold Pu Sc; omega)]; exact TM.1, TM.2.1, TM.2.2.1, fun p hp => by rw [f1.i (by unfold Pu Sc; omega)]; exact TM.2.2.2 p hp⟩
        rw [e_181]
        simp only [x_181_0, x_181_1, x_181_4, x_181_7, x_181_8, x_181_11, x_181_14, x_181_15, x_181_16, x_181_17, x_181_20, x_181_21, x_181_22, x_181_25, x_181_26, x_181_27, x_181_30, x_181_31, x_181_32, x_181_33, o_124 hw1, w_124_9 hw1, o_129 hw1, iOk_lt (k := 129) (by decide), iRd_lt (k := 129) (by decide), show LN 129 = 4 from rfl, cl2_i, cl2_r, cl2_n, cl2_l, tl_s, tl_n, true_and, and_true, Option.some.injEq, exists_eq_left', Bool.and_self, Bool.true_and, Bool.and_true, Bool.or_true, Bool.true_or, i_10, i_00, if_true, if_false, not_true_eq_false, not_false_eq_true, and_false, false_and, okp_sI, okp_sL, okp_aI, okp_aL, hR_sI, hR_sL, hR_aI, hR_aL, m_isShape, m_isText, bI_k7 hsn, b3, inb_nI (n := 4) htn (by decide), nI_clamp (n := t) (by omega), m_meets_1 hw1, TM'.1]
        rw [if_pos (nI_pos' (by omega))]
        refine m_reads (d := 16) hw1 TM' (fun H2 f2 D2 => ?_)
        rw [hcode] at D2 ⊢
        exact hK H2 f2 D2
      by_cases q : rd.1 = -9
      · rw [if_pos q]
        have mb := mvP_b (ch := chF (hI h (61 + 2 * t)) n) (p := 1)
        obtain ⟨g, b, hb, eb⟩ := rdA_g (ch := chF (hI h (61 + 2 * t)) n) (n := n) (by rw [hcode]; exact q) (by omega)
        rw [hcode] at g
        have D' := D q
        rw [eb] at D'
        refine c_keep (d := 13) hwH hsn D' g hb (fun H1 f1 c1 c2 c3 c4 => ?_)
        have hw1 := f1.WF hwH
        have f1u : Fq (Pu s) (sR h 11 0 (some (60 + 2 * t))) H1 := (fS.wk (fun a b q => Or.inl q)).tr (f1.wk (fun a b q => show Pu s a b by unfold Pk Pg Pv Po at q; unfold Pu Sc; omega))
        simp only [x_105_64, cl2_i, cl2_r, cl2_n, cl2_l, tl_s, tl_n, true_and, and_true, Option.some.injEq, exists_eq_left', Bool.and_self, Bool.true_and, Bool.and_true, Bool.or_true, Bool.true_or, i_10, i_00, if_true, if_false, not_true_eq_false, not_false_eq_true, and_false, false_and, okp_sI, okp_sL, okp_aI, okp_aL, hR_sI, hR_sL, hR_aI, hR_aL]
        refine mod0 H1 _ hw1 f1u (fun H2 f2 D2 => ?_)
        have hw2 := f2.WF hw1
        have D2' := D2 q
        rw [eb] at D2'
        simp only [x_181_36, x_181_38, x_181_41, x_181_43, x_181_46, x_181_47, x_181_48, o_124 hw2, cl2_i, cl2_r, cl2_n, cl2_l, tl_s, tl_n, true_and, and_true, Option.some.injEq, exists_eq_left', Bool.and_self, Bool.true_and, Bool.and_true, Bool.or_true, Bool.true_or, i_10, i_00, if_true, if_false, not_true_eq_false, not_false_eq_true, and_false, false_and, okp_sI, okp_sL, okp_aI, okp_aL, hR_sI, hR_sL, hR_aI, hR_aL, q]
        refine m_take (d := 13) hw2 hsn D2' g hb (fun H3 I m1 => ?_)
        simp only [x_181_51, cl2_i, cl2_r, cl2_n, cl2_l, tl_s, tl_n, true_and, and_true, Option.some.injEq, exists_eq_left', Bool.and_self, Bool.true_and, Bool.and_true, Bool.or_true, Bool.true_or, i_10, i_00, if_true, if_false, not_true_eq_false, not_false_eq_true, and_false, false_and, okp_sI, okp_sL, okp_aI, okp_aL, hR_sI, hR_sL, hR_aI, hR_aL]
        obtain ⟨f3, m2, m3, m4⟩ := I
        have f3u : Fq (Pu s) (sR h 11 0 (some (60 + 2 * t))) H3 := f1u.tr ((f2.wk (fun a b q => Or.inl (Pz_Sc q))).tr (f3.wk (fun a b q => show Pu s a b by unfold Pt Pd at q; unfold Pu Sc; omega)))
        have keep : ∀ a j, 68 ≤ a → a < 124 → hI H3 a j = hI H1 a j := fun a j q1 q2 => by
          rw [f3.i (by unfold Pt Pd; omega), f2.i (by unfold Pz; omega)]
        have fin : CM H3 := cm_take c0 hsn f3u g hb (by rw [keep _ _ (by omega) (by omega)]; exact c1) (by rw [keep _ _ (by omega) (by omega)]; exact c2) (by rw [keep _ _ (by omega) (by omega)]; exact c3) (fun i hi => by rw [keep _ _ (by omega) (by omega), keep _ _ (by omega) (by omega), keep _ _ (by omega) (by omega)]; exact c4 i hi) m1 m2 m3 (fun i hi => ⟨(m4 i hi).1, (m4 i hi).2.1, (m4 i hi).2.2.1⟩)
        first | exact fin | exact ⟨rfl, fin⟩ | exact ⟨⟨_, rfl, rfl⟩, fin⟩
      · rw [if_neg q]
        refine mod0 H _ hwH (fS.wk (fun a b q => Or.inl q)) (fun H2 f2 D2 => ?_)
        simp only [x_181_36, x_181_38, x_181_41, x_181_43, x_181_46, x_181_47, x_181_48, x_181_51, cl2_i, cl2_r, cl2_n, cl2_l, tl_s, tl_n, true_and, and_true, Option.some.injEq, exists_eq_left', Bool.and_self, Bool.true_and, Bool.and_true, Bool.or_true, Bool.true_or, i_10, i_00, if_true, if_false, not_true_eq_false, not_false_eq_true, and_false, false_and, okp_sI, okp_sL, okp_aI, okp_aL, hR_sI, hR_sL, hR_aI, hR_aL, q]
        first | exact cm_e0 c0 (fS.tr (f2.wk (fun _ _ => Pz_Sc))) | exact ⟨rfl, cm_e0 c0 (fS.tr (f2.wk (fun _ _ => Pz_Sc)))⟩ | exact ⟨⟨_, rfl, rfl⟩, cm_e0 c0 (fS.tr (f2.wk (fun _ _ => Pz_Sc)))⟩
  · exact bad e0
end SP
