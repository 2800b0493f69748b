/-! ===== beside, hangs ===== -/
def bes (a : Nat → Nat → Bool) (i : Nat) : Nat → Int32
  | 0 => 0
  | j + 1 => if ¬ j = i ∧ a i j = true then bes a i j ||| (1 <<< (nI j &&& 31)) else bes a i j
def jnS (a : Nat → Nat → Bool) (M i : Nat) (v : Int32) : Int32 := if v >>> (nI i &&& 31) &&& 1 = 1 then v ||| bes a i M else v
def jnA (a : Nat → Nat → Bool) (M : Nat) (n : Nat) : Int32 := itI (fun _ v => itI (fun i v => jnS a M i v) v M) 1 n
noncomputable def aB (b M : Nat) (sx sy : Nat → Int) (i j : Nat) : Bool := cd (Alv b M (rch b M sx sy) sx sy (sx j - sx i) (sy j - sy i))
section HG
variable {sc : Nat × (Nat → Int32)} {d : Nat} {Q : PRes → Prop} {h h' h1 H : PH} {k s r b M R i j v p n : Nat} {kd x y z w : Int32} {tn : Nat → Nat} {sx sy ex : Nat → Int} {X Y : Int}
theorem c_me_loop (hw : WF h) (hk : IsSh k) (C : ShC h k kd b M tn sx sy ex) (W : ShV b M sx sy) (V : VcS h b M (rch b M sx sy) sx sy) (a : ∀ X Y, Lv h (rch b M sx sy) X Y ↔ Alv b M (rch b M sx sy) sx sy X Y) (hi : i < M) (hQ : Q (some (.int (bes (aB b M sx sy) i M)), h)) : ∀ (n j : Nat) (l5 l6 : Option Value), cl2 l5 = l5 → j + n = M → Tr sc (d + 1) 80 (5, [some (.ref 24), some (.ref k), some (.int (nI i)), some (.int (bes (aB b M sx sy) i j)), some (.int (nI j)), l5, l6], [], h) Q := by
  obtain ⟨ho, r0, r1, r2, r3, r4, r5, o0, o1, o2, o3, o4, o5, n0, n1, n2, n3, n4, n5⟩ := sh_ref hw hk
  obtain ⟨⟨b1, b2⟩, ⟨m1, m2⟩, wt⟩ := id W
  obtain ⟨c1, c2, c3, c4⟩ := C
  obtain ⟨-, hR⟩ := rch_ok W
  intro n
  induction n with
  | zero =>
    intro j l5 l6 hl hj
    have e : j = M := by omega
    subst e
    rw [x_80_5]
    simp only [x_80_7, x_80_8, x_80_11, x_80_76, x_80_77, cl2_i, cl2_r, cl2_n, cl2_l, tl_s, tl_n, true_and, and_true, Option.some.injEq, exists_eq_left', Bool.and_self, Bool.true_and, Bool.and_true, Bool.or_true, Bool.true_or, i_10, i_00, if_true, if_false, not_true_eq_false, not_false_eq_true, and_false, false_and, okp_sI, okp_sL, okp_aI, okp_aL, hR_sI, hR_sL, hR_aI, hR_aL, ho, c3]
    rw [if_pos (Int32.le_refl _)]
    exact hQ
  | succ n ih =>
    intro j l5 l6 hl hj
    have hlt : j < M := by omega
    have e1 := (wt i hi)
    have e2 := (wt j hlt)
    have eb : bes (aB b M sx sy) i (j + 1) = if ¬ j = i ∧ aB b M sx sy i j = true then bes (aB b M sx sy) i j ||| (1 <<< (nI j &&& 31)) else bes (aB b M sx sy) i j := rfl
    rw [x_80_5]
    simp only [x_80_7, x_80_8, x_80_11, x_80_14, x_80_15, x_80_18, x_80_20, x_80_21, x_80_22, x_80_25, x_80_26, x_80_27, x_80_28, x_80_30, x_80_31, x_80_34, x_80_36, x_80_37, x_80_38, x_80_41, x_80_42, x_80_43, x_80_44, x_80_46, x_80_48, x_80_49, x_80_52, x_80_53, x_80_55, x_80_57, x_80_70, x_80_73, cl2_i, cl2_r, cl2_n, cl2_l, tl_s, tl_n, true_and, and_true, Option.some.injEq, exists_eq_left', Bool.and_self, Bool.true_and, Bool.and_true, Bool.or_true, Bool.true_or, i_10, i_00, if_true, if_false, not_true_eq_false, not_false_eq_true, and_false, false_and, okp_sI, okp_sL, okp_aI, okp_aL, hR_sI, hR_sL, hR_aI, hR_aL, hl, ho, c3, r1, r2, iOk_ok o1, iOk_ok o2, iRd_ok o1, iRd_ok o2, n1, n2, inb_nI (n := 6) (show j < 6 by omega) (by decide), inb_nI (n := 6) (show i < 6 by omega) (by decide), nI_clamp (n := i) (by omega), nI_clamp (n := j) (by omega), (c4 i hi).2.1, (c4 j hlt).2.1, (c4 i hi).2.2.1, (c4 j hlt).2.2.1, iv_sub, nI_1, o_24 hw]
    rw [if_neg (nI_ge hlt (by omega))]
    have ih' := ih (j + 1) (some (.int (iv (sx j - sx i)))) (some (.int (iv (sy j - sy i)))) rfl (by omega)
    rw [eb] at ih'
    by_cases q : j = i
    · rw [if_pos (by rw [q])]
      rw [if_neg (fun z => z.1 q)] at ih'
      exact ih'
    · rw [if_neg (fun z => q ((nI_eq (by omega) (by omega)).mp z))]
      refine c_livAt hw V hR ⟨by omega, by omega⟩ ⟨by omega, by omega⟩ (fun z => ?_) (fun z => ?_)
      · have q2 := vi_lt z.1
        have q3 := R_sq hR
        simp only [x_80_60, x_80_63, x_80_64, x_80_65, x_80_67, x_80_68, x_80_69, x_80_70, x_80_73, cl2_i, cl2_r, cl2_n, cl2_l, tl_s, tl_n, true_and, and_true, Option.some.injEq, exists_eq_left', Bool.and_self, Bool.true_and, Bool.and_true, Bool.or_true, Bool.true_or, i_10, i_00, if_true, if_false, not_true_eq_false, not_false_eq_true, and_false, false_and, okp_sI, okp_sL, okp_aI, okp_aL, hR_sI, hR_sL, hR_aI, hR_aL, nI_1]
        rw [if_neg (nI_pos (by omega))]
        rw [if_pos ⟨q, show cd _ = true by rw [cd_t]; exact (a _ _).mp z⟩] at ih'
        exact ih'
      · simp only [x_80_60, x_80_63, x_80_64, x_80_65, x_80_67, x_80_68, x_80_69, x_80_70, x_80_73, cl2_i, cl2_r, cl2_n, cl2_l, tl_s, tl_n, true_and, and_true, Option.some.injEq, exists_eq_left', Bool.and_self, Bool.true_and, Bool.and_true, Bool.or_true, Bool.true_or, i_10, i_00, if_true, if_false, not_true_eq_false, not_false_eq_true, and_false, false_and, okp_sI, okp_sL, okp_aI, okp_aL, hR_sI, hR_sL, hR_aI, hR_aL, nI_1, show ((-1 : Int32) < 0) = True from eq_true (by decide)]
        rw [if_neg (fun q4 => z ((a _ _).mpr (by have q5 := q4.2; unfold aB at q5; rw [cd_t] at q5; exact q5)))] at ih'
        exact ih'
theorem c_meeting (hw : WF h) (hk : IsSh k) (C : ShC h k kd b M tn sx sy ex) (W : ShV b M sx sy) (V : VcS h b M (rch b M sx sy) sx sy) (a : ∀ X Y, Lv h (rch b M sx sy) X Y ↔ Alv b M (rch b M sx sy) sx sy X Y) (hi : i < M) (hQ : Q (some (.int (bes (aB b M sx sy) i M)), h)) : Tr sc (d + 1) 80 (ent0 80 [.ref 24, .ref k, .int (nI i)] h) Q := by
  rw [e_80]
  simp only [x_80_0, x_80_1, x_80_2, x_80_3, cl2_i, cl2_r, cl2_n, cl2_l, tl_s, tl_n, true_and, and_true, Option.some.injEq, exists_eq_left', Bool.and_self, Bool.true_and, Bool.and_true, Bool.or_true, Bool.true_or, i_10, i_00, if_true, if_false, not_true_eq_false, not_false_eq_true, and_false, false_and, okp_sI, okp_sL, okp_aI, okp_aL, hR_sI, hR_sL, hR_aI, hR_aL]
  exact c_me_loop hw hk C W V a hi hQ M 0 none none rfl (by omega)
theorem m_doMeet (hw : WF h) (hs : s < 8) (D : ShM h s kd b M tn sx sy ex) (W : ShV b M sx sy) (hi : i < M) (hj : j < M) (Qt : Lm h (sx j - sx i) (sy j - sy i) → Q (some (.int 1), h)) (Qf : ¬ Lm h (sx j - sx i) (sy j - sy i) → Q (some (.int 0), h)) : Tr sc (d + 2) 216 (ent0 216 [.ref 124, .int (nI s), .int (nI i), .int (nI j)] h) Q := by
  obtain ⟨⟨b1, b2⟩, ⟨m1, m2⟩, wt⟩ := id W
  obtain ⟨d1, d2, d3, d4⟩ := D
  have e1 := (wt i hi)
  have e2 := (wt j hj)
  rw [e_216]
  simp only [x_216_0, x_216_1, x_216_2, x_216_5, x_216_7, x_216_8, x_216_9, x_216_10, x_216_11, x_216_12, x_216_13, x_216_16, x_216_18, x_216_19, x_216_20, x_216_21, x_216_22, x_216_23, x_216_24, x_216_25, x_216_28, x_216_30, x_216_31, x_216_32, x_216_33, x_216_34, x_216_35, x_216_36, x_216_39, x_216_41, x_216_42, x_216_43, x_216_44, x_216_45, x_216_46, x_216_47, o_124 hw, w_124_20 hw, w_124_21 hw, o_136 hw, iOk_lt (k := 136) (by decide), iRd_lt (k := 136) (by decide), show LN 136 = 48 from rfl, o_137 hw, iOk_lt (k := 137) (by decide), iRd_lt (k := 137) (by decide), show LN 137 = 48 from rfl, cl2_i, cl2_r, cl2_n, cl2_l, tl_s, tl_n, true_and, and_true, Option.some.injEq, exists_eq_left', Bool.and_self, Bool.true_and, Bool.and_true, Bool.or_true, Bool.true_or, i_10, i_00, if_true, if_false, not_true_eq_false, not_false_eq_true, and_false, false_and, okp_sI, okp_sL, okp_aI, okp_aL, hR_sI, hR_sL, hR_aI, hR_aL, mv_ix hs (show i < 6 by omega), mv_ix hs (show j < 6 by omega), inb_nI (n := 48) (show 6 * s + i < 48 by omega) (by decide), inb_nI (n := 48) (show 6 * s + j < 48 by omega) (by decide), nI_clamp (n := 6 * s + i) (by omega), nI_clamp (n := 6 * s + j) (by omega), (d4 i hi).2.1, (d4 i hi).2.2.1, (d4 j hj).2.1, (d4 j hj).2.2.1, iv_sub]
  refine m_isAlv hw ⟨by omega, by omega⟩ ⟨by omega, by omega⟩ (fun z => ?_) (fun z => ?_)
  · simp only [x_216_50, cl2_i, cl2_r, cl2_n, cl2_l, tl_s, tl_n, true_and, and_true, Option.some.injEq, exists_eq_left', Bool.and_self, Bool.true_and, Bool.and_true, Bool.or_true, Bool.true_or, i_10, i_00, if_true, if_false, not_true_eq_false, not_false_eq_true, and_false, false_and, okp_sI, okp_sL, okp_aI, okp_aL, hR_sI, hR_sL, hR_aI, hR_aL, vp_b1]
    exact Qt z
  · simp only [x_216_50, cl2_i, cl2_r, cl2_n, cl2_l, tl_s, tl_n, true_and, and_true, Option.some.injEq, exists_eq_left', Bool.and_self, Bool.true_and, Bool.and_true, Bool.or_true, Bool.true_or, i_10, i_00, if_true, if_false, not_true_eq_false, not_false_eq_true, and_false, false_and, okp_sI, okp_sL, okp_aI, okp_aL, hR_sI, hR_sL, hR_aI, hR_aL, vp_b0]
    exact Qf z
theorem m_be_loop (hw : WF h) (hs : s < 8) (D : ShM h s kd b M tn sx sy ex) (W : ShV b M sx sy) (m : ∀ X Y, Lm h X Y ↔ Alv b M (rch b M sx sy) sx sy X Y) (hi : i < M) (hQ : Q (some (.int (bes (aB b M sx sy) i M)), h)) : ∀ (n j : Nat), j + n = M → Tr sc (d + 3) 221 (5, [some (.ref 124), some (.int (nI s)), some (.int (nI i)), some (.int (bes (aB b M sx sy) i j)), some (.int (nI j))], [], h) Q := by
  obtain ⟨⟨b1, b2⟩, ⟨m1, m2⟩, wt⟩ := id W
  intro n
  induction n with
  | zero =>
    intro j hj
    have e : j = M := by omega
    subst e
    rw [x_221_5]
    simp only [x_221_7, x_221_8, x_221_11, x_221_12, x_221_13, o_124 hw, w_124_18 hw, o_134 hw, iOk_lt (k := 134) (by decide), iRd_lt (k := 134) (by decide), show LN 134 = 8 from rfl, x_221_50, x_221_51, cl2_i, cl2_r, cl2_n, cl2_l, tl_s, tl_n, true_and, and_true, Option.some.injEq, exists_eq_left', Bool.and_self, Bool.true_and, Bool.and_true, Bool.or_true, Bool.true_or, i_10, i_00, if_true, if_false, not_true_eq_false, not_false_eq_true, and_false, false_and, okp_sI, okp_sL, okp_aI, okp_aL, hR_sI, hR_sL, hR_aI, hR_aL, inb_nI (n := 8) hs (by decide), nI_clamp (n := s) (by omega), D.2.2.1]
    rw [if_pos (Int32.le_refl _)]
    exact hQ
  | succ n ih =>
    intro j hj
    have hlt : j < M := by omega
    have eb : bes (aB b M sx sy) i (j + 1) = if ¬ j = i ∧ aB b M sx sy i j = true then bes (aB b M sx sy) i j ||| (1 <<< (nI j &&& 31)) else bes (aB b M sx sy) i j := rfl
    rw [x_221_5]
    simp only [x_221_7, x_221_8, x_221_11, x_221_12, x_221_13, x_221_16, x_221_17, x_221_19, x_221_20, x_221_23, x_221_24, x_221_25, x_221_26, x_221_28, o_124 hw, w_124_18 hw, o_134 hw, iOk_lt (k := 134) (by decide), iRd_lt (k := 134) (by decide), show LN 134 = 8 from rfl, x_221_41, x_221_42, x_221_43, x_221_44, x_221_47, cl2_i, cl2_r, cl2_n, cl2_l, tl_s, tl_n, true_and, and_true, Option.some.injEq, exists_eq_left', Bool.and_self, Bool.true_and, Bool.and_true, Bool.or_true, Bool.true_or, i_10, i_00, if_true, if_false, not_true_eq_false, not_false_eq_true, and_false, false_and, okp_sI, okp_sL, okp_aI, okp_aL, hR_sI, hR_sL, hR_aI, hR_aL, inb_nI (n := 8) hs (by decide), nI_clamp (n := s) (by omega), D.2.2.1, nI_1, Int32.or_zero]
    rw [if_neg (nI_ge hlt (by omega))]
    have ih' := ih (j + 1) (by omega)
    rw [eb] at ih'
    by_cases q : j = i
    · rw [if_pos (by rw [q])]
      rw [if_neg (fun z => z.1 q)] at ih'
      exact ih'
    · rw [if_neg (fun z => q ((nI_eq (by omega) (by omega)).mp z))]
      refine m_doMeet hw hs D W hi hlt (fun z => ?_) (fun z => ?_)
      · simp only [x_221_31, x_221_34, x_221_35, x_221_37, x_221_38, x_221_41, x_221_42, x_221_43, x_221_44, x_221_47, cl2_i, cl2_r, cl2_n, cl2_l, tl_s, tl_n, true_and, and_true, Option.some.injEq, exists_eq_left', Bool.and_self, Bool.true_and, Bool.and_true, Bool.or_true, Bool.true_or, i_10, i_00, if_true, if_false, not_true_eq_false, not_false_eq_true, and_false, false_and, okp_sI, okp_sL, okp_aI, okp_aL, hR_sI, hR_sL, hR_aI, hR_aL, nI_1]
        rw [if_pos ⟨q, show cd _ = true by rw [cd_t]; exact (m _ _).mp z⟩] at ih'
        exact ih'
      · simp only [x_221_31, x_221_34, x_221_35, x_221_37, x_221_38, x_221_41, x_221_42, x_221_43, x_221_44, x_221_47, cl2_i, cl2_r, cl2_n, cl2_l, tl_s, tl_n, true_and, and_true, Option.some.injEq, exists_eq_left', Bool.and_self, Bool.true_and, Bool.and_true, Bool.or_true, Bool.true_or, i_10, i_00, if_true, if_false, not_true_eq_false, not_false_eq_true, and_false, false_and, okp_sI, okp_sL, okp_aI, okp_aL, hR_sI, hR_sL, hR_aI, hR_aL, nI_1, Int32.or_zero]
        rw [if_neg (fun q4 => z ((m _ _).mpr (by have q5 := q4.2; unfold aB at q5; rw [cd_t] at q5; exact q5)))] at ih'
        exact ih'
theorem m_besideOf (hw : WF h) (hs : s < 8) (D : ShM h s kd b M tn sx sy ex) (W : ShV b M sx sy) (m : ∀ X Y, Lm h X Y ↔ Alv b M (rch b M sx sy) sx sy X Y) (hi : i < M) (hQ : Q (some (.int (bes (aB b M sx sy) i M)), h)) : Tr sc (d + 3) 221 (ent0 221 [.ref 124, .int (nI s), .int (nI i)] h) Q := by
  rw [e_221]
  simp only [x_221_0, x_221_1, x_221_2, x_221_3, cl2_i, cl2_r, cl2_n, cl2_l, tl_s, tl_n, true_and, and_true, Option.some.injEq, exists_eq_left', Bool.and_self, Bool.true_and, Bool.and_true, Bool.or_true, Bool.true_or, i_10, i_00, if_true, if_false, not_true_eq_false, not_false_eq_true, and_false, false_and, okp_sI, okp_sL, okp_aI, okp_aL, hR_sI, hR_sL, hR_aI, hR_aL]
  exact m_be_loop hw hs D W m hi hQ M 0 (by omega)
theorem both_beside (hc : CM h) : Both sc 122 222 [.int x, .int y] h := by
  have hw := hc.1
  refine glue_st (x := x) (T := True) (CC := fun Q => Tr sc 19 122 (13, [some (.ref 0), some (.int x), some (.int y), some (.int 0)], [], h) Q) (MC := fun h1 Q => Tr sc 17 215 (ent0 215 [.ref 124, .int x] h1) (fun u => Tr sc 18 218 (31, [some (.ref 124), some (.int x), some (.int 0)], u.1.toList ++ [], u.2) (fun u => Tr sc 19 222 (5, [some (.ref 124), some (.int x), some (.int y), none], u.1.toList ++ [], u.2) Q))) hc (fun Q => ?_) (fun h1 Q hw1 => ?_) (fun s hs hx hT hA hst => ?_) (fun A B hAB q => Tr_mono q hAB)
  · rw [e_122]
    simp only [x_122_0, x_122_1, x_122_2, x_122_3, x_122_6, x_122_7, x_122_8, x_122_11, x_122_12, o_0 hw, cl2_i, cl2_r, cl2_n, cl2_l, tl_s, tl_n, true_and, and_true, Option.some.injEq, exists_eq_left', Bool.and_self, Bool.true_and, Bool.and_true, Bool.or_true, Bool.true_or, i_10, i_00, if_true, if_false, not_true_eq_false, not_false_eq_true, and_false, false_and, okp_sI, okp_sL, okp_aI, okp_aL, hR_sI, hR_sL, hR_aI, hR_aL, c_stR hw, i_1m1, i_3m1]
  · rw [e_222]
    simp only [x_222_0, x_222_1, x_222_2, o_124 hw1, cl2_i, cl2_r, cl2_n, cl2_l, tl_s, tl_n, true_and, and_true, Option.some.injEq, exists_eq_left', Bool.and_self, Bool.true_and, Bool.and_true, Bool.or_true, Bool.true_or, i_10, i_00, if_true, if_false, not_true_eq_false, not_false_eq_true, and_false, false_and, okp_sI, okp_sL, okp_aI, okp_aL, hR_sI, hR_sL, hR_aI, hR_aL, m_stR (d := 15) hw1]
    simp only [x_222_5, x_222_6, x_222_7, x_222_10, x_222_11, o_124 hw1, cl2_i, cl2_r, cl2_n, cl2_l, tl_s, tl_n, true_and, and_true, Option.some.injEq, exists_eq_left', Bool.and_self, Bool.true_and, Bool.and_true, Bool.or_true, Bool.true_or, i_10, i_00, if_true, if_false, not_true_eq_false, not_false_eq_true, and_false, false_and, okp_sI, okp_sL, okp_aI, okp_aL, hR_sI, hR_sL, hR_aI, hR_aL, i_m1, i_m3]
  · subst hx
    obtain ⟨kd, b, M, tn, sx, sy, ex, W, C, D⟩ := sh_ab hA
    have W' := shv_of W
    obtain ⟨-, ⟨m1, m2⟩, -⟩ := id W'
    obtain ⟨w1, w2, -⟩ := hw.shape hs
    obtain ⟨-, hR⟩ := rch_ok W'
    have le1 : (0 ≤ y ∧ y ≤ nI M - 1) = (0 ≤ y ∧ y < nI M) := i_le1 (nI_pos' (by omega)) (nI_le (a := M) (b := 40) (by omega) (by decide))
    simp only [x_122_13, x_122_14, x_122_17, x_122_18, x_122_19, x_122_20, x_122_23, x_122_26, x_122_27, x_122_28, o_0 hw, w_0_2 hw, o_3 hw, show LN 3 = 8 from rfl, cl2_i, cl2_r, cl2_n, cl2_l, tl_s, tl_n, true_and, and_true, Option.some.injEq, exists_eq_left', Bool.and_self, Bool.true_and, Bool.and_true, Bool.or_true, Bool.true_or, i_10, i_00, if_true, if_false, not_true_eq_false, not_false_eq_true, and_false, false_and, okp_sI, okp_sL, okp_aI, okp_aL, hR_sI, hR_sL, hR_aI, hR_aL, inb_nI (n := 8) hs (by decide), nI_clamp (n := s) (by omega), w1, w2, c_hasMove w2, bI_0, C.2.2.1, c_refuse_2 hw]
    by_cases e1 : 0 ≤ y ∧ y < nI M
    · obtain ⟨i, hi, rfl⟩ := ir_of (n := M) (by omega) e1
      rw [if_neg (fun q => q e1)]
      simp only [x_122_32, x_122_33, x_122_36, x_122_37, x_122_40, x_122_41, x_122_42, o_0 hw, w_0_2 hw, w_0_9 hw, o_24 hw, o_3 hw, show LN 3 = 8 from rfl, cl2_i, cl2_r, cl2_n, cl2_l, tl_s, tl_n, true_and, and_true, Option.some.injEq, exists_eq_left', Bool.and_self, Bool.true_and, Bool.and_true, Bool.or_true, Bool.true_or, i_10, i_00, if_true, if_false, not_true_eq_false, not_false_eq_true, and_false, false_and, okp_sI, okp_sL, okp_aI, okp_aL, hR_sI, hR_sL, hR_aI, hR_aL, inb_nI (n := 8) hs (by decide), nI_clamp (n := s) (by omega), w1, w2]
      refine c_look (d := 15) hw (is_sh hs) C W' (fun H f V a => ?_)
      have hwH := f.WF hw
      have fS : Fq Sc h H := f.wk (fun _ _ => Pv_Sc)
      obtain ⟨w1', w2', -⟩ := hwH.shape hs
      simp only [x_122_45, x_122_46, x_122_49, x_122_50, x_122_53, x_122_54, x_122_55, x_122_56, o_0 hwH, w_0_2 hwH, w_0_9 hwH, o_24 hwH, o_3 hwH, show LN 3 = 8 from rfl, cl2_i, cl2_r, cl2_n, cl2_l, tl_s, tl_n, true_and, and_true, Option.some.injEq, exists_eq_left', Bool.and_self, Bool.true_and, Bool.and_true, Bool.or_true, Bool.true_or, i_10, i_00, if_true, if_false, not_true_eq_false, not_false_eq_true, and_false, false_and, okp_sI, okp_sL, okp_aI, okp_aL, hR_sI, hR_sL, hR_aI, hR_aL, inb_nI (n := 8) hs (by decide), nI_clamp (n := s) (by omega), w1', w2']
      refine c_meeting (d := 17) hwH (is_sh hs) (C.fr f (fun a j h1 h2 q => by unfold Pv at q; omega)) W' V a hi ?_
      simp only [x_122_59, cl2_i, cl2_r, cl2_n, cl2_l, tl_s, tl_n, true_and, and_true, Option.some.injEq, exists_eq_left', Bool.and_self, Bool.true_and, Bool.and_true, Bool.or_true, Bool.true_or, i_10, i_00, if_true, if_false, not_true_eq_false, not_false_eq_true, and_false, false_and, okp_sI, okp_sL, okp_aI, okp_aL, hR_sI, hR_sL, hR_aI, hR_aL]
      refine ⟨hwH, fS.i (by unfold Sc; omega), fS.i (by unfold Sc; omega), ?_⟩
      have D' := D.fr fS (fun a j h1 h2 => by unfold Sc; omega)
      refine st_model hwH hs D' W' (fun H2 f2 m => ?_)
      have hw2 := f2.WF hwH
      have D2 := D'.fr f2 (fun a j h1 h2 q => by unfold Pa at q; omega)
      simp only [x_222_5, x_222_6, x_222_7, x_222_10, x_222_11, x_222_12, x_222_13, x_222_14, x_222_15, x_222_18, x_222_19, x_222_20, x_222_21, x_222_22, x_222_25, x_222_28, x_222_29, x_222_30, x_222_31, o_124 hw2, w_124_18 hw2, o_134 hw2, iOk_lt (k := 134) (by decide), iRd_lt (k := 134) (by decide), show LN 134 = 8 from rfl, cl2_i, cl2_r, cl2_n, cl2_l, tl_s, tl_n, true_and, and_true, Option.some.injEq, exists_eq_left', Bool.and_self, Bool.true_and, Bool.and_true, Bool.or_true, Bool.true_or, i_10, i_00, if_true, if_false, not_true_eq_false, not_false_eq_true, and_false, false_and, okp_sI, okp_sL, okp_aI, okp_aL, hR_sI, hR_sL, hR_aI, hR_aL, i_0, inb_nI (n := 8) hs (by decide), nI_clamp (n := s) (by omega), D2.2.2.1, m_in, bI_0]
      rw [if_neg (show ¬ ¬ (0 ≤ nI i ∧ nI i ≤ nI M - 1) from fun q => q (by rw [le1]; exact e1))]
      refine m_besideOf (d := 15) hw2 hs D2 W' m hi ?_
      simp only [x_222_34, x_222_37, x_222_38, x_222_39, x_222_42, cl2_i, cl2_r, cl2_n, cl2_l, tl_s, tl_n, true_and, and_true, Option.some.injEq, exists_eq_left', Bool.and_self, Bool.true_and, Bool.and_true, Bool.or_true, Bool.true_or, i_10, i_00, if_true, if_false, not_true_eq_false, not_false_eq_true, and_false, false_and, okp_sI, okp_sL, okp_aI, okp_aL, hR_sI, hR_sL, hR_aI, hR_aL]
      first | exact cm_e0 hc (fS.tr (f2.wk (fun _ _ => Pa_Sc))) | exact ⟨rfl, cm_e0 hc (fS.tr (f2.wk (fun _ _ => Pa_Sc)))⟩ | exact ⟨⟨_, rfl, rfl⟩, cm_e0 hc (fS.tr (f2.wk (fun _ _ => Pa_Sc)))⟩
    · rw [if_pos e1]
      simp only [x_122_31, cl2_i, cl2_r, cl2_n, cl2_l, tl_s, tl_n, true_and, and_true, Option.some.injEq, exists_eq_left', Bool.and_self, Bool.true_and, Bool.and_true, Bool.or_true, Bool.true_or, i_10, i_00, if_true, if_false, not_true_eq_false, not_false_eq_true, and_false, false_and, okp_sI, okp_sL, okp_aI, okp_aL, hR_sI, hR_sL, hR_aI, hR_aL]
      have hwu := WF_refu (f := 2) hw
      refine ⟨hwu, refu_I (by decide) (by decide), refu_I (by decide) (by decide), ?_⟩
      have D' : ShM (refu h 2) s kd b M tn sx sy ex := D.fr Fq_refu (fun a j h1 h2 => by unfold Sd Sc; omega)
      refine st_model hwu hs D' W' (fun H2 f2 m => ?_)
      have hw2 := f2.WF hwu
      have D2 := D'.fr f2 (fun a j h1 h2 q => by unfold Pa at q; omega)
      simp only [x_222_5, x_222_6, x_222_7, x_222_10, x_222_11, x_222_12, x_222_13, x_222_14, x_222_15, x_222_18, x_222_19, x_222_20, x_222_21, x_222_22, x_222_25, x_222_28, x_222_29, x_222_30, x_222_31, o_124 hw2, w_124_18 hw2, o_134 hw2, iOk_lt (k := 134) (by decide), iRd_lt (k := 134) (by decide), show LN 134 = 8 from rfl, x_222_37, x_222_38, x_222_39, x_222_42, cl2_i, cl2_r, cl2_n, cl2_l, tl_s, tl_n, true_and, and_true, Option.some.injEq, exists_eq_left', Bool.and_self, Bool.true_and, Bool.and_true, Bool.or_true, Bool.true_or, i_10, i_00, if_true, if_false, not_true_eq_false, not_false_eq_true, and_false, false_and, okp_sI, okp_sL, okp_aI, okp_aL, hR_sI, hR_sL, hR_aI, hR_aL, i_0, inb_nI (n := 8) hs (by decide), nI_clamp (n := s) (by omega), D2.2.2.1, m_in, bI_0, m_meets_2 hw2]
      rw [if_pos (show ¬ (0 ≤ y ∧ y ≤ nI M - 1) by rw [le1]; exact e1)]
      first | exact cm_eR (by decide) hc Fq.rf (f2.wk (fun _ _ => Pa_Sc)) | exact ⟨rfl, cm_eR (by decide) hc Fq.rf (f2.wk (fun _ _ => Pa_Sc))⟩ | exact ⟨⟨_, rfl, rfl⟩, cm_eR (by decide) hc Fq.rf (f2.wk (fun _ _ => Pa_Sc))⟩
theorem c_jn_i {t : Nat} {v0 : Int32} (hw : WF h) (hk : IsSh k) (C : ShC h k kd b M tn sx sy ex) (W : ShV b M sx sy) (V : VcS h b M (rch b M sx sy) sx sy) (a : ∀ X Y, Lv h (rch b M sx sy) X Y ↔ Alv b M (rch b M sx sy) sx sy X Y) (hK : Tr sc (d + 2) 81 (49, [some (.ref 24), some (.ref k), some (.int (itI (fun i v => jnS (aB b M sx sy) M i v) v0 M)), some (.int (nI t)), some (.int (nI M))], [], h) Q) : ∀ (n i : Nat), i + n = M → Tr sc (d + 2) 81 (15, [some (.ref 24), some (.ref k), some (.int (itI (fun i v => jnS (aB b M sx sy) M i v) v0 i)), some (.int (nI t)), some (.int (nI i))], [], h) Q := by
  obtain ⟨ho, -⟩ := sh_ref hw hk
  obtain ⟨-, ⟨m1, m2⟩, -⟩ := id W
  intro n
  induction n with
  | zero =>
    intro i hi
    have e : i = M := by omega
    subst e
    rw [x_81_15]
    simp only [x_81_17, x_81_18, x_81_21, cl2_i, cl2_r, cl2_n, cl2_l, tl_s, tl_n, true_and, and_true, Option.some.injEq, exists_eq_left', Bool.and_self, Bool.true_and, Bool.and_true, Bool.or_true, Bool.true_or, i_10, i_00, if_true, if_false, not_true_eq_false, not_false_eq_true, and_false, false_and, okp_sI, okp_sL, okp_aI, okp_aL, hR_sI, hR_sL, hR_aI, hR_aL, ho, C.2.2.1]
    rw [if_pos (Int32.le_refl _)]
    exact hK
  | succ n ih =>
    intro i hi
    have hlt : i < M := by omega
    have eb : itI (fun i v => jnS (aB b M sx sy) M i v) v0 (i + 1) = jnS (aB b M sx sy) M i (itI (fun i v => jnS (aB b M sx sy) M i v) v0 i) := rfl
    have ih' := ih (i + 1) (by omega)
    rw [eb] at ih'
    rw [x_81_15]
    simp only [x_81_17, x_81_18, x_81_21, x_81_24, x_81_25, x_81_27, x_81_28, x_81_29, x_81_30, x_81_33, x_81_34, x_81_35, x_81_36, x_81_38, x_81_43, x_81_46, cl2_i, cl2_r, cl2_n, cl2_l, tl_s, tl_n, true_and, and_true, Option.some.injEq, exists_eq_left', Bool.and_self, Bool.true_and, Bool.and_true, Bool.or_true, Bool.true_or, i_10, i_00, if_true, if_false, not_true_eq_false, not_false_eq_true, and_false, false_and, okp_sI, okp_sL, okp_aI, okp_aL, hR_sI, hR_sL, hR_aI, hR_aL, ho, C.2.2.1, o_24 hw, nI_1]
    rw [if_neg (nI_ge hlt (by omega))]
    generalize itI (fun i v => jnS (aB b M sx sy) M i v) v0 i = v at *
    unfold jnS at ih'
    by_cases q : v >>> (nI i &&& 31) &&& 1 = 0
    · rw [if_pos q]
      rw [if_neg (by rw [q]; decide)] at ih'
      exact ih'
    · rw [if_neg q]
      rw [and1_n] at q
      rw [if_pos q] at ih'
      refine c_meeting hw hk C W V a hlt ?_
      simp only [x_81_41, x_81_42, x_81_43, x_81_46, cl2_i, cl2_r, cl2_n, cl2_l, tl_s, tl_n, true_and, and_true, Option.some.injEq, exists_eq_left', Bool.and_self, Bool.true_and, Bool.and_true, Bool.or_true, Bool.true_or, i_10, i_00, if_true, if_false, not_true_eq_false, not_false_eq_true, and_false, false_and, okp_sI, okp_sL, okp_aI, okp_aL, hR_sI, hR_sL, hR_aI, hR_aL, nI_1]
      exact ih'
theorem c_jn_o (hw : WF h) (hk : IsSh k) (C : ShC h k kd b M tn sx sy ex) (W : ShV b M sx sy) (V : VcS h b M (rch b M sx sy) sx sy) (a : ∀ X Y, Lv h (rch b M sx sy) X Y ↔ Alv b M (rch b M sx sy) sx sy X Y) (hK : ∀ l4, Tr sc (d + 2) 81 (55, [some (.ref 24), some (.ref k), some (.int (jnA (aB b M sx sy) M M)), some (.int (nI M)), l4], [], h) Q) : ∀ (n t : Nat) (l4 : Option Value), t + n = M → Tr sc (d + 2) 81 (4, [some (.ref 24), some (.ref k), some (.int (jnA (aB b M sx sy) M t)), some (.int (nI t)), l4], [], h) Q := by
  obtain ⟨ho, -⟩ := sh_ref hw hk
  obtain ⟨-, ⟨m1, m2⟩, -⟩ := id W
  intro n
  induction n with
  | zero =>
    intro t l4 ht
    have e : t = M := by omega
    subst e
    rw [x_81_4]
    simp only [x_81_5, x_81_6, x_81_9, x_81_12, x_81_13, cl2_i, cl2_r, cl2_n, cl2_l, tl_s, tl_n, true_and, and_true, Option.some.injEq, exists_eq_left', Bool.and_self, Bool.true_and, Bool.and_true, Bool.or_true, Bool.true_or, i_10, i_00, if_true, if_false, not_true_eq_false, not_false_eq_true, and_false, false_and, okp_sI, okp_sL, okp_aI, okp_aL, hR_sI, hR_sL, hR_aI, hR_aL, ho, C.2.2.1]
    rw [if_pos (Int32.le_refl _)]
    exact hK l4
  | succ n ih =>
    intro t l4 ht
    have hlt : t < M := by omega
    rw [x_81_4]
    simp only [x_81_5, x_81_6, x_81_9, x_81_12, x_81_13, cl2_i, cl2_r, cl2_n, cl2_l, tl_s, tl_n, true_and, and_true, Option.some.injEq, exists_eq_left', Bool.and_self, Bool.true_and, Bool.and_true, Bool.or_true, Bool.true_or, i_10, i_00, if_true, if_false, not_true_eq_false, not_false_eq_true, and_false, false_and, okp_sI, okp_sL, okp_aI, okp_aL, hR_sI, hR_sL, hR_aI, hR_aL, ho, C.2.2.1]
    rw [if_neg (nI_ge hlt (by omega))]
    refine c_jn_i hw hk C W V a ?_ M 0 (by omega)
    simp only [x_81_49, x_81_52, cl2_i, cl2_r, cl2_n, cl2_l, tl_s, tl_n, true_and, and_true, Option.some.injEq, exists_eq_left', Bool.and_self, Bool.true_and, Bool.and_true, Bool.or_true, Bool.true_or, i_10, i_00, if_true, if_false, not_true_eq_false, not_false_eq_true, and_false, false_and, okp_sI, okp_sL, okp_aI, okp_aL, hR_sI, hR_sL, hR_aI, hR_aL, nI_1]
    exact ih (t + 1) _ (by omega)
theorem m_jn_i {t : Nat} {v0 : Int32} (hw : WF h) (hs : s < 8) (D : ShM h s kd b M tn sx sy ex) (W : ShV b M sx sy) (m : ∀ X Y, Lm h X Y ↔ Alv b M (rch b M sx sy) sx sy X Y) (hK : Tr sc (d + 4) 223 (72, [some (.ref 124), some (.int (nI s)), some (.int 0), some (.int (itI (fun i v => jnS (aB b M sx sy) M i v) v0 M)), some (.int (nI t)), some (.int (nI M))], [], h) Q) : ∀ (n i : Nat), i + n = M → Tr sc (d + 4) 223 (31, [some (.ref 124), some (.int (nI s)), some (.int 0), some (.int (itI (fun i v => jnS (aB b M sx sy) M i v) v0 i)), some (.int (nI t)), some (.int (nI i))], [], h) Q := by
  obtain ⟨-, ⟨m1, m2⟩, -⟩ := id W
  intro n
  induction n with
  | zero =>
    intro i hi
    have e : i = M := by omega
    subst e
    rw [x_223_31]
    simp only [x_223_33, x_223_34, x_223_37, x_223_38, x_223_39, o_124 hw, w_124_18 hw, o_134 hw, iOk_lt (k := 134) (by decide), iRd_lt (k := 134) (by decide), show LN 134 = 8 from rfl, cl2_i, cl2_r, cl2_n, cl2_l, tl_s, tl_n, true_and, and_true, Option.some.injEq, exists_eq_left', Bool.and_self, Bool.true_and, Bool.and_true, Bool.or_true, Bool.true_or, i_10, i_00, if_true, if_false, not_true_eq_false, not_false_eq_true, and_false, false_and, okp_sI, okp_sL, okp_aI, okp_aL, hR_sI, hR_sL, hR_aI, hR_aL, inb_nI (n := 8) hs (by decide), nI_clamp (n := s) (by omega), D.2.2.1]
    rw [if_pos (Int32.le_refl _)]
    exact hK
  | succ n ih =>
    intro i hi
    have hlt : i < M := by omega
    have eb : itI (fun i v => jnS (aB b M sx sy) M i v) v0 (i + 1) = jnS (aB b M sx sy) M i (itI (fun i v => jnS (aB b M sx sy) M i v) v0 i) := rfl
    have ih' := ih (i + 1) (by omega)
    rw [eb] at ih'
    rw [x_223_31]
    simp only [x_223_33, x_223_34, x_223_37, x_223_38, x_223_39, x_223_42, x_223_43, x_223_44, x_223_46, x_223_47, x_223_48, x_223_49, x_223_50, x_223_53, x_223_54, x_223_55, x_223_57, o_124 hw, w_124_18 hw, o_134 hw, iOk_lt (k := 134) (by decide), iRd_lt (k := 134) (by decide), show LN 134 = 8 from rfl, x_223_63, x_223_64, x_223_65, x_223_66, x_223_69, cl2_i, cl2_r, cl2_n, cl2_l, tl_s, tl_n, true_and, and_true, Option.some.injEq, exists_eq_left', Bool.and_self, Bool.true_and, Bool.and_true, Bool.or_true, Bool.true_or, i_10, i_00, if_true, if_false, not_true_eq_false, not_false_eq_true, and_false, false_and, okp_sI, okp_sL, okp_aI, okp_aL, hR_sI, hR_sL, hR_aI, hR_aL, inb_nI (n := 8) hs (by decide), nI_clamp (n := s) (by omega), D.2.2.1, nI_1, Int32.or_zero]
    rw [if_neg (nI_ge hlt (by omega))]
    generalize itI (fun i v => jnS (aB b M sx sy) M i v) v0 i = v at *
    unfold jnS at ih'
    by_cases q : v >>> (nI i &&& 31) &&& 1 = 1
    · rw [if_pos q]
      rw [if_pos q] at ih'
      refine m_besideOf hw hs D W m hlt ?_
      simp only [x_223_60, x_223_63, x_223_64, x_223_65, x_223_66, x_223_69, cl2_i, cl2_r, cl2_n, cl2_l, tl_s, tl_n, true_and, and_true, Option.some.injEq, exists_eq_left', Bool.and_self, Bool.true_and, Bool.and_true, Bool.or_true, Bool.true_or, i_10, i_00, if_true, if_false, not_true_eq_false, not_false_eq_true, and_false, false_and, okp_sI, okp_sL, okp_aI, okp_aL, hR_sI, hR_sL, hR_aI, hR_aL, nI_1]
      exact ih'
    · rw [if_neg q]
      rw [if_neg q] at ih'
      exact ih'
theorem m_jn_o (hw : WF h) (hs : s < 8) (D : ShM h s kd b M tn sx sy ex) (W : ShV b M sx sy) (m : ∀ X Y, Lm h X Y ↔ Alv b M (rch b M sx sy) sx sy X Y) (hK : ∀ l5, Tr sc (d + 4) 223 (78, [some (.ref 124), some (.int (nI s)), some (.int 0), some (.int (jnA (aB b M sx sy) M M)), some (.int (nI M)), l5], [], h) Q) : ∀ (n t : Nat) (l5 : Option Value), t + n = M → Tr sc (d + 4) 223 (17, [some (.ref 124), some (.int (nI s)), some (.int 0), some (.int (jnA (aB b M sx sy) M t)), some (.int (nI t)), l5], [], h) Q := by
  obtain ⟨-, ⟨m1, m2⟩, -⟩ := id W
  intro n
  induction n with
  | zero =>
    intro t l5 ht
    have e : t = M := by omega
    subst e
    rw [x_223_17]
    simp only [x_223_19, x_223_20, x_223_23, x_223_24, x_223_25, o_124 hw, w_124_18 hw, o_134 hw, iOk_lt (k := 134) (by decide), iRd_lt (k := 134) (by decide), show LN 134 = 8 from rfl, cl2_i, cl2_r, cl2_n, cl2_l, tl_s, tl_n, true_and, and_true, Option.some.injEq, exists_eq_left', Bool.and_self, Bool.true_and, Bool.and_true, Bool.or_true, Bool.true_or, i_10, i_00, if_true, if_false, not_true_eq_false, not_false_eq_true, and_false, false_and, okp_sI, okp_sL, okp_aI, okp_aL, hR_sI, hR_sL, hR_aI, hR_aL, inb_nI (n := 8) hs (by decide), nI_clamp (n := s) (by omega), D.2.2.1]
    rw [if_pos (Int32.le_refl _)]
    exact hK l5
  | succ n ih =>
    intro t l5 ht
    have hlt : t < M := by omega
    rw [x_223_17]
    simp only [x_223_19, x_223_20, x_223_23, x_223_24, x_223_25, x_223_28, x_223_29, o_124 hw, w_124_18 hw, o_134 hw, iOk_lt (k := 134) (by decide), iRd_lt (k := 134) (by decide), show LN 134 = 8 from rfl, cl2_i, cl2_r, cl2_n, cl2_l, tl_s, tl_n, true_and, and_true, Option.some.injEq, exists_eq_left', Bool.and_self, Bool.true_and, Bool.and_true, Bool.or_true, Bool.true_or, i_10, i_00, if_true, if_false, not_true_eq_false, not_false_eq_true, and_false, false_and, okp_sI, okp_sL, okp_aI, okp_aL, hR_sI, hR_sL, hR_aI, hR_aL, inb_nI (n := 8) hs (by decide), nI_clamp (n := s) (by omega), D.2.2.1]
    rw [if_neg (nI_ge hlt (by omega))]
    refine m_jn_i hw hs D W m ?_ M 0 (by omega)
    simp only [x_223_72, x_223_75, cl2_i, cl2_r, cl2_n, cl2_l, tl_s, tl_n, true_and, and_true, Option.some.injEq, exists_eq_left', Bool.and_self, Bool.true_and, Bool.and_true, Bool.or_true, Bool.true_or, i_10, i_00, if_true, if_false, not_true_eq_false, not_false_eq_true, and_false, false_and, okp_sI, okp_sL, okp_aI, okp_aL, hR_sI, hR_sL, hR_aI, hR_aL, nI_1]
    exact ih (t + 1) _ (by omega)
theorem both_hangs (hc : CM h) : Both sc 123 223 [.int x] h := by
  have hw := hc.1
  refine glue_st (x := x) (T := True) (CC := fun Q => Tr sc 19 123 (13, [some (.ref 0), some (.int x), some (.int 0)], [], h) Q) (MC := fun h1 Q => Tr sc 17 215 (ent0 215 [.ref 124, .int x] h1) (fun u => Tr sc 18 218 (31, [some (.ref 124), some (.int x), some (.int 0)], u.1.toList ++ [], u.2) (fun u => Tr sc 19 223 (5, [some (.ref 124), some (.int x), none, none, none, none], u.1.toList ++ [], u.2) Q))) hc (fun Q => ?_) (fun h1 Q hw1 => ?_) (fun s hs hx hT hA hst => ?_) (fun A B hAB q => Tr_mono q hAB)
  · rw [e_123]
    simp only [x_123_0, x_123_1, x_123_2, x_123_3, x_123_6, x_123_7, x_123_8, x_123_11, x_123_12, o_0 hw, cl2_i, cl2_r, cl2_n, cl2_l, tl_s, tl_n, true_and, and_true, Option.some.injEq, exists_eq_left', Bool.and_self, Bool.true_and, Bool.and_true, Bool.or_true, Bool.true_or, i_10, i_00, if_true, if_false, not_true_eq_false, not_false_eq_true, and_false, false_and, okp_sI, okp_sL, okp_aI, okp_aL, hR_sI, hR_sL, hR_aI, hR_aL, c_stR hw, i_1m1, i_3m1]
  · rw [e_223]
    simp only [x_223_0, x_223_1, x_223_2, o_124 hw1, cl2_i, cl2_r, cl2_n, cl2_l, tl_s, tl_n, true_and, and_true, Option.some.injEq, exists_eq_left', Bool.and_self, Bool.true_and, Bool.and_true, Bool.or_true, Bool.true_or, i_10, i_00, if_true, if_false, not_true_eq_false, not_false_eq_true, and_false, false_and, okp_sI, okp_sL, okp_aI, okp_aL, hR_sI, hR_sL, hR_aI, hR_aL, m_stR (d := 15) hw1]
    simp only [x_223_5, x_223_6, x_223_7, x_223_10, x_223_11, o_124 hw1, cl2_i, cl2_r, cl2_n, cl2_l, tl_s, tl_n, true_and, and_true, Option.some.injEq, exists_eq_left', Bool.and_self, Bool.true_and, Bool.and_true, Bool.or_true, Bool.true_or, i_10, i_00, if_true, if_false, not_true_eq_false, not_false_eq_true, and_false, false_and, okp_sI, okp_sL, okp_aI, okp_aL, hR_sI, hR_sL, hR_aI, hR_aL, i_m1, i_m3]
  · subst hx
    obtain ⟨kd, b, M, tn, sx, sy, ex, W, C, D⟩ := sh_ab hA
    have W' := shv_of W
    obtain ⟨w1, w2, -⟩ := hw.shape hs
    simp only [x_123_13, x_123_14, x_123_17, x_123_18, x_123_21, x_123_22, x_123_23, o_0 hw, w_0_2 hw, w_0_9 hw, o_24 hw, o_3 hw, show LN 3 = 8 from rfl, cl2_i, cl2_r, cl2_n, cl2_l, tl_s, tl_n, true_and, and_true, Option.some.injEq, exists_eq_left', Bool.and_self, Bool.true_and, Bool.and_true, Bool.or_true, Bool.true_or, i_10, i_00, if_true, if_false, not_true_eq_false, not_false_eq_true, and_false, false_and, okp_sI, okp_sL, okp_aI, okp_aL, hR_sI, hR_sL, hR_aI, hR_aL, inb_nI (n := 8) hs (by decide), nI_clamp (n := s) (by omega), w1, w2]
    refine c_look (d := 15) hw (is_sh hs) C W' (fun H f V a => ?_)
    have hwH := f.WF hw
    have fS : Fq Sc h H := f.wk (fun _ _ => Pv_Sc)
    obtain ⟨w1', w2', -⟩ := hwH.shape hs
    have D' := D.fr fS (fun a j h1 h2 => by unfold Sc; omega)
    have C' := C.fr f (fun a j h1 h2 q => by unfold Pv at q; omega)
    have mod : ∀ v : Int32, v = (if jnA (aB b M sx sy) M M = 1 <<< (nI M &&& 31) - 1 then 1 else 0) → Tr sc 17 215 (ent0 215 [.ref 124, .int (nI s)] H) (fun u => Tr sc 18 218 (31, [some (.ref 124), some (.int (nI s)), some (.int 0)], u.1.toList ++ [], u.2) (fun u => Tr sc 19 223 (5, [some (.ref 124), some (.int (nI s)), none, none, none, none], u.1.toList ++ [], u.2) (fun r2 => r2.1 = some (.int v) ∧ CM r2.2))) := by
      intro v hv
      refine st_model hwH hs D' W' (fun H2 f2 m => ?_)
      have hw2 := f2.WF hwH
      have D2 := D'.fr f2 (fun a j h1 h2 q => by unfold Pa at q; omega)
      have fin := cm_e0 hc (fS.tr (f2.wk (fun _ _ => Pa_Sc)))
      simp only [x_223_5, x_223_6, x_223_7, x_223_10, x_223_11, x_223_12, x_223_13, x_223_14, x_223_15, cl2_i, cl2_r, cl2_n, cl2_l, tl_s, tl_n, true_and, and_true, Option.some.injEq, exists_eq_left', Bool.and_self, Bool.true_and, Bool.and_true, Bool.or_true, Bool.true_or, i_10, i_00, if_true, if_false, not_true_eq_false, not_false_eq_true, and_false, false_and, okp_sI, okp_sL, okp_aI, okp_aL, hR_sI, hR_sL, hR_aI, hR_aL, i_0]
      refine m_jn_o (d := 15) hw2 hs D2 W' m (fun l5 => ?_) M 0 none (by omega)
      simp only [x_223_78, x_223_79, x_223_80, x_223_81, x_223_84, x_223_85, x_223_86, x_223_87, x_223_88, x_223_89, x_223_92, x_223_93, x_223_96, x_223_97, o_124 hw2, w_124_18 hw2, o_134 hw2, iOk_lt (k := 134) (by decide), iRd_lt (k := 134) (by decide), show LN 134 = 8 from rfl, cl2_i, cl2_r, cl2_n, cl2_l, tl_s, tl_n, true_and, and_true, Option.some.injEq, exists_eq_left', Bool.and_self, Bool.true_and, Bool.and_true, Bool.or_true, Bool.true_or, i_10, i_00, if_true, if_false, not_true_eq_false, not_false_eq_true, and_false, false_and, okp_sI, okp_sL, okp_aI, okp_aL, hR_sI, hR_sL, hR_aI, hR_aL, inb_nI (n := 8) hs (by decide), nI_clamp (n := s) (by omega), D2.2.2.1]
      by_cases q : jnA (aB b M sx sy) M M = 1 <<< (nI M &&& 31) - 1
      · rw [if_pos q] at hv ⊢
        rw [hv]
        first | exact fin | exact ⟨rfl, fin⟩ | exact ⟨⟨_, rfl, rfl⟩, fin⟩
      · rw [if_neg q] at hv ⊢
        rw [hv]
        first | exact fin | exact ⟨rfl, fin⟩ | exact ⟨⟨_, rfl, rfl⟩, fin⟩
    simp only [x_123_26, x_123_27, x_123_30, x_123_31, x_123_34, x_123_35, x_123_36, o_0 hwH, w_0_2 hwH, w_0_9 hwH, o_24 hwH, o_3 hwH, show LN 3 = 8 from rfl, cl2_i, cl2_r, cl2_n, cl2_l, tl_s, tl_n, true_and, and_true, Option.some.injEq, exists_eq_left', Bool.and_self, Bool.true_and, Bool.and_true, Bool.or_true, Bool.true_or, i_10, i_00, if_true, if_false, not_true_eq_false, not_false_eq_true, and_false, false_and, okp_sI, okp_sL, okp_aI, okp_aL, hR_sI, hR_sL, hR_aI, hR_aL, inb_nI (n := 8) hs (by decide), nI_clamp (n := s) (by omega), w1', w2']
    rw [e_81]
    simp only [x_81_0, x_81_1, x_81_2, x_81_3, cl2_i, cl2_r, cl2_n, cl2_l, tl_s, tl_n, true_and, and_true, Option.some.injEq, exists_eq_left', Bool.and_self, Bool.true_and, Bool.and_true, Bool.or_true, Bool.true_or, i_10, i_00, if_true, if_false, not_true_eq_false, not_false_eq_true, and_false, false_and, okp_sI, okp_sL, okp_aI, okp_aL, hR_sI, hR_sL, hR_aI, hR_aL]
    refine c_jn_o (d := 16) hwH (is_sh hs) C' W' V a (fun l4 => ?_) M 0 none (by omega)
    simp only [x_81_55, x_81_56, x_81_57, x_81_58, x_81_61, x_81_62, x_81_63, x_81_64, x_81_67, x_81_68, x_81_71, x_81_72, cl2_i, cl2_r, cl2_n, cl2_l, tl_s, tl_n, true_and, and_true, Option.some.injEq, exists_eq_left', Bool.and_self, Bool.true_and, Bool.and_true, Bool.or_true, Bool.true_or, i_10, i_00, if_true, if_false, not_true_eq_false, not_false_eq_true, and_false, false_and, okp_sI, okp_sL, okp_aI, okp_aL, hR_sI, hR_sL, hR_aI, hR_aL, w2', C'.2.2.1, vp_b0, vp_b1]
    by_cases q : jnA (aB b M sx sy) M M = 1 <<< (nI M &&& 31) - 1
    · rw [if_pos q]
      simp only [x_123_39, x_123_42, x_123_43, x_123_46, x_123_47, cl2_i, cl2_r, cl2_n, cl2_l, tl_s, tl_n, true_and, and_true, Option.some.injEq, exists_eq_left', Bool.and_self, Bool.true_and, Bool.and_true, Bool.or_true, Bool.true_or, i_10, i_00, if_true, if_false, not_true_eq_false, not_false_eq_true, and_false, false_and, okp_sI, okp_sL, okp_aI, okp_aL, hR_sI, hR_sL, hR_aI, hR_aL]
      refine ⟨hwH, fS.i (by unfold Sc; omega), fS.i (by unfold Sc; omega), mod 1 (by rw [if_pos q])⟩
    · rw [if_neg q]
      simp only [x_123_39, x_123_42, x_123_43, x_123_46, x_123_47, cl2_i, cl2_r, cl2_n, cl2_l, tl_s, tl_n, true_and, and_true, Option.some.injEq, exists_eq_left', Bool.and_self, Bool.true_and, Bool.and_true, Bool.or_true, Bool.true_or, i_10, i_00, if_true, if_false, not_true_eq_false, not_false_eq_true, and_false, false_and, okp_sI, okp_sL, okp_aI, okp_aL, hR_sI, hR_sL, hR_aI, hR_aL]
      refine ⟨hwH, fS.i (by unfold Sc; omega), fS.i (by unfold Sc; omega), mod 0 (by rw [if_neg q])⟩
end HG
