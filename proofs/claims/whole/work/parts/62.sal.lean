/-! ===== the model's alive vectors ===== -/
def vm (X Y : Int) : Nat := (37 * (Y + 18) + X + 18).toNat
abbrev Lm (h : PH) (X Y : Int) : Prop := ((-18 ≤ X ∧ X ≤ 18) ∧ (-18 ≤ Y ∧ Y ≤ 18)) ∧ ¬ hI h 148 (vm X Y) = 0
def xm (v : Nat) : Int := ((v % 37 : Nat) : Int) - 18
def ym (v : Nat) : Int := ((v / 37 : Nat) : Int) - 18
def Gm (h : PH) (b M : Nat) (sx sy : Nat → Int) (v : Nat) : Prop := ∃ p, p < M * M ∧ Lm h (b * xm v + dX M sx p) (b * ym v + dX M sy p)
def cnM (h : PH) : Nat := cnB (fun v => decide (¬ hI h 148 v = 0)) 1369
def Pa (a b : Nat) : Prop := a = 148
section SA
variable {sc : Nat × (Nat → Int32)} {d : Nat} {Q : PRes → Prop} {h h' H : PH} {k s r b M R i j v p n : Nat} {kd x y : Int32} {tn : Nat → Nat} {sx sy ex : Nat → Int} {X Y : Int}
theorem cnB_0 {g : Nat → Bool} : ∀ (n : Nat), (cnB g n = 0) = (∀ j, j < n → ¬ g j = true)
  | 0 => propext ⟨fun _ j hj => by omega, fun _ => rfl⟩
  | n + 1 => by
    apply propext
    have ih := cnB_0 (g := g) n
    show cnB g n + (if g n = true then 1 else 0) = 0 ↔ _
    constructor
    · intro q j hj
      by_cases e : j = n
      · intro z
        rw [e] at z
        rw [if_pos z] at q
        omega
      · have q2 : cnB g n = 0 := by omega
        rw [ih] at q2
        exact q2 j (by omega)
    · intro q
      have q2 : cnB g n = 0 := by rw [ih]; exact fun j hj => q j (by omega)
      rw [q2, if_neg (q n (by omega))]
theorem iv37 : (37 : Int32) = iv 37 := rfl
theorem iv18 : (18 : Int32) = iv 18 := rfl
theorem m_vector : Tr sc d 212 (ent0 212 [.int (iv X), .int (iv Y)] h) Q = Q (some (.int (iv (37 * (Y + 18) + X + 18))), h) := by
  rw [e_212]
  simp only [x_212_0, x_212_2, x_212_3, x_212_5, x_212_6, x_212_7, x_212_8, x_212_9, x_212_11, x_212_12, cl2_i, cl2_r, cl2_n, cl2_l, tl_s, tl_n, true_and, and_true, Option.some.injEq, exists_eq_left', Bool.and_self, Bool.true_and, Bool.and_true, Bool.or_true, Bool.true_or, i_10, i_00, if_true, if_false, not_true_eq_false, not_false_eq_true, and_false, false_and, okp_sI, okp_sL, okp_aI, okp_aL, hR_sI, hR_sL, hR_aI, hR_aL]
  rw [iv37, iv18, iv_add, iv_mul, iv_add, iv_add]
theorem m_isAlv (hw : WF h) (hX : R3 X) (hY : R3 Y) (Qt : Lm h X Y → Q (some (.int 1), h)) (Qf : ¬ Lm h X Y → Q (some (.int 0), h)) : Tr sc (d + 1) 213 (ent0 213 [.ref 124, .int (iv X), .int (iv Y)] h) Q := by
  have r18 : R3 18 := ⟨by decide, by decide⟩
  have rm18 : R3 (-18) := ⟨by decide, by decide⟩
  have e1 : ∀ Z, R3 Z → ((-18 : Int32) ≤ iv Z ∧ iv Z ≤ 18) = (-18 ≤ Z ∧ Z ≤ 18) := fun Z hZ => by
    rw [show (-18 : Int32) = iv (-18) from rfl, iv18, iv_le rm18 hZ, iv_le hZ r18]
  rw [e_213]
  simp only [x_213_0, x_213_1, x_213_3, x_213_5, x_213_8, x_213_11, x_213_12, x_213_14, x_213_16, x_213_19, x_213_22, x_213_23, x_213_26, x_213_27, x_213_28, x_213_31, x_213_32, x_213_35, x_213_36, x_213_39, x_213_40, o_124 hw, w_124_45 hw, o_148 hw, show LN 148 = 1369 from rfl, cl2_i, cl2_r, cl2_n, cl2_l, tl_s, tl_n, true_and, and_true, Option.some.injEq, exists_eq_left', Bool.and_self, Bool.true_and, Bool.and_true, Bool.or_true, Bool.true_or, i_10, i_00, if_true, if_false, not_true_eq_false, not_false_eq_true, and_false, false_and, okp_sI, okp_sL, okp_aI, okp_aL, hR_sI, hR_sL, hR_aI, hR_aL, m_in, bI_0, m_vector, vp_b0, vp_b1]
  by_cases q1 : -18 ≤ X ∧ X ≤ 18
  · rw [if_neg (show ¬ ¬ ((-18 : Int32) ≤ iv X ∧ iv X ≤ 18) from fun z => z (by rw [e1 X hX]; exact q1))]
    by_cases q2 : -18 ≤ Y ∧ Y ≤ 18
    · rw [if_neg (show ¬ ¬ ((-18 : Int32) ≤ iv Y ∧ iv Y ≤ 18) from fun z => z (by rw [e1 Y hY]; exact q2))]
      have e2 : iv (37 * (Y + 18) + X + 18) = nI (vm X Y) := iv_nn (by omega)
      have hlt : vm X Y < 1369 := by unfold vm; omega
      rw [e2, inb_nI hlt (by decide), nI_clamp (n := vm X Y) (by omega)]
      refine ⟨rfl, ?_⟩
      by_cases q3 : hI h 148 (vm X Y) = 0
      · rw [if_pos q3]; exact Qf (fun z => z.2 q3)
      · rw [if_neg q3]; exact Qt ⟨⟨q1, q2⟩, q3⟩
    · rw [if_pos (show ¬ ((-18 : Int32) ≤ iv Y ∧ iv Y ≤ 18) from fun z => q2 (by rw [← e1 Y hY]; exact z))]
      exact Qf (fun z => q2 z.1.2)
  · rw [if_pos (show ¬ ((-18 : Int32) ≤ iv X ∧ iv X ≤ 18) from fun z => q1 (by rw [← e1 X hX]; exact z))]
    exact Qf (fun z => q1 z.1.1)
theorem vm_xm (hv : v < 1369) : vm (xm v) (ym v) = v ∧ (-18 ≤ xm v ∧ xm v ≤ 18) ∧ (-18 ≤ ym v ∧ ym v ≤ 18) := by
  unfold vm xm ym
  omega
theorem xm_vm (q1 : -18 ≤ X ∧ X ≤ 18) (q2 : -18 ≤ Y ∧ Y ≤ 18) : xm (vm X Y) = X ∧ ym (vm X Y) = Y ∧ vm X Y < 1369 := by
  unfold vm xm ym
  omega
def gL (h : PH) (b M : Nat) (sx sy : Nat → Int) (X Y : Int) (q : Nat) : Bool := decide (Lm h (b * X + dX M sx q) (b * Y + dX M sy q))
theorem cnB_s {g : Nat → Bool} {n : Nat} : nI (cnB g (n + 1)) = nI (cnB g n) + (if g n = true then 1 else 0) := by
  show nI (cnB g n + (if g n = true then 1 else 0)) = _
  split
  · rw [nI_succ]
  · rw [Nat.add_zero, Int32.add_zero]
theorem m_go_j (hw : WF h) (hs : s < 8) (D : ShM h s kd b M tn sx sy ex) (W : ShV b M sx sy) (hi : i < M) (hX : -18 ≤ X ∧ X ≤ 18) (hY : -18 ≤ Y ∧ Y ≤ 18) (hK : ∀ l7 l8, cl2 l7 = l7 → Tr sc (d + 2) 214 (130, [some (.ref 124), some (.int (nI s)), some (.int (iv X)), some (.int (iv Y)), some (.int (nI (cnB (gL h b M sx sy X Y) (i * M + M)))), some (.int (nI i)), some (.int (nI M)), l7, l8], [], h) Q) : ∀ (n j : Nat) (l7 l8 : Option Value), cl2 l7 = l7 → j + n = M → Tr sc (d + 2) 214 (20, [some (.ref 124), some (.int (nI s)), some (.int (iv X)), some (.int (iv Y)), some (.int (nI (cnB (gL h b M sx sy X Y) (i * M + j)))), some (.int (nI i)), some (.int (nI j)), l7, l8], [], h) Q := by
  obtain ⟨⟨b1, b2⟩, ⟨m1, m2⟩, wt⟩ := id W
  obtain ⟨d1, d2, d3, d4⟩ := D
  have bx := mulB (a := (b : Int)) (A := 4) (b := X) (B := 18) (by omega) hX
  have by' := mulB (a := (b : Int)) (A := 4) (b := Y) (B := 18) (by omega) hY
  intro n
  induction n with
  | zero =>
    intro j l7 l8 hl hj
    have e : j = M := by omega
    subst e
    rw [x_214_20]
    simp only [x_214_22, x_214_23, x_214_26, x_214_27, x_214_28, o_124 hw, w_124_18 hw, o_134 hw, iOk_lt (k := 134) (by decide), iRd_lt (k := 134) (by decide), show LN 134 = 8 from rfl, cl2_i, cl2_r, cl2_n, cl2_l, tl_s, tl_n, true_and, and_true, Option.some.injEq, exists_eq_left', Bool.and_self, Bool.true_and, Bool.and_true, Bool.or_true, Bool.true_or, i_10, i_00, if_true, if_false, not_true_eq_false, not_false_eq_true, and_false, false_and, okp_sI, okp_sL, okp_aI, okp_aL, hR_sI, hR_sL, hR_aI, hR_aL, inb_nI (n := 8) hs (by decide), nI_clamp (n := s) (by omega), d3]
    rw [if_pos (Int32.le_refl _)]
    exact hK l7 l8 hl
  | succ n ih =>
    intro j l7 l8 hl hj
    have hlt : j < M := by omega
    have hp : i * M + j < M * M := sq_lt hi hlt
    have e1 := dX_b (fun i hi => (wt i hi).1) m1 hp
    have e2 := dX_b (fun i hi => (wt i hi).2) m1 hp
    have f1 := dX_at (f := sx) hi hlt
    have f2 := dX_at (f := sy) hi hlt
    have g1 : iv ((b : Int) * X) + iv (sx j) - iv (sx i) = iv (b * X + dX M sx (i * M + j)) := by rw [iv_add, iv_sub, f1, Int.add_sub_assoc]
    have g2 : iv ((b : Int) * Y) + iv (sy j) - iv (sy i) = iv (b * Y + dX M sy (i * M + j)) := by rw [iv_add, iv_sub, f2, Int.add_sub_assoc]
    rw [x_214_20]
    simp only [x_214_22, x_214_23, x_214_26, x_214_27, x_214_28, x_214_31, x_214_32, x_214_35, x_214_36, x_214_37, x_214_38, x_214_39, x_214_40, x_214_43, x_214_45, x_214_46, x_214_47, x_214_49, x_214_50, x_214_51, x_214_52, x_214_53, x_214_56, x_214_58, x_214_59, x_214_60, x_214_62, x_214_63, x_214_64, x_214_65, x_214_67, x_214_68, x_214_71, x_214_72, x_214_73, x_214_74, x_214_75, x_214_76, x_214_79, x_214_81, x_214_82, x_214_83, x_214_85, x_214_86, x_214_87, x_214_88, x_214_89, x_214_92, x_214_94, x_214_95, x_214_96, x_214_98, x_214_99, x_214_100, x_214_101, x_214_103, x_214_105, x_214_106, x_214_108, x_214_110, o_124 hw, w_124_17 hw, w_124_18 hw, w_124_20 hw, w_124_21 hw, o_134 hw, iOk_lt (k := 134) (by decide), iRd_lt (k := 134) (by decide), show LN 134 = 8 from rfl, o_133 hw, iOk_lt (k := 133) (by decide), iRd_lt (k := 133) (by decide), show LN 133 = 8 from rfl, o_136 hw, iOk_lt (k := 136) (by decide), iRd_lt (k := 136) (by decide), show LN 136 = 48 from rfl, o_137 hw, iOk_lt (k := 137) (by decide), iRd_lt (k := 137) (by decide), show LN 137 = 48 from rfl, cl2_i, cl2_r, cl2_n, cl2_l, tl_s, tl_n, true_and, and_true, Option.some.injEq, exists_eq_left', Bool.and_self, Bool.true_and, Bool.and_true, Bool.or_true, Bool.true_or, i_10, i_00, if_true, if_false, not_true_eq_false, not_false_eq_true, and_false, false_and, okp_sI, okp_sL, okp_aI, okp_aL, hR_sI, hR_sL, hR_aI, hR_aL, hl, inb_nI (n := 8) hs (by decide), nI_clamp (n := s) (by omega), d2, d3, mv_ix hs (show i < 6 by omega), mv_ix hs (show j < 6 by omega), inb_nI (n := 48) (show 6 * s + i < 48 by omega) (by decide), inb_nI (n := 48) (show 6 * s + j < 48 by omega) (by decide), nI_clamp (n := 6 * s + i) (by omega), nI_clamp (n := 6 * s + j) (by omega), (d4 i hi).2.1, (d4 i hi).2.2.1, (d4 j hlt).2.1, (d4 j hlt).2.2.1, iv_n b, iv_mul, g1, g2]
    rw [if_neg (nI_ge hlt (by omega))]
    have key : ∀ c : Int32, c = (if gL h b M sx sy X Y (i * M + j) = true then 1 else 0) → Tr sc (d + 2) 214 (121, [some (.ref 124), some (.int (nI s)), some (.int (iv X)), some (.int (iv Y)), some (.int (nI (cnB (gL h b M sx sy X Y) (i * M + j)))), some (.int (nI i)), some (.int (nI j)), some (.int (iv (b * X + dX M sx (i * M + j)))), some (.int (iv (b * Y + dX M sy (i * M + j))))], [.int c, .int (nI (cnB (gL h b M sx sy X Y) (i * M + j)))], h) Q := by
      intro c hc
      have e3 := cnB_s (g := gL h b M sx sy X Y) (n := i * M + j)
      rw [← hc] at e3
      simp only [x_214_121, x_214_122, x_214_124, x_214_127, cl2_i, cl2_r, cl2_n, cl2_l, tl_s, tl_n, true_and, and_true, Option.some.injEq, exists_eq_left', Bool.and_self, Bool.true_and, Bool.and_true, Bool.or_true, Bool.true_or, i_10, i_00, if_true, if_false, not_true_eq_false, not_false_eq_true, and_false, false_and, okp_sI, okp_sL, okp_aI, okp_aL, hR_sI, hR_sL, hR_aI, hR_aL, nI_1, ← e3]
      exact ih (j + 1) _ _ rfl (by omega)
    refine m_isAlv hw ⟨by omega, by omega⟩ ⟨by omega, by omega⟩ (fun z => ?_) (fun z => ?_)
    · simp only [x_214_113, x_214_116, x_214_117, x_214_120, cl2_i, cl2_r, cl2_n, cl2_l, tl_s, tl_n, true_and, and_true, Option.some.injEq, exists_eq_left', Bool.and_self, Bool.true_and, Bool.and_true, Bool.or_true, Bool.true_or, i_10, i_00, if_true, if_false, not_true_eq_false, not_false_eq_true, and_false, false_and, okp_sI, okp_sL, okp_aI, okp_aL, hR_sI, hR_sL, hR_aI, hR_aL]
      exact key 1 (by rw [if_pos (show gL h b M sx sy X Y (i * M + j) = true from decide_eq_true z)])
    · simp only [x_214_113, x_214_116, x_214_117, x_214_120, cl2_i, cl2_r, cl2_n, cl2_l, tl_s, tl_n, true_and, and_true, Option.some.injEq, exists_eq_left', Bool.and_self, Bool.true_and, Bool.and_true, Bool.or_true, Bool.true_or, i_10, i_00, if_true, if_false, not_true_eq_false, not_false_eq_true, and_false, false_and, okp_sI, okp_sL, okp_aI, okp_aL, hR_sI, hR_sL, hR_aI, hR_aL]
      exact key 0 (by rw [if_neg (show ¬ gL h b M sx sy X Y (i * M + j) = true from fun q => z (of_decide_eq_true q))])
theorem m_go_i (hw : WF h) (hs : s < 8) (D : ShM h s kd b M tn sx sy ex) (W : ShV b M sx sy) (hX : -18 ≤ X ∧ X ≤ 18) (hY : -18 ≤ Y ∧ Y ≤ 18) (hQ : Q (some (.int (nI (cnB (gL h b M sx sy X Y) (M * M)))), h)) : ∀ (n i : Nat) (l6 l7 l8 : Option Value), cl2 l6 = l6 → cl2 l7 = l7 → i + n = M → Tr sc (d + 2) 214 (6, [some (.ref 124), some (.int (nI s)), some (.int (iv X)), some (.int (iv Y)), some (.int (nI (cnB (gL h b M sx sy X Y) (i * M)))), some (.int (nI i)), l6, l7, l8], [], h) Q := by
  obtain ⟨⟨b1, b2⟩, ⟨m1, m2⟩, wt⟩ := id W
  intro n
  induction n with
  | zero =>
    intro i l6 l7 l8 h6 h7 hi
    have e : i = M := by omega
    subst e
    rw [x_214_6]
    simp only [x_214_8, x_214_9, x_214_12, x_214_13, x_214_14, o_124 hw, w_124_18 hw, o_134 hw, iOk_lt (k := 134) (by decide), iRd_lt (k := 134) (by decide), show LN 134 = 8 from rfl, x_214_136, x_214_138, cl2_i, cl2_r, cl2_n, cl2_l, tl_s, tl_n, true_and, and_true, Option.some.injEq, exists_eq_left', Bool.and_self, Bool.true_and, Bool.and_true, Bool.or_true, Bool.true_or, i_10, i_00, if_true, if_false, not_true_eq_false, not_false_eq_true, and_false, false_and, okp_sI, okp_sL, okp_aI, okp_aL, hR_sI, hR_sL, hR_aI, hR_aL, inb_nI (n := 8) hs (by decide), nI_clamp (n := s) (by omega), D.2.2.1]
    rw [if_pos (Int32.le_refl _)]
    exact hQ
  | succ n ih =>
    intro i l6 l7 l8 h6 h7 hi
    have hlt : i < M := by omega
    rw [x_214_6]
    simp only [x_214_8, x_214_9, x_214_12, x_214_13, x_214_14, x_214_17, x_214_18, o_124 hw, w_124_18 hw, o_134 hw, iOk_lt (k := 134) (by decide), iRd_lt (k := 134) (by decide), show LN 134 = 8 from rfl, cl2_i, cl2_r, cl2_n, cl2_l, tl_s, tl_n, true_and, and_true, Option.some.injEq, exists_eq_left', Bool.and_self, Bool.true_and, Bool.and_true, Bool.or_true, Bool.true_or, i_10, i_00, if_true, if_false, not_true_eq_false, not_false_eq_true, and_false, false_and, okp_sI, okp_sL, okp_aI, okp_aL, hR_sI, hR_sL, hR_aI, hR_aL, inb_nI (n := 8) hs (by decide), nI_clamp (n := s) (by omega), D.2.2.1, h6, h7]
    rw [if_neg (nI_ge hlt (by omega))]
    refine m_go_j hw hs D W hlt hX hY (fun l7' l8' h7' => ?_) M 0 l7 l8 h7 (by omega)
    simp only [x_214_130, x_214_133, cl2_i, cl2_r, cl2_n, cl2_l, tl_s, tl_n, true_and, and_true, Option.some.injEq, exists_eq_left', Bool.and_self, Bool.true_and, Bool.and_true, Bool.or_true, Bool.true_or, i_10, i_00, if_true, if_false, not_true_eq_false, not_false_eq_true, and_false, false_and, okp_sI, okp_sL, okp_aI, okp_aL, hR_sI, hR_sL, hR_aI, hR_aL, nI_1]
    have e := ih (i + 1) (some (.int (nI M))) l7' l8' rfl h7' (by omega)
    rw [Nat.add_mul, Nat.one_mul] at e
    exact e
theorem m_goOn (hw : WF h) (hs : s < 8) (D : ShM h s kd b M tn sx sy ex) (W : ShV b M sx sy) (hX : -18 ≤ X ∧ X ≤ 18) (hY : -18 ≤ Y ∧ Y ≤ 18) (hQ : Q (some (.int (nI (cnB (gL h b M sx sy X Y) (M * M)))), h)) : Tr sc (d + 2) 214 (ent0 214 [.ref 124, .int (nI s), .int (iv X), .int (iv Y)] h) Q := by
  rw [e_214]
  simp only [x_214_0, x_214_1, x_214_3, x_214_4, cl2_i, cl2_r, cl2_n, cl2_l, tl_s, tl_n, true_and, and_true, Option.some.injEq, exists_eq_left', Bool.and_self, Bool.true_and, Bool.and_true, Bool.or_true, Bool.true_or, i_10, i_00, if_true, if_false, not_true_eq_false, not_false_eq_true, and_false, false_and, okp_sI, okp_sL, okp_aI, okp_aL, hR_sI, hR_sL, hR_aI, hR_aL]
  have e := m_go_i (sc := sc) (d := d) hw hs D W hX hY hQ M 0 none none none rfl rfl (by omega)
  rw [Nat.zero_mul] at e
  exact e
theorem xm_i (hv : v < 1369) : nI v - nI v / 37 * 37 - 18 = iv (xm v) ∧ nI v / 37 - 18 = iv (ym v) := by
  have e1 := pk_rem (a := v) (d := 37) (by omega) (by decide) (by decide)
  have e2 := pk_div (a := v) (d := 37) (by omega) (by decide) (by decide)
  rw [show nI 37 = 37 from rfl] at e1 e2
  rw [e1, e2, iv18, iv_n, iv_n, iv_sub, iv_sub]
  exact ⟨rfl, rfl⟩
/-- within the bounds: what the model keeps while it sweeps -/
def Ib (h : PH) (R : Nat) : Prop := ∀ X Y, Lm h X Y → inX R X Y
theorem m_sa_f {l4 : Option Value} (hw : WF h) (hR : R ≤ 18) (hl : cl2 l4 = l4) (hK : ∀ H, Fq Pa h H → (∀ u, u < 1369 → (¬ hI H 148 u = 0 ↔ inX R (xm u) (ym u))) → Tr sc (d + 1) 215 (64, [some (.ref 124), some (.int x), some (.int (nI R)), some (.int (nI 1369)), l4], [], H) Q) : ∀ (n v : Nat) (H : PH), v + n = 1369 → Fq Pa h H → (∀ u, u < v → (¬ hI H 148 u = 0 ↔ inX R (xm u) (ym u))) → Tr sc (d + 1) 215 (8, [some (.ref 124), some (.int x), some (.int (nI R)), some (.int (nI v)), l4], [], H) Q := by
  have rR : R3 (R : Int) := ⟨by omega, by omega⟩
  have rN : R3 (-(R : Int)) := ⟨by omega, by omega⟩
  intro n
  induction n with
  | zero =>
    intro v H hv f a1
    have e : v = 1369 := by omega
    subst e
    rw [x_215_8]
    simp only [x_215_9, x_215_12, cl2_i, cl2_r, cl2_n, cl2_l, tl_s, tl_n, true_and, and_true, Option.some.injEq, exists_eq_left', Bool.and_self, Bool.true_and, Bool.and_true, Bool.or_true, Bool.true_or, i_10, i_00, if_true, if_false, not_true_eq_false, not_false_eq_true, and_false, false_and, okp_sI, okp_sL, okp_aI, okp_aL, hR_sI, hR_sL, hR_aI, hR_aL]
    rw [if_pos (by decide)]
    exact hK H f a1
  | succ n ih =>
    intro v H hv f a1
    have hlt : v < 1369 := by omega
    have hwH := f.WF hw
    obtain ⟨g1, g2⟩ := xm_i hlt
    obtain ⟨-, hx, hy⟩ := vm_xm hlt
    have c1 : (iv (-(R : Int)) ≤ iv (xm v) ∧ iv (xm v) ≤ iv (R : Int)) = (-(R : Int) ≤ xm v ∧ xm v ≤ R) := by rw [iv_le rN ⟨by omega, by omega⟩, iv_le ⟨by omega, by omega⟩ rR]
    have c2 : (iv (-(R : Int)) ≤ iv (ym v) ∧ iv (ym v) ≤ iv (R : Int)) = (-(R : Int) ≤ ym v ∧ ym v ≤ R) := by rw [iv_le rN ⟨by omega, by omega⟩, iv_le ⟨by omega, by omega⟩ rR]
    have key : ∀ c : Int32, (c = 0 ∨ c = 1) → (¬ c = 0 ↔ inX R (xm v) (ym v)) → Tr sc (d + 1) 215 (57, [some (.ref 124), some (.int x), some (.int (nI R)), some (.int (nI v)), l4], [.int c, .int (nI v), .ref 148], H) Q := by
      intro c hc0 hc
      have hn : vp_nar .boolean c = c := by rcases hc0 with q | q <;> rw [q] <;> rfl
      simp only [x_215_57, x_215_58, x_215_61, o_124 hwH, cl2_i, cl2_r, cl2_n, cl2_l, tl_s, tl_n, true_and, and_true, Option.some.injEq, exists_eq_left', Bool.and_self, Bool.true_and, Bool.and_true, Bool.or_true, Bool.true_or, i_10, i_00, if_true, if_false, not_true_eq_false, not_false_eq_true, and_false, false_and, okp_sI, okp_sL, okp_aI, okp_aL, hR_sI, hR_sL, hR_aI, hR_aL, o_148 hwH, show LN 148 = 1369 from rfl, inb_nI (n := 1369) hlt (by decide), nI_clamp (n := v) (by omega), nI_1, hn]
      refine ih (v + 1) _ (by omega) (f.sI rfl) (fun u hu => ?_)
      rw [hI_sI, if_pos rfl]
      by_cases e : u = v
      · rw [if_pos e, e]; exact hc
      · rw [if_neg e]; exact a1 u (by omega)
    rw [x_215_8]
    have n37 : ¬ (37 : Int32) = 0 := by decide
    simp only [x_215_9, x_215_12, x_215_15, x_215_16, x_215_19, x_215_20, x_215_21, x_215_23, x_215_24, x_215_26, x_215_27, x_215_28, x_215_29, x_215_30, x_215_33, x_215_36, x_215_37, x_215_39, x_215_40, x_215_42, x_215_43, x_215_44, x_215_45, x_215_46, x_215_49, x_215_52, x_215_53, x_215_56, o_124 hwH, w_124_45 hwH, o_148 hwH, show LN 148 = 1369 from rfl, cl2_i, cl2_r, cl2_n, cl2_l, tl_s, tl_n, true_and, and_true, Option.some.injEq, exists_eq_left', Bool.and_self, Bool.true_and, Bool.and_true, Bool.or_true, Bool.true_or, i_10, i_00, if_true, if_false, not_true_eq_false, not_false_eq_true, and_false, false_and, okp_sI, okp_sL, okp_aI, okp_aL, hR_sI, hR_sL, hR_aI, hR_aL, n37, g1, g2, m_in, bI_0, iv_n R, iv_neg]
    rw [if_neg (show ¬ (1369 : Int32) ≤ nI v from nI_ge (a := v) (b := 1369) hlt (by decide)), ← iv_n R]
    by_cases q1 : -(R : Int) ≤ xm v ∧ xm v ≤ R
    · rw [if_neg (show ¬ ¬ (iv (-(R : Int)) ≤ iv (xm v) ∧ iv (xm v) ≤ nI R) from fun z => z (by rw [iv_n R, c1]; exact q1))]
      by_cases q2 : -(R : Int) ≤ ym v ∧ ym v ≤ R
      · rw [if_neg (show ¬ ¬ (iv (-(R : Int)) ≤ iv (ym v) ∧ iv (ym v) ≤ nI R) from fun z => z (by rw [iv_n R, c2]; exact q2))]
        exact key 1 (Or.inr rfl) ⟨fun _ => ⟨q1, q2⟩, fun _ => by decide⟩
      · rw [if_pos (show ¬ (iv (-(R : Int)) ≤ iv (ym v) ∧ iv (ym v) ≤ nI R) from fun z => q2 (by rw [iv_n R, c2] at z; exact z))]
        exact key 0 (Or.inl rfl) ⟨fun z => absurd rfl z, fun z => absurd z.2 q2⟩
    · rw [if_pos (show ¬ (iv (-(R : Int)) ≤ iv (xm v) ∧ iv (xm v) ≤ nI R) from fun z => q1 (by rw [iv_n R, c1] at z; exact z))]
      exact key 0 (Or.inl rfl) ⟨fun z => absurd rfl z, fun z => absurd z.1 q1⟩
theorem m_sa_w (hw : WF h) (hs : s < 8) (D : ShM h s kd b M tn sx sy ex) (W : ShV b M sx sy) (hK : ∀ h' (c : Int32), Fq Pa h h' → (∀ X Y, Alv b M R sx sy X Y → Lm h' X Y) → Ib h' R → (c = 0 ∧ (∀ u, hI h' 148 u = hI h 148 u) ∧ (∀ u, u < 1369 → ¬ hI h 148 u = 0 → Gm h b M sx sy u) ∨ c = 1 ∧ cnM h' < cnM h) → Tr sc (d + 3) 215 (66, [some (.ref 124), some (.int (nI s)), some (.int y), some (.int c), some (.int (nI 1369))], [], h') Q) : ∀ (n v : Nat) (H : PH) (c : Int32), v + n = 1369 → Fq Pa h H → (∀ X Y, Alv b M R sx sy X Y → Lm H X Y) → Ib H R → (c = 0 ∧ (∀ u, hI H 148 u = hI h 148 u) ∧ (∀ u, u < v → ¬ hI h 148 u = 0 → Gm h b M sx sy u) ∨ c = 1 ∧ cnM H < cnM h) → Tr sc (d + 3) 215 (75, [some (.ref 124), some (.int (nI s)), some (.int y), some (.int c), some (.int (nI v))], [], H) Q := by
  intro n
  induction n with
  | zero =>
    intro v H c hv f sup ib inv
    have e : v = 1369 := by omega
    subst e
    rw [x_215_75]
    simp only [x_215_77, x_215_80, x_215_133, cl2_i, cl2_r, cl2_n, cl2_l, tl_s, tl_n, true_and, and_true, Option.some.injEq, exists_eq_left', Bool.and_self, Bool.true_and, Bool.and_true, Bool.or_true, Bool.true_or, i_10, i_00, if_true, if_false, not_true_eq_false, not_false_eq_true, and_false, false_and, okp_sI, okp_sL, okp_aI, okp_aL, hR_sI, hR_sL, hR_aI, hR_aL]
    rw [if_pos (by decide)]
    exact hK H c f sup ib inv
  | succ n ih =>
    intro v H c hv f sup ib inv
    have hlt : v < 1369 := by omega
    have hwH := f.WF hw
    have D' := D.fr f (fun a j h1 h2 q => by unfold Pa at q; omega)
    obtain ⟨g1, g2⟩ := xm_i hlt
    obtain ⟨gv, hx, hy⟩ := vm_xm hlt
    have n37 : ¬ (37 : Int32) = 0 := by decide
    rw [x_215_75]
    simp only [x_215_77, x_215_80, x_215_83, x_215_84, x_215_87, x_215_89, x_215_90, x_215_93, x_215_94, x_215_95, x_215_97, x_215_99, x_215_100, x_215_102, x_215_103, x_215_105, x_215_107, x_215_108, x_215_110, x_215_111, o_124 hwH, w_124_45 hwH, o_148 hwH, show LN 148 = 1369 from rfl, cl2_i, cl2_r, cl2_n, cl2_l, tl_s, tl_n, true_and, and_true, Option.some.injEq, exists_eq_left', Bool.and_self, Bool.true_and, Bool.and_true, Bool.or_true, Bool.true_or, i_10, i_00, if_true, if_false, not_true_eq_false, not_false_eq_true, and_false, false_and, okp_sI, okp_sL, okp_aI, okp_aL, hR_sI, hR_sL, hR_aI, hR_aL, inb_nI (n := 1369) hlt (by decide), nI_clamp (n := v) (by omega), n37, g1, g2]
    rw [if_neg (show ¬ (1369 : Int32) ≤ nI v from nI_ge (a := v) (b := 1369) hlt (by decide))]
    by_cases q1 : hI H 148 v = 0
    · rw [if_pos q1]
      simp only [x_215_127, x_215_130, cl2_i, cl2_r, cl2_n, cl2_l, tl_s, tl_n, true_and, and_true, Option.some.injEq, exists_eq_left', Bool.and_self, Bool.true_and, Bool.and_true, Bool.or_true, Bool.true_or, i_10, i_00, if_true, if_false, not_true_eq_false, not_false_eq_true, and_false, false_and, okp_sI, okp_sL, okp_aI, okp_aL, hR_sI, hR_sL, hR_aI, hR_aL, nI_1]
      refine ih (v + 1) H c (by omega) f sup ib ?_
      rcases inv with ⟨i1, i2, i3⟩ | i1
      · refine Or.inl ⟨i1, i2, fun u hu z => ?_⟩
        by_cases e : u = v
        · exact absurd (by rw [← i2 u, e]; exact q1) z
        · exact i3 u (by omega) z
      · exact Or.inr i1
    · rw [if_neg q1]
      refine m_goOn hwH hs D' W hx hy ?_
      have hcb : cnB (gL H b M sx sy (xm v) (ym v)) (M * M) ≤ 36 := Nat.le_trans (cnB_n _) (Nat.mul_le_mul W.2.1.2 W.2.1.2)
      by_cases z : cnB (gL H b M sx sy (xm v) (ym v)) (M * M) = 0
      · simp only [x_215_114, x_215_117, x_215_118, x_215_121, x_215_123, x_215_124, x_215_125, x_215_126, x_215_127, x_215_130, o_124 hwH, w_124_45 hwH, o_148 hwH, show LN 148 = 1369 from rfl, cl2_i, cl2_r, cl2_n, cl2_l, tl_s, tl_n, true_and, and_true, Option.some.injEq, exists_eq_left', Bool.and_self, Bool.true_and, Bool.and_true, Bool.or_true, Bool.true_or, i_10, i_00, if_true, if_false, not_true_eq_false, not_false_eq_true, and_false, false_and, okp_sI, okp_sL, okp_aI, okp_aL, hR_sI, hR_sL, hR_aI, hR_aL, z, nI_0, inb_nI (n := 1369) hlt (by decide), nI_clamp (n := v) (by omega), nI_1, vp_b0]
        rw [cnB_0] at z
        have z' : ¬ Gm H b M sx sy v := fun ⟨p, hp, l⟩ => z p hp (decide_eq_true l)
        have hcn : cnM (sI H 148 v 0) < cnM H := by
          refine cnB_lt _ (fun j hj q => ?_) ⟨v, hlt, decide_eq_true q1, fun q => ?_⟩
          · have q2 := of_decide_eq_true q
            refine decide_eq_true (fun e => q2 ?_)
            rw [hI_sI, if_pos rfl]
            by_cases e3 : j = v
            · rw [if_pos e3]
            · rw [if_neg e3]; exact e
          · have q2 := of_decide_eq_true q
            exact q2 (by rw [hI_sI, if_pos rfl, if_pos rfl])
        refine ih (v + 1) _ 1 (by omega) (f.sI rfl) (fun X Y a => ?_) (fun X Y l => ?_) (Or.inr ⟨rfl, ?_⟩)
        · obtain ⟨⟨l0, l1⟩, l2⟩ := sup X Y a
          refine ⟨⟨l0, l1⟩, ?_⟩
          rw [hI_sI, if_pos rfl]
          by_cases e : vm X Y = v
          · exfalso
            obtain ⟨e1, e2, -⟩ := xm_vm l0 l1
            obtain ⟨⟨u1, u2⟩, ⟨p, hp, k1, k2⟩, ga⟩ := Gf_s a
            refine z' ⟨p, hp, ?_⟩
            rw [← e, e1, e2]
            have g3 := sup u1 u2 ga
            simp only at k1 k2
            rw [k1, k2] at g3
            exact g3
          · rw [if_neg e]; exact l2
        · refine ib X Y ⟨l.1, fun e => l.2 ?_⟩
          rw [hI_sI, if_pos rfl]
          by_cases e3 : vm X Y = v
          · rw [if_pos e3]
          · rw [if_neg e3]; exact e
        · rcases inv with ⟨i1, i2, i3⟩ | ⟨i1, i2⟩
          · have e : cnM H = cnM h := by
              unfold cnM
              congr 1
              funext u
              rw [i2 u]
            rw [← e]; exact hcn
          · exact Nat.lt_trans hcn i2
      · have z2 : ¬ nI (cnB (gL H b M sx sy (xm v) (ym v)) (M * M)) = 0 := nI_ne0 (by omega) (by omega)
        simp only [x_215_114, x_215_127, x_215_130, cl2_i, cl2_r, cl2_n, cl2_l, tl_s, tl_n, true_and, and_true, Option.some.injEq, exists_eq_left', Bool.and_self, Bool.true_and, Bool.and_true, Bool.or_true, Bool.true_or, i_10, i_00, if_true, if_false, not_true_eq_false, not_false_eq_true, and_false, false_and, okp_sI, okp_sL, okp_aI, okp_aL, hR_sI, hR_sL, hR_aI, hR_aL, nI_1, z2]
        refine ih (v + 1) H c (by omega) f sup ib ?_
        rcases inv with ⟨i1, i2, i3⟩ | i1
        · refine Or.inl ⟨i1, i2, fun u hu zz => ?_⟩
          by_cases e : u = v
          · subst e
            rw [cnB_0] at z
            have : Gm H b M sx sy u := Classical.byContradiction (fun ng => z (fun p hp q => ng ⟨p, hp, of_decide_eq_true q⟩))
            obtain ⟨p, hp, l1, l2⟩ := this
            exact ⟨p, hp, l1, by rw [← i2]; exact l2⟩
          · exact i3 u (by omega) zz
        · exact Or.inr i1
theorem m_sa_o (hw : WF h) (hs : s < 8) (D : ShM h s kd b M tn sx sy ex) (W : ShV b M sx sy) (hK : ∀ H, Fq Pa h H → (∀ X Y, Lm H X Y ↔ Alv b M R sx sy X Y) → Q (none, H)) : ∀ (n : Nat) (H : PH) (c : Int32) (l4 : Option Value), cl2 l4 = l4 → cnM H < n → Fq Pa h H → (∀ X Y, Alv b M R sx sy X Y → Lm H X Y) → Ib H R → (c = 0 ∧ (∀ u, u < 1369 → ¬ hI H 148 u = 0 → Gm H b M sx sy u) ∨ c = 1) → Tr sc (d + 3) 215 (66, [some (.ref 124), some (.int (nI s)), some (.int y), some (.int c), l4], [], H) Q := by
  have fin : ∀ H, Fq Pa h H → (∀ X Y, Alv b M R sx sy X Y → Lm H X Y) → Ib H R → (∀ u, u < 1369 → ¬ hI H 148 u = 0 → Gm H b M sx sy u) → Q (none, H) := fun H f sup ib g => hK H f (fun X Y => ⟨fun l => ⟨fun p => Lm H p.1 p.2, l, fun u hu => ⟨ib _ _ hu, by
    obtain ⟨e1, e2, e3⟩ := xm_vm hu.1.1 hu.1.2
    obtain ⟨p, hp, z⟩ := g _ e3 hu.2
    rw [e1, e2] at z
    exact ⟨(_, _), ⟨p, hp, rfl, rfl⟩, z⟩⟩⟩, sup X Y⟩)
  intro n
  induction n with
  | zero => intro H c l4 hl hn; omega
  | succ n ih =>
    intro H c l4 hl hn f sup ib inv
    have hwH := f.WF hw
    rw [x_215_66]
    simp only [x_215_67, x_215_70, x_215_71, x_215_72, x_215_73, x_215_136, cl2_i, cl2_r, cl2_n, cl2_l, tl_s, tl_n, true_and, and_true, Option.some.injEq, exists_eq_left', Bool.and_self, Bool.true_and, Bool.and_true, Bool.or_true, Bool.true_or, i_10, i_00, if_true, if_false, not_true_eq_false, not_false_eq_true, and_false, false_and, okp_sI, okp_sL, okp_aI, okp_aL, hR_sI, hR_sL, hR_aI, hR_aL, hl]
    rcases inv with ⟨i1, i2⟩ | i1
    · rw [if_pos i1]
      exact fin H f sup ib i2
    · rw [if_neg (by rw [i1]; decide)]
      have D' := D.fr f (fun a j h1 h2 q => by unfold Pa at q; omega)
      refine m_sa_w (h := H) (R := R) hwH hs D' W (fun H2 c2 f2 sup2 ib2 alt => ?_) 1369 0 H 0 (by omega) Fq.rf sup ib (Or.inl ⟨rfl, fun _ => rfl, fun u hu => by omega⟩)
      rcases alt with ⟨j1, j2, j3⟩ | ⟨j1, j2⟩
      · -- nothing fell: one look at the flag, and it ends
        rw [x_215_66]
        simp only [x_215_67, x_215_136, cl2_i, cl2_r, cl2_n, cl2_l, tl_s, tl_n, true_and, and_true, Option.some.injEq, exists_eq_left', Bool.and_self, Bool.true_and, Bool.and_true, Bool.or_true, Bool.true_or, i_10, i_00, if_true, if_false, not_true_eq_false, not_false_eq_true, and_false, false_and, okp_sI, okp_sL, okp_aI, okp_aL, hR_sI, hR_sL, hR_aI, hR_aL]
        rw [if_pos j1]
        refine fin H2 (f.tr f2) sup2 ib2 (fun u hu z => ?_)
        obtain ⟨p, hp, l1, l2⟩ := j3 u hu (by rw [← j2]; exact z)
        exact ⟨p, hp, l1, by rw [j2]; exact l2⟩
      · exact ih H2 c2 _ rfl (by omega) (f.tr f2) sup2 ib2 (Or.inr j1)
theorem m_rch (hw : WF h) (hs : s < 8) (D : ShM h s kd b M tn sx sy ex) (W : ShV b M sx sy) : Tr sc d 211 (ent0 211 [.ref 124, .int (nI s)] h) Q = Q (some (.int (nI (rch b M sx sy))), h) := by
  obtain ⟨⟨b1, b2⟩, ⟨m1, m2⟩, wt⟩ := id W
  obtain ⟨d1, d2, d3, d4⟩ := D
  have hf : Sm (fun j => iv (sx j)) (M - 1 + 1) := by rw [Nat.sub_add_cancel m1]; exact sm_iv (fun i hi => (wt i hi).1)
  have hg : Sm (fun j => iv (sy j)) (M - 1 + 1) := by rw [Nat.sub_add_cancel m1]; exact sm_iv (fun i hi => (wt i hi).2)
  have e1 : nI b - 1 = nI (b - 1) := pk_sub (a := b) (b := 1) (by omega)
  have hb : ¬ hI h 133 s - 1 = 0 := by rw [d2, e1]; exact nI_ne0 (by omega) (by omega)
  have e2 := (re_eq hf hg).1
  rw [Nat.sub_add_cancel m1] at e2
  rw [m_reach hw hs d3 m2 hb, d2, moR_congr (x' := fun j => iv (sx j)) (y' := fun j => iv (sy j)) (fun j hj => (d4 j hj).2.1) (fun j hj => (d4 j hj).2.2.1), e2, (rch_ok W).1]
theorem m_setAlive (hw : WF h) (hs : s < 8) (D : ShM h s kd b M tn sx sy ex) (W : ShV b M sx sy) (hK : ∀ H, Fq Pa h H → (∀ X Y, Lm H X Y ↔ Alv b M (rch b M sx sy) sx sy X Y) → Q (none, H)) : Tr sc (d + 3) 215 (ent0 215 [.ref 124, .int (nI s)] h) Q := by
  obtain ⟨-, hR⟩ := rch_ok W
  rw [e_215]
  simp only [x_215_0, x_215_1, x_215_2, x_215_5, x_215_6, x_215_7, o_124 hw, cl2_i, cl2_r, cl2_n, cl2_l, tl_s, tl_n, true_and, and_true, Option.some.injEq, exists_eq_left', Bool.and_self, Bool.true_and, Bool.and_true, Bool.or_true, Bool.true_or, i_10, i_00, if_true, if_false, not_true_eq_false, not_false_eq_true, and_false, false_and, okp_sI, okp_sL, okp_aI, okp_aL, hR_sI, hR_sL, hR_aI, hR_aL, m_rch hw hs D W]
  generalize rch b M sx sy = R at *
  refine m_sa_f hw hR rfl (fun H f a1 => ?_) 1369 0 h (by omega) Fq.rf (fun u hu => by omega)
  simp only [x_215_64, x_215_65, cl2_i, cl2_r, cl2_n, cl2_l, tl_s, tl_n, true_and, and_true, Option.some.injEq, exists_eq_left', Bool.and_self, Bool.true_and, Bool.and_true, Bool.or_true, Bool.true_or, i_10, i_00, if_true, if_false, not_true_eq_false, not_false_eq_true, and_false, false_and, okp_sI, okp_sL, okp_aI, okp_aL, hR_sI, hR_sL, hR_aI, hR_aL]
  refine m_sa_o hw hs D W hK (cnM H + 1) H 1 none rfl (by omega) f (fun X Y a => ?_) (fun X Y l => ?_) (Or.inr rfl)
  · have b0 : inX R X Y := Gf_b (v := (X, Y)) a
    have c0 : (-18 ≤ X ∧ X ≤ 18) ∧ (-18 ≤ Y ∧ Y ≤ 18) := by unfold inX at b0; omega
    obtain ⟨e1, e2, e3⟩ := xm_vm c0.1 c0.2
    exact ⟨c0, (a1 _ e3).mpr (by rw [e1, e2]; exact b0)⟩
  · obtain ⟨e1, e2, e3⟩ := xm_vm l.1.1 l.1.2
    have := (a1 _ e3).mp l.2
    rw [e1, e2] at this
    exact this
end SA
