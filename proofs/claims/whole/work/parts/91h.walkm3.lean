/-! ===== in: what goes on in the model; class and model ===== -/
section WP
variable {sc : Nat × (Nat → Int32)} {d : Nat} {Q : PRes → Prop} {h h' h1 H G : PH} {i j k n t u b M N s f : Nat} {q a1 a2 c1 c2 : Int} {sx sy ex : Nat → Int} {L LL R : List Pnt} {p : Pnt} {P : Nat → Nat → Prop} {wi : Pnt → Bool} {nx : Pnt → Nat → Pnt} {x y z w kd : Int32} {e : Nat → Bool} {tn : Nat → Nat}
theorem m_wkOn (hw : WF h) (hs : s < 8) (D : ShM h s kd b M tn sx sy ex) (hM : M ≤ 6) (LI : LsI wi R) (hl : R.length ≤ 2000) (O : ∀ j, j < M → LdO h wi nx R k j) (E : GA h e R.length) (hk : k < R.length) : ∀ (m i : Nat), i + m = M → (((∃ j r, i ≤ j ∧ j < M ∧ r < R.length ∧ R.getD r pt0 = nx (R.getD k pt0) j ∧ e r = false) → ∀ d Q l5, Tr sc d 234 (5, [some (.ref 124), some (.int (nI s)), some (.int (nI k)), some (.int 0), some (.int (nI i)), l5], [], h) Q = Q (some (.int 1), h)) ∧ ((¬ ∃ j r, i ≤ j ∧ j < M ∧ r < R.length ∧ R.getD r pt0 = nx (R.getD k pt0) j ∧ e r = false) → ∀ d Q l5, Tr sc d 234 (5, [some (.ref 124), some (.int (nI s)), some (.int (nI k)), some (.int 0), some (.int (nI i)), l5], [], h) Q = Q (some (.int 0), h))) := by
  intro m
  induction m with
  | zero =>
    intro i hi
    have ei : i = M := by omega
    subst ei
    refine ⟨fun ⟨j, r, h1, h2, _⟩ => by omega, fun _ d Q l5 => ?_⟩
    rw [x_234_5]
    simp only [x_234_7, x_234_8, x_234_11, x_234_12, x_234_13, o_124 hw, w_124_18 hw, o_134 hw, iOk_lt (k := 134) (by decide), iRd_lt (k := 134) (by decide), show LN 134 = 8 from rfl, x_234_61, x_234_62, cl2_i, cl2_r, cl2_n, cl2_l, tl_s, tl_n, true_and, and_true, Option.some.injEq, exists_eq_left', Bool.and_self, Bool.true_and, Bool.and_true, Bool.or_true, Bool.true_or, i_10, i_00, if_true, if_false, not_true_eq_false, not_false_eq_true, and_false, false_and, okp_sI, okp_sL, okp_aI, okp_aL, hR_sI, hR_sL, hR_aI, hR_aL, inb_nI (n := 8) hs (by decide), nI_clamp (n := s) (by omega), D.2.2.1, vp_b0]
    rw [if_pos (Int32.le_refl _)]
  | succ m ih =>
    intro i hi
    have hlt : i < M := by omega
    obtain ⟨ih1, ih2⟩ := ih (i + 1) (by omega)
    have six : (6 : Int32) * nI k + nI i = nI (6 * k + i) := by rw [show (6 : Int32) = nI 6 from rfl, pk_mul, nI_add]
    have i12 := inb_nI (n := 12006) (show 6 * k + i < 12006 by omega) (by decide)
    have c12 := nI_clamp (n := 6 * k + i) (by omega)
    have oi := O i hlt
    generalize hnn : nx (R.getD k pt0) i = pp at *
    have hnot : (∀ r, r < R.length → R.getD r pt0 = pp → e r = true) → ∀ v : Int32, (∀ d Q l5, Tr sc d 234 (5, [some (.ref 124), some (.int (nI s)), some (.int (nI k)), some (.int 0), some (.int (nI i)), l5], [], h) Q = Tr sc d 234 (5, [some (.ref 124), some (.int (nI s)), some (.int (nI k)), some (.int 0), some (.int (nI (i + 1))), some (.int v)], [], h) Q) → (((∃ j r, i ≤ j ∧ j < M ∧ r < R.length ∧ R.getD r pt0 = nx (R.getD k pt0) j ∧ e r = false) → ∀ d Q l5, Tr sc d 234 (5, [some (.ref 124), some (.int (nI s)), some (.int (nI k)), some (.int 0), some (.int (nI i)), l5], [], h) Q = Q (some (.int 1), h)) ∧ ((¬ ∃ j r, i ≤ j ∧ j < M ∧ r < R.length ∧ R.getD r pt0 = nx (R.getD k pt0) j ∧ e r = false) → ∀ d Q l5, Tr sc d 234 (5, [some (.ref 124), some (.int (nI s)), some (.int (nI k)), some (.int 0), some (.int (nI i)), l5], [], h) Q = Q (some (.int 0), h))) := by
      intro hn v lead
      refine ⟨fun ⟨j, r', h1, h2, h3, h4, h5⟩ d Q l5 => ?_, fun w d Q l5 => ?_⟩
      · rw [lead]
        refine ih1 ⟨j, r', ?_, h2, h3, h4, h5⟩ d Q _
        rcases Nat.lt_or_ge i j with w | w
        · exact w
        · have ej : j = i := by omega
          rw [ej, hnn] at h4
          rw [hn r' h3 h4] at h5; cases h5
      · rw [lead]
        exact ih2 (fun ⟨j, r', h1, h2⟩ => w ⟨j, r', by omega, h2⟩) d Q _
    cases hwt : wi pp
    · have o2 := oi.2 (by rw [hnn]; exact hwt)
      refine hnot (fun r h1 h2 => ?_) (-1) (fun d Q l5 => ?_)
      · have := LI.2 _ (gd_mem h1)
        rw [h2, hwt] at this; cases this
      · rw [x_234_5]
        simp only [x_234_7, x_234_8, x_234_11, x_234_12, x_234_13, x_234_16, x_234_17, x_234_20, x_234_21, x_234_24, x_234_26, x_234_27, x_234_28, x_234_30, x_234_31, x_234_32, x_234_34, x_234_36, o_124 hw, w_124_18 hw, w_124_54 hw, o_134 hw, iOk_lt (k := 134) (by decide), iRd_lt (k := 134) (by decide), show LN 134 = 8 from rfl, o_156 hw, iOk_lt (k := 156) (by decide), iRd_lt (k := 156) (by decide), show LN 156 = 12006 from rfl, x_234_53, x_234_54, x_234_55, x_234_58, cl2_i, cl2_r, cl2_n, cl2_l, tl_s, tl_n, true_and, and_true, Option.some.injEq, exists_eq_left', Bool.and_self, Bool.true_and, Bool.and_true, Bool.or_true, Bool.true_or, i_10, i_00, if_true, if_false, not_true_eq_false, not_false_eq_true, and_false, false_and, okp_sI, okp_sL, okp_aI, okp_aL, hR_sI, hR_sL, hR_aI, hR_aL, inb_nI (n := 8) hs (by decide), nI_clamp (n := s) (by omega), D.2.2.1, six, i12, c12, o2, show ((-1 : Int32) < 0) = True from eq_true (by decide), nI_1]
        rw [if_neg (nI_ge hlt (by omega))]
    · obtain ⟨r, hr, er, o1⟩ := oi.1 (by rw [hnn]; exact hwt)
      rw [hnn] at er
      have Er := E r hr
      have uq : ∀ r', r' < R.length → R.getD r' pt0 = pp → r' = r := fun r' h1 h2 => gd_inj LI.1 h1 hr (by rw [h2, er])
      cases ee : e r
      · rw [ee] at Er
        refine ⟨fun _ d Q l5 => ?_, fun w => absurd ⟨i, r, Nat.le_refl _, hlt, hr, by rw [er, hnn], ee⟩ w⟩
        rw [x_234_5]
        simp only [x_234_7, x_234_8, x_234_11, x_234_12, x_234_13, x_234_16, x_234_17, x_234_20, x_234_21, x_234_24, x_234_26, x_234_27, x_234_28, x_234_30, x_234_31, x_234_32, x_234_34, x_234_36, x_234_39, x_234_40, x_234_43, x_234_45, x_234_46, x_234_49, x_234_50, x_234_53, x_234_54, x_234_55, x_234_58, o_124 hw, w_124_18 hw, w_124_53 hw, w_124_54 hw, o_134 hw, iOk_lt (k := 134) (by decide), iRd_lt (k := 134) (by decide), show LN 134 = 8 from rfl, o_156 hw, iOk_lt (k := 156) (by decide), iRd_lt (k := 156) (by decide), show LN 156 = 12006 from rfl, o_155 hw, show LN 155 = 2001 from rfl, cl2_i, cl2_r, cl2_n, cl2_l, tl_s, tl_n, true_and, and_true, Option.some.injEq, exists_eq_left', Bool.and_self, Bool.true_and, Bool.and_true, Bool.or_true, Bool.true_or, i_10, i_00, if_true, if_false, not_true_eq_false, not_false_eq_true, and_false, false_and, okp_sI, okp_sL, okp_aI, okp_aL, hR_sI, hR_sL, hR_aI, hR_aL, inb_nI (n := 8) hs (by decide), nI_clamp (n := s) (by omega), D.2.2.1, six, i12, c12, o1, show (nI r < 0) = False from eq_false (nI_pos (by omega)), inb_nI (n := 2001) (show r < 2001 by omega) (by decide), nI_clamp (n := r) (by omega), Er, show bo (!false) = 1 from rfl, nI_1]
        rw [if_neg (nI_ge hlt (by omega)), x_234_5]
        simp only [x_234_7, x_234_8, x_234_11, x_234_12, x_234_13, x_234_16, x_234_17, o_124 hw, w_124_18 hw, o_134 hw, iOk_lt (k := 134) (by decide), iRd_lt (k := 134) (by decide), show LN 134 = 8 from rfl, x_234_61, x_234_62, cl2_i, cl2_r, cl2_n, cl2_l, tl_s, tl_n, true_and, and_true, Option.some.injEq, exists_eq_left', Bool.and_self, Bool.true_and, Bool.and_true, Bool.or_true, Bool.true_or, i_10, i_00, if_true, if_false, not_true_eq_false, not_false_eq_true, and_false, false_and, okp_sI, okp_sL, okp_aI, okp_aL, hR_sI, hR_sL, hR_aI, hR_aL, inb_nI (n := 8) hs (by decide), nI_clamp (n := s) (by omega), D.2.2.1, ite_self, vp_b1]
      · rw [ee] at Er
        refine hnot (fun r' h1 h2 => by rw [uq r' h1 h2]; exact ee) (nI r) (fun d Q l5 => ?_)
        rw [x_234_5]
        simp only [x_234_7, x_234_8, x_234_11, x_234_12, x_234_13, x_234_16, x_234_17, x_234_20, x_234_21, x_234_24, x_234_26, x_234_27, x_234_28, x_234_30, x_234_31, x_234_32, x_234_34, x_234_36, x_234_39, x_234_40, x_234_43, x_234_45, x_234_46, x_234_49, x_234_50, x_234_53, x_234_54, x_234_55, x_234_58, o_124 hw, w_124_18 hw, w_124_53 hw, w_124_54 hw, o_134 hw, iOk_lt (k := 134) (by decide), iRd_lt (k := 134) (by decide), show LN 134 = 8 from rfl, o_156 hw, iOk_lt (k := 156) (by decide), iRd_lt (k := 156) (by decide), show LN 156 = 12006 from rfl, o_155 hw, show LN 155 = 2001 from rfl, cl2_i, cl2_r, cl2_n, cl2_l, tl_s, tl_n, true_and, and_true, Option.some.injEq, exists_eq_left', Bool.and_self, Bool.true_and, Bool.and_true, Bool.or_true, Bool.true_or, i_10, i_00, if_true, if_false, not_true_eq_false, not_false_eq_true, and_false, false_and, okp_sI, okp_sL, okp_aI, okp_aL, hR_sI, hR_sL, hR_aI, hR_aL, inb_nI (n := 8) hs (by decide), nI_clamp (n := s) (by omega), D.2.2.1, six, i12, c12, o1, show (nI r < 0) = False from eq_false (nI_pos (by omega)), inb_nI (n := 2001) (show r < 2001 by omega) (by decide), nI_clamp (n := r) (by omega), Er, show bo (!true) = 0 from rfl, nI_1]
        rw [if_neg (nI_ge hlt (by omega))]
theorem m_sweep (hw : WF h) (hs : s < 8) (D : ShM h s kd b M tn sx sy ex) (hM : M ≤ 6) (LI : LsI wi R) (hl : R.length ≤ 2000) (hc : hI h 124 50 = nI R.length) (O : ∀ k j, k < R.length → j < M → LdO h wi nx R k j) : ∀ (m p : Nat) (e : Nat → Bool) (H : PH) (ch : Bool), p + m = R.length → Fq (fun a _ => a = 155) h H → GA H e R.length → (∀ q', q' < R.length → e q' = true → ¬ Gfw R.length (Sto nx M R) q') → ∃ H' e' ch', Fq (fun a _ => a = 155) h H' ∧ GA H' e' R.length ∧ (∀ q', q' < R.length → e' q' = true → ¬ Gfw R.length (Sto nx M R) q') ∧ lft e' R.length ≤ lft e R.length ∧ (ch' = true → ch = true ∨ lft e' R.length < lft e R.length) ∧ (ch' = false → ch = false ∧ e' = e ∧ ∀ q', p ≤ q' → q' < R.length → e q' = false → ∃ r, r < R.length ∧ Sto nx M R q' r ∧ e r = false) ∧ ∀ d Q l8 l9 l10, Tr sc (d + 1) 233 (334, [some (.ref 124), some (.int (nI s)), some (.int x), some (.int y), some (.int z), some (.int 0), some (.int (bo ch)), some (.int (nI p)), l8, l9, l10], [], H) Q = Tr sc (d + 1) 233 (323, [some (.ref 124), some (.int (nI s)), some (.int x), some (.int y), some (.int z), some (.int 0), some (.int (bo ch')), some (.int (nI R.length)), l8, l9, l10], [], H') Q := by
  intro m
  induction m with
  | zero =>
    intro p e H ch hp F E V
    have ep : p = R.length := by omega
    subst ep
    have hwH := F.WF hw
    refine ⟨H, e, ch, F, E, V, Nat.le_refl _, fun z => Or.inl z, fun z => ⟨z, rfl, fun q' h1 h2 => by omega⟩, fun d Q l8 l9 l10 => ?_⟩
    rw [x_233_334]
    simp only [x_233_336, x_233_337, x_233_340, o_124 hwH, x_233_380, cl2_i, cl2_r, cl2_n, cl2_l, tl_s, tl_n, true_and, and_true, Option.some.injEq, exists_eq_left', Bool.and_self, Bool.true_and, Bool.and_true, Bool.or_true, Bool.true_or, i_10, i_00, if_true, if_false, not_true_eq_false, not_false_eq_true, and_false, false_and, okp_sI, okp_sL, okp_aI, okp_aL, hR_sI, hR_sL, hR_aI, hR_aL, F.i (a := 124) (b := 50) (by omega), hc]
    rw [if_pos (Int32.le_refl _)]
  | succ m ih =>
    intro p e H ch hp F E V
    have hlt : p < R.length := by omega
    have hwH := F.WF hw
    have DH := D.fr F (fun a j h1 h2 q => by omega)
    have OH : ∀ j, j < M → LdO H wi nx R p j := fun j hj => LdO_f F (fun z => by omega) (O p j hlt hj)
    have Ep := E p hlt
    have i20 := inb_nI (n := 2001) (show p < 2001 by omega) (by decide)
    have c20 := nI_clamp (n := p) (by omega)
    have hcH : hI H 124 50 = nI R.length := by rw [F.i (by omega)]; exact hc
    have toS : (∃ r, r < R.length ∧ Sto nx M R p r ∧ e r = false) ↔ ∃ j r, 0 ≤ j ∧ j < M ∧ r < R.length ∧ R.getD r pt0 = nx (R.getD p pt0) j ∧ e r = false := ⟨fun ⟨r, h1, ⟨i, h2, h3⟩, h4⟩ => ⟨i, r, Nat.zero_le _, h2, h1, h3, h4⟩, fun ⟨i, r, _, h2, h1, h3, h4⟩ => ⟨r, h1, ⟨i, h2, h3⟩, h4⟩⟩
    cases ee : e p
    · rw [ee] at Ep
      have go := m_wkOn (sc := sc) (k := p) hwH hs DH hM LI hl OH E hlt M 0 (by omega)
      by_cases g : ∃ r, r < R.length ∧ Sto nx M R p r ∧ e r = false
      · have g1 := go.1 (toS.mp g)
        obtain ⟨H', e', ch', F', E', V', l', x1, x2, eq'⟩ := ih (p + 1) e H ch (by omega) F E V
        refine ⟨H', e', ch', F', E', V', l', x1, fun z => ?_, fun d Q l8 l9 l10 => ?_⟩
        · obtain ⟨y1, y2, y3⟩ := x2 z
          refine ⟨y1, y2, fun q' h1 h2 h3 => ?_⟩
          by_cases eq : q' = p
          · rw [eq]; exact g
          · exact y3 q' (by omega) h2 h3
        · have g1' : ∀ Q, Tr sc d 234 (ent0 234 [.ref 124, .int (nI s), .int (nI p)] H) Q = Q (some (.int 1), H) := fun Q => by
            rw [e_234]
            simp only [x_234_0, x_234_1, x_234_2, x_234_3, cl2_i, cl2_r, cl2_n, cl2_l, tl_s, tl_n, true_and, and_true, Option.some.injEq, exists_eq_left', Bool.and_self, Bool.true_and, Bool.and_true, Bool.or_true, Bool.true_or, i_10, i_00, if_true, if_false, not_true_eq_false, not_false_eq_true, and_false, false_and, okp_sI, okp_sL, okp_aI, okp_aL, hR_sI, hR_sL, hR_aI, hR_aL]
            exact g1 d Q none
          rw [x_233_334]
          simp only [x_233_336, x_233_337, x_233_340, x_233_343, x_233_344, x_233_347, x_233_349, x_233_350, x_233_353, x_233_354, x_233_355, x_233_357, x_233_360, o_124 hwH, w_124_53 hwH, o_155 hwH, show LN 155 = 2001 from rfl, x_233_374, x_233_377, cl2_i, cl2_r, cl2_n, cl2_l, tl_s, tl_n, true_and, and_true, Option.some.injEq, exists_eq_left', Bool.and_self, Bool.true_and, Bool.and_true, Bool.or_true, Bool.true_or, i_10, i_00, if_true, if_false, not_true_eq_false, not_false_eq_true, and_false, false_and, okp_sI, okp_sL, okp_aI, okp_aL, hR_sI, hR_sL, hR_aI, hR_aL, hcH, i20, c20, Ep, show bo (!false) = 1 from rfl, g1', nI_1]
          rw [if_neg (nI_ge hlt (by omega))]
          exact eq' d Q _ _ _
      · have g1 := go.2 (fun z => g (toS.mpr z))
        have F1 : Fq (fun a _ => a = 155) h (sI H 155 p 0) := F.sI rfl
        have ls := lft_s (e := e) (p := p) ee R.length
        rw [if_pos hlt] at ls
        obtain ⟨H', e', ch', F', E', V', l', x1, x2, eq'⟩ := ih (p + 1) (fun x => if x = p then true else e x) (sI H 155 p 0) true (by omega) F1 (fun x hx => by
          by_cases ex : x = p
          · rw [ex, rd_eq]; show (0 : Int32) = bo (!(if p = p then true else e p)); rw [if_pos rfl]; rfl
          · rw [rd_ne (by omega)]; show _ = bo (!(if x = p then true else e x)); rw [if_neg ex]; exact E x hx) (fun q' h1 h2 => by
          by_cases ex : q' = p
          · rw [ex]
            refine gf_end V (fun r h3 h4 => ?_)
            cases w : e r
            · exact absurd ⟨r, h3, h4, w⟩ g
            · rfl
          · rw [if_neg ex] at h2; exact V q' h1 h2)
        refine ⟨H', e', ch', F', E', V', by omega, fun z => Or.inr (by omega), fun z => ?_, fun d Q l8 l9 l10 => ?_⟩
        · exact absurd (x2 z).1 (by decide)
        · have g1' : ∀ Q, Tr sc d 234 (ent0 234 [.ref 124, .int (nI s), .int (nI p)] H) Q = Q (some (.int 0), H) := fun Q => by
            rw [e_234]
            simp only [x_234_0, x_234_1, x_234_2, x_234_3, cl2_i, cl2_r, cl2_n, cl2_l, tl_s, tl_n, true_and, and_true, Option.some.injEq, exists_eq_left', Bool.and_self, Bool.true_and, Bool.and_true, Bool.or_true, Bool.true_or, i_10, i_00, if_true, if_false, not_true_eq_false, not_false_eq_true, and_false, false_and, okp_sI, okp_sL, okp_aI, okp_aL, hR_sI, hR_sL, hR_aI, hR_aL]
            exact g1 d Q none
          rw [x_233_334]
          simp only [x_233_336, x_233_337, x_233_340, x_233_343, x_233_344, x_233_347, x_233_349, x_233_350, x_233_353, x_233_354, x_233_355, x_233_357, x_233_360, x_233_363, x_233_364, x_233_367, x_233_369, x_233_370, x_233_371, x_233_372, x_233_374, x_233_377, o_124 hwH, w_124_53 hwH, o_155 hwH, show LN 155 = 2001 from rfl, cl2_i, cl2_r, cl2_n, cl2_l, tl_s, tl_n, true_and, and_true, Option.some.injEq, exists_eq_left', Bool.and_self, Bool.true_and, Bool.and_true, Bool.or_true, Bool.true_or, i_10, i_00, if_true, if_false, not_true_eq_false, not_false_eq_true, and_false, false_and, okp_sI, okp_sL, okp_aI, okp_aL, hR_sI, hR_sL, hR_aI, hR_aL, hcH, i20, c20, Ep, show bo (!false) = 1 from rfl, g1', vp_b0, nI_1]
          rw [if_neg (nI_ge hlt (by omega))]
          exact eq' d Q _ _ _
    · rw [ee] at Ep
      obtain ⟨H', e', ch', F', E', V', l', x1, x2, eq'⟩ := ih (p + 1) e H ch (by omega) F E V
      refine ⟨H', e', ch', F', E', V', l', x1, fun z => ?_, fun d Q l8 l9 l10 => ?_⟩
      · obtain ⟨y1, y2, y3⟩ := x2 z
        refine ⟨y1, y2, fun q' h1 h2 h3 => ?_⟩
        by_cases eq : q' = p
        · rw [eq, ee] at h3; cases h3
        · exact y3 q' (by omega) h2 h3
      · rw [x_233_334]
        simp only [x_233_336, x_233_337, x_233_340, x_233_343, x_233_344, x_233_347, x_233_349, x_233_350, o_124 hwH, w_124_53 hwH, o_155 hwH, show LN 155 = 2001 from rfl, x_233_374, x_233_377, cl2_i, cl2_r, cl2_n, cl2_l, tl_s, tl_n, true_and, and_true, Option.some.injEq, exists_eq_left', Bool.and_self, Bool.true_and, Bool.and_true, Bool.or_true, Bool.true_or, i_10, i_00, if_true, if_false, not_true_eq_false, not_false_eq_true, and_false, false_and, okp_sI, okp_sL, okp_aI, okp_aL, hR_sI, hR_sL, hR_aI, hR_aL, hcH, i20, c20, Ep, show bo (!true) = 0 from rfl, nI_1]
        rw [if_neg (nI_ge hlt (by omega))]
        exact eq' d Q _ _ _
theorem m_wk_s (hw : WF h) (hs : s < 8) (D : ShM h s kd b M tn sx sy ex) (hM : M ≤ 6) (LI : LsI wi R) (hl : R.length ≤ 2000) (hc : hI h 124 50 = nI R.length) (O : ∀ k j, k < R.length → j < M → LdO h wi nx R k j) : ∀ (m : Nat) (e : Nat → Bool) (H : PH), lft e R.length ≤ m → Fq (fun a _ => a = 155) h H → GA H e R.length → (∀ q', q' < R.length → e q' = true → ¬ Gfw R.length (Sto nx M R) q') → ∃ H' e', Fq (fun a _ => a = 155) h H' ∧ GA H' e' R.length ∧ (∀ q', q' < R.length → e' q' = true → ¬ Gfw R.length (Sto nx M R) q') ∧ (∀ q', q' < R.length → e' q' = false → ∃ r, r < R.length ∧ Sto nx M R q' r ∧ e' r = false) ∧ ∀ d Q l7 l8 l9 l10, cl2 l7 = l7 → Tr sc (d + 1) 233 (323, [some (.ref 124), some (.int (nI s)), some (.int x), some (.int y), some (.int z), some (.int 0), some (.int 1), l7, l8, l9, l10], [], H) Q = Tr sc (d + 1) 233 (383, [some (.ref 124), some (.int (nI s)), some (.int x), some (.int y), some (.int z), some (.int 0), some (.int 0), some (.int (nI R.length)), l8, l9, l10], [], H') Q := by
  intro m
  induction m with
  | zero =>
    intro e H hm F E V
    have hwH := F.WF hw
    have DH := D.fr F (fun a j h1 h2 q => by omega)
    have OH : ∀ k j, k < R.length → j < M → LdO H wi nx R k j := fun k j hk hj => LdO_f F (fun z => by omega) (O k j hk hj)
    obtain ⟨H1, e1, ch, F1, E1, V1, l1, x1, x2, eq1⟩ := m_sweep (sc := sc) (x := x) (y := y) (z := z) hwH hs DH hM LI hl (by rw [F.i (by omega)]; exact hc) OH R.length 0 e H false (by omega) Fq.rf E V
    cases ch
    · obtain ⟨-, y2, y3⟩ := x2 rfl
      refine ⟨H1, e1, F.tr F1, E1, V1, fun q' h1 h2 => by rw [y2] at h2 ⊢; exact y3 q' (Nat.zero_le _) h1 h2, fun d Q l7 l8 l9 l10 h7 => ?_⟩
      rw [x_233_323]
      simp only [x_233_325, x_233_328, x_233_329, x_233_331, x_233_332, cl2_i, cl2_r, cl2_n, cl2_l, tl_s, tl_n, true_and, and_true, Option.some.injEq, exists_eq_left', Bool.and_self, Bool.true_and, Bool.and_true, Bool.or_true, Bool.true_or, i_10, i_00, if_true, if_false, not_true_eq_false, not_false_eq_true, and_false, false_and, okp_sI, okp_sL, okp_aI, okp_aL, hR_sI, hR_sL, hR_aI, hR_aL, h7]
      refine (eq1 d Q l8 l9 l10).trans ?_
      rw [x_233_323]
      simp only [x_233_325, cl2_i, cl2_r, cl2_n, cl2_l, tl_s, tl_n, true_and, and_true, Option.some.injEq, exists_eq_left', Bool.and_self, Bool.true_and, Bool.and_true, Bool.or_true, Bool.true_or, i_10, i_00, if_true, if_false, not_true_eq_false, not_false_eq_true, and_false, false_and, okp_sI, okp_sL, okp_aI, okp_aL, hR_sI, hR_sL, hR_aI, hR_aL, show bo false = 0 from rfl]
    · rcases x1 rfl with z | z
      · cases z
      · omega
  | succ m ih =>
    intro e H hm F E V
    have hwH := F.WF hw
    have DH := D.fr F (fun a j h1 h2 q => by omega)
    have OH : ∀ k j, k < R.length → j < M → LdO H wi nx R k j := fun k j hk hj => LdO_f F (fun z => by omega) (O k j hk hj)
    obtain ⟨H1, e1, ch, F1, E1, V1, l1, x1, x2, eq1⟩ := m_sweep (sc := sc) (x := x) (y := y) (z := z) hwH hs DH hM LI hl (by rw [F.i (by omega)]; exact hc) OH R.length 0 e H false (by omega) Fq.rf E V
    cases ch
    · obtain ⟨-, y2, y3⟩ := x2 rfl
      refine ⟨H1, e1, F.tr F1, E1, V1, fun q' h1 h2 => by rw [y2] at h2 ⊢; exact y3 q' (Nat.zero_le _) h1 h2, fun d Q l7 l8 l9 l10 h7 => ?_⟩
      rw [x_233_323]
      simp only [x_233_325, x_233_328, x_233_329, x_233_331, x_233_332, cl2_i, cl2_r, cl2_n, cl2_l, tl_s, tl_n, true_and, and_true, Option.some.injEq, exists_eq_left', Bool.and_self, Bool.true_and, Bool.and_true, Bool.or_true, Bool.true_or, i_10, i_00, if_true, if_false, not_true_eq_false, not_false_eq_true, and_false, false_and, okp_sI, okp_sL, okp_aI, okp_aL, hR_sI, hR_sL, hR_aI, hR_aL, h7]
      refine (eq1 d Q l8 l9 l10).trans ?_
      rw [x_233_323]
      simp only [x_233_325, cl2_i, cl2_r, cl2_n, cl2_l, tl_s, tl_n, true_and, and_true, Option.some.injEq, exists_eq_left', Bool.and_self, Bool.true_and, Bool.and_true, Bool.or_true, Bool.true_or, i_10, i_00, if_true, if_false, not_true_eq_false, not_false_eq_true, and_false, false_and, okp_sI, okp_sL, okp_aI, okp_aL, hR_sI, hR_sL, hR_aI, hR_aL, show bo false = 0 from rfl]
    · have hlt : lft e1 R.length < lft e R.length := by
        rcases x1 rfl with z | z
        · cases z
        · exact z
      obtain ⟨H', e', F', E', V', W', eq'⟩ := ih e1 H1 (by omega) (F.tr F1) E1 V1
      refine ⟨H', e', F', E', V', W', fun d Q l7 l8 l9 l10 h7 => ?_⟩
      rw [x_233_323]
      simp only [x_233_325, x_233_328, x_233_329, x_233_331, x_233_332, cl2_i, cl2_r, cl2_n, cl2_l, tl_s, tl_n, true_and, and_true, Option.some.injEq, exists_eq_left', Bool.and_self, Bool.true_and, Bool.and_true, Bool.or_true, Bool.true_or, i_10, i_00, if_true, if_false, not_true_eq_false, not_false_eq_true, and_false, false_and, okp_sI, okp_sL, okp_aI, okp_aL, hR_sI, hR_sL, hR_aI, hR_aL, h7]
      exact (eq1 d Q l8 l9 l10).trans (eq' d Q _ _ _ _ rfl)
theorem m_wk_c (hw : WF h) (hl : R.length ≤ 2000) (hc : hI h 124 50 = nI R.length) (E : GA h e R.length) : ∀ (m i : Nat), i + m = R.length → ∀ d Q l9 l10, Tr sc (d + 1) 233 (389, [some (.ref 124), some (.int (nI s)), some (.int x), some (.int y), some (.int z), some (.int 0), some (.int 0), some (.int (nI (lft e i))), some (.int (nI i)), l9, l10], [], h) Q = Q (some (.int (if lft e R.length = 0 then 0 else 1)), sI h 124 2 (nI (lft e R.length))) := by
  intro m
  induction m with
  | zero =>
    intro i hi d Q l9 l10
    have ei : i = R.length := by omega
    subst ei
    have ll := lft_le (e := e) R.length
    rw [x_233_389]
    simp only [x_233_391, x_233_392, x_233_395, o_124 hw, x_233_424, x_233_425, x_233_427, x_233_429, cl2_i, cl2_r, cl2_n, cl2_l, tl_s, tl_n, true_and, and_true, Option.some.injEq, exists_eq_left', Bool.and_self, Bool.true_and, Bool.and_true, Bool.or_true, Bool.true_or, i_10, i_00, if_true, if_false, not_true_eq_false, not_false_eq_true, and_false, false_and, okp_sI, okp_sL, okp_aI, okp_aL, hR_sI, hR_sL, hR_aI, hR_aL, hc]
    rw [if_pos (Int32.le_refl _)]
    by_cases z : lft e R.length = 0
    · rw [z, if_pos (show nI 0 ≤ 0 by decide), if_pos rfl]
      simp only [x_233_436, x_233_437, x_233_440, o_124 hw, cl2_i, cl2_r, cl2_n, cl2_l, tl_s, tl_n, true_and, and_true, Option.some.injEq, exists_eq_left', Bool.and_self, Bool.true_and, Bool.and_true, Bool.or_true, Bool.true_or, i_10, i_00, if_true, if_false, not_true_eq_false, not_false_eq_true, and_false, false_and, okp_sI, okp_sL, okp_aI, okp_aL, hR_sI, hR_sL, hR_aI, hR_aL, m_ask hw]
    · rw [if_neg (nI_nle (by omega) (by omega)), if_neg z]
      simp only [x_233_432, x_233_433, x_233_436, x_233_437, x_233_440, o_124 hw, cl2_i, cl2_r, cl2_n, cl2_l, tl_s, tl_n, true_and, and_true, Option.some.injEq, exists_eq_left', Bool.and_self, Bool.true_and, Bool.and_true, Bool.or_true, Bool.true_or, i_10, i_00, if_true, if_false, not_true_eq_false, not_false_eq_true, and_false, false_and, okp_sI, okp_sL, okp_aI, okp_aL, hR_sI, hR_sL, hR_aI, hR_aL, m_ask hw]
  | succ m ih =>
    intro i hi d Q l9 l10
    have hlt : i < R.length := by omega
    have Ei := E i hlt
    have es : lft e (i + 1) = lft e i + (if e i = true then 0 else 1) := rfl
    have ih' := ih (i + 1) (by omega) d Q l9 l10
    rw [es] at ih'
    rw [x_233_389]
    simp only [x_233_391, x_233_392, x_233_395, x_233_398, x_233_400, x_233_401, x_233_404, x_233_406, x_233_407, x_233_410, x_233_411, x_233_414, x_233_415, x_233_416, x_233_418, x_233_421, o_124 hw, w_124_53 hw, o_155 hw, show LN 155 = 2001 from rfl, cl2_i, cl2_r, cl2_n, cl2_l, tl_s, tl_n, true_and, and_true, Option.some.injEq, exists_eq_left', Bool.and_self, Bool.true_and, Bool.and_true, Bool.or_true, Bool.true_or, i_10, i_00, if_true, if_false, not_true_eq_false, not_false_eq_true, and_false, false_and, okp_sI, okp_sL, okp_aI, okp_aL, hR_sI, hR_sL, hR_aI, hR_aL, hc, inb_nI (n := 2001) (show i < 2001 by omega) (by decide), nI_clamp (n := i) (by omega), Ei, nI_1, bo_0]
    rw [if_neg (nI_ge hlt (by omega))]
    cases ee : e i
    · rw [ee] at ih'
      rw [if_neg (by decide)]
      exact ih'
    · rw [ee] at ih'
      rw [if_pos (show (!true) = false from rfl), Int32.add_zero]
      exact ih'
/-- the class's begin -/
theorem c_bg_l {v : Int32} (hw : WF h) (hk : IsSh k) (C : ShC h k kd b M tn sx sy ex) (hM : M ≤ 6) (h4 : hI h 40 4 = nI M) : ∀ (m i : Nat) (H : PH), i + m = M → Fq (fun a _ => a = 42 ∨ a = 43) h H → (∀ j, j < i → hI H 42 j = iv (q * sx j) ∧ hI H 43 j = iv (q * sy j)) → ∃ H', Fq (fun a _ => a = 42 ∨ a = 43) h H' ∧ (∀ j, j < M → hI H' 42 j = iv (q * sx j) ∧ hI H' 43 j = iv (q * sy j)) ∧ ∀ d Q, Tr sc d 87 (18, [some (.ref 40), some (.ref k), some (.int (iv q)), some (.int (nI i))], [], H) Q = Tr sc d 87 (60, [some (.ref 40), some (.ref k), some (.int (iv q)), some (.int (nI M))], [], H') Q := by
  intro m
  induction m with
  | zero =>
    intro i H hi F a
    have ei : i = M := by omega
    subst ei
    have hwH := F.WF hw
    refine ⟨H, F, a, fun d Q => ?_⟩
    rw [x_87_18]
    simp only [x_87_19, x_87_20, x_87_23, o_40 hwH, cl2_i, cl2_r, cl2_n, cl2_l, tl_s, tl_n, true_and, and_true, Option.some.injEq, exists_eq_left', Bool.and_self, Bool.true_and, Bool.and_true, Bool.or_true, Bool.true_or, i_10, i_00, if_true, if_false, not_true_eq_false, not_false_eq_true, and_false, false_and, okp_sI, okp_sL, okp_aI, okp_aL, hR_sI, hR_sL, hR_aI, hR_aL, F.i (a := 40) (b := 4) (by omega), h4]
    rw [if_pos (Int32.le_refl _)]
  | succ m ih =>
    intro i H hi F a
    have hlt : i < M := by omega
    have hwH := F.WF hw
    have hk' := hk
    have CH := C.fr F (fun a j q1 q2 q3 => by unfold IsSh at hk; omega)
    obtain ⟨ho, r0, r1, r2, r3, r4, r5, o0, o1, o2, o3, o4, o5, n0, n1, n2, n3, n4, n5⟩ := sh_ref hwH hk
    obtain ⟨-, s1, s2, -⟩ := CH.2.2.2 i hlt
    have F1 : Fq (fun a _ => a = 42 ∨ a = 43) H (sI (sI H 42 i (iv (q * sx i))) 43 i (iv (q * sy i))) := (Fq.rf.sI (Or.inl rfl)).sI (Or.inr rfl)
    obtain ⟨H', F', a', eq'⟩ := ih (i + 1) (sI (sI H 42 i (iv (q * sx i))) 43 i (iv (q * sy i))) (by omega) (F.tr F1) (fun j hj => by
      by_cases z : j = i
      · rw [z, rd_ne (by omega), rd_eq, rd_eq]; exact ⟨rfl, rfl⟩
      · rw [rd_ne (by omega), rd_ne (by omega), rd_ne (by omega), rd_ne (by omega)]; exact a j (by omega))
    have o2' : okp (sI H 42 i (iv (q * sx i))) (k + 3) 11 = true := o2
    have s2' : hI (sI H 42 i (iv (q * sx i))) (k + 3) i = iv (sy i) := by rw [rd_ne (by unfold IsSh at hk; omega)]; exact s2
    refine ⟨H', F', a', fun d Q => ?_⟩
    rw [x_87_18]
    simp only [x_87_19, x_87_20, x_87_23, x_87_26, x_87_27, x_87_30, x_87_31, x_87_32, x_87_33, x_87_36, x_87_37, x_87_38, x_87_39, x_87_40, x_87_41, x_87_44, x_87_45, x_87_46, x_87_47, x_87_50, x_87_51, x_87_52, x_87_53, x_87_54, x_87_57, o_40 hwH, w_40_1 hwH, w_40_2 hwH, o_42 hwH, iOk_lt (k := 42) (by decide), iRd_lt (k := 42) (by decide), show LN 42 = 6 from rfl, o_43 hwH, iOk_lt (k := 43) (by decide), iRd_lt (k := 43) (by decide), show LN 43 = 6 from rfl, cl2_i, cl2_r, cl2_n, cl2_l, tl_s, tl_n, true_and, and_true, Option.some.injEq, exists_eq_left', Bool.and_self, Bool.true_and, Bool.and_true, Bool.or_true, Bool.true_or, i_10, i_00, if_true, if_false, not_true_eq_false, not_false_eq_true, and_false, false_and, okp_sI, okp_sL, okp_aI, okp_aL, hR_sI, hR_sL, hR_aI, hR_aL, F.i (a := 40) (b := 4) (by omega), h4, ho, r1, r2, iOk_ok o1, iRd_ok o1, iOk_ok o2', iRd_ok o2', n1, n2, inb_nI (n := 6) (show i < 6 by omega) (by decide), nI_clamp (n := i) (by omega), s1, s2', iv_mul, nI_1]
    rw [if_neg (nI_ge hlt (by omega))]
    exact eq' d Q
theorem c_begin (hw : WF h) (hk : IsSh k) (C : ShC h k kd b M tn sx sy ex) (hM : 1 ≤ M ∧ M ≤ 6) (x1 : mnF (fun j => iv (sx j)) (M - 1) = iv a1) (x2 : mxF (fun j => iv (sx j)) (M - 1) = iv a2) (x3 : mnF (fun j => iv (sy j)) (M - 1) = iv c1) (x4 : mxF (fun j => iv (sy j)) (M - 1) = iv c2) : ∃ H, Fq (fun a b => a = 42 ∨ a = 43 ∨ (a = 40 ∧ 4 ≤ b)) h H ∧ WkI H b M q a1 a2 c1 c2 sx sy ∧ ∀ d Q, Tr sc (d + 1) 87 (ent0 87 [.ref 40, .ref k, .int (iv q)] h) Q = Q (none, H) := by
  obtain ⟨ho, r0, r1, r2, r3, r4, r5, o0, o1, o2, o3, o4, o5, n0, n1, n2, n3, n4, n5⟩ := sh_ref hw hk
  have nk : ∀ j, j < 5 → ¬ k + j = 40 ∧ ¬ k + j = 42 ∧ ¬ k + j = 43 := fun j hj => by unfold IsSh at hk; omega
  have F0 : Fq (fun a b => a = 42 ∨ a = 43 ∨ (a = 40 ∧ 4 ≤ b)) h (sI (sI h 40 5 (nI b)) 40 4 (nI M)) := (Fq.rf.sI (by omega)).sI (by omega)
  have hw0 := F0.WF hw
  have C0 := C.fr F0 (fun a j q1 q2 q3 => by unfold IsSh at hk; omega)
  obtain ⟨H1, F1, a1', eq1⟩ := c_bg_l (sc := sc) (q := q) (v := 0) hw0 hk C0 hM.2 rd_eq M 0 _ (by omega) Fq.rf (fun j hj => absurd hj (Nat.not_lt_zero _))
  have F01 := F0.tr (F1.wk (fun a b z => by omega) : Fq (fun a b => a = 42 ∨ a = 43 ∨ (a = 40 ∧ 4 ≤ b)) _ H1)
  have ls : ∀ G, Fq (fun a b => a = 42 ∨ a = 43 ∨ (a = 40 ∧ 4 ≤ b)) h G → (∀ d Q, Tr sc d 62 (ent0 62 [.ref k, .ref (k + 2)] G) Q = Q (some (.int (iv a1)), G)) ∧ (∀ d Q, Tr sc d 63 (ent0 63 [.ref k, .ref (k + 2)] G) Q = Q (some (.int (iv a2)), G)) ∧ (∀ d Q, Tr sc d 62 (ent0 62 [.ref k, .ref (k + 3)] G) Q = Q (some (.int (iv c1)), G)) ∧ (∀ d Q, Tr sc d 63 (ent0 63 [.ref k, .ref (k + 3)] G) Q = Q (some (.int (iv c2)), G)) := by
    intro G FG
    have hwG := FG.WF hw
    have CG := C.fr FG (fun a j q1 q2 q3 => by unfold IsSh at hk; omega)
    obtain ⟨ho, -, -, -, -, -, -, -, o1, o2, -, -, -, -, n1, n2, -⟩ := sh_ref hwG hk
    have hz : hI G k 8 = nI (M - 1 + 1) := by rw [show M - 1 + 1 = M by omega]; exact CG.2.2.1
    have cx : ∀ j, j ≤ M - 1 → hI G (k + 2) j = iv (sx j) := fun j hj => (CG.2.2.2 j (by omega)).2.1
    have cy : ∀ j, j ≤ M - 1 → hI G (k + 3) j = iv (sy j) := fun j hj => (CG.2.2.2 j (by omega)).2.2.1
    refine ⟨fun d Q => ?_, fun d Q => ?_, fun d Q => ?_, fun d Q => ?_⟩
    · rw [c_least ho o1 n1 hz (by omega), mnF_congr (g := fun j => iv (sx j)) (M - 1) cx, x1]
    · rw [c_greatest ho o1 n1 hz (by omega), mxF_congr (g := fun j => iv (sx j)) (M - 1) cx, x2]
    · rw [c_least ho o2 n2 hz (by omega), mnF_congr (g := fun j => iv (sy j)) (M - 1) cy, x3]
    · rw [c_greatest ho o2 n2 hz (by omega), mxF_congr (g := fun j => iv (sy j)) (M - 1) cy, x4]
  have hw1 := F01.WF hw
  have g1 := (ls H1 F01).1
  have F2 := F01.sI (k := 40) (j := 6) (v := iv (q * a1)) (by omega)
  have g2 := (ls _ F2).2.1
  have F3 := F2.sI (k := 40) (j := 7) (v := iv (q * a2)) (by omega)
  have g3 := (ls _ F3).2.2.1
  have F4 := F3.sI (k := 40) (j := 8) (v := iv (q * c1)) (by omega)
  have g4 := (ls _ F4).2.2.2
  have F5 := F4.sI (k := 40) (j := 9) (v := iv (q * c2)) (by omega)
  refine ⟨_, F5, ⟨?_, ?_, ?_, ?_, ?_, ?_, fun i hi => ?_⟩, fun d Q => ?_⟩
  · rw [rd_ne (by omega), rd_ne (by omega), rd_ne (by omega), rd_ne (by omega), F1.i (by omega), rd_eq]
  · rw [rd_ne (by omega), rd_ne (by omega), rd_ne (by omega), rd_ne (by omega), F1.i (by omega), rd_ne (by omega), rd_eq]
  · rw [rd_ne (by omega), rd_ne (by omega), rd_ne (by omega), rd_eq]
  · rw [rd_ne (by omega), rd_ne (by omega), rd_eq]
  · rw [rd_ne (by omega), rd_eq]
  · rw [rd_eq]
  · rw [rd_ne (by omega), rd_ne (by omega), rd_ne (by omega), rd_ne (by omega), rd_ne (by omega), rd_ne (by omega), rd_ne (by omega), rd_ne (by omega)]
    exact a1' i hi
  · have e8 : hI (sI h 40 5 (nI b)) k 8 = nI M := by rw [rd_ne (by have := nk 0 (by omega); omega)]; exact C.2.2.1
    rw [e_87]
    simp only [x_87_0, x_87_1, x_87_2, x_87_5, x_87_8, x_87_9, x_87_10, x_87_13, x_87_16, x_87_17, o_40 hw, cl2_i, cl2_r, cl2_n, cl2_l, tl_s, tl_n, true_and, and_true, Option.some.injEq, exists_eq_left', Bool.and_self, Bool.true_and, Bool.and_true, Bool.or_true, Bool.true_or, i_10, i_00, if_true, if_false, not_true_eq_false, not_false_eq_true, and_false, false_and, okp_sI, okp_sL, okp_aI, okp_aL, hR_sI, hR_sL, hR_aI, hR_aL, ho, C.2.1, e8]
    refine (eq1 (d + 1) Q).trans ?_
    obtain ⟨ho1, -, r1', r2', -⟩ := sh_ref hw1 hk
    simp only [x_87_60, x_87_61, x_87_62, x_87_63, x_87_64, x_87_67, x_87_70, x_87_71, x_87_74, x_87_75, x_87_76, x_87_77, x_87_78, x_87_81, x_87_84, x_87_85, x_87_88, x_87_89, x_87_90, x_87_91, x_87_92, x_87_95, x_87_98, x_87_99, x_87_102, x_87_103, x_87_104, x_87_105, x_87_106, x_87_109, x_87_112, x_87_113, x_87_116, o_40 hw1, cl2_i, cl2_r, cl2_n, cl2_l, tl_s, tl_n, true_and, and_true, Option.some.injEq, exists_eq_left', Bool.and_self, Bool.true_and, Bool.and_true, Bool.or_true, Bool.true_or, i_10, i_00, if_true, if_false, not_true_eq_false, not_false_eq_true, and_false, false_and, okp_sI, okp_sL, okp_aI, okp_aL, hR_sI, hR_sL, hR_aI, hR_aL, ho1, r1', r2', g1, g2, g3, g4, iv_mul]
end WP
