/-! ===== in: the class ===== -/
def EA (h : PH) (a : Nat) (e : Nat → Bool) (n : Nat) : Prop := ∀ p, p < n → hI h a p = bo (e p)
/-- from one place to another -/
def Sto (nx : Pnt → Nat → Pnt) (M : Nat) (R : List Pnt) (p r : Nat) : Prop := ∃ i, i < M ∧ R.getD r pt0 = nx (R.getD p pt0) i
section WC
variable {sc : Nat × (Nat → Int32)} {d : Nat} {Q : PRes → Prop} {h h' h1 H G : PH} {i j k n t u b M N s f : Nat} {q a1 a2 c1 c2 : Int} {sx sy ex : Nat → Int} {L LL R : List Pnt} {p : Pnt} {P : Nat → Nat → Prop} {wi : Pnt → Bool} {nx : Pnt → Nat → Pnt} {x y : Int32} {e : Nat → Bool}
theorem c_ra_i (hw : WF h) (I : WkI h b M q a1 a2 c1 c2 sx sy) (B : WkB b M q a1 a2 c1 c2 sx sy) (hk : k < L.length) (hL : L.length ≤ 2000) (LI : LsI (Wit b q a1 a2 c1 c2) L) : ∀ (m i : Nat) (H : PH) (LL : List Pnt), i + m = M → Fq (Pcl 16) h H → ClI H 16 12 LL → LL.length + m < 40000 → dd LL = inn (Wit b q a1 a2 c1 c2) (nxP b q sx sy) L (L.getD k pt0) i → ∃ H' LL', Fq (Pcl 16) h H' ∧ ClI H' 16 12 LL' ∧ LL'.length ≤ LL.length + m ∧ dd LL' = inn (Wit b q a1 a2 c1 c2) (nxP b q sx sy) L (L.getD k pt0) M ∧ ∀ d Q, Tr sc (d + 3) 91 (45, [some (.ref 40), some (.int x), some (.int y), some (.int (nI k)), some (.int (nI i))], [], H) Q = Tr sc (d + 3) 91 (78, [some (.ref 40), some (.int x), some (.int y), some (.int (nI k)), some (.int (nI M))], [], H') Q := by
  have hM := B.2.1
  intro m
  induction m with
  | zero =>
    intro i H LL hi F C hl hd
    have e : i = M := by omega
    subst e
    have hwH := F.WF hw
    have IH := I.fr F (fun x y z1 z2 => by unfold Pcl at z2; omega)
    refine ⟨H, LL, F, C, Nat.le_refl _, hd, fun d Q => ?_⟩
    rw [x_91_45]
    simp only [x_91_47, x_91_48, x_91_51, o_40 hwH, cl2_i, cl2_r, cl2_n, cl2_l, tl_s, tl_n, true_and, and_true, Option.some.injEq, exists_eq_left', Bool.and_self, Bool.true_and, Bool.and_true, Bool.or_true, Bool.true_or, i_10, i_00, if_true, if_false, not_true_eq_false, not_false_eq_true, and_false, false_and, okp_sI, okp_sL, okp_aI, okp_aL, hR_sI, hR_sL, hR_aI, hR_aL, IH.1]
    rw [if_pos (Int32.le_refl _)]
  | succ m ih =>
    intro i H LL hi F C hl hd
    have hlt : i < M := by omega
    have hwH := F.WF hw
    have IH := I.fr F (fun x y z1 z2 => by unfold Pcl at z2; omega)
    have il := inn_len (wi := Wit b q a1 a2 c1 c2) (nx := nxP b q sx sy) (L := L) (p := L.getD k pt0) i
    rw [← hd] at il
    have gk : (dd LL).getD k pt0 = L.getD k pt0 := by rw [hd]; exact inn_gd hk i
    obtain ⟨nX, nY⟩ := c_next (sc := sc) (k := k) (i := i) hwH IH hM.2 C (by omega) hlt
    rw [gk] at nX nY
    have nb := nx_b B (wit_b B (LI.2 _ (gd_mem hk))) hlt
    obtain ⟨H1, LL1, F1, C1, l1, d1, eq1⟩ := c_addIf (sc := sc) hwH IH B C (by omega) (by omega) nb
    obtain ⟨H', LL', F', C', l', d', eq'⟩ := ih (i + 1) H1 LL1 (by omega) (F.tr F1) C1 (by omega) (by rw [d1, hd]; rfl)
    refine ⟨H', LL', F', C', by omega, d', fun d Q => ?_⟩
    rw [x_91_45]
    simp only [x_91_47, x_91_48, x_91_51, x_91_54, x_91_55, x_91_56, x_91_57, x_91_59, x_91_62, x_91_63, x_91_64, x_91_66, x_91_69, x_91_72, x_91_75, o_40 hwH, cl2_i, cl2_r, cl2_n, cl2_l, tl_s, tl_n, true_and, and_true, Option.some.injEq, exists_eq_left', Bool.and_self, Bool.true_and, Bool.and_true, Bool.or_true, Bool.true_or, i_10, i_00, if_true, if_false, not_true_eq_false, not_false_eq_true, and_false, false_and, okp_sI, okp_sL, okp_aI, okp_aL, hR_sI, hR_sL, hR_aI, hR_aL, IH.1, nX, nY, eq1, nI_1]
    rw [if_neg (nI_ge hlt (by omega))]
    exact eq' d Q
theorem c_ra_l (hw : WF h) (I : WkI h b M q a1 a2 c1 c2 sx sy) (B : WkB b M q a1 a2 c1 c2 sx sy) : ∀ (f k : Nat) (H : PH) (LL : List Pnt), k + f = 2001 → Fq (Pcl 16) h H → ClI H 16 12 LL → LL.length ≤ 1 + 6 * k → (dd LL).length ≤ 2006 → LsI (Wit b q a1 a2 c1 c2) (dd LL) → ∃ H' LL', Fq (Pcl 16) h H' ∧ ClI H' 16 12 LL' ∧ (dd LL').length ≤ 2006 ∧ dd LL' = wlk (Wit b q a1 a2 c1 c2) (nxP b q sx sy) M f k (dd LL) ∧ ∀ d Q l4, Tr sc (d + 3) 91 (18, [some (.ref 40), some (.int x), some (.int y), some (.int (nI k)), l4], [], H) Q = Q (some (.int (bo (decide ((dd LL').length ≤ 2000)))), H') := by
  have hM := B.2.1
  have out : ∀ (k : Nat) (H : PH) (LL : List Pnt), k ≤ 2001 → WF H → ClI H 16 12 LL → (dd LL).length ≤ 2006 → ¬ (k < (dd LL).length ∧ (dd LL).length ≤ 2000) → ∀ d Q l4, Tr sc (d + 3) 91 (18, [some (.ref 40), some (.int x), some (.int y), some (.int (nI k)), l4], [], H) Q = Q (some (.int (bo (decide ((dd LL).length ≤ 2000)))), H) := by
    intro k H LL hk2 hwH C hl hn d Q l4
    have i2 := C.2.2.1
    have ho := o_16 hwH
    have fin : Tr sc (d + 3) 91 (84, [some (.ref 40), some (.int x), some (.int y), some (.int (nI k)), l4], [], H) Q = Q (some (.int (bo (decide ((dd LL).length ≤ 2000)))), H) := by
      rw [bo_d]
      simp only [x_91_84, x_91_85, x_91_88, x_91_91, x_91_94, x_91_97, x_91_98, x_91_101, x_91_102, o_40 hwH, w_40_3 hwH, o_16 hwH, cl2_i, cl2_r, cl2_n, cl2_l, tl_s, tl_n, true_and, and_true, Option.some.injEq, exists_eq_left', Bool.and_self, Bool.true_and, Bool.and_true, Bool.or_true, Bool.true_or, i_10, i_00, if_true, if_false, not_true_eq_false, not_false_eq_true, and_false, false_and, okp_sI, okp_sL, okp_aI, okp_aL, hR_sI, hR_sL, hR_aI, hR_aL, ho, i2, vp_b0, vp_b1]
      by_cases z : (dd LL).length ≤ 2000
      · rw [if_neg (show ¬ (2000 : Int32) < nI (dd LL).length from nI_nlt (a := 2000) z (by decide)), if_pos z]
      · rw [if_pos (show (2000 : Int32) < nI (dd LL).length from nI_lt (a := 2000) (by omega) (by omega)), if_neg z]
    rw [x_91_18]
    simp only [x_91_19, x_91_20, x_91_23, x_91_26, x_91_29, x_91_30, x_91_33, x_91_36, x_91_39, o_40 hwH, w_40_3 hwH, o_16 hwH, cl2_i, cl2_r, cl2_n, cl2_l, tl_s, tl_n, true_and, and_true, Option.some.injEq, exists_eq_left', Bool.and_self, Bool.true_and, Bool.and_true, Bool.or_true, Bool.true_or, i_10, i_00, if_true, if_false, not_true_eq_false, not_false_eq_true, and_false, false_and, okp_sI, okp_sL, okp_aI, okp_aL, hR_sI, hR_sL, hR_aI, hR_aL, ho, i2]
    by_cases z : k < (dd LL).length
    · rw [if_neg (nI_ge z (by omega)), if_pos (show (2000 : Int32) < nI (dd LL).length from nI_lt (a := 2000) (by omega) (by omega))]
      exact fin
    · rw [if_pos (nI_le (by omega) (by omega))]
      exact fin
  intro f
  induction f with
  | zero =>
    intro k H LL hk F C hl hd LI
    exact ⟨H, LL, F, C, hd, rfl, out k H LL (by omega) (F.WF hw) C hd (fun z => by omega)⟩
  | succ f ih =>
    intro k H LL hk F C hl hd LI
    have hwH := F.WF hw
    by_cases z : k < (dd LL).length ∧ (dd LL).length ≤ 2000
    · have IH := I.fr F (fun x y z1 z2 => by unfold Pcl at z2; omega)
      obtain ⟨H1, LL1, F1, C1, l1, d1, eq1⟩ := c_ra_i (sc := sc) (x := x) (y := y) (L := dd LL) (k := k) hwH IH B z.1 z.2 LI M 0 H LL (by omega) Fq.rf C (by omega) rfl
      have il := inn_len (wi := Wit b q a1 a2 c1 c2) (nx := nxP b q sx sy) (L := dd LL) (p := (dd LL).getD k pt0) M
      rw [← d1] at il
      obtain ⟨H', LL', F', C', l', d', eq'⟩ := ih (k + 1) H1 LL1 (by omega) (F.tr F1) C1 (by omega) (by omega) (by rw [d1]; exact inn_I LI M)
      refine ⟨H', LL', F', C', l', ?_, fun d Q l4 => ?_⟩
      · rw [d', d1]
        exact (if_pos z).symm
      · have i2 := C.2.2.1
        have ho := o_16 hwH
        rw [x_91_18]
        simp only [x_91_19, x_91_20, x_91_23, x_91_26, x_91_29, x_91_30, x_91_33, x_91_36, x_91_39, x_91_42, x_91_43, o_40 hwH, w_40_3 hwH, o_16 hwH, cl2_i, cl2_r, cl2_n, cl2_l, tl_s, tl_n, true_and, and_true, Option.some.injEq, exists_eq_left', Bool.and_self, Bool.true_and, Bool.and_true, Bool.or_true, Bool.true_or, i_10, i_00, if_true, if_false, not_true_eq_false, not_false_eq_true, and_false, false_and, okp_sI, okp_sL, okp_aI, okp_aL, hR_sI, hR_sL, hR_aI, hR_aL, ho, i2]
        rw [if_neg (nI_ge z.1 (by omega)), if_neg (show ¬ (2000 : Int32) < nI (dd LL).length from nI_nlt (a := 2000) z.2 (by decide))]
        refine (eq1 d Q).trans ?_
        simp only [x_91_78, x_91_81, cl2_i, cl2_r, cl2_n, cl2_l, tl_s, tl_n, true_and, and_true, Option.some.injEq, exists_eq_left', Bool.and_self, Bool.true_and, Bool.and_true, Bool.or_true, Bool.true_or, i_10, i_00, if_true, if_false, not_true_eq_false, not_false_eq_true, and_false, false_and, okp_sI, okp_sL, okp_aI, okp_aL, hR_sI, hR_sL, hR_aI, hR_aL, nI_1]
        exact eq' d Q _
    · refine ⟨H, LL, F, C, hd, ?_, out k H LL (by omega) hwH C hd z⟩
      exact (if_neg z).symm
/-- does a place go on: to one that isn't struck out -/
theorem c_wkOn (hw : WF h) (I : WkI h b M q a1 a2 c1 c2 sx sy) (B : WkB b M q a1 a2 c1 c2 sx sy) (C : ClI h 16 12 LL) (LI : LsI (Wit b q a1 a2 c1 c2) (dd LL)) (hl : (dd LL).length ≤ 2000) (E : EA h 41 e (dd LL).length) (hk : k < (dd LL).length) : ∀ (m i : Nat), i + m = M → (((∃ j r, i ≤ j ∧ j < M ∧ r < (dd LL).length ∧ (dd LL).getD r pt0 = nxP b q sx sy ((dd LL).getD k pt0) j ∧ e r = false) → ∀ d Q l3, Tr sc (d + 2) 95 (2, [some (.ref 40), some (.int (nI k)), some (.int (nI i)), l3], [], h) Q = Q (some (.int 1), h)) ∧ ((¬ ∃ j r, i ≤ j ∧ j < M ∧ r < (dd LL).length ∧ (dd LL).getD r pt0 = nxP b q sx sy ((dd LL).getD k pt0) j ∧ e r = false) → ∀ d Q l3, Tr sc (d + 2) 95 (2, [some (.ref 40), some (.int (nI k)), some (.int (nI i)), l3], [], h) Q = Q (some (.int 0), h))) := by
  have hM := B.2.1
  have ho := o_16 hw
  intro m
  induction m with
  | zero =>
    intro i hi
    have ei : i = M := by omega
    subst ei
    refine ⟨fun ⟨j, r, h1, h2, _⟩ => by omega, fun _ d Q l3 => ?_⟩
    rw [x_95_2]
    simp only [x_95_3, x_95_4, x_95_7, o_40 hw, x_95_51, x_95_52, cl2_i, cl2_r, cl2_n, cl2_l, tl_s, tl_n, true_and, and_true, Option.some.injEq, exists_eq_left', Bool.and_self, Bool.true_and, Bool.and_true, Bool.or_true, Bool.true_or, i_10, i_00, if_true, if_false, not_true_eq_false, not_false_eq_true, and_false, false_and, okp_sI, okp_sL, okp_aI, okp_aL, hR_sI, hR_sL, hR_aI, hR_aL, I.1, vp_b0]
    rw [if_pos (Int32.le_refl _)]
  | succ m ih =>
    intro i hi
    have hlt : i < M := by omega
    obtain ⟨ih1, ih2⟩ := ih (i + 1) (by omega)
    obtain ⟨nX, nY⟩ := c_next (sc := sc) (k := k) (i := i) hw I hM.2 C hk hlt
    have nb := nx_b B (wit_b B (LI.2 _ (gd_mem hk))) hlt
    obtain ⟨g1, g2⟩ := b9_r nb
    generalize hnn : nxP b q sx sy ((dd LL).getD k pt0) i = pp at *
    by_cases z : pp ∈ LL
    · obtain ⟨r, hr, er⟩ := mem_gd (dd_mem.mpr z)
      have ii : ∀ d Q, Tr sc (d + 1) 17 (ent0 17 [.ref 16, .int (iv pp.1), .int (iv pp.2)] h) Q = Q (some (.int (nI r)), h) := fun d Q => c_indexOf_in (d := d) hw (Or.inl rfl : IsCl 16) C hr er
      have Er := E r hr
      have uq : ∀ r', r' < (dd LL).length → (dd LL).getD r' pt0 = pp → r' = r := fun r' h1 h2 => gd_inj dd_nd h1 hr (by rw [h2, er])
      cases ee : e r
      · refine ⟨fun _ d Q l3 => ?_, fun w => absurd ⟨i, r, Nat.le_refl _, hlt, hr, by rw [er, hnn], ee⟩ w⟩
        rw [ee] at Er
        rw [x_95_2]
        simp only [x_95_3, x_95_4, x_95_7, x_95_10, x_95_11, x_95_14, x_95_15, x_95_16, x_95_17, x_95_20, x_95_21, x_95_22, x_95_23, x_95_26, x_95_29, x_95_30, x_95_31, x_95_34, x_95_35, x_95_38, x_95_39, x_95_40, x_95_43, x_95_44, o_40 hw, w_40_0 hw, w_40_3 hw, o_16 hw, o_41 hw, show LN 41 = 2000 from rfl, cl2_i, cl2_r, cl2_n, cl2_l, tl_s, tl_n, true_and, and_true, Option.some.injEq, exists_eq_left', Bool.and_self, Bool.true_and, Bool.and_true, Bool.or_true, Bool.true_or, i_10, i_00, if_true, if_false, not_true_eq_false, not_false_eq_true, and_false, false_and, okp_sI, okp_sL, okp_aI, okp_aL, hR_sI, hR_sL, hR_aI, hR_aL, I.1, ho, nX, nY, ii, show (nI r < 0) = False from eq_false (nI_pos (by omega)), inb_nI (n := 2000) (show r < 2000 by omega) (by decide), nI_clamp (n := r) (by omega), Er, show bo false = 0 from rfl, vp_b1]
        rw [if_neg (nI_ge hlt (by omega))]
      · rw [ee] at Er
        have lead : ∀ d Q l3, Tr sc (d + 2) 95 (2, [some (.ref 40), some (.int (nI k)), some (.int (nI i)), l3], [], h) Q = Tr sc (d + 2) 95 (2, [some (.ref 40), some (.int (nI k)), some (.int (nI (i + 1))), some (.int (nI r))], [], h) Q := by
          intro d Q l3
          rw [x_95_2]
          simp only [x_95_3, x_95_4, x_95_7, x_95_10, x_95_11, x_95_14, x_95_15, x_95_16, x_95_17, x_95_20, x_95_21, x_95_22, x_95_23, x_95_26, x_95_29, x_95_30, x_95_31, x_95_34, x_95_35, x_95_38, x_95_39, x_95_40, x_95_43, x_95_44, x_95_45, x_95_48, o_40 hw, w_40_0 hw, w_40_3 hw, o_16 hw, o_41 hw, show LN 41 = 2000 from rfl, cl2_i, cl2_r, cl2_n, cl2_l, tl_s, tl_n, true_and, and_true, Option.some.injEq, exists_eq_left', Bool.and_self, Bool.true_and, Bool.and_true, Bool.or_true, Bool.true_or, i_10, i_00, if_true, if_false, not_true_eq_false, not_false_eq_true, and_false, false_and, okp_sI, okp_sL, okp_aI, okp_aL, hR_sI, hR_sL, hR_aI, hR_aL, I.1, ho, nX, nY, ii, show (nI r < 0) = False from eq_false (nI_pos (by omega)), inb_nI (n := 2000) (show r < 2000 by omega) (by decide), nI_clamp (n := r) (by omega), Er, show bo true = 1 from rfl, nI_1]
          rw [if_neg (nI_ge hlt (by omega))]
        have st : ∀ j r', i ≤ j → r' < (dd LL).length → (dd LL).getD r' pt0 = nxP b q sx sy ((dd LL).getD k pt0) j → e r' = false → i + 1 ≤ j := by
          intro j r' h1 h2 h3 h4
          rcases Nat.lt_or_ge i j with w | w
          · exact w
          · have ej : j = i := by omega
            rw [ej, hnn] at h3
            rw [uq r' h2 h3, ee] at h4
            cases h4
        refine ⟨fun ⟨j, r', h1, h2, h3, h4, h5⟩ d Q l3 => ?_, fun w d Q l3 => ?_⟩
        · rw [lead]
          exact ih1 ⟨j, r', st j r' h1 h3 h4 h5, h2, h3, h4, h5⟩ d Q _
        · rw [lead]
          exact ih2 (fun ⟨j, r', h1, h2⟩ => w ⟨j, r', by omega, h2⟩) d Q _
    · have ii : ∀ d Q, Tr sc (d + 1) 17 (ent0 17 [.ref 16, .int (iv pp.1), .int (iv pp.2)] h) Q = Q (some (.int (-1)), h) := fun d Q => c_indexOf_out (d := d) hw (Or.inl rfl : IsCl 16) C (by rw [show (2 : Nat) ^ 12 = 4096 from rfl]; omega) z g1 g2
      have lead : ∀ d Q l3, Tr sc (d + 2) 95 (2, [some (.ref 40), some (.int (nI k)), some (.int (nI i)), l3], [], h) Q = Tr sc (d + 2) 95 (2, [some (.ref 40), some (.int (nI k)), some (.int (nI (i + 1))), some (.int (-1))], [], h) Q := by
        intro d Q l3
        rw [x_95_2]
        simp only [x_95_3, x_95_4, x_95_7, x_95_10, x_95_11, x_95_14, x_95_15, x_95_16, x_95_17, x_95_20, x_95_21, x_95_22, x_95_23, x_95_26, x_95_29, x_95_30, x_95_31, o_40 hw, w_40_3 hw, o_16 hw, x_95_45, x_95_48, cl2_i, cl2_r, cl2_n, cl2_l, tl_s, tl_n, true_and, and_true, Option.some.injEq, exists_eq_left', Bool.and_self, Bool.true_and, Bool.and_true, Bool.or_true, Bool.true_or, i_10, i_00, if_true, if_false, not_true_eq_false, not_false_eq_true, and_false, false_and, okp_sI, okp_sL, okp_aI, okp_aL, hR_sI, hR_sL, hR_aI, hR_aL, I.1, ho, nX, nY, ii, show ((-1 : Int32) < 0) = True from eq_true (by decide), nI_1]
        rw [if_neg (nI_ge hlt (by omega))]
      refine ⟨fun ⟨j, r', h1, h2, h3, h4, h5⟩ d Q l3 => ?_, fun w d Q l3 => ?_⟩
      · rw [lead]
        refine ih1 ⟨j, r', ?_, h2, h3, h4, h5⟩ d Q _
        rcases Nat.lt_or_ge i j with w | w
        · exact w
        · have ej : j = i := by omega
          rw [ej, hnn] at h4
          exact absurd (by rw [← h4]; exact dd_mem.mp (gd_mem h3)) z
      · rw [lead]
        exact ih2 (fun ⟨j, r', h1, h2⟩ => w ⟨j, r', by omega, h2⟩) d Q _
/-- one sweep: from the last place to the first -/
theorem c_sweep (hw : WF h) (I : WkI h b M q a1 a2 c1 c2 sx sy) (B : WkB b M q a1 a2 c1 c2 sx sy) (C : ClI h 16 12 LL) (LI : LsI (Wit b q a1 a2 c1 c2) (dd LL)) (hl : (dd LL).length ≤ 2000) : ∀ (p : Nat) (e : Nat → Bool) (H : PH) (ch : Bool), p ≤ (dd LL).length → Fq (fun a _ => a = 41) h H → EA H 41 e (dd LL).length → (∀ q', q' < (dd LL).length → e q' = true → ¬ Gfw (dd LL).length (Sto (nxP b q sx sy) M (dd LL)) q') → ∃ H' e' ch', Fq (fun a _ => a = 41) h H' ∧ EA H' 41 e' (dd LL).length ∧ (∀ q', q' < (dd LL).length → e' q' = true → ¬ Gfw (dd LL).length (Sto (nxP b q sx sy) M (dd LL)) q') ∧ lft e' (dd LL).length ≤ lft e (dd LL).length ∧ (ch' = true → ch = true ∨ lft e' (dd LL).length < lft e (dd LL).length) ∧ (ch' = false → ch = false ∧ e' = e ∧ ∀ q', q' < p → e q' = false → ∃ r, r < (dd LL).length ∧ Sto (nxP b q sx sy) M (dd LL) q' r ∧ e r = false) ∧ ∀ d Q, Tr sc (d + 3) 94 (12, [some (.ref 40), some (.int (bo ch)), some (.int (iv ((p : Int) - 1)))], [], H) Q = Q (some (.int (bo ch')), H') := by
  intro p
  induction p with
  | zero =>
    intro e H ch hp F E V
    refine ⟨H, e, ch, F, E, V, Nat.le_refl _, fun z => Or.inl z, fun z => ⟨z, rfl, fun q' h1 => absurd h1 (Nat.not_lt_zero _)⟩, fun d Q => ?_⟩
    rw [show iv (((0 : Nat) : Int) - 1) = -1 from rfl, x_94_12]
    have nb : (vp_nar .boolean (bo ch) = bo ch) = True := by cases ch <;> simp [bo, vp_b0, vp_b1]
    simp only [x_94_13, x_94_48, x_94_49, cl2_i, cl2_r, cl2_n, cl2_l, tl_s, tl_n, true_and, and_true, Option.some.injEq, exists_eq_left', Bool.and_self, Bool.true_and, Bool.and_true, Bool.or_true, Bool.true_or, i_10, i_00, if_true, if_false, not_true_eq_false, not_false_eq_true, and_false, false_and, okp_sI, okp_sL, okp_aI, okp_aL, hR_sI, hR_sL, hR_aI, hR_aL, show ((-1 : Int32) < 0) = True from eq_true (by decide), nb]
  | succ p ih =>
    intro e H ch hp F E V
    have hlt : p < (dd LL).length := by omega
    have hwH := F.WF hw
    have IH := I.fr F (fun x y z1 z2 => by omega)
    have CH := C.fr F (fun a b z1 z2 z3 => by omega)
    have ei : iv (((p + 1 : Nat) : Int) - 1) = nI p := by rw [iv_n]; congr 1; omega
    have em : nI p + -1 = iv ((p : Int) - 1) := by rw [iv_n, show (-1 : Int32) = iv (-1) from rfl, iv_add]; rfl
    have n0 : (nI p < 0) = False := eq_false (nI_pos (by omega))
    have Ep := E p hlt
    have i20 := inb_nI (n := 2000) (show p < 2000 by omega) (by decide)
    have c20 := nI_clamp (n := p) (by omega)
    have toS : (∃ r, r < (dd LL).length ∧ Sto (nxP b q sx sy) M (dd LL) p r ∧ e r = false) ↔ ∃ j r, 0 ≤ j ∧ j < M ∧ r < (dd LL).length ∧ (dd LL).getD r pt0 = nxP b q sx sy ((dd LL).getD p pt0) j ∧ e r = false := ⟨fun ⟨r, h1, ⟨i, h2, h3⟩, h4⟩ => ⟨i, r, Nat.zero_le _, h2, h1, h3, h4⟩, fun ⟨i, r, _, h2, h1, h3, h4⟩ => ⟨r, h1, ⟨i, h2, h3⟩, h4⟩⟩
    cases ee : e p
    · rw [ee] at Ep
      have go := c_wkOn (sc := sc) (k := p) hwH IH B CH LI hl E hlt M 0 (by omega)
      by_cases g : ∃ r, r < (dd LL).length ∧ Sto (nxP b q sx sy) M (dd LL) p r ∧ e r = false
      · have g1 := go.1 (toS.mp g)
        obtain ⟨H', e', ch', F', E', V', l', x1, x2, eq'⟩ := ih e H ch (by omega) F E V
        refine ⟨H', e', ch', F', E', V', l', x1, fun z => ?_, fun d Q => ?_⟩
        · obtain ⟨y1, y2, y3⟩ := x2 z
          refine ⟨y1, y2, fun q' h1 h2 => ?_⟩
          by_cases eq : q' = p
          · rw [eq]; exact g
          · exact y3 q' (by omega) h2
        · have g1' : ∀ Q, Tr sc (d + 2) 95 (ent0 95 [.ref 40, .int (nI p)] H) Q = Q (some (.int 1), H) := fun Q => by
            rw [e_95]
            simp only [x_95_0, x_95_1, cl2_i, cl2_r, cl2_n, cl2_l, tl_s, tl_n, true_and, and_true, Option.some.injEq, exists_eq_left', Bool.and_self, Bool.true_and, Bool.and_true, Bool.or_true, Bool.true_or, i_10, i_00, if_true, if_false, not_true_eq_false, not_false_eq_true, and_false, false_and, okp_sI, okp_sL, okp_aI, okp_aL, hR_sI, hR_sL, hR_aI, hR_aL]
            exact g1 d Q none
          rw [ei, x_94_12]
          simp only [x_94_13, x_94_16, x_94_17, x_94_20, x_94_21, x_94_22, x_94_25, x_94_26, x_94_27, x_94_30, o_40 hwH, w_40_0 hwH, o_41 hwH, show LN 41 = 2000 from rfl, x_94_42, x_94_45, cl2_i, cl2_r, cl2_n, cl2_l, tl_s, tl_n, true_and, and_true, Option.some.injEq, exists_eq_left', Bool.and_self, Bool.true_and, Bool.and_true, Bool.or_true, Bool.true_or, i_10, i_00, if_true, if_false, not_true_eq_false, not_false_eq_true, and_false, false_and, okp_sI, okp_sL, okp_aI, okp_aL, hR_sI, hR_sL, hR_aI, hR_aL, n0, i20, c20, Ep, show bo false = 0 from rfl, g1', em]
          exact eq' d Q
      · have g1 := go.2 (fun z => g (toS.mpr z))
        have F1 : Fq (fun a _ => a = 41) h (sI H 41 p 1) := F.sI rfl
        have ls := lft_s (e := e) (p := p) ee (dd LL).length
        rw [if_pos hlt] at ls
        obtain ⟨H', e', ch', F', E', V', l', x1, x2, eq'⟩ := ih (fun x => if x = p then true else e x) (sI H 41 p 1) true (by omega) F1 (fun x hx => by
          by_cases ex : x = p
          · rw [ex, rd_eq]; show (1 : Int32) = bo (if p = p then true else e p); rw [if_pos rfl]; rfl
          · rw [rd_ne (by omega)]; show _ = bo (if x = p then true else e x); rw [if_neg ex]; exact E x hx) (fun q' h1 h2 => by
          by_cases ex : q' = p
          · rw [ex]
            refine gf_end V (fun r h3 h4 => ?_)
            cases w : e r
            · exact absurd ⟨r, h3, h4, w⟩ g
            · rfl
          · rw [if_neg ex] at h2; exact V q' h1 h2)
        refine ⟨H', e', ch', F', E', V', by omega, fun z => Or.inr (by omega), fun z => ?_, fun d Q => ?_⟩
        · exact absurd (x2 z).1 (by decide)
        · have g1' : ∀ Q, Tr sc (d + 2) 95 (ent0 95 [.ref 40, .int (nI p)] H) Q = Q (some (.int 0), H) := fun Q => by
            rw [e_95]
            simp only [x_95_0, x_95_1, cl2_i, cl2_r, cl2_n, cl2_l, tl_s, tl_n, true_and, and_true, Option.some.injEq, exists_eq_left', Bool.and_self, Bool.true_and, Bool.and_true, Bool.or_true, Bool.true_or, i_10, i_00, if_true, if_false, not_true_eq_false, not_false_eq_true, and_false, false_and, okp_sI, okp_sL, okp_aI, okp_aL, hR_sI, hR_sL, hR_aI, hR_aL]
            exact g1 d Q none
          rw [ei, x_94_12]
          simp only [x_94_13, x_94_16, x_94_17, x_94_20, x_94_21, x_94_22, x_94_25, x_94_26, x_94_27, x_94_30, x_94_33, x_94_34, x_94_37, x_94_38, x_94_39, x_94_40, x_94_41, x_94_42, x_94_45, o_40 hwH, w_40_0 hwH, o_41 hwH, show LN 41 = 2000 from rfl, cl2_i, cl2_r, cl2_n, cl2_l, tl_s, tl_n, true_and, and_true, Option.some.injEq, exists_eq_left', Bool.and_self, Bool.true_and, Bool.and_true, Bool.or_true, Bool.true_or, i_10, i_00, if_true, if_false, not_true_eq_false, not_false_eq_true, and_false, false_and, okp_sI, okp_sL, okp_aI, okp_aL, hR_sI, hR_sL, hR_aI, hR_aL, n0, i20, c20, Ep, show bo false = 0 from rfl, g1', vp_b1, em]
          exact eq' d Q
    · rw [ee] at Ep
      obtain ⟨H', e', ch', F', E', V', l', x1, x2, eq'⟩ := ih e H ch (by omega) F E V
      refine ⟨H', e', ch', F', E', V', l', x1, fun z => ?_, fun d Q => ?_⟩
      · obtain ⟨y1, y2, y3⟩ := x2 z
        refine ⟨y1, y2, fun q' h1 h2 => ?_⟩
        by_cases eq : q' = p
        · rw [eq, ee] at h2; cases h2
        · exact y3 q' (by omega) h2
      · rw [ei, x_94_12]
        simp only [x_94_13, x_94_16, x_94_17, x_94_20, x_94_21, x_94_22, o_40 hwH, w_40_0 hwH, o_41 hwH, show LN 41 = 2000 from rfl, x_94_42, x_94_45, cl2_i, cl2_r, cl2_n, cl2_l, tl_s, tl_n, true_and, and_true, Option.some.injEq, exists_eq_left', Bool.and_self, Bool.true_and, Bool.and_true, Bool.or_true, Bool.true_or, i_10, i_00, if_true, if_false, not_true_eq_false, not_false_eq_true, and_false, false_and, okp_sI, okp_sL, okp_aI, okp_aL, hR_sI, hR_sL, hR_aI, hR_aL, n0, i20, c20, Ep, show bo true = 1 from rfl, em]
        exact eq' d Q
theorem c_st_z (hw : WF h) (C : ClI h 16 12 LL) (hl : (dd LL).length ≤ 2000) : ∀ (m i : Nat) (H : PH), i + m = (dd LL).length → Fq (fun a _ => a = 41) h H → EA H 41 (fun _ => false) i → ∃ H', Fq (fun a _ => a = 41) h H' ∧ EA H' 41 (fun _ => false) (dd LL).length ∧ ∀ d Q l2 l3, Tr sc d 93 (2, [some (.ref 40), some (.int (nI i)), l2, l3], [], H) Q = Tr sc d 93 (26, [some (.ref 40), some (.int (nI (dd LL).length)), l2, l3], [], H') Q := by
  intro m
  induction m with
  | zero =>
    intro i H hi F E
    have e : i = (dd LL).length := by omega
    subst e
    have hwH := F.WF hw
    have CH := C.fr F (fun a b z1 z2 z3 => by omega)
    refine ⟨H, F, E, fun d Q l2 l3 => ?_⟩
    rw [x_93_2]
    simp only [x_93_3, x_93_4, x_93_7, x_93_10, o_40 hwH, w_40_3 hwH, o_16 hwH, cl2_i, cl2_r, cl2_n, cl2_l, tl_s, tl_n, true_and, and_true, Option.some.injEq, exists_eq_left', Bool.and_self, Bool.true_and, Bool.and_true, Bool.or_true, Bool.true_or, i_10, i_00, if_true, if_false, not_true_eq_false, not_false_eq_true, and_false, false_and, okp_sI, okp_sL, okp_aI, okp_aL, hR_sI, hR_sL, hR_aI, hR_aL, o_16 hwH, CH.2.2.1]
    rw [if_pos (Int32.le_refl _)]
  | succ m ih =>
    intro i H hi F E
    have hlt : i < (dd LL).length := by omega
    have hwH := F.WF hw
    have CH := C.fr F (fun a b z1 z2 z3 => by omega)
    obtain ⟨H', F', E', eq'⟩ := ih (i + 1) (sI H 41 i 0) (by omega) (F.sI rfl) (fun x hx => by
      by_cases ex : x = i
      · rw [ex, rd_eq]; rfl
      · rw [rd_ne (by omega)]; exact E x (by omega))
    refine ⟨H', F', E', fun d Q l2 l3 => ?_⟩
    rw [x_93_2]
    simp only [x_93_3, x_93_4, x_93_7, x_93_10, x_93_13, x_93_14, x_93_17, x_93_18, x_93_19, x_93_20, x_93_23, o_40 hwH, w_40_0 hwH, w_40_3 hwH, o_16 hwH, o_41 hwH, show LN 41 = 2000 from rfl, cl2_i, cl2_r, cl2_n, cl2_l, tl_s, tl_n, true_and, and_true, Option.some.injEq, exists_eq_left', Bool.and_self, Bool.true_and, Bool.and_true, Bool.or_true, Bool.true_or, i_10, i_00, if_true, if_false, not_true_eq_false, not_false_eq_true, and_false, false_and, okp_sI, okp_sL, okp_aI, okp_aL, hR_sI, hR_sL, hR_aI, hR_aL, o_16 hwH, CH.2.2.1, inb_nI (n := 2000) (show i < 2000 by omega) (by decide), nI_clamp (n := i) (by omega), vp_b0, nI_1]
    rw [if_neg (nI_ge hlt (by omega))]
    exact eq' d Q _ _
theorem c_st_s (hw : WF h) (I : WkI h b M q a1 a2 c1 c2 sx sy) (B : WkB b M q a1 a2 c1 c2 sx sy) (C : ClI h 16 12 LL) (LI : LsI (Wit b q a1 a2 c1 c2) (dd LL)) (hl : (dd LL).length ≤ 2000) : ∀ (m w : Nat) (e : Nat → Bool) (H : PH), lft e (dd LL).length ≤ m → w + m ≤ 2000 → Fq (fun a _ => a = 41) h H → EA H 41 e (dd LL).length → (∀ q', q' < (dd LL).length → e q' = true → ¬ Gfw (dd LL).length (Sto (nxP b q sx sy) M (dd LL)) q') → ∃ H' e', Fq (fun a _ => a = 41) h H' ∧ EA H' 41 e' (dd LL).length ∧ (∀ q', q' < (dd LL).length → e' q' = true → ¬ Gfw (dd LL).length (Sto (nxP b q sx sy) M (dd LL)) q') ∧ (∀ q', q' < (dd LL).length → e' q' = false → ∃ r, r < (dd LL).length ∧ Sto (nxP b q sx sy) M (dd LL) q' r ∧ e' r = false) ∧ ∀ d, ∃ l1 l2, cl2 l1 = l1 ∧ ∀ Q l3, Tr sc (d + 4) 93 (30, [some (.ref 40), some (.int 1), some (.int (nI w)), l3], [], H) Q = Tr sc (d + 4) 93 (52, [some (.ref 40), l1, l2, l3], [], H') Q := by
  intro m
  induction m with
  | zero =>
    intro w e H hm hw2 F E V
    have hwH := F.WF hw
    have IH := I.fr F (fun x y z1 z2 => by omega)
    have CH := C.fr F (fun a b z1 z2 z3 => by omega)
    obtain ⟨H1, e1, ch, F1, E1, V1, l1, x1, x2, eq1⟩ := c_sweep (sc := sc) hwH IH B CH LI hl (dd LL).length e H false (Nat.le_refl _) Fq.rf E V
    cases ch
    · obtain ⟨-, y2, y3⟩ := x2 rfl
      refine ⟨H1, e1, F.tr F1, E1, V1, fun q' h1 h2 => by rw [y2] at h2 ⊢; exact y3 q' h1 h2, fun d => ⟨some (.int 0), some (.int (nI (w + 1))), rfl, fun Q l3 => ?_⟩⟩
      have sw : ∀ Q, Tr sc (d + 3) 94 (ent0 94 [.ref 40] H) Q = Q (some (.int 0), H1) := fun Q => by
        rw [e_94]
        simp only [x_94_0, x_94_1, x_94_2, x_94_3, x_94_6, x_94_9, x_94_10, x_94_11, o_40 hwH, w_40_3 hwH, o_16 hwH, cl2_i, cl2_r, cl2_n, cl2_l, tl_s, tl_n, true_and, and_true, Option.some.injEq, exists_eq_left', Bool.and_self, Bool.true_and, Bool.and_true, Bool.or_true, Bool.true_or, i_10, i_00, if_true, if_false, not_true_eq_false, not_false_eq_true, and_false, false_and, okp_sI, okp_sL, okp_aI, okp_aL, hR_sI, hR_sL, hR_aI, hR_aL, o_16 hwH, CH.2.2.1]
        rw [show nI (dd LL).length - 1 = iv (((dd LL).length : Int) - 1) by rw [iv_n, show (1 : Int32) = iv 1 from rfl, iv_sub]]
        exact eq1 d Q
      rw [x_93_30]
      simp only [x_93_31, x_93_34, x_93_37, x_93_38, x_93_41, x_93_42, x_93_45, x_93_46, x_93_49, o_40 hwH, cl2_i, cl2_r, cl2_n, cl2_l, tl_s, tl_n, true_and, and_true, Option.some.injEq, exists_eq_left', Bool.and_self, Bool.true_and, Bool.and_true, Bool.or_true, Bool.true_or, i_10, i_00, if_true, if_false, not_true_eq_false, not_false_eq_true, and_false, false_and, okp_sI, okp_sL, okp_aI, okp_aL, hR_sI, hR_sL, hR_aI, hR_aL, show ((2000 : Int32) < nI w) = False from eq_false (nI_nlt (a := 2000) (b := w) (by omega) (by decide)), sw, nI_1]
      rw [x_93_30]
      simp only [x_93_31, x_93_34, x_93_37, x_93_38, cl2_i, cl2_r, cl2_n, cl2_l, tl_s, tl_n, true_and, and_true, Option.some.injEq, exists_eq_left', Bool.and_self, Bool.true_and, Bool.and_true, Bool.or_true, Bool.true_or, i_10, i_00, if_true, if_false, not_true_eq_false, not_false_eq_true, and_false, false_and, okp_sI, okp_sL, okp_aI, okp_aL, hR_sI, hR_sL, hR_aI, hR_aL, ite_self]
    · rcases x1 rfl with z | z
      · cases z
      · omega
  | succ m ih =>
    intro w e H hm hw2 F E V
    have hwH := F.WF hw
    have IH := I.fr F (fun x y z1 z2 => by omega)
    have CH := C.fr F (fun a b z1 z2 z3 => by omega)
    obtain ⟨H1, e1, ch, F1, E1, V1, l1, x1, x2, eq1⟩ := c_sweep (sc := sc) hwH IH B CH LI hl (dd LL).length e H false (Nat.le_refl _) Fq.rf E V
    have sw : ∀ d Q, Tr sc (d + 3) 94 (ent0 94 [.ref 40] H) Q = Q (some (.int (bo ch)), H1) := fun d Q => by
      rw [e_94]
      simp only [x_94_0, x_94_1, x_94_2, x_94_3, x_94_6, x_94_9, x_94_10, x_94_11, o_40 hwH, w_40_3 hwH, o_16 hwH, cl2_i, cl2_r, cl2_n, cl2_l, tl_s, tl_n, true_and, and_true, Option.some.injEq, exists_eq_left', Bool.and_self, Bool.true_and, Bool.and_true, Bool.or_true, Bool.true_or, i_10, i_00, if_true, if_false, not_true_eq_false, not_false_eq_true, and_false, false_and, okp_sI, okp_sL, okp_aI, okp_aL, hR_sI, hR_sL, hR_aI, hR_aL, o_16 hwH, CH.2.2.1]
      rw [show nI (dd LL).length - 1 = iv (((dd LL).length : Int) - 1) by rw [iv_n, show (1 : Int32) = iv 1 from rfl, iv_sub]]
      exact eq1 d Q
    have lead : ∀ d Q l3, Tr sc (d + 4) 93 (30, [some (.ref 40), some (.int 1), some (.int (nI w)), l3], [], H) Q = Tr sc (d + 4) 93 (30, [some (.ref 40), some (.int (bo ch)), some (.int (nI (w + 1))), l3], [], H1) Q := by
      intro d Q l3
      rw [x_93_30]
      simp only [x_93_31, x_93_34, x_93_37, x_93_38, x_93_41, x_93_42, x_93_45, x_93_46, x_93_49, o_40 hwH, cl2_i, cl2_r, cl2_n, cl2_l, tl_s, tl_n, true_and, and_true, Option.some.injEq, exists_eq_left', Bool.and_self, Bool.true_and, Bool.and_true, Bool.or_true, Bool.true_or, i_10, i_00, if_true, if_false, not_true_eq_false, not_false_eq_true, and_false, false_and, okp_sI, okp_sL, okp_aI, okp_aL, hR_sI, hR_sL, hR_aI, hR_aL, show ((2000 : Int32) < nI w) = False from eq_false (nI_nlt (a := 2000) (b := w) (by omega) (by decide)), sw, nI_1]
    cases ch
    · obtain ⟨-, y2, y3⟩ := x2 rfl
      refine ⟨H1, e1, F.tr F1, E1, V1, fun q' h1 h2 => by rw [y2] at h2 ⊢; exact y3 q' h1 h2, fun d => ⟨some (.int 0), some (.int (nI (w + 1))), rfl, fun Q l3 => ?_⟩⟩
      rw [lead, x_93_30]
      simp only [x_93_31, x_93_34, x_93_37, x_93_38, cl2_i, cl2_r, cl2_n, cl2_l, tl_s, tl_n, true_and, and_true, Option.some.injEq, exists_eq_left', Bool.and_self, Bool.true_and, Bool.and_true, Bool.or_true, Bool.true_or, i_10, i_00, if_true, if_false, not_true_eq_false, not_false_eq_true, and_false, false_and, okp_sI, okp_sL, okp_aI, okp_aL, hR_sI, hR_sL, hR_aI, hR_aL, show bo false = 0 from rfl, ite_self]
    · have hlt : lft e1 (dd LL).length < lft e (dd LL).length := by
        rcases x1 rfl with z | z
        · cases z
        · exact z
      obtain ⟨H', e', F', E', V', W', eq'⟩ := ih (w + 1) e1 H1 (by omega) (by omega) (F.tr F1) E1 V1
      refine ⟨H', e', F', E', V', W', fun d => ?_⟩
      obtain ⟨l1, l2, z1, eq''⟩ := eq' d
      exact ⟨l1, l2, z1, fun Q l3 => by rw [lead]; exact eq'' Q l3⟩
theorem c_st_c (hw : WF h) (C : ClI h 16 12 LL) (hl : (dd LL).length ≤ 2000) (E : EA h 41 e (dd LL).length) : ∀ (m i : Nat), i + m = (dd LL).length → ∀ d Q l1, cl2 l1 = l1 → Tr sc d 93 (56, [some (.ref 40), l1, some (.int (nI (lft e i))), some (.int (nI i))], [], h) Q = Q (some (.int (nI (lft e (dd LL).length))), h) := by
  intro m
  induction m with
  | zero =>
    intro i hi d Q l1 hl1
    have e : i = (dd LL).length := by omega
    subst e
    rw [x_93_56]
    simp only [x_93_57, x_93_58, x_93_61, x_93_64, o_40 hw, w_40_3 hw, o_16 hw, x_93_85, x_93_86, cl2_i, cl2_r, cl2_n, cl2_l, tl_s, tl_n, true_and, and_true, Option.some.injEq, exists_eq_left', Bool.and_self, Bool.true_and, Bool.and_true, Bool.or_true, Bool.true_or, i_10, i_00, if_true, if_false, not_true_eq_false, not_false_eq_true, and_false, false_and, okp_sI, okp_sL, okp_aI, okp_aL, hR_sI, hR_sL, hR_aI, hR_aL, o_16 hw, C.2.2.1]
    rw [if_pos (Int32.le_refl _)]
  | succ m ih =>
    intro i hi d Q l1 hl1
    have hlt : i < (dd LL).length := by omega
    have Ei := E i hlt
    have es : lft e (i + 1) = lft e i + (if e i = true then 0 else 1) := rfl
    have ih' := ih (i + 1) (by omega) d Q l1 hl1
    rw [es] at ih'
    rw [x_93_56]
    simp only [x_93_57, x_93_58, x_93_61, x_93_64, x_93_67, x_93_68, x_93_71, x_93_72, x_93_73, x_93_76, x_93_79, x_93_82, o_40 hw, w_40_0 hw, w_40_3 hw, o_16 hw, o_41 hw, show LN 41 = 2000 from rfl, cl2_i, cl2_r, cl2_n, cl2_l, tl_s, tl_n, true_and, and_true, Option.some.injEq, exists_eq_left', Bool.and_self, Bool.true_and, Bool.and_true, Bool.or_true, Bool.true_or, i_10, i_00, if_true, if_false, not_true_eq_false, not_false_eq_true, and_false, false_and, okp_sI, okp_sL, okp_aI, okp_aL, hR_sI, hR_sL, hR_aI, hR_aL, o_16 hw, C.2.2.1, inb_nI (n := 2000) (show i < 2000 by omega) (by decide), nI_clamp (n := i) (by omega), Ei, nI_1, bo_0, hl1]
    rw [if_neg (nI_ge hlt (by omega))]
    cases ee : e i
    · rw [ee] at ih'
      rw [if_pos rfl]
      exact ih'
    · rw [ee] at ih'
      rw [if_neg (by decide)]
      exact ih'
theorem lft_0 : ∀ n, lft (fun _ => false) n = n
  | 0 => rfl
  | n + 1 => by
    show lft (fun _ => false) n + 1 = n + 1
    rw [lft_0 n]
theorem c_settle (hw : WF h) (I : WkI h b M q a1 a2 c1 c2 sx sy) (B : WkB b M q a1 a2 c1 c2 sx sy) (C : ClI h 16 12 LL) (LI : LsI (Wit b q a1 a2 c1 c2) (dd LL)) (hl : (dd LL).length ≤ 2000) : ∃ H e, Fq (fun a _ => a = 41) h H ∧ (∀ q', q' < (dd LL).length → e q' = true → ¬ Gfw (dd LL).length (Sto (nxP b q sx sy) M (dd LL)) q') ∧ (∀ q', q' < (dd LL).length → e q' = false → ∃ r, r < (dd LL).length ∧ Sto (nxP b q sx sy) M (dd LL) q' r ∧ e r = false) ∧ ∀ d Q, Tr sc (d + 4) 93 (ent0 93 [.ref 40] h) Q = Q (some (.int (nI (lft e (dd LL).length))), H) := by
  obtain ⟨H1, F1, E1, eq1⟩ := c_st_z (sc := sc) hw C hl (dd LL).length 0 h (by omega) Fq.rf (fun x hx => absurd hx (Nat.not_lt_zero _))
  obtain ⟨H2, e, F2, E2, V2, W2, eq2⟩ := c_st_s (sc := sc) hw I B C LI hl (dd LL).length 0 (fun _ => false) H1 (by rw [lft_0]; exact Nat.le_refl _) (by omega) F1 E1 (fun q' _ z => by cases z)
  have hw2 := F2.WF hw
  have C2 := C.fr F2 (fun a b z1 z2 z3 => by omega)
  refine ⟨H2, e, F2, V2, W2, fun d Q => ?_⟩
  obtain ⟨l1, l2, z1, eq2'⟩ := eq2 d
  rw [e_93]
  simp only [x_93_0, x_93_1, cl2_i, cl2_r, cl2_n, cl2_l, tl_s, tl_n, true_and, and_true, Option.some.injEq, exists_eq_left', Bool.and_self, Bool.true_and, Bool.and_true, Bool.or_true, Bool.true_or, i_10, i_00, if_true, if_false, not_true_eq_false, not_false_eq_true, and_false, false_and, okp_sI, okp_sL, okp_aI, okp_aL, hR_sI, hR_sL, hR_aI, hR_aL]
  refine (eq1 (d + 4) Q none none).trans ?_
  simp only [x_93_26, x_93_27, x_93_28, x_93_29, cl2_i, cl2_r, cl2_n, cl2_l, tl_s, tl_n, true_and, and_true, Option.some.injEq, exists_eq_left', Bool.and_self, Bool.true_and, Bool.and_true, Bool.or_true, Bool.true_or, i_10, i_00, if_true, if_false, not_true_eq_false, not_false_eq_true, and_false, false_and, okp_sI, okp_sL, okp_aI, okp_aL, hR_sI, hR_sL, hR_aI, hR_aL]
  refine (eq2' Q none).trans ?_
  simp only [x_93_52, x_93_53, x_93_54, x_93_55, cl2_i, cl2_r, cl2_n, cl2_l, tl_s, tl_n, true_and, and_true, Option.some.injEq, exists_eq_left', Bool.and_self, Bool.true_and, Bool.and_true, Bool.or_true, Bool.true_or, i_10, i_00, if_true, if_false, not_true_eq_false, not_false_eq_true, and_false, false_and, okp_sI, okp_sL, okp_aI, okp_aL, hR_sI, hR_sL, hR_aI, hR_aL, z1]
  exact c_st_c hw2 C2 hl E2 (dd LL).length 0 (by omega) (d + 4) Q l1 z1
end WC
