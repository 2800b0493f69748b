/-! ===== which vectors one comes to; the class's comeToOne ===== -/
/-- the least set that holds the first vectors and goes along with what is alive -/
def Cme (b M R : Nat) (sx sy : Nat → Int) (J : Nat → Prop) (X Y : Int) : Prop := ∀ S : Int → Int → Prop, (∀ p, p < M * M → J p → Alv b M R sx sy (dX M sx p) (dX M sy p) → S (dX M sx p) (dX M sy p)) → (∀ x y p, S x y → p < M * M → Alv b M R sx sy (b * x + dX M sx p) (b * y + dX M sy p) → S (b * x + dX M sx p) (b * y + dX M sy p)) → S X Y
/-- what the class keeps: op vectors seen, each laid once -/
def Sn (h : PH) (b M R : Nat) (sx sy : Nat → Int) (J : Nat → Prop) (op : Nat) : Prop := hI h 24 7 = nI op ∧ op = cnB (fun v => decide (¬ hI h 26 v = 0)) ((2 * R + 1) * (2 * R + 1)) ∧ (∀ q, q < op → ∃ v, v < (2 * R + 1) * (2 * R + 1) ∧ hI h 27 q = nI v ∧ ¬ hI h 26 v = 0) ∧ (∀ v, v < (2 * R + 1) * (2 * R + 1) → ¬ hI h 26 v = 0 → (∃ q, q < op ∧ hI h 27 q = nI v) ∧ Cme b M R sx sy J (xo R v) (yo R v) ∧ hI h 26 v = 1)
def Po (a b : Nat) : Prop := a = 26 ∨ a = 27 ∨ (a = 24 ∧ b = 7)
section CO
variable {sc : Nat × (Nat → Int32)} {d : Nat} {Q : PRes → Prop} {h h' h1 H : PH} {k s r b M R i j v p n t op : Nat} {kd x y z w : Int32} {tn : Nat → Nat} {sx sy ex : Nat → Int} {X Y : Int} {J J' : Nat → Prop}
theorem Cme_i (hp : p < M * M) (hJ : J p) (a : Alv b M R sx sy (dX M sx p) (dX M sy p)) : Cme b M R sx sy J (dX M sx p) (dX M sy p) := fun S h1 h2 => h1 p hp hJ a
theorem Cme_s (c : Cme b M R sx sy J X Y) (hp : p < M * M) (a : Alv b M R sx sy (b * X + dX M sx p) (b * Y + dX M sy p)) : Cme b M R sx sy J (b * X + dX M sx p) (b * Y + dX M sy p) := fun S h1 h2 => h2 X Y p (c S h1 h2) hp a
theorem Cme_J (e : ∀ p, p < M * M → (J p ↔ J' p)) : Cme b M R sx sy J X Y ↔ Cme b M R sx sy J' X Y := ⟨fun c S h1 h2 => c S (fun p hp hJ a => h1 p hp ((e p hp).mp hJ) a) h2, fun c S h1 h2 => c S (fun p hp hJ a => h1 p hp ((e p hp).mpr hJ) a) h2⟩
theorem VcSo {P : Nat → Nat → Prop} (V : VcS h b M R sx sy) (f : Fq P h h') (hP : ∀ a j, (a = 24 ∧ j ≠ 7) ∨ a = 30 ∨ a = 31 → ¬ P a j) : VcS h' b M R sx sy := by
  obtain ⟨v1, v2, v3, v4, v5, v6⟩ := V
  refine ⟨by rw [f.i (hP _ _ (by omega))]; exact v1, by rw [f.i (hP _ _ (by omega))]; exact v2, by rw [f.i (hP _ _ (by omega))]; exact v3, by rw [f.i (hP _ _ (by omega))]; exact v4, by rw [f.i (hP _ _ (by omega))]; exact v5, fun p hp => ?_⟩
  rw [f.i (hP _ _ (by omega)), f.i (hP _ _ (by omega))]
  exact v6 p hp
theorem VcS.po (V : VcS h b M R sx sy) (f : Fq Po h h') : VcS h' b M R sx sy := VcSo V f (fun a j q z => by unfold Po at z; omega)
theorem AlI.po (a : AlI h b M R sx sy) (f : Fq Po h h') : AlI h' b M R sx sy := a.fr f (fun j q => by unfold Po at q; omega)
theorem c_oil (hw : WF h) (V : VcS h b M R sx sy) (al : AlI h b M R sx sy) (hR : R ≤ 18) (hX : R3 X) (hY : R3 Y) (I : Sn h b M R sx sy J op) (hC : Alv b M R sx sy X Y → Cme b M R sx sy J X Y) (hK : ∀ H op', op ≤ op' → Fq Po h H → Sn H b M R sx sy J op' → (∀ u, ¬ hI h 26 u = 0 → ¬ hI H 26 u = 0) → (∀ q, q < op → hI H 27 q = hI h 27 q) → (Alv b M R sx sy X Y → ¬ hI H 26 (vi R X Y) = 0) → Q (none, H)) : Tr sc (d + 1) 83 (ent0 83 [.ref 24, .int (iv X), .int (iv Y)] h) Q := by
  have sq := R_sq hR
  rw [e_83]
  simp only [x_83_0, x_83_1, x_83_2, x_83_3, o_24 hw, cl2_i, cl2_r, cl2_n, cl2_l, tl_s, tl_n, true_and, and_true, Option.some.injEq, exists_eq_left', Bool.and_self, Bool.true_and, Bool.and_true, Bool.or_true, Bool.true_or, i_10, i_00, if_true, if_false, not_true_eq_false, not_false_eq_true, and_false, false_and, okp_sI, okp_sL, okp_aI, okp_aL, hR_sI, hR_sL, hR_aI, hR_aL]
  refine c_livAt hw V hR hX hY (fun z => ?_) (fun z => ?_)
  · have hvl := vi_lt z.1
    have za := (al _ _).mp z
    obtain ⟨g1, g2⟩ := vi_xo z.1
    generalize hj0 : vi R X Y = j0 at *
    have hin : inb (nI j0) 1369 = true := inb_nI (by omega) (by decide)
    simp only [x_83_6, x_83_7, x_83_8, x_83_11, x_83_12, x_83_15, x_83_16, x_83_17, o_24 hw, w_24_1 hw, o_26 hw, show LN 26 = 1369 from rfl, cl2_i, cl2_r, cl2_n, cl2_l, tl_s, tl_n, true_and, and_true, Option.some.injEq, exists_eq_left', Bool.and_self, Bool.true_and, Bool.and_true, Bool.or_true, Bool.true_or, i_10, i_00, if_true, if_false, not_true_eq_false, not_false_eq_true, and_false, false_and, okp_sI, okp_sL, okp_aI, okp_aL, hR_sI, hR_sL, hR_aI, hR_aL, hin, nI_clamp (n := j0) (by omega)]
    rw [if_neg (nI_pos (by omega))]
    by_cases q : hI h 26 j0 = 0
    · rw [if_pos q]
      obtain ⟨i1, i2, i3, i4⟩ := I
      have hlt : op < (2 * R + 1) * (2 * R + 1) := by
        rw [i2]
        refine Nat.lt_of_lt_of_le (cnB_lt (g := fun _ => true) _ (fun _ _ _ => rfl) ⟨j0, hvl, rfl, by simp [q]⟩) (cnB_n _)
      simp only [x_83_20, x_83_21, x_83_24, x_83_25, x_83_26, x_83_27, x_83_28, x_83_31, x_83_32, x_83_35, x_83_36, x_83_37, x_83_38, x_83_39, x_83_42, x_83_43, x_83_44, x_83_47, o_24 hw, w_24_1 hw, w_24_2 hw, o_26 hw, show LN 26 = 1369 from rfl, o_27 hw, iOk_lt (k := 27) (by decide), iRd_lt (k := 27) (by decide), show LN 27 = 1369 from rfl, cl2_i, cl2_r, cl2_n, cl2_l, tl_s, tl_n, true_and, and_true, Option.some.injEq, exists_eq_left', Bool.and_self, Bool.true_and, Bool.and_true, Bool.or_true, Bool.true_or, i_10, i_00, if_true, if_false, not_true_eq_false, not_false_eq_true, and_false, false_and, okp_sI, okp_sL, okp_aI, okp_aL, hR_sI, hR_sL, hR_aI, hR_aL, hin, nI_clamp (n := j0) (by omega), hI_sI, Nat.reduceEqDiff, i1, inb_nI (i := op) (n := 1369) (by omega) (by decide), nI_clamp (n := op) (by omega), nI_1, vp_b1]
      have cn : cnB (fun v => decide (¬ (if v = j0 then (1 : Int32) else hI h 26 v) = 0)) ((2 * R + 1) * (2 * R + 1)) = op + 1 := by
        rw [i2]
        have cc : ∀ n, cnB (fun v => decide (¬ (if v = j0 then (1 : Int32) else hI h 26 v) = 0)) n = cnB (fun v => decide (¬ hI h 26 v = 0)) n + (if j0 < n then 1 else 0) := by
          intro n
          induction n with
          | zero => rfl
          | succ n ih =>
            show cnB _ n + (if decide (¬ (if n = j0 then (1 : Int32) else hI h 26 n) = 0) = true then 1 else 0) = cnB _ n + (if decide (¬ hI h 26 n = 0) = true then 1 else 0) + (if j0 < n + 1 then 1 else 0)
            rw [ih]
            by_cases e : n = j0
            · subst e
              rw [if_neg (show ¬ n < n by omega), if_pos (show n < n + 1 by omega), if_pos (by simp), if_neg (by simp [q])]
            · simp only [if_neg e]
              by_cases e2 : j0 < n
              · rw [if_pos e2, if_pos (show j0 < n + 1 by omega)]; omega
              · rw [if_neg e2, if_neg (show ¬ j0 < n + 1 by omega)]; omega
        rw [cc, if_pos hvl]
      refine hK _ (op + 1) (by omega) (((Fq.rf.sI (Or.inl rfl)).sI (Or.inr (Or.inl rfl))).sI (Or.inr (Or.inr ⟨rfl, rfl⟩))) ⟨?_, ?_, fun c hc => ?_, fun v hv z2 => ?_⟩ (fun u hu => ?_) (fun c hc => ?_) (fun _ => ?_)
      · simp only [hI_sI, if_true]
      · simp only [hI_sI, Nat.reduceEqDiff, if_true, if_false]
        exact cn.symm
      · simp only [hI_sI, Nat.reduceEqDiff, if_true, if_false]
        by_cases e : c = op
        · exact ⟨j0, hvl, by rw [if_pos e], by rw [if_pos rfl]; decide⟩
        · obtain ⟨v, hv, e1, e2⟩ := i3 c (by omega)
          refine ⟨v, hv, by rw [if_neg e]; exact e1, ?_⟩
          by_cases e3 : v = j0
          · rw [if_pos e3]; decide
          · rw [if_neg e3]; exact e2
      · simp only [hI_sI, Nat.reduceEqDiff, if_true, if_false] at z2 ⊢
        by_cases e3 : v = j0
        · refine ⟨⟨op, by omega, by rw [if_pos rfl, e3]⟩, ?_, by rw [if_pos e3]⟩
          rw [e3, g1, g2]
          exact hC za
        · rw [if_neg e3] at z2
          obtain ⟨⟨c, hc, e1⟩, e2⟩ := i4 v hv z2
          exact ⟨⟨c, by omega, by rw [if_neg (show ¬ c = op by omega)]; exact e1⟩, e2.1, by rw [if_neg e3]; exact e2.2⟩
      · simp only [hI_sI, Nat.reduceEqDiff, if_true, if_false]
        by_cases e3 : u = j0
        · rw [if_pos e3]; decide
        · rw [if_neg e3]; exact hu
      · simp only [hI_sI, Nat.reduceEqDiff, if_true, if_false, if_neg (show ¬ c = op by omega)]
      · simp only [hI_sI, Nat.reduceEqDiff, if_true, if_false]
        decide
    · rw [if_neg q]
      simp only [x_83_47, cl2_i, cl2_r, cl2_n, cl2_l, tl_s, tl_n, true_and, and_true, Option.some.injEq, exists_eq_left', Bool.and_self, Bool.true_and, Bool.and_true, Bool.or_true, Bool.true_or, i_10, i_00, if_true, if_false, not_true_eq_false, not_false_eq_true, and_false, false_and, okp_sI, okp_sL, okp_aI, okp_aL, hR_sI, hR_sL, hR_aI, hR_aL]
      exact hK h op (Nat.le_refl _) Fq.rf I (fun _ u => u) (fun _ _ => rfl) (fun _ => q)
  · simp only [x_83_6, x_83_7, x_83_8, x_83_47, cl2_i, cl2_r, cl2_n, cl2_l, tl_s, tl_n, true_and, and_true, Option.some.injEq, exists_eq_left', Bool.and_self, Bool.true_and, Bool.and_true, Bool.or_true, Bool.true_or, i_10, i_00, if_true, if_false, not_true_eq_false, not_false_eq_true, and_false, false_and, okp_sI, okp_sL, okp_aI, okp_aL, hR_sI, hR_sL, hR_aI, hR_aL, show ((-1 : Int32) < 0) = True from eq_true (by decide)]
    exact hK h op (Nat.le_refl _) Fq.rf I (fun _ u => u) (fun _ _ => rfl) (fun a => absurd ((al _ _).mpr a) z)
def Jz (M : Nat) (sx sy : Nat → Int) (p : Nat) : Prop := ¬ (dX M sx p = 0 ∧ dX M sy p = 0)
theorem c_co_1 {l2 l3 l4 : Option Value} (hw : WF h) (V : VcS h b M R sx sy) (hR : R ≤ 18) (hl : cl2 l2 = l2) (hK : ∀ H, Fq Po h H → hI H 24 7 = hI h 24 7 → (∀ u, u < (2 * R + 1) * (2 * R + 1) → hI H 26 u = 0) → Tr sc d 82 (28, [some (.ref 24), some (.int (nI ((2 * R + 1) * (2 * R + 1)))), l2, l3, l4], [], H) Q) : ∀ (n v : Nat) (H : PH), v + n = (2 * R + 1) * (2 * R + 1) → Fq Po h H → hI H 24 7 = hI h 24 7 → (∀ u, u < v → hI H 26 u = 0) → Tr sc d 82 (7, [some (.ref 24), some (.int (nI v)), l2, l3, l4], [], H) Q := by
  have sq := R_sq hR
  intro n
  induction n with
  | zero =>
    intro v H hv f o7 a1
    have e : v = (2 * R + 1) * (2 * R + 1) := by omega
    subst e
    have hwH := f.WF hw
    obtain ⟨v1, v2, v3, v4, v5, v6⟩ := V.po f
    rw [x_82_7]
    simp only [x_82_8, x_82_9, x_82_12, o_24 hwH, cl2_i, cl2_r, cl2_n, cl2_l, tl_s, tl_n, true_and, and_true, Option.some.injEq, exists_eq_left', Bool.and_self, Bool.true_and, Bool.and_true, Bool.or_true, Bool.true_or, i_10, i_00, if_true, if_false, not_true_eq_false, not_false_eq_true, and_false, false_and, okp_sI, okp_sL, okp_aI, okp_aL, hR_sI, hR_sL, hR_aI, hR_aL, v4]
    rw [if_pos (Int32.le_refl _)]
    exact hK H f o7 a1
  | succ n ih =>
    intro v H hv f o7 a1
    have hlt : v < (2 * R + 1) * (2 * R + 1) := by omega
    have hwH := f.WF hw
    obtain ⟨v1, v2, v3, v4, v5, v6⟩ := V.po f
    rw [x_82_7]
    simp only [x_82_8, x_82_9, x_82_12, x_82_15, x_82_16, x_82_19, x_82_20, x_82_21, x_82_22, x_82_25, o_24 hwH, w_24_1 hwH, o_26 hwH, show LN 26 = 1369 from rfl, cl2_i, cl2_r, cl2_n, cl2_l, tl_s, tl_n, true_and, and_true, Option.some.injEq, exists_eq_left', Bool.and_self, Bool.true_and, Bool.and_true, Bool.or_true, Bool.true_or, i_10, i_00, if_true, if_false, not_true_eq_false, not_false_eq_true, and_false, false_and, okp_sI, okp_sL, okp_aI, okp_aL, hR_sI, hR_sL, hR_aI, hR_aL, v4, inb_nI (i := v) (n := 1369) (by omega) (by decide), nI_clamp (n := v) (by omega), nI_1, vp_b0, hl]
    rw [if_neg (nI_ge hlt (by omega))]
    refine ih (v + 1) _ (by omega) (f.sI (Or.inl rfl)) o7 (fun u hu => ?_)
    rw [hI_sI, if_pos rfl]
    by_cases e : u = v
    · rw [if_pos e]
    · rw [if_neg e]; exact a1 u (by omega)
theorem c_co_2 {l2 l3 l4 : Option Value} (hw : WF h) (V : VcS h b M R sx sy) (W : ShV b M sx sy) (al : AlI h b M R sx sy) (hR : R ≤ 18) (hl : cl2 l2 = l2) (hK : ∀ H op, Fq Po h H → Sn H b M R sx sy (Jz M sx sy) op → (∀ q, q < M * M → Jz M sx sy q → Alv b M R sx sy (dX M sx q) (dX M sy q) → ¬ hI H 26 (vi R (dX M sx q) (dX M sy q)) = 0) → Tr sc (d + 2) 82 (78, [some (.ref 24), some (.int (nI (M * M))), l2, l3, l4], [], H) Q) : ∀ (n p op : Nat) (H : PH), p + n = M * M → Fq Po h H → Sn H b M R sx sy (Jz M sx sy) op → (∀ q, q < p → Jz M sx sy q → Alv b M R sx sy (dX M sx q) (dX M sy q) → ¬ hI H 26 (vi R (dX M sx q) (dX M sy q)) = 0) → Tr sc (d + 2) 82 (30, [some (.ref 24), some (.int (nI p)), l2, l3, l4], [], H) Q := by
  obtain ⟨⟨b1, b2⟩, ⟨m1, m2⟩, wt⟩ := id W
  have mm : M * M ≤ 36 := Nat.mul_le_mul m2 m2
  intro n
  induction n with
  | zero =>
    intro p op H hp f I a1
    have e : p = M * M := by omega
    subst e
    have hwH := f.WF hw
    obtain ⟨v1, v2, v3, v4, v5, v6⟩ := V.po f
    rw [x_82_30]
    simp only [x_82_31, x_82_32, x_82_35, o_24 hwH, cl2_i, cl2_r, cl2_n, cl2_l, tl_s, tl_n, true_and, and_true, Option.some.injEq, exists_eq_left', Bool.and_self, Bool.true_and, Bool.and_true, Bool.or_true, Bool.true_or, i_10, i_00, if_true, if_false, not_true_eq_false, not_false_eq_true, and_false, false_and, okp_sI, okp_sL, okp_aI, okp_aL, hR_sI, hR_sL, hR_aI, hR_aL, v5]
    rw [if_pos (Int32.le_refl _)]
    exact hK H op f I a1
  | succ n ih =>
    intro p op H hp f I a1
    have hlt : p < M * M := by omega
    have hwH := f.WF hw
    have V' := V.po f
    obtain ⟨v1, v2, v3, v4, v5, v6⟩ := id V'
    have al' : AlI H b M R sx sy := al.po f
    have e1 := dX_b (fun i hi => (wt i hi).1) m1 hlt
    have e2 := dX_b (fun i hi => (wt i hi).2) m1 hlt
    have z1 : (iv (dX M sx p) = 0) = (dX M sx p = 0) := iv_eq (y := 0) ⟨by omega, by omega⟩ ⟨by decide, by decide⟩
    have z2 : (iv (dX M sy p) = 0) = (dX M sy p = 0) := iv_eq (y := 0) ⟨by omega, by omega⟩ ⟨by decide, by decide⟩
    have go : Jz M sx sy p → Tr sc (d + 2) 82 (56, [some (.ref 24), some (.int (nI p)), l2, l3, l4], [], H) Q := by
      intro hJ
      simp only [x_82_56, x_82_57, x_82_58, x_82_61, x_82_62, x_82_63, x_82_64, x_82_67, x_82_68, x_82_69, o_24 hwH, w_24_5 hwH, w_24_6 hwH, o_30 hwH, iOk_lt (k := 30) (by decide), iRd_lt (k := 30) (by decide), show LN 30 = 36 from rfl, o_31 hwH, iOk_lt (k := 31) (by decide), iRd_lt (k := 31) (by decide), show LN 31 = 36 from rfl, cl2_i, cl2_r, cl2_n, cl2_l, tl_s, tl_n, true_and, and_true, Option.some.injEq, exists_eq_left', Bool.and_self, Bool.true_and, Bool.and_true, Bool.or_true, Bool.true_or, i_10, i_00, if_true, if_false, not_true_eq_false, not_false_eq_true, and_false, false_and, okp_sI, okp_sL, okp_aI, okp_aL, hR_sI, hR_sL, hR_aI, hR_aL, inb_nI (i := p) (n := 36) (by omega) (by decide), nI_clamp (n := p) (by omega), (v6 p hlt).1, (v6 p hlt).2]
      refine c_oil hwH V' al' hR ⟨by omega, by omega⟩ ⟨by omega, by omega⟩ I (fun a => Cme_i hlt hJ a) (fun H2 op2 ho f2 I2 s1 s2 s3 => ?_)
      simp only [x_82_72, x_82_75, cl2_i, cl2_r, cl2_n, cl2_l, tl_s, tl_n, true_and, and_true, Option.some.injEq, exists_eq_left', Bool.and_self, Bool.true_and, Bool.and_true, Bool.or_true, Bool.true_or, i_10, i_00, if_true, if_false, not_true_eq_false, not_false_eq_true, and_false, false_and, okp_sI, okp_sL, okp_aI, okp_aL, hR_sI, hR_sL, hR_aI, hR_aL, nI_1, hl]
      refine ih (p + 1) op2 H2 (by omega) (f.tr f2) I2 (fun q hq hJq a => ?_)
      by_cases e : q = p
      · subst e; exact s3 a
      · exact s1 _ (a1 q (by omega) hJq a)
    rw [x_82_30]
    simp only [x_82_31, x_82_32, x_82_35, x_82_38, x_82_39, x_82_42, x_82_43, x_82_44, x_82_47, x_82_48, x_82_51, x_82_52, x_82_53, o_24 hwH, w_24_5 hwH, w_24_6 hwH, o_30 hwH, iOk_lt (k := 30) (by decide), iRd_lt (k := 30) (by decide), show LN 30 = 36 from rfl, o_31 hwH, iOk_lt (k := 31) (by decide), iRd_lt (k := 31) (by decide), show LN 31 = 36 from rfl, cl2_i, cl2_r, cl2_n, cl2_l, tl_s, tl_n, true_and, and_true, Option.some.injEq, exists_eq_left', Bool.and_self, Bool.true_and, Bool.and_true, Bool.or_true, Bool.true_or, i_10, i_00, if_true, if_false, not_true_eq_false, not_false_eq_true, and_false, false_and, okp_sI, okp_sL, okp_aI, okp_aL, hR_sI, hR_sL, hR_aI, hR_aL, v5, inb_nI (i := p) (n := 36) (by omega) (by decide), nI_clamp (n := p) (by omega), (v6 p hlt).1, (v6 p hlt).2]
    rw [if_neg (nI_ge hlt (by omega))]
    by_cases q1 : iv (dX M sx p) = 0
    · rw [if_pos q1]
      by_cases q2 : iv (dX M sy p) = 0
      · rw [if_pos q2]
        rw [z1] at q1
        rw [z2] at q2
        simp only [x_82_72, x_82_75, cl2_i, cl2_r, cl2_n, cl2_l, tl_s, tl_n, true_and, and_true, Option.some.injEq, exists_eq_left', Bool.and_self, Bool.true_and, Bool.and_true, Bool.or_true, Bool.true_or, i_10, i_00, if_true, if_false, not_true_eq_false, not_false_eq_true, and_false, false_and, okp_sI, okp_sL, okp_aI, okp_aL, hR_sI, hR_sL, hR_aI, hR_aL, nI_1, hl]
        refine ih (p + 1) op H (by omega) f I (fun q hq hJq a => ?_)
        by_cases e : q = p
        · subst e; exact absurd ⟨q1, q2⟩ hJq
        · exact a1 q (by omega) hJq a
      · rw [if_neg q2]
        exact go (fun q => q2 (by rw [z2]; exact q.2))
    · rw [if_neg q1]
      exact go (fun q => q1 (by rw [z1]; exact q.1))
/-- every vector that follows a laid one and is alive has been seen -/
def Dn (h : PH) (b M R : Nat) (sx sy : Nat → Int) (v : Nat) : Prop := ∀ p, p < M * M → Alv b M R sx sy (b * xo R v + dX M sx p) (b * yo R v + dX M sy p) → ¬ hI h 26 (vi R (b * xo R v + dX M sx p) (b * yo R v + dX M sy p)) = 0
theorem c_co_3 {dn op0 : Nat} (hw : WF h) (V : VcS h b M R sx sy) (W : ShV b M sx sy) (al : AlI h b M R sx sy) (hR : R ≤ 18) (hv : v < (2 * R + 1) * (2 * R + 1)) (hC : Cme b M R sx sy J (xo R v) (yo R v)) (hK : ∀ H op, op0 ≤ op → Fq Po h H → Sn H b M R sx sy J op → (∀ u, ¬ hI h 26 u = 0 → ¬ hI H 26 u = 0) → (∀ q, q < op0 → hI H 27 q = hI h 27 q) → Dn H b M R sx sy v → Tr sc (d + 2) 82 (167, [some (.ref 24), some (.int (nI dn)), some (.int (iv (b * xo R v))), some (.int (iv (b * yo R v))), some (.int (nI (M * M)))], [], H) Q) : ∀ (n p op : Nat) (H : PH), p + n = M * M → op0 ≤ op → Fq Po h H → Sn H b M R sx sy J op → (∀ u, ¬ hI h 26 u = 0 → ¬ hI H 26 u = 0) → (∀ q, q < op0 → hI H 27 q = hI h 27 q) → (∀ q, q < p → Alv b M R sx sy (b * xo R v + dX M sx q) (b * yo R v + dX M sy q) → ¬ hI H 26 (vi R (b * xo R v + dX M sx q) (b * yo R v + dX M sy q)) = 0) → Tr sc (d + 2) 82 (130, [some (.ref 24), some (.int (nI dn)), some (.int (iv (b * xo R v))), some (.int (iv (b * yo R v))), some (.int (nI p))], [], H) Q := by
  obtain ⟨⟨b1, b2⟩, ⟨m1, m2⟩, wt⟩ := id W
  have mm : M * M ≤ 36 := Nat.mul_le_mul m2 m2
  obtain ⟨⟨x1, x2⟩, y1, y2⟩ := xo_in hv
  have bx := mulB (a := (b : Int)) (A := 4) (b := xo R v) (B := 18) (by omega) (by omega)
  have by' := mulB (a := (b : Int)) (A := 4) (b := yo R v) (B := 18) (by omega) (by omega)
  intro n
  induction n with
  | zero =>
    intro p op H hp ho f I s1 s2 a1
    have e : p = M * M := by omega
    subst e
    have hwH := f.WF hw
    obtain ⟨v1, v2, v3, v4, v5, v6⟩ := V.po f
    rw [x_82_130]
    simp only [x_82_132, x_82_133, x_82_136, o_24 hwH, cl2_i, cl2_r, cl2_n, cl2_l, tl_s, tl_n, true_and, and_true, Option.some.injEq, exists_eq_left', Bool.and_self, Bool.true_and, Bool.and_true, Bool.or_true, Bool.true_or, i_10, i_00, if_true, if_false, not_true_eq_false, not_false_eq_true, and_false, false_and, okp_sI, okp_sL, okp_aI, okp_aL, hR_sI, hR_sL, hR_aI, hR_aL, v5]
    rw [if_pos (Int32.le_refl _)]
    exact hK H op ho f I s1 s2 a1
  | succ n ih =>
    intro p op H hp ho f I s1 s2 a1
    have hlt : p < M * M := by omega
    have hwH := f.WF hw
    have V' := V.po f
    obtain ⟨v1, v2, v3, v4, v5, v6⟩ := id V'
    have al' : AlI H b M R sx sy := al.po f
    have e1 := dX_b (fun i hi => (wt i hi).1) m1 hlt
    have e2 := dX_b (fun i hi => (wt i hi).2) m1 hlt
    rw [x_82_130]
    simp only [x_82_132, x_82_133, x_82_136, x_82_139, x_82_140, x_82_141, x_82_142, x_82_145, x_82_147, x_82_148, x_82_149, x_82_150, x_82_151, x_82_154, x_82_156, x_82_157, x_82_158, o_24 hwH, w_24_5 hwH, w_24_6 hwH, o_30 hwH, iOk_lt (k := 30) (by decide), iRd_lt (k := 30) (by decide), show LN 30 = 36 from rfl, o_31 hwH, iOk_lt (k := 31) (by decide), iRd_lt (k := 31) (by decide), show LN 31 = 36 from rfl, cl2_i, cl2_r, cl2_n, cl2_l, tl_s, tl_n, true_and, and_true, Option.some.injEq, exists_eq_left', Bool.and_self, Bool.true_and, Bool.and_true, Bool.or_true, Bool.true_or, i_10, i_00, if_true, if_false, not_true_eq_false, not_false_eq_true, and_false, false_and, okp_sI, okp_sL, okp_aI, okp_aL, hR_sI, hR_sL, hR_aI, hR_aL, v5, inb_nI (i := p) (n := 36) (by omega) (by decide), nI_clamp (n := p) (by omega), (v6 p hlt).1, (v6 p hlt).2, iv_add]
    rw [if_neg (nI_ge hlt (by omega))]
    refine c_oil hwH V' al' hR ⟨by omega, by omega⟩ ⟨by omega, by omega⟩ I (fun a => Cme_s hC hlt a) (fun H2 op2 ho2 f2 I2 t1 t2 t3 => ?_)
    simp only [x_82_161, x_82_164, cl2_i, cl2_r, cl2_n, cl2_l, tl_s, tl_n, true_and, and_true, Option.some.injEq, exists_eq_left', Bool.and_self, Bool.true_and, Bool.and_true, Bool.or_true, Bool.true_or, i_10, i_00, if_true, if_false, not_true_eq_false, not_false_eq_true, and_false, false_and, okp_sI, okp_sL, okp_aI, okp_aL, hR_sI, hR_sL, hR_aI, hR_aL, nI_1]
    refine ih (p + 1) op2 H2 (by omega) (by omega) (f.tr f2) I2 (fun u hu => t1 u (s1 u hu)) (fun q hq => by rw [t2 q (by omega), s2 q hq]) (fun q hq a => ?_)
    by_cases e : q = p
    · subst e; exact t3 a
    · exact t1 _ (a1 q (by omega) a)
theorem c_co_4 (hw : WF h) (V : VcS h b M R sx sy) (W : ShV b M sx sy) (al : AlI h b M R sx sy) (hR : R ≤ 18) (hK : ∀ H op l1 l2 l3 l4, Fq Po h H → Sn H b M R sx sy J op → (∀ u, ¬ hI h 26 u = 0 → ¬ hI H 26 u = 0) → (∀ v, v < (2 * R + 1) * (2 * R + 1) → ¬ hI H 26 v = 0 → Dn H b M R sx sy v) → Tr sc (d + 2) 82 (173, [some (.ref 24), l1, l2, l3, l4], [], H) Q) : ∀ (n dn op : Nat) (H : PH) (l2 l3 l4 : Option Value), dn + n = 1369 → dn ≤ op → cl2 l2 = l2 → cl2 l3 = l3 → Fq Po h H → Sn H b M R sx sy J op → (∀ u, ¬ hI h 26 u = 0 → ¬ hI H 26 u = 0) → (∀ q v, q < dn → v < (2 * R + 1) * (2 * R + 1) → hI H 27 q = nI v → Dn H b M R sx sy v) → Tr sc (d + 2) 82 (80, [some (.ref 24), some (.int (nI dn)), l2, l3, l4], [], H) Q := by
  have sq := R_sq hR
  have fin : ∀ H op dn l1 l2 l3 l4, op ≤ dn → Fq Po h H → Sn H b M R sx sy J op → (∀ u, ¬ hI h 26 u = 0 → ¬ hI H 26 u = 0) → (∀ q v, q < dn → v < (2 * R + 1) * (2 * R + 1) → hI H 27 q = nI v → Dn H b M R sx sy v) → Tr sc (d + 2) 82 (173, [some (.ref 24), l1, l2, l3, l4], [], H) Q := by
    intro H op dn l1 l2 l3 l4 hod f I s1 a1
    refine hK H op _ _ _ _ f I s1 (fun v hv z => ?_)
    obtain ⟨⟨q, hq, e⟩, -⟩ := I.2.2.2 v hv z
    exact a1 q v (by omega) hv e
  intro n
  induction n with
  | zero =>
    intro dn op H l2 l3 l4 hd ho h2 h3 f I s1 a1
    have e : dn = 1369 := by omega
    subst e
    have hwH := f.WF hw
    have hop : op ≤ 1369 := by rw [I.2.1]; exact Nat.le_trans (cnB_n _) sq
    have e1 : ((1369 : Int32) ≤ nI 1369) = True := eq_true (by decide)
    rw [x_82_80]
    simp only [x_82_81, x_82_82, x_82_85, x_82_88, x_82_89, x_82_92, o_24 hwH, cl2_i, cl2_r, cl2_n, cl2_l, tl_s, tl_n, true_and, and_true, Option.some.injEq, exists_eq_left', Bool.and_self, Bool.true_and, Bool.and_true, Bool.or_true, Bool.true_or, i_10, i_00, if_true, if_false, not_true_eq_false, not_false_eq_true, and_false, false_and, okp_sI, okp_sL, okp_aI, okp_aL, hR_sI, hR_sL, hR_aI, hR_aL, I.1, e1]
    rw [if_pos (nI_le hop (by decide))]
    exact fin H op 1369 _ _ _ _ hop f I s1 a1
  | succ n ih =>
    intro dn op H l2 l3 l4 hd ho h2 h3 f I s1 a1
    have hwH := f.WF hw
    have V' := V.po f
    obtain ⟨v1, v2, v3, v4, v5, v6⟩ := id V'
    have al' : AlI H b M R sx sy := al.po f
    have hop : op ≤ 1369 := by rw [I.2.1]; exact Nat.le_trans (cnB_n _) sq
    have e1 : ((1369 : Int32) ≤ nI dn) = False := eq_false (show ¬ nI 1369 ≤ nI dn from nI_ge (by omega) (by omega))
    rw [x_82_80]
    simp only [x_82_81, x_82_82, x_82_85, x_82_88, x_82_89, x_82_92, o_24 hwH, cl2_i, cl2_r, cl2_n, cl2_l, tl_s, tl_n, true_and, and_true, Option.some.injEq, exists_eq_left', Bool.and_self, Bool.true_and, Bool.and_true, Bool.or_true, Bool.true_or, i_10, i_00, if_true, if_false, not_true_eq_false, not_false_eq_true, and_false, false_and, okp_sI, okp_sL, okp_aI, okp_aL, hR_sI, hR_sL, hR_aI, hR_aL, I.1, e1]
    by_cases q : op ≤ dn
    · rw [if_pos (nI_le q (by omega))]
      exact fin H op dn _ _ _ _ q f I s1 a1
    · rw [if_neg (nI_ge (by omega) (by omega))]
      obtain ⟨v, hv, ev, sv⟩ := I.2.2.1 dn (by omega)
      have hC := (I.2.2.2 v hv sv).2.1
      simp only [x_82_95, x_82_96, x_82_99, x_82_100, x_82_101, x_82_104, x_82_105, x_82_106, x_82_109, x_82_110, x_82_111, x_82_112, x_82_115, x_82_116, x_82_117, x_82_120, x_82_121, x_82_122, x_82_125, x_82_126, x_82_127, x_82_128, o_24 hwH, w_24_2 hwH, o_27 hwH, iOk_lt (k := 27) (by decide), iRd_lt (k := 27) (by decide), show LN 27 = 1369 from rfl, cl2_i, cl2_r, cl2_n, cl2_l, tl_s, tl_n, true_and, and_true, Option.some.injEq, exists_eq_left', Bool.and_self, Bool.true_and, Bool.and_true, Bool.or_true, Bool.true_or, i_10, i_00, if_true, if_false, not_true_eq_false, not_false_eq_true, and_false, false_and, okp_sI, okp_sL, okp_aI, okp_aL, hR_sI, hR_sL, hR_aI, hR_aL, inb_nI (i := dn) (n := 1369) (by omega) (by decide), nI_clamp (n := dn) (by omega), ev, c_vxOf hwH V' hR (show v < 2147483648 by omega), c_vyOf hwH V' hR (show v < 2147483648 by omega), v1, iv_n b, iv_mul, h2, h3]
      refine c_co_3 (op0 := op) (dn := dn) hwH V' W al' hR hv hC (fun H2 op2 ho2 f2 I2 t1 t2 t3 => ?_) (M * M) 0 op H (by omega) (Nat.le_refl _) Fq.rf I (fun _ u => u) (fun _ _ => rfl) (fun q hq => by omega)
      simp only [x_82_167, x_82_170, cl2_i, cl2_r, cl2_n, cl2_l, tl_s, tl_n, true_and, and_true, Option.some.injEq, exists_eq_left', Bool.and_self, Bool.true_and, Bool.and_true, Bool.or_true, Bool.true_or, i_10, i_00, if_true, if_false, not_true_eq_false, not_false_eq_true, and_false, false_and, okp_sI, okp_sL, okp_aI, okp_aL, hR_sI, hR_sL, hR_aI, hR_aL, nI_1]
      refine ih (dn + 1) op2 H2 _ _ _ (by omega) (by omega) rfl rfl (f.tr f2) I2 (fun u hu => t1 u (s1 u hu)) (fun q w hq hw2 e => ?_)
      rw [t2 q (by omega)] at e
      by_cases e2 : q = dn
      · rw [e2, ev] at e
        have : v = w := (nI_eq (by omega) (by omega)).mp e
        rw [← this]; exact t3
      · exact fun p hp a => t1 _ (a1 q w (by omega) hw2 e p hp a)
theorem c_come (hw : WF h) (V : VcS h b M R sx sy) (W : ShV b M sx sy) (al : AlI h b M R sx sy) (hR : R ≤ 18) (Qt : Cme b M R sx sy (Jz M sx sy) 0 0 → ∀ H, Fq Po h H → Q (some (.int 1), H)) (Qf : ¬ Cme b M R sx sy (Jz M sx sy) 0 0 → ∀ H, Fq Po h H → Q (some (.int 0), H)) : Tr sc (d + 2) 82 (ent0 82 [.ref 24] h) Q := by
  have sq := R_sq hR
  have f1 : Fq Po h (sI h 24 7 0) := Fq.rf.sI (Or.inr (Or.inr ⟨rfl, rfl⟩))
  have hw1 := f1.WF hw
  rw [e_82]
  simp only [x_82_0, x_82_1, x_82_2, x_82_5, x_82_6, o_24 hw, cl2_i, cl2_r, cl2_n, cl2_l, tl_s, tl_n, true_and, and_true, Option.some.injEq, exists_eq_left', Bool.and_self, Bool.true_and, Bool.and_true, Bool.or_true, Bool.true_or, i_10, i_00, if_true, if_false, not_true_eq_false, not_false_eq_true, and_false, false_and, okp_sI, okp_sL, okp_aI, okp_aL, hR_sI, hR_sL, hR_aI, hR_aL]
  refine c_co_1 hw1 (V.po f1) hR rfl (fun H f o7 a1 => ?_) _ 0 _ (Nat.zero_add _) Fq.rf rfl (fun u hu => by omega)
  have f0 := f1.tr f
  have I0 : Sn H b M R sx sy (Jz M sx sy) 0 := ⟨by rw [o7]; rfl, (by rw [eq_comm, cnB_0]; exact fun j hj q => of_decide_eq_true q (a1 j hj)), fun q hq => by omega, fun v hv z => absurd (a1 v hv) z⟩
  simp only [x_82_28, x_82_29, cl2_i, cl2_r, cl2_n, cl2_l, tl_s, tl_n, true_and, and_true, Option.some.injEq, exists_eq_left', Bool.and_self, Bool.true_and, Bool.and_true, Bool.or_true, Bool.true_or, i_10, i_00, if_true, if_false, not_true_eq_false, not_false_eq_true, and_false, false_and, okp_sI, okp_sL, okp_aI, okp_aL, hR_sI, hR_sL, hR_aI, hR_aL]
  refine c_co_2 (h := h) hw V W al hR rfl (fun H2 op f2 I2 a2 => ?_) (M * M) 0 0 H (by omega) f0 I0 (fun q hq => by omega)
  simp only [x_82_78, x_82_79, cl2_i, cl2_r, cl2_n, cl2_l, tl_s, tl_n, true_and, and_true, Option.some.injEq, exists_eq_left', Bool.and_self, Bool.true_and, Bool.and_true, Bool.or_true, Bool.true_or, i_10, i_00, if_true, if_false, not_true_eq_false, not_false_eq_true, and_false, false_and, okp_sI, okp_sL, okp_aI, okp_aL, hR_sI, hR_sL, hR_aI, hR_aL]
  have hw2 := f2.WF hw
  refine c_co_4 (h := H2) hw2 (V.po f2) W (al.po f2) hR (fun H3 op3 l1 l2 l3 l4 f3 I3 s3 d3 => ?_) 1369 0 op H2 none none none (by omega) (by omega) rfl rfl Fq.rf I2 (fun _ u => u) (fun q v hq => by omega)
  have hw3 := f3.WF hw2
  have f03 : Fq Po h H3 := f2.tr f3
  obtain ⟨v1, v2, v3, v4, v5, v6⟩ := V.po f03
  have h0 : inX R 0 0 := ⟨by omega, by omega⟩
  have hvl := vi_lt h0
  obtain ⟨g1, g2⟩ := vi_xo h0
  have e1 : nI ((2 * R + 1) * (2 * R + 1)) / 2 = nI (vi R 0 0) := by
    have := pk_div (a := (2 * R + 1) * (2 * R + 1)) (d := 2) (by omega) (by decide) (by decide)
    rw [vi_mid] at this
    exact this
  have n2 : ¬ (2 : Int32) = 0 := by decide
  have key : ¬ hI H3 26 (vi R 0 0) = 0 ↔ Cme b M R sx sy (Jz M sx sy) 0 0 := by
    constructor
    · intro z
      have := (I3.2.2.2 _ hvl z).2.1
      rw [g1, g2] at this
      exact this
    · intro c
      have c2 := c (fun X Y => inX R X Y ∧ ¬ hI H3 26 (vi R X Y) = 0) (fun p hp hJ a => ⟨Gf_b (v := (_, _)) a, s3 _ (a2 p hp hJ a)⟩) (fun X Y p q hp a => by
        obtain ⟨k1, k2⟩ := vi_xo q.1
        have := d3 _ (vi_lt q.1) q.2 p hp
        rw [k1, k2] at this
        exact ⟨Gf_b (v := (_, _)) a, this a⟩)
      exact c2.2
  simp only [x_82_173, x_82_174, x_82_177, x_82_178, x_82_181, x_82_182, x_82_183, x_82_184, o_24 hw3, w_24_1 hw3, o_26 hw3, show LN 26 = 1369 from rfl, cl2_i, cl2_r, cl2_n, cl2_l, tl_s, tl_n, true_and, and_true, Option.some.injEq, exists_eq_left', Bool.and_self, Bool.true_and, Bool.and_true, Bool.or_true, Bool.true_or, i_10, i_00, if_true, if_false, not_true_eq_false, not_false_eq_true, and_false, false_and, okp_sI, okp_sL, okp_aI, okp_aL, hR_sI, hR_sL, hR_aI, hR_aL, v4, n2, e1, inb_nI (i := vi R 0 0) (n := 1369) (by omega) (by decide), nI_clamp (n := vi R 0 0) (by omega)]
  by_cases q : hI H3 26 (vi R 0 0) = 0
  · rw [q]
    exact ⟨rfl, Qf (fun c => key.mpr c q) H3 f03⟩
  · rw [(I3.2.2.2 _ hvl q).2.2]
    exact ⟨rfl, Qt (key.mp q) H3 f03⟩
end CO
