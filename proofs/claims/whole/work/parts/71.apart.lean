/-! ===== the model's isApart ===== -/
def Jn (M p : Nat) : Prop := ¬ p % M = p / M
def Pc (a b : Nat) : Prop := a = 149
def cnC (h : PH) : Nat := cnB (fun v => decide (¬ hI h 149 v = 0)) 1369
def SdC (h : PH) (b M R : Nat) (sx sy : Nat → Int) : Prop := ∀ v, v < 1369 → ¬ hI h 149 v = 0 → Cme b M R sx sy (Jn M) (xm v) (ym v)
def DnM (h : PH) (b M R : Nat) (sx sy : Nat → Int) (v : Nat) : Prop := ∀ p, p < M * M → Alv b M R sx sy (b * xm v + dX M sx p) (b * ym v + dX M sy p) → ¬ hI h 149 (vm (b * xm v + dX M sx p) (b * ym v + dX M sy p)) = 0
section AP
variable {sc : Nat × (Nat → Int32)} {d : Nat} {Q : PRes → Prop} {h h' h1 H : PH} {k s r b M R i j v p n t op : Nat} {kd x y z w : Int32} {tn : Nat → Nat} {sx sy ex : Nat → Int} {X Y : Int} {J J' : Nat → Prop}
theorem cnC_up {u : Nat} (hu : u < 1369) (q : hI h 149 u = 0) : cnC h < cnC (sI h 149 u 1) := by
  refine cnB_lt _ (fun j hj z => ?_) ⟨u, hu, decide_eq_true (by rw [hI_sI, if_pos rfl, if_pos rfl]; decide), fun z => of_decide_eq_true z q⟩
  have z2 := of_decide_eq_true z
  refine decide_eq_true ?_
  rw [hI_sI, if_pos rfl]
  by_cases e : j = u
  · rw [if_pos e]; decide
  · rw [if_neg e]; exact z2
theorem m_ap_1 {l4 l5 l6 l7 l8 l9 : Option Value} (hw : WF h) (hl : cl2 l4 = l4) (hK : ∀ H, Fq Pc h H → (∀ u, u < 1369 → hI H 149 u = 0) → Tr sc d 217 (29, [some (.ref 124), some (.int x), some (.int 1), some (.int (nI 1369)), l4, l5, l6, l7, l8, l9], [], H) Q) : ∀ (c v : Nat) (H : PH), v + c = 1369 → Fq Pc h H → (∀ u, u < v → hI H 149 u = 0) → Tr sc d 217 (9, [some (.ref 124), some (.int x), some (.int 1), some (.int (nI v)), l4, l5, l6, l7, l8, l9], [], H) Q := by
  intro c
  induction c with
  | zero =>
    intro v H hv f a1
    have e : v = 1369 := by omega
    subst e
    rw [x_217_9]
    simp only [x_217_10, x_217_13, cl2_i, cl2_r, cl2_n, cl2_l, tl_s, tl_n, true_and, and_true, Option.some.injEq, exists_eq_left', Bool.and_self, Bool.true_and, Bool.and_true, Bool.or_true, Bool.true_or, i_10, i_00, if_true, if_false, not_true_eq_false, not_false_eq_true, and_false, false_and, okp_sI, okp_sL, okp_aI, okp_aL, hR_sI, hR_sL, hR_aI, hR_aL]
    rw [if_pos (by decide)]
    exact hK H f a1
  | succ c ih =>
    intro v H hv f a1
    have hlt : v < 1369 := by omega
    have hwH := f.WF hw
    rw [x_217_9]
    simp only [x_217_10, x_217_13, x_217_16, x_217_17, x_217_20, x_217_21, x_217_22, x_217_23, x_217_26, o_124 hwH, w_124_46 hwH, o_149 hwH, show LN 149 = 1369 from rfl, cl2_i, cl2_r, cl2_n, cl2_l, tl_s, tl_n, true_and, and_true, Option.some.injEq, exists_eq_left', Bool.and_self, Bool.true_and, Bool.and_true, Bool.or_true, Bool.true_or, i_10, i_00, if_true, if_false, not_true_eq_false, not_false_eq_true, and_false, false_and, okp_sI, okp_sL, okp_aI, okp_aL, hR_sI, hR_sL, hR_aI, hR_aL, inb_nI (n := 1369) hlt (by decide), nI_clamp (n := v) (by omega), nI_1, vp_b0, hl]
    rw [if_neg (show ¬ (1369 : Int32) ≤ nI v from nI_ge (a := v) (b := 1369) hlt (by decide))]
    refine ih (v + 1) _ (by omega) (f.sI rfl) (fun u hu => ?_)
    rw [hI_sI, if_pos rfl]
    by_cases e : u = v
    · rw [if_pos e]
    · rw [if_neg e]; exact a1 u (by omega)
theorem Jn_at (hi : i < M) (hj : j < M) : Jn M (i * M + j) ↔ ¬ j = i := by
  unfold Jn
  rw [Nat.mul_comm, Nat.mul_add_mod, Nat.mod_eq_of_lt hj, Nat.mul_add_div (by omega), Nat.div_eq_of_lt hj, Nat.add_zero]
theorem SdC.up {X Y : Int} (S : SdC h b M R sx sy) (q1 : -18 ≤ X ∧ X ≤ 18) (q2 : -18 ≤ Y ∧ Y ≤ 18) (c : Cme b M R sx sy (Jn M) X Y) : SdC (sI h 149 (vm X Y) 1) b M R sx sy := fun v hv z => by
  rw [hI_sI, if_pos rfl] at z
  by_cases e : v = vm X Y
  · obtain ⟨e1, e2, -⟩ := xm_vm q1 q2
    rw [e, e1, e2]; exact c
  · rw [if_neg e] at z
    exact S v hv z
theorem up_mono {u v : Nat} (z : ¬ hI h 149 u = 0) : ¬ hI (sI h 149 v 1) 149 u = 0 := by
  rw [hI_sI, if_pos rfl]
  by_cases e : u = v
  · rw [if_pos e]; decide
  · rw [if_neg e]; exact z
theorem m_ap_j {l5 l6 l7 l8 l9 : Option Value} (hw : WF h) (hs : s < 8) (D : ShM h s kd b M tn sx sy ex) (W : ShV b M sx sy) (m : AlM h b M R sx sy) (hi : i < M) (hl : cl2 l5 = l5) (hK : ∀ H, Fq Pc h H → SdC H b M R sx sy → (∀ q, q < i * M + M → Jn M q → Alv b M R sx sy (dX M sx q) (dX M sy q) → ¬ hI H 149 (vm (dX M sx q) (dX M sy q)) = 0) → Tr sc (d + 3) 217 (135, [some (.ref 124), some (.int (nI s)), some (.int 1), some (.int (nI i)), some (.int (nI M)), l5, l6, l7, l8, l9], [], H) Q) : ∀ (c j : Nat) (H : PH), j + c = M → Fq Pc h H → SdC H b M R sx sy → (∀ q, q < i * M + j → Jn M q → Alv b M R sx sy (dX M sx q) (dX M sy q) → ¬ hI H 149 (vm (dX M sx q) (dX M sy q)) = 0) → Tr sc (d + 3) 217 (44, [some (.ref 124), some (.int (nI s)), some (.int 1), some (.int (nI i)), some (.int (nI j)), l5, l6, l7, l8, l9], [], H) Q := by
  obtain ⟨⟨b1, b2⟩, ⟨m1, m2⟩, wt⟩ := id W
  intro c
  induction c with
  | zero =>
    intro j H hj f S a1
    have e : j = M := by omega
    subst e
    have hwH := f.WF hw
    obtain ⟨d1, d2, d3, d4⟩ := D.fr f (fun a j h1 h2 q => by unfold Pc at q; omega)
    rw [x_217_44]
    simp only [x_217_46, x_217_47, x_217_50, x_217_51, x_217_52, o_124 hwH, w_124_18 hwH, o_134 hwH, iOk_lt (k := 134) (by decide), iRd_lt (k := 134) (by decide), show LN 134 = 8 from rfl, cl2_i, cl2_r, cl2_n, cl2_l, tl_s, tl_n, true_and, and_true, Option.some.injEq, exists_eq_left', Bool.and_self, Bool.true_and, Bool.and_true, Bool.or_true, Bool.true_or, i_10, i_00, if_true, if_false, not_true_eq_false, not_false_eq_true, and_false, false_and, okp_sI, okp_sL, okp_aI, okp_aL, hR_sI, hR_sL, hR_aI, hR_aL, inb_nI (n := 8) hs (by decide), nI_clamp (n := s) (by omega), d3]
    rw [if_pos (Int32.le_refl _)]
    exact hK H f S a1
  | succ c ih =>
    intro j H hj f S a1
    have hlt : j < M := by omega
    have hwH := f.WF hw
    have D' := D.fr f (fun a j h1 h2 q => by unfold Pc at q; omega)
    obtain ⟨d1, d2, d3, d4⟩ := id D'
    have mH : AlM H b M R sx sy := m.fr f (fun j q => by unfold Pc at q; omega)
    have f1 := dX_at (f := sx) hi hlt
    have f2 := dX_at (f := sy) hi hlt
    have hp : i * M + j < M * M := sq_lt hi hlt
    have nx : ∀ H2, Fq Pc h H2 → SdC H2 b M R sx sy → (∀ q, q < i * M + j → Jn M q → Alv b M R sx sy (dX M sx q) (dX M sy q) → ¬ hI H2 149 (vm (dX M sx q) (dX M sy q)) = 0) → (Jn M (i * M + j) → Alv b M R sx sy (dX M sx (i * M + j)) (dX M sy (i * M + j)) → ¬ hI H2 149 (vm (dX M sx (i * M + j)) (dX M sy (i * M + j))) = 0) → Tr sc (d + 3) 217 (129, [some (.ref 124), some (.int (nI s)), some (.int 1), some (.int (nI i)), some (.int (nI j)), l5, l6, l7, l8, l9], [], H2) Q := by
      intro H2 g1 g2 g3 g4
      simp only [x_217_129, x_217_132, cl2_i, cl2_r, cl2_n, cl2_l, tl_s, tl_n, true_and, and_true, Option.some.injEq, exists_eq_left', Bool.and_self, Bool.true_and, Bool.and_true, Bool.or_true, Bool.true_or, i_10, i_00, if_true, if_false, not_true_eq_false, not_false_eq_true, and_false, false_and, okp_sI, okp_sL, okp_aI, okp_aL, hR_sI, hR_sL, hR_aI, hR_aL, nI_1, hl]
      refine ih (j + 1) H2 (by omega) g1 g2 (fun q hq hJ a => ?_)
      by_cases e : q = i * M + j
      · subst e; exact g4 hJ a
      · exact g3 q (by omega) hJ a
    rw [x_217_44]
    simp only [x_217_46, x_217_47, x_217_50, x_217_51, x_217_52, x_217_55, x_217_56, x_217_58, x_217_61, x_217_62, x_217_63, x_217_64, x_217_66, o_124 hwH, w_124_18 hwH, o_134 hwH, iOk_lt (k := 134) (by decide), iRd_lt (k := 134) (by decide), show LN 134 = 8 from rfl, cl2_i, cl2_r, cl2_n, cl2_l, tl_s, tl_n, true_and, and_true, Option.some.injEq, exists_eq_left', Bool.and_self, Bool.true_and, Bool.and_true, Bool.or_true, Bool.true_or, i_10, i_00, if_true, if_false, not_true_eq_false, not_false_eq_true, and_false, false_and, okp_sI, okp_sL, okp_aI, okp_aL, hR_sI, hR_sL, hR_aI, hR_aL, inb_nI (n := 8) hs (by decide), nI_clamp (n := s) (by omega), d3]
    rw [if_neg (nI_ge hlt (by omega))]
    by_cases q : i = j
    · rw [if_pos (by rw [q])]
      exact nx H f S a1 (fun hJ => absurd q.symm ((Jn_at hi hlt).mp hJ))
    · rw [if_neg (fun z => q ((nI_eq (by omega) (by omega)).mp z))]
      refine m_doMeet hwH hs D' W hi hlt (fun z => ?_) (fun z => ?_)
      · have ev : iv (37 * (sy j - sy i + 18) + (sx j - sx i) + 18) = nI (vm (sx j - sx i) (sy j - sy i)) := iv_nn (by have := z.1; omega)
        have hvl : vm (sx j - sx i) (sy j - sy i) < 1369 := (xm_vm z.1.1 z.1.2).2.2
        simp only [x_217_69, x_217_72, x_217_73, x_217_76, x_217_77, x_217_80, x_217_82, x_217_83, x_217_84, x_217_86, x_217_87, x_217_88, x_217_89, x_217_92, x_217_94, x_217_95, x_217_96, x_217_97, x_217_98, x_217_99, x_217_100, x_217_101, x_217_104, x_217_106, x_217_107, x_217_108, x_217_110, x_217_111, x_217_112, x_217_113, x_217_116, x_217_118, x_217_119, x_217_120, x_217_121, x_217_122, x_217_123, x_217_124, x_217_127, x_217_128, o_124 hwH, w_124_20 hwH, w_124_21 hwH, w_124_46 hwH, o_149 hwH, show LN 149 = 1369 from rfl, o_136 hwH, iOk_lt (k := 136) (by decide), iRd_lt (k := 136) (by decide), show LN 136 = 48 from rfl, o_137 hwH, iOk_lt (k := 137) (by decide), iRd_lt (k := 137) (by decide), show LN 137 = 48 from rfl, cl2_i, cl2_r, cl2_n, cl2_l, tl_s, tl_n, true_and, and_true, Option.some.injEq, exists_eq_left', Bool.and_self, Bool.true_and, Bool.and_true, Bool.or_true, Bool.true_or, i_10, i_00, if_true, if_false, not_true_eq_false, not_false_eq_true, and_false, false_and, okp_sI, okp_sL, okp_aI, okp_aL, hR_sI, hR_sL, hR_aI, hR_aL, mv_ix hs (show i < 6 by omega), mv_ix hs (show j < 6 by omega), inb_nI (n := 48) (show 6 * s + i < 48 by omega) (by decide), inb_nI (n := 48) (show 6 * s + j < 48 by omega) (by decide), nI_clamp (n := 6 * s + i) (by omega), nI_clamp (n := 6 * s + j) (by omega), (d4 i hi).2.1, (d4 i hi).2.2.1, (d4 j hlt).2.1, (d4 j hlt).2.2.1, iv_sub, m_vector, ev, inb_nI (n := 1369) hvl (by decide), nI_clamp (n := vm (sx j - sx i) (sy j - sy i)) (by omega), vp_b1]
        have za := (mH _ _).mp z
        have hJ : Jn M (i * M + j) := (Jn_at hi hlt).mpr (fun e => q e.symm)
        have cm := Cme_i (b := b) (R := R) (sx := sx) (sy := sy) (J := Jn M) hp hJ (by rw [f1, f2]; exact za)
        rw [f1, f2] at cm
        refine nx _ (f.sI rfl) (S.up z.1.1 z.1.2 cm) (fun q hq hJ a => up_mono (a1 q hq hJ a)) (fun _ _ => ?_)
        rw [f1, f2, hI_sI, if_pos rfl, if_pos rfl]; decide
      · simp only [x_217_69, cl2_i, cl2_r, cl2_n, cl2_l, tl_s, tl_n, true_and, and_true, Option.some.injEq, exists_eq_left', Bool.and_self, Bool.true_and, Bool.and_true, Bool.or_true, Bool.true_or, i_10, i_00, if_true, if_false, not_true_eq_false, not_false_eq_true, and_false, false_and, okp_sI, okp_sL, okp_aI, okp_aL, hR_sI, hR_sL, hR_aI, hR_aL]
        refine nx H f S a1 (fun _ a => absurd ((mH _ _).mpr ?_) z)
        rw [f1, f2] at a
        exact a
theorem m_ap_i (hw : WF h) (hs : s < 8) (D : ShM h s kd b M tn sx sy ex) (W : ShV b M sx sy) (m : AlM h b M R sx sy) (hK : ∀ H l4, cl2 l4 = l4 → Fq Pc h H → SdC H b M R sx sy → (∀ q, q < M * M → Jn M q → Alv b M R sx sy (dX M sx q) (dX M sy q) → ¬ hI H 149 (vm (dX M sx q) (dX M sy q)) = 0) → Tr sc (d + 3) 217 (141, [some (.ref 124), some (.int (nI s)), some (.int 1), some (.int (nI M)), l4, none, none, none, none, none], [], H) Q) : ∀ (c i : Nat) (H : PH) (l4 : Option Value), cl2 l4 = l4 → i + c = M → Fq Pc h H → SdC H b M R sx sy → (∀ q, q < i * M → Jn M q → Alv b M R sx sy (dX M sx q) (dX M sy q) → ¬ hI H 149 (vm (dX M sx q) (dX M sy q)) = 0) → Tr sc (d + 3) 217 (31, [some (.ref 124), some (.int (nI s)), some (.int 1), some (.int (nI i)), l4, none, none, none, none, none], [], H) Q := by
  obtain ⟨⟨b1, b2⟩, ⟨m1, m2⟩, wt⟩ := id W
  intro c
  induction c with
  | zero =>
    intro i H l4 h4 hi f S a1
    have e : i = M := by omega
    subst e
    have hwH := f.WF hw
    obtain ⟨d1, d2, d3, d4⟩ := D.fr f (fun a j h1 h2 q => by unfold Pc at q; omega)
    rw [x_217_31]
    simp only [x_217_32, x_217_33, x_217_36, x_217_37, x_217_38, o_124 hwH, w_124_18 hwH, o_134 hwH, iOk_lt (k := 134) (by decide), iRd_lt (k := 134) (by decide), show LN 134 = 8 from rfl, cl2_i, cl2_r, cl2_n, cl2_l, tl_s, tl_n, true_and, and_true, Option.some.injEq, exists_eq_left', Bool.and_self, Bool.true_and, Bool.and_true, Bool.or_true, Bool.true_or, i_10, i_00, if_true, if_false, not_true_eq_false, not_false_eq_true, and_false, false_and, okp_sI, okp_sL, okp_aI, okp_aL, hR_sI, hR_sL, hR_aI, hR_aL, inb_nI (n := 8) hs (by decide), nI_clamp (n := s) (by omega), d3]
    rw [if_pos (Int32.le_refl _)]
    exact hK H _ h4 f S a1
  | succ c ih =>
    intro i H l4 h4 hi f S a1
    have hlt : i < M := by omega
    have hwH := f.WF hw
    have D' := D.fr f (fun a j h1 h2 q => by unfold Pc at q; omega)
    rw [x_217_31]
    simp only [x_217_32, x_217_33, x_217_36, x_217_37, x_217_38, x_217_41, x_217_42, o_124 hwH, w_124_18 hwH, o_134 hwH, iOk_lt (k := 134) (by decide), iRd_lt (k := 134) (by decide), show LN 134 = 8 from rfl, cl2_i, cl2_r, cl2_n, cl2_l, tl_s, tl_n, true_and, and_true, Option.some.injEq, exists_eq_left', Bool.and_self, Bool.true_and, Bool.and_true, Bool.or_true, Bool.true_or, i_10, i_00, if_true, if_false, not_true_eq_false, not_false_eq_true, and_false, false_and, okp_sI, okp_sL, okp_aI, okp_aL, hR_sI, hR_sL, hR_aI, hR_aL, inb_nI (n := 8) hs (by decide), nI_clamp (n := s) (by omega), D'.2.2.1, h4]
    rw [if_neg (nI_ge hlt (by omega))]
    refine m_ap_j (h := h) hw hs D W m hlt rfl (fun H2 f2 S2 a2 => ?_) M 0 H (by omega) f S (by rw [Nat.add_zero]; exact a1)
    simp only [x_217_135, x_217_138, cl2_i, cl2_r, cl2_n, cl2_l, tl_s, tl_n, true_and, and_true, Option.some.injEq, exists_eq_left', Bool.and_self, Bool.true_and, Bool.and_true, Bool.or_true, Bool.true_or, i_10, i_00, if_true, if_false, not_true_eq_false, not_false_eq_true, and_false, false_and, okp_sI, okp_sL, okp_aI, okp_aL, hR_sI, hR_sL, hR_aI, hR_aL, nI_1]
    refine ih (i + 1) H2 _ rfl (by omega) f2 S2 ?_
    rw [Nat.add_mul, Nat.one_mul]
    exact a2
/-- a sweep: what holds at vector v, with the flag c -/
def Sw (h H : PH) (b M R : Nat) (sx sy : Nat → Int) (v : Nat) (c : Int32) : Prop := Fq Pc h H ∧ SdC H b M R sx sy ∧ (∀ u, ¬ hI h 149 u = 0 → ¬ hI H 149 u = 0) ∧ (c = 0 ∧ (∀ u, hI H 149 u = hI h 149 u) ∧ (∀ u, u < v → ¬ hI h 149 u = 0 → DnM h b M R sx sy u) ∨ c = 1 ∧ cnC h < cnC H)
theorem m_ap_p (hw : WF h) (hs : s < 8) (D : ShM h s kd b M tn sx sy ex) (W : ShV b M sx sy) (m : AlM h b M R sx sy) (hv : v < 1369) (hK : ∀ H c l5 l6 l7 l8 l9, cl2 l5 = l5 → cl2 l6 = l6 → cl2 l7 = l7 → cl2 l8 = l8 → Sw h H b M R sx sy (v + 1) c → Tr sc (d + 2) 217 (336, [some (.ref 124), some (.int (nI s)), some (.int 1), some (.int c), some (.int (nI v)), l5, l6, l7, l8, l9], [], H) Q) : ∀ (n p : Nat) (H : PH) (c : Int32) (l6 l7 l8 l9 : Option Value), cl2 l6 = l6 → cl2 l7 = l7 → cl2 l8 = l8 → p + n = M * M → Sw h H b M R sx sy v c → (c = 0 → ∀ q, q < p → Alv b M R sx sy (b * xm v + dX M sx q) (b * ym v + dX M sy q) → ¬ hI H 149 (vm (b * xm v + dX M sx q) (b * ym v + dX M sy q)) = 0) → Tr sc (d + 2) 217 (163, [some (.ref 124), some (.int (nI s)), some (.int 1), some (.int c), some (.int (nI v)), some (.int (nI p)), l6, l7, l8, l9], [], H) Q := by
  obtain ⟨⟨b1, b2⟩, ⟨m1, m2⟩, wt⟩ := id W
  have mm : M * M ≤ 36 := Nat.mul_le_mul m2 m2
  obtain ⟨gv, hx, hy⟩ := vm_xm hv
  obtain ⟨g1, g2⟩ := xm_i hv
  have bx := mulB (a := (b : Int)) (A := 4) (b := xm v) (B := 18) (by omega) hx
  have by' := mulB (a := (b : Int)) (A := 4) (b := ym v) (B := 18) (by omega) hy
  intro n
  induction n with
  | zero =>
    intro p H c l6 l7 l8 l9 h6 h7 h8 hp I a1
    have e : p = M * M := by omega
    subst e
    have hwH := I.1.WF hw
    obtain ⟨d1, d2, d3, d4⟩ := D.fr I.1 (fun a j h1 h2 q => by unfold Pc at q; omega)
    rw [x_217_163]
    simp only [x_217_165, x_217_166, x_217_169, x_217_170, x_217_171, x_217_172, x_217_175, x_217_176, x_217_177, x_217_178, o_124 hwH, w_124_18 hwH, o_134 hwH, iOk_lt (k := 134) (by decide), iRd_lt (k := 134) (by decide), show LN 134 = 8 from rfl, cl2_i, cl2_r, cl2_n, cl2_l, tl_s, tl_n, true_and, and_true, Option.some.injEq, exists_eq_left', Bool.and_self, Bool.true_and, Bool.and_true, Bool.or_true, Bool.true_or, i_10, i_00, if_true, if_false, not_true_eq_false, not_false_eq_true, and_false, false_and, okp_sI, okp_sL, okp_aI, okp_aL, hR_sI, hR_sL, hR_aI, hR_aL, inb_nI (n := 8) hs (by decide), nI_clamp (n := s) (by omega), d3, pk_mul]
    rw [if_pos (Int32.le_refl _)]
    refine hK H c _ _ _ _ _ rfl h6 h7 h8 ⟨I.1, I.2.1, I.2.2.1, ?_⟩
    rcases I.2.2.2 with ⟨i1, i2, i3⟩ | i1
    · refine Or.inl ⟨i1, i2, fun u hu z => ?_⟩
      by_cases e : u = v
      · subst e
        intro q hq a
        rw [← i2]
        exact a1 i1 q hq a
      · exact i3 u (by omega) z
    · exact Or.inr i1
  | succ n ih =>
    intro p H c l6 l7 l8 l9 h6 h7 h8 hp I a1
    have hlt : p < M * M := by omega
    have hwH := I.1.WF hw
    have mH : AlM H b M R sx sy := m.fr I.1 (fun j q => by unfold Pc at q; omega)
    obtain ⟨d1, d2, d3, d4⟩ := D.fr I.1 (fun a j h1 h2 q => by unfold Pc at q; omega)
    have hi : p / M < M := Nat.div_lt_of_lt_mul hlt
    have hj : p % M < M := Nat.mod_lt _ (by omega)
    have ne : ¬ nI M = 0 := nI_ne0 (by omega) (by omega)
    have pd := pk_div (a := p) (d := M) (by omega) (by omega) (by omega)
    have pr0 := pk_rem (a := p) (d := M) (by omega) (by omega) (by omega)
    have pr : nI p - nI (p / M * M) = nI (p % M) := by rw [← pr0, pd, pk_mul]
    have e1 := dX_b (fun i hi => (wt i hi).1) m1 hlt
    have e2 := dX_b (fun i hi => (wt i hi).2) m1 hlt
    have n37 : ¬ (37 : Int32) = 0 := by decide
    have k1 : iv ((b : Int) * xm v) + iv (sx (p % M)) - iv (sx (p / M)) = iv (b * xm v + dX M sx p) := by rw [iv_add, iv_sub, Int.add_sub_assoc]; rfl
    have k2 : iv ((b : Int) * ym v) + iv (sy (p % M)) - iv (sy (p / M)) = iv (b * ym v + dX M sy p) := by rw [iv_add, iv_sub, Int.add_sub_assoc]; rfl
    have nx : ∀ H2 c2, Sw h H2 b M R sx sy v c2 → (c2 = 0 → ∀ q, q < p + 1 → Alv b M R sx sy (b * xm v + dX M sx q) (b * ym v + dX M sy q) → ¬ hI H2 149 (vm (b * xm v + dX M sx q) (b * ym v + dX M sy q)) = 0) → Tr sc (d + 2) 217 (330, [some (.ref 124), some (.int (nI s)), some (.int 1), some (.int c2), some (.int (nI v)), some (.int (nI p)), some (.int (nI (6 * s + p / M))), some (.int (nI (6 * s + p % M))), some (.int (iv (b * xm v + dX M sx p))), some (.int (iv (b * ym v + dX M sy p)))], [], H2) Q := by
      intro H2 c2 I2 a2
      simp only [x_217_330, x_217_333, cl2_i, cl2_r, cl2_n, cl2_l, tl_s, tl_n, true_and, and_true, Option.some.injEq, exists_eq_left', Bool.and_self, Bool.true_and, Bool.and_true, Bool.or_true, Bool.true_or, i_10, i_00, if_true, if_false, not_true_eq_false, not_false_eq_true, and_false, false_and, okp_sI, okp_sL, okp_aI, okp_aL, hR_sI, hR_sL, hR_aI, hR_aL, nI_1]
      exact ih (p + 1) H2 c2 _ _ _ _ rfl rfl rfl (by omega) I2 a2
    rw [x_217_163]
    simp only [x_217_165, x_217_166, x_217_169, x_217_170, x_217_171, x_217_172, x_217_175, x_217_176, x_217_177, x_217_178, x_217_181, x_217_182, x_217_185, x_217_187, x_217_188, o_124 hwH, w_124_18 hwH, w_124_46 hwH, o_134 hwH, iOk_lt (k := 134) (by decide), iRd_lt (k := 134) (by decide), show LN 134 = 8 from rfl, o_149 hwH, show LN 149 = 1369 from rfl, cl2_i, cl2_r, cl2_n, cl2_l, tl_s, tl_n, true_and, and_true, Option.some.injEq, exists_eq_left', Bool.and_self, Bool.true_and, Bool.and_true, Bool.or_true, Bool.true_or, i_10, i_00, if_true, if_false, not_true_eq_false, not_false_eq_true, and_false, false_and, okp_sI, okp_sL, okp_aI, okp_aL, hR_sI, hR_sL, hR_aI, hR_aL, inb_nI (n := 8) hs (by decide), nI_clamp (n := s) (by omega), d3, pk_mul, inb_nI (n := 1369) hv (by decide), nI_clamp (n := v) (by omega)]
    rw [if_neg (nI_ge hlt (by omega))]
    by_cases q0 : hI H 149 v = 0
    · rw [if_pos q0]
      refine hK H c _ _ _ _ _ rfl h6 h7 h8 ⟨I.1, I.2.1, I.2.2.1, ?_⟩
      rcases I.2.2.2 with ⟨i1, i2, i3⟩ | i1
      · refine Or.inl ⟨i1, i2, fun u hu z => ?_⟩
        by_cases e : u = v
        · exact absurd (by rw [← i2, e]; exact q0) z
        · exact i3 u (by omega) z
      · exact Or.inr i1
    · rw [if_neg q0]
      have hC := I.2.1 v hv q0
      simp only [x_217_191, x_217_193, x_217_194, x_217_195, x_217_197, x_217_198, x_217_201, x_217_202, x_217_203, x_217_204, x_217_205, x_217_207, x_217_209, x_217_210, x_217_211, x_217_213, x_217_214, x_217_217, x_217_218, x_217_219, x_217_220, x_217_221, x_217_223, x_217_224, x_217_227, x_217_228, x_217_229, x_217_231, x_217_233, x_217_234, x_217_236, x_217_237, x_217_238, x_217_239, x_217_242, x_217_244, x_217_245, x_217_246, x_217_247, x_217_250, x_217_252, x_217_253, x_217_254, x_217_256, x_217_257, x_217_260, x_217_261, x_217_262, x_217_264, x_217_266, x_217_267, x_217_269, x_217_270, x_217_271, x_217_272, x_217_275, x_217_277, x_217_278, x_217_279, x_217_280, x_217_283, x_217_285, x_217_286, x_217_287, x_217_289, x_217_290, x_217_292, x_217_294, o_124 hwH, w_124_17 hwH, w_124_18 hwH, w_124_20 hwH, w_124_21 hwH, o_134 hwH, iOk_lt (k := 134) (by decide), iRd_lt (k := 134) (by decide), show LN 134 = 8 from rfl, o_133 hwH, iOk_lt (k := 133) (by decide), iRd_lt (k := 133) (by decide), show LN 133 = 8 from rfl, o_136 hwH, iOk_lt (k := 136) (by decide), iRd_lt (k := 136) (by decide), show LN 136 = 48 from rfl, o_137 hwH, iOk_lt (k := 137) (by decide), iRd_lt (k := 137) (by decide), show LN 137 = 48 from rfl, cl2_i, cl2_r, cl2_n, cl2_l, tl_s, tl_n, true_and, and_true, Option.some.injEq, exists_eq_left', Bool.and_self, Bool.true_and, Bool.and_true, Bool.or_true, Bool.true_or, i_10, i_00, if_true, if_false, not_true_eq_false, not_false_eq_true, and_false, false_and, okp_sI, okp_sL, okp_aI, okp_aL, hR_sI, hR_sL, hR_aI, hR_aL, h6, h7, h8, inb_nI (n := 8) hs (by decide), nI_clamp (n := s) (by omega), d2, d3, pk_mul, ne, pd, pr, n37, g1, g2, mv_ix hs (show p / M < 6 by omega), mv_ix hs (show p % M < 6 by omega), inb_nI (n := 48) (show 6 * s + p / M < 48 by omega) (by decide), inb_nI (n := 48) (show 6 * s + p % M < 48 by omega) (by decide), nI_clamp (n := 6 * s + p / M) (by omega), nI_clamp (n := 6 * s + p % M) (by omega), (d4 _ hi).2.1, (d4 _ hi).2.2.1, (d4 _ hj).2.1, (d4 _ hj).2.2.1, iv_n b, iv_mul, k1, k2]
      refine m_isAlv hwH ⟨by omega, by omega⟩ ⟨by omega, by omega⟩ (fun z => ?_) (fun z => ?_)
      · have za := (mH _ _).mp z
        obtain ⟨q1, q2, q3⟩ := xm_vm z.1.1 z.1.2
        have ev : iv (37 * ((b : Int) * ym v + dX M sy p + 18) + ((b : Int) * xm v + dX M sx p) + 18) = nI (vm ((b : Int) * xm v + dX M sx p) ((b : Int) * ym v + dX M sy p)) := iv_nn (by have := z.1; omega)
        have cm := Cme_s hC hlt za
        have z1 := z.1
        generalize hu0 : vm ((b : Int) * xm v + dX M sx p) ((b : Int) * ym v + dX M sy p) = u0 at *
        simp only [x_217_297, x_217_300, x_217_301, x_217_304, x_217_306, x_217_308, x_217_311, x_217_312, o_124 hwH, w_124_46 hwH, o_149 hwH, show LN 149 = 1369 from rfl, cl2_i, cl2_r, cl2_n, cl2_l, tl_s, tl_n, true_and, and_true, Option.some.injEq, exists_eq_left', Bool.and_self, Bool.true_and, Bool.and_true, Bool.or_true, Bool.true_or, i_10, i_00, if_true, if_false, not_true_eq_false, not_false_eq_true, and_false, false_and, okp_sI, okp_sL, okp_aI, okp_aL, hR_sI, hR_sL, hR_aI, hR_aL, m_vector, ev, inb_nI (n := 1369) q3 (by decide), nI_clamp (n := u0) (by omega)]
        by_cases q4 : hI H 149 u0 = 0
        · rw [if_pos q4]
          simp only [x_217_315, x_217_316, x_217_319, x_217_321, x_217_323, x_217_326, x_217_327, x_217_328, x_217_329, o_124 hwH, w_124_46 hwH, o_149 hwH, show LN 149 = 1369 from rfl, cl2_i, cl2_r, cl2_n, cl2_l, tl_s, tl_n, true_and, and_true, Option.some.injEq, exists_eq_left', Bool.and_self, Bool.true_and, Bool.and_true, Bool.or_true, Bool.true_or, i_10, i_00, if_true, if_false, not_true_eq_false, not_false_eq_true, and_false, false_and, okp_sI, okp_sL, okp_aI, okp_aL, hR_sI, hR_sL, hR_aI, hR_aL, m_vector, ev, inb_nI (n := 1369) q3 (by decide), nI_clamp (n := u0) (by omega), vp_b1]
          have S2 := I.2.1.up z1.1 z1.2 cm
          rw [hu0] at S2
          refine nx _ 1 ⟨I.1.sI rfl, S2, fun u hu => up_mono (I.2.2.1 u hu), Or.inr ⟨rfl, ?_⟩⟩ (fun e => absurd e (by decide))
          have up := cnC_up q3 q4
          rcases I.2.2.2 with ⟨i1, i2, i3⟩ | ⟨i1, i2⟩
          · have e : cnC H = cnC h := by
              unfold cnC
              congr 1
              funext u
              rw [i2 u]
            rw [← e]; exact up
          · exact Nat.lt_trans i2 up
        · rw [if_neg q4]
          refine nx H c I (fun e q hq a => ?_)
          by_cases e5 : q = p
          · subst e5; rw [hu0]; exact q4
          · exact a1 e q (by omega) a
      · simp only [x_217_297, cl2_i, cl2_r, cl2_n, cl2_l, tl_s, tl_n, true_and, and_true, Option.some.injEq, exists_eq_left', Bool.and_self, Bool.true_and, Bool.and_true, Bool.or_true, Bool.true_or, i_10, i_00, if_true, if_false, not_true_eq_false, not_false_eq_true, and_false, false_and, okp_sI, okp_sL, okp_aI, okp_aL, hR_sI, hR_sL, hR_aI, hR_aL]
        refine nx H c I (fun e q hq a => ?_)
        by_cases e5 : q = p
        · subst e5; exact absurd ((mH _ _).mpr a) z
        · exact a1 e q (by omega) a
theorem m_ap_v (hw : WF h) (hs : s < 8) (D : ShM h s kd b M tn sx sy ex) (W : ShV b M sx sy) (m : AlM h b M R sx sy) (hK : ∀ H c l5 l6 l7 l8 l9, cl2 l5 = l5 → cl2 l6 = l6 → cl2 l7 = l7 → cl2 l8 = l8 → Sw h H b M R sx sy 1369 c → Tr sc (d + 2) 217 (143, [some (.ref 124), some (.int (nI s)), some (.int 1), some (.int c), some (.int (nI 1369)), l5, l6, l7, l8, l9], [], H) Q) : ∀ (n v : Nat) (H : PH) (c : Int32) (l5 l6 l7 l8 l9 : Option Value), cl2 l5 = l5 → cl2 l6 = l6 → cl2 l7 = l7 → cl2 l8 = l8 → v + n = 1369 → Sw h H b M R sx sy v c → Tr sc (d + 2) 217 (152, [some (.ref 124), some (.int (nI s)), some (.int 1), some (.int c), some (.int (nI v)), l5, l6, l7, l8, l9], [], H) Q := by
  intro n
  induction n with
  | zero =>
    intro v H c l5 l6 l7 l8 l9 h5 h6 h7 h8 hv I
    have e : v = 1369 := by omega
    subst e
    rw [x_217_152]
    simp only [x_217_154, x_217_157, x_217_342, cl2_i, cl2_r, cl2_n, cl2_l, tl_s, tl_n, true_and, and_true, Option.some.injEq, exists_eq_left', Bool.and_self, Bool.true_and, Bool.and_true, Bool.or_true, Bool.true_or, i_10, i_00, if_true, if_false, not_true_eq_false, not_false_eq_true, and_false, false_and, okp_sI, okp_sL, okp_aI, okp_aL, hR_sI, hR_sL, hR_aI, hR_aL]
    rw [if_pos (by decide)]
    exact hK H c _ _ _ _ _ h5 h6 h7 h8 I
  | succ n ih =>
    intro v H c l5 l6 l7 l8 l9 h5 h6 h7 h8 hv I
    have hlt : v < 1369 := by omega
    rw [x_217_152]
    simp only [x_217_154, x_217_157, x_217_160, x_217_161, cl2_i, cl2_r, cl2_n, cl2_l, tl_s, tl_n, true_and, and_true, Option.some.injEq, exists_eq_left', Bool.and_self, Bool.true_and, Bool.and_true, Bool.or_true, Bool.true_or, i_10, i_00, if_true, if_false, not_true_eq_false, not_false_eq_true, and_false, false_and, okp_sI, okp_sL, okp_aI, okp_aL, hR_sI, hR_sL, hR_aI, hR_aL, h5, h6, h7, h8]
    rw [if_neg (show ¬ (1369 : Int32) ≤ nI v from nI_ge (a := v) (b := 1369) hlt (by decide))]
    refine m_ap_p hw hs D W m hlt (fun H2 c2 l5 l6 l7 l8 l9 g5 g6 g7 g8 I2 => ?_) (M * M) 0 H c l6 l7 l8 l9 h6 h7 h8 (by omega) I (fun _ q hq => by omega)
    simp only [x_217_336, x_217_339, cl2_i, cl2_r, cl2_n, cl2_l, tl_s, tl_n, true_and, and_true, Option.some.injEq, exists_eq_left', Bool.and_self, Bool.true_and, Bool.and_true, Bool.or_true, Bool.true_or, i_10, i_00, if_true, if_false, not_true_eq_false, not_false_eq_true, and_false, false_and, okp_sI, okp_sL, okp_aI, okp_aL, hR_sI, hR_sL, hR_aI, hR_aL, nI_1, g5, g6, g7, g8]
    exact ih (v + 1) H2 c2 _ _ _ _ _ g5 g6 g7 g8 (by omega) I2
theorem m_ap_o (hw : WF h) (hs : s < 8) (D : ShM h s kd b M tn sx sy ex) (W : ShV b M sx sy) (m : AlM h b M R sx sy) (hK : ∀ H l3 l4 l5 l6 l7 l8 l9, Fq Pc h H → SdC H b M R sx sy → (∀ u, ¬ hI h 149 u = 0 → ¬ hI H 149 u = 0) → (∀ u, u < 1369 → ¬ hI H 149 u = 0 → DnM H b M R sx sy u) → Tr sc (d + 2) 217 (345, [some (.ref 124), some (.int (nI s)), some (.int 1), l3, l4, l5, l6, l7, l8, l9], [], H) Q) : ∀ (n : Nat) (H : PH) (l4 l5 l6 l7 l8 l9 : Option Value), cl2 l4 = l4 → cl2 l5 = l5 → cl2 l6 = l6 → cl2 l7 = l7 → cl2 l8 = l8 → 1369 < n + cnC H → Fq Pc h H → SdC H b M R sx sy → (∀ u, ¬ hI h 149 u = 0 → ¬ hI H 149 u = 0) → Tr sc (d + 2) 217 (143, [some (.ref 124), some (.int (nI s)), some (.int 1), some (.int 1), l4, l5, l6, l7, l8, l9], [], H) Q := by
  intro n
  induction n with
  | zero =>
    intro H l4 l5 l6 l7 l8 l9 h4 h5 h6 h7 h8 hn
    have := cnB_n (g := fun v => decide (¬ hI H 149 v = 0)) 1369
    unfold cnC at hn
    omega
  | succ n ih =>
    intro H l4 l5 l6 l7 l8 l9 h4 h5 h6 h7 h8 hn f S mo
    have hwH := f.WF hw
    have D' := D.fr f (fun a j h1 h2 q => by unfold Pc at q; omega)
    have mH : AlM H b M R sx sy := m.fr f (fun j q => by unfold Pc at q; omega)
    rw [x_217_143]
    simp only [x_217_144, x_217_147, x_217_148, x_217_149, x_217_150, cl2_i, cl2_r, cl2_n, cl2_l, tl_s, tl_n, true_and, and_true, Option.some.injEq, exists_eq_left', Bool.and_self, Bool.true_and, Bool.and_true, Bool.or_true, Bool.true_or, i_10, i_00, if_true, if_false, not_true_eq_false, not_false_eq_true, and_false, false_and, okp_sI, okp_sL, okp_aI, okp_aL, hR_sI, hR_sL, hR_aI, hR_aL, h4, h5, h6, h7, h8]
    refine m_ap_v (h := H) hwH hs D' W mH (fun H2 c2 l5 l6 l7 l8 l9 g5 g6 g7 g8 I2 => ?_) 1369 0 H 0 l5 l6 l7 l8 l9 h5 h6 h7 h8 (by omega) ⟨Fq.rf, S, fun _ u => u, Or.inl ⟨rfl, fun _ => rfl, fun u hu => by omega⟩⟩
    obtain ⟨f2, S2, m2, alt⟩ := I2
    rcases alt with ⟨j1, j2, j3⟩ | ⟨j1, j2⟩
    · rw [j1, x_217_143]
      simp only [x_217_144, cl2_i, cl2_r, cl2_n, cl2_l, tl_s, tl_n, true_and, and_true, Option.some.injEq, exists_eq_left', Bool.and_self, Bool.true_and, Bool.and_true, Bool.or_true, Bool.true_or, i_10, i_00, if_true, if_false, not_true_eq_false, not_false_eq_true, and_false, false_and, okp_sI, okp_sL, okp_aI, okp_aL, hR_sI, hR_sL, hR_aI, hR_aL]
      refine hK H2 _ _ _ _ _ _ _ (f.tr f2) S2 (fun u hu => m2 u (mo u hu)) (fun u hu z => ?_)
      intro p hp a
      rw [j2]
      exact j3 u hu (by rw [← j2]; exact z) p hp a
    · rw [j1]
      exact ih H2 _ _ _ _ _ _ rfl g5 g6 g7 g8 (by omega) (f.tr f2) S2 (fun u hu => m2 u (mo u hu))
def Pd (a b : Nat) : Prop := a = 148 ∨ a = 149
theorem m_isApart (hw : WF h) (hs : s < 8) (D : ShM h s kd b M tn sx sy ex) (W : ShV b M sx sy) (Qt : ¬ Cme b M (rch b M sx sy) sx sy (Jn M) 0 0 → ∀ H, Fq Pd h H → Q (some (.int 1), H)) (Qf : Cme b M (rch b M sx sy) sx sy (Jn M) 0 0 → ∀ H, Fq Pd h H → Q (some (.int 0), H)) : Tr sc (d + 4) 217 (ent0 217 [.ref 124, .int (nI s)] h) Q := by
  rw [e_217]
  simp only [x_217_0, x_217_1, x_217_2, o_124 hw, cl2_i, cl2_r, cl2_n, cl2_l, tl_s, tl_n, true_and, and_true, Option.some.injEq, exists_eq_left', Bool.and_self, Bool.true_and, Bool.and_true, Bool.or_true, Bool.true_or, i_10, i_00, if_true, if_false, not_true_eq_false, not_false_eq_true, and_false, false_and, okp_sI, okp_sL, okp_aI, okp_aL, hR_sI, hR_sL, hR_aI, hR_aL]
  refine m_setAlive hw hs D W (fun H0 f0 m => ?_)
  have hw0 := f0.WF hw
  have D0 := D.fr f0 (fun a j h1 h2 q => by unfold Pa at q; omega)
  obtain ⟨-, hR⟩ := rch_ok W
  generalize rch b M sx sy = R at *
  simp only [x_217_5, x_217_6, x_217_7, x_217_8, cl2_i, cl2_r, cl2_n, cl2_l, tl_s, tl_n, true_and, and_true, Option.some.injEq, exists_eq_left', Bool.and_self, Bool.true_and, Bool.and_true, Bool.or_true, Bool.true_or, i_10, i_00, if_true, if_false, not_true_eq_false, not_false_eq_true, and_false, false_and, okp_sI, okp_sL, okp_aI, okp_aL, hR_sI, hR_sL, hR_aI, hR_aL]
  refine m_ap_1 hw0 rfl (fun H1 f1 a1 => ?_) 1369 0 H0 (by omega) Fq.rf (fun u hu => by omega)
  simp only [x_217_29, x_217_30, cl2_i, cl2_r, cl2_n, cl2_l, tl_s, tl_n, true_and, and_true, Option.some.injEq, exists_eq_left', Bool.and_self, Bool.true_and, Bool.and_true, Bool.or_true, Bool.true_or, i_10, i_00, if_true, if_false, not_true_eq_false, not_false_eq_true, and_false, false_and, okp_sI, okp_sL, okp_aI, okp_aL, hR_sI, hR_sL, hR_aI, hR_aL]
  refine m_ap_i (d := d + 1) (h := H0) hw0 hs D0 W m (fun H2 l4 g4 f2 S2 a2 => ?_) M 0 H1 none rfl (by omega) f1 (fun v hv z => absurd (a1 v hv) z) (fun q hq => by omega)
  have hw2 := f2.WF hw0
  have D2 := D0.fr f2 (fun a j h1 h2 q => by unfold Pc at q; omega)
  have m2 : AlM H2 b M R sx sy := AlM.fr m f2 (fun j q => by unfold Pc at q; omega)
  simp only [x_217_141, x_217_142, cl2_i, cl2_r, cl2_n, cl2_l, tl_s, tl_n, true_and, and_true, Option.some.injEq, exists_eq_left', Bool.and_self, Bool.true_and, Bool.and_true, Bool.or_true, Bool.true_or, i_10, i_00, if_true, if_false, not_true_eq_false, not_false_eq_true, and_false, false_and, okp_sI, okp_sL, okp_aI, okp_aL, hR_sI, hR_sL, hR_aI, hR_aL, g4]
  refine m_ap_o (d := d + 2) (h := H2) hw2 hs D2 W m2 (fun H3 l3 l4 l5 l6 l7 l8 l9 f3 S3 mo d3 => ?_) 1370 H2 l4 none none none none none g4 rfl rfl rfl rfl (by omega) Fq.rf S2 (fun _ u => u)
  have hw3 := f3.WF hw2
  have f03 : Fq Pd h H3 := (f0.wk (fun a b q => Or.inl q)).tr ((f2.wk (fun a b q => Or.inr q)).tr (f3.wk (fun a b q => Or.inr q)))
  have mv : ∀ (d : Nat) (Q : PRes → Prop), Tr sc d 212 (ent0 212 [.int 0, .int 0] H3) Q = Q (some (.int (nI 684)), H3) := fun d Q => m_vector (X := 0) (Y := 0)
  have v0 : vm 0 0 = 684 := rfl
  have key : ¬ hI H3 149 684 = 0 ↔ Cme b M R sx sy (Jn M) 0 0 := by
    constructor
    · intro z
      have := S3 684 (by decide) z
      exact this
    · intro c
      have c2 := c (fun X Y => ((-18 ≤ X ∧ X ≤ 18) ∧ (-18 ≤ Y ∧ Y ≤ 18)) ∧ ¬ hI H3 149 (vm X Y) = 0) (fun p hp hJ a => ⟨((m _ _).mpr a).1, mo _ (a2 p hp hJ a)⟩) (fun X Y p q hp a => by
        obtain ⟨k1, k2, k3⟩ := xm_vm q.1.1 q.1.2
        have := d3 _ k3 q.2 p hp
        rw [k1, k2] at this
        exact ⟨((m _ _).mpr a).1, this a⟩)
      have c3 := c2.2
      rw [v0] at c3
      exact c3
  simp only [x_217_345, x_217_346, x_217_349, x_217_350, x_217_351, x_217_354, x_217_355, x_217_358, x_217_359, x_217_362, x_217_363, o_124 hw3, w_124_46 hw3, o_149 hw3, show LN 149 = 1369 from rfl, cl2_i, cl2_r, cl2_n, cl2_l, tl_s, tl_n, true_and, and_true, Option.some.injEq, exists_eq_left', Bool.and_self, Bool.true_and, Bool.and_true, Bool.or_true, Bool.true_or, i_10, i_00, if_true, if_false, not_true_eq_false, not_false_eq_true, and_false, false_and, okp_sI, okp_sL, okp_aI, okp_aL, hR_sI, hR_sL, hR_aI, hR_aL, mv, inb_nI (i := 684) (n := 1369) (by decide) (by decide), nI_clamp (n := 684) (by decide), vp_b0, vp_b1]
  by_cases q : hI H3 149 684 = 0
  · rw [if_pos q]
    exact Qt (fun c => key.mpr c q) H3 f03
  · rw [if_neg q]
    exact Qf (key.mp q) H3 f03
end AP
