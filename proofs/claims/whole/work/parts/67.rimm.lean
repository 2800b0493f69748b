/-! ===== rim, in the model ===== -/
def Pn (a b : Nat) : Prop := a = 158 ∨ a = 159
section RN
variable {sc : Nat × (Nat → Int32)} {d : Nat} {Q : PRes → Prop} {h h' h1 H : PH} {k s r b M R i j v p n t : Nat} {kd x y z w : Int32} {tn : Nat → Nat} {sx sy ex : Nat → Int} {X Y : Int}
def AlM (h : PH) (b M R : Nat) (sx sy : Nat → Int) : Prop := ∀ X Y, Lm h X Y ↔ Alv b M R sx sy X Y
theorem AlM.fr {P : Nat → Nat → Prop} (a : AlM h b M R sx sy) (f : Fq P h h') (hP : ∀ j, ¬ P 148 j) : AlM h' b M R sx sy := fun X Y => by
  rw [← a X Y]
  unfold Lm
  rw [f.i (hP _)]
theorem alm_at (m : AlM h b M R sx sy) (hv : v < 1369) : ¬ hI h 148 v = 0 ↔ Alv b M R sx sy (xm v) (ym v) := by
  obtain ⟨gv, hx, hy⟩ := vm_xm hv
  rw [← m (xm v) (ym v)]
  unfold Lm
  rw [gv]
  exact ⟨fun q => ⟨⟨hx, hy⟩, q⟩, fun q => q.2⟩
noncomputable def pl0 (b M R : Nat) (sx sy : Nat → Int) (t : Nat) (X Y : Int) (p : Nat) : Int := sZ (fun p => if cd (Alv b M R sx sy (b * X + dX M sx p) (b * Y + dX M sy p)) = true then Gw b M R sx sy t (b * X + dX M sx p) (b * Y + dX M sy p) else 0) p
theorem m_ri_p (hw : WF h) (hs : s < 8) (D : ShM h s kd b M tn sx sy ex) (W : ShV b M sx sy) (m : AlM h b M R sx sy) (hv : v < 1369) (ha : Alv b M R sx sy (xm v) (ym v)) (hu : ∀ j, j < 1369 → hL h 158 j = jv (Gw b M R sx sy t (xm j) (ym j))) (hK : ∀ H l6 l7 l8 l9 l10, cl2 l6 = l6 → cl2 l7 = l7 → cl2 l8 = l8 → cl2 l9 = l9 → Fq (fun a j => a = 159 ∧ j = v) h H → hL H 159 v = jv (pl0 b M R sx sy t (xm v) (ym v) (M * M)) → Tr sc (d + 2) 235 (263, [some (.ref 124), some (.int (nI s)), some (.int y), some (.int 0), some (.int (nI n)), some (.int (nI v)), l6, l7, l8, l9, l10], [], H) Q) : ∀ (c p : Nat) (H : PH) (l7 l8 l9 l10 : Option Value), cl2 l7 = l7 → cl2 l8 = l8 → cl2 l9 = l9 → p + c = M * M → Fq (fun a j => a = 159 ∧ j = v) h H → hL H 159 v = jv (pl0 b M R sx sy t (xm v) (ym v) p) → Tr sc (d + 2) 235 (94, [some (.ref 124), some (.int (nI s)), some (.int y), some (.int 0), some (.int (nI n)), some (.int (nI v)), some (.int (nI p)), l7, l8, l9, l10], [], H) Q := by
  obtain ⟨⟨b1, b2⟩, ⟨m1, m2⟩, wt⟩ := id W
  have mm : M * M ≤ 36 := Nat.mul_le_mul m2 m2
  obtain ⟨gv, hx, hy⟩ := vm_xm hv
  obtain ⟨g1, g2⟩ := xm_i hv
  have bx := mulB (a := (b : Int)) (A := 4) (b := xm v) (B := 18) (by omega) hx
  have by' := mulB (a := (b : Int)) (A := 4) (b := ym v) (B := 18) (by omega) hy
  intro c
  induction c with
  | zero =>
    intro p H l7 l8 l9 l10 h7 h8 h9 hp f a1
    have e : p = M * M := by omega
    subst e
    have hwH := f.WF hw
    obtain ⟨d1, d2, d3, d4⟩ := D.fr f (fun a j h1 h2 q => by omega)
    rw [x_235_94]
    simp only [x_235_96, x_235_97, x_235_100, x_235_101, x_235_102, x_235_103, x_235_106, x_235_107, x_235_108, x_235_109, o_124 hwH, w_124_18 hwH, o_134 hwH, iOk_lt (k := 134) (by decide), iRd_lt (k := 134) (by decide), show LN 134 = 8 from rfl, cl2_i, cl2_r, cl2_n, cl2_l, tl_s, tl_n, true_and, and_true, Option.some.injEq, exists_eq_left', Bool.and_self, Bool.true_and, Bool.and_true, Bool.or_true, Bool.true_or, i_10, i_00, if_true, if_false, not_true_eq_false, not_false_eq_true, and_false, false_and, okp_sI, okp_sL, okp_aI, okp_aL, hR_sI, hR_sL, hR_aI, hR_aL, inb_nI (n := 8) hs (by decide), nI_clamp (n := s) (by omega), d3, pk_mul]
    rw [if_pos (Int32.le_refl _)]
    exact hK H _ _ _ _ _ rfl h7 h8 h9 f a1
  | succ c ih =>
    intro p H l7 l8 l9 l10 h7 h8 h9 hp f a1
    have hlt : p < M * M := by omega
    have hwH := f.WF hw
    have mH : AlM H b M R sx sy := m.fr f (fun j q => by omega)
    obtain ⟨d1, d2, d3, d4⟩ := D.fr f (fun a j h1 h2 q => by omega)
    have hi : p / M < M := Nat.div_lt_of_lt_mul hlt
    have hj : p % M < M := Nat.mod_lt _ (by omega)
    have ne : ¬ nI M = 0 := nI_ne0 (by omega) (by omega)
    have pd := pk_div (a := p) (d := M) (by omega) (by omega) (by omega)
    have pr0 := pk_rem (a := p) (d := M) (by omega) (by omega) (by omega)
    have pr : nI p - nI (p / M * M) = nI (p % M) := by rw [← pr0, pd, pk_mul]
    have e1 := dX_b (fun i hi => (wt i hi).1) m1 hlt
    have e2 := dX_b (fun i hi => (wt i hi).2) m1 hlt
    have n37 : ¬ (37 : Int32) = 0 := by decide
    have k1 : iv ((b : Int) * xm v) + iv (sx (p % M)) - iv (sx (p / M)) = iv (b * xm v + dX M sx p) := by rw [iv_add, iv_sub, Int.add_sub_assoc]; rfl
    have k2 : iv ((b : Int) * ym v) + iv (sy (p % M)) - iv (sy (p / M)) = iv (b * ym v + dX M sy p) := by rw [iv_add, iv_sub, Int.add_sub_assoc]; rfl
    have al : ¬ hI H 148 v = 0 := (alm_at mH hv).mpr ha
    have fe : pl0 b M R sx sy t (xm v) (ym v) (p + 1) = pl0 b M R sx sy t (xm v) (ym v) p + (if cd (Alv b M R sx sy (b * xm v + dX M sx p) (b * ym v + dX M sy p)) = true then Gw b M R sx sy t (b * xm v + dX M sx p) (b * ym v + dX M sy p) else 0) := rfl
    have key : ∀ z : Int, z = (if cd (Alv b M R sx sy (b * xm v + dX M sx p) (b * ym v + dX M sy p)) = true then Gw b M R sx sy t (b * xm v + dX M sx p) (b * ym v + dX M sy p) else 0) → Tr sc (d + 2) 235 (255, [some (.ref 124), some (.int (nI s)), some (.int y), some (.int 0), some (.int (nI n)), some (.int (nI v)), some (.int (nI p)), some (.int (nI (6 * s + p / M))), some (.int (nI (6 * s + p % M))), some (.int (iv (b * xm v + dX M sx p))), some (.int (iv (b * ym v + dX M sy p)))], [.long (jv z), .long (hL H 159 v), .int (nI v), .ref 159], H) Q := by
      intro z hz
      simp only [x_235_255, x_235_256, x_235_257, x_235_260, o_124 hwH, o_159 hwH, show LN 159 = 1369 from rfl, cl2_i, cl2_r, cl2_n, cl2_l, tl_s, tl_n, true_and, and_true, Option.some.injEq, exists_eq_left', Bool.and_self, Bool.true_and, Bool.and_true, Bool.or_true, Bool.true_or, i_10, i_00, if_true, if_false, not_true_eq_false, not_false_eq_true, and_false, false_and, okp_sI, okp_sL, okp_aI, okp_aL, hR_sI, hR_sL, hR_aI, hR_aL, inb_nI (n := 1369) hv (by decide), nI_clamp (n := v) (by omega), nI_1, a1, jv_add]
      refine ih (p + 1) _ _ _ _ _ rfl rfl rfl (by omega) (f.sL ⟨rfl, rfl⟩) ?_
      rw [hL_sL, if_pos rfl, if_pos rfl, fe, hz]
    rw [x_235_94]
    simp only [x_235_96, x_235_97, x_235_100, x_235_101, x_235_102, x_235_103, x_235_106, x_235_107, x_235_108, x_235_109, x_235_112, x_235_113, x_235_116, x_235_118, x_235_119, x_235_122, x_235_124, x_235_125, x_235_126, x_235_128, x_235_129, x_235_132, x_235_133, x_235_134, x_235_135, x_235_136, x_235_138, x_235_140, x_235_141, x_235_142, x_235_144, x_235_145, x_235_148, x_235_149, x_235_150, x_235_151, x_235_152, x_235_154, x_235_155, x_235_158, x_235_159, x_235_160, x_235_162, x_235_164, x_235_165, x_235_167, x_235_168, x_235_169, x_235_170, x_235_173, x_235_175, x_235_176, x_235_177, x_235_178, x_235_181, x_235_183, x_235_184, x_235_185, x_235_187, x_235_188, x_235_191, x_235_192, x_235_193, x_235_195, x_235_197, x_235_198, x_235_200, x_235_201, x_235_202, x_235_203, x_235_206, x_235_208, x_235_209, x_235_210, x_235_211, x_235_214, x_235_216, x_235_217, x_235_218, x_235_220, x_235_221, x_235_224, x_235_226, x_235_227, x_235_228, x_235_229, x_235_231, x_235_233, o_124 hwH, w_124_17 hwH, w_124_18 hwH, w_124_20 hwH, w_124_21 hwH, w_124_45 hwH, w_124_57 hwH, o_134 hwH, iOk_lt (k := 134) (by decide), iRd_lt (k := 134) (by decide), show LN 134 = 8 from rfl, o_148 hwH, show LN 148 = 1369 from rfl, o_133 hwH, iOk_lt (k := 133) (by decide), iRd_lt (k := 133) (by decide), show LN 133 = 8 from rfl, o_136 hwH, iOk_lt (k := 136) (by decide), iRd_lt (k := 136) (by decide), show LN 136 = 48 from rfl, o_137 hwH, iOk_lt (k := 137) (by decide), iRd_lt (k := 137) (by decide), show LN 137 = 48 from rfl, o_159 hwH, show LN 159 = 1369 from rfl, cl2_i, cl2_r, cl2_n, cl2_l, tl_s, tl_n, true_and, and_true, Option.some.injEq, exists_eq_left', Bool.and_self, Bool.true_and, Bool.and_true, Bool.or_true, Bool.true_or, i_10, i_00, if_true, if_false, not_true_eq_false, not_false_eq_true, and_false, false_and, okp_sI, okp_sL, okp_aI, okp_aL, hR_sI, hR_sL, hR_aI, hR_aL, h7, h8, h9, inb_nI (n := 8) hs (by decide), nI_clamp (n := s) (by omega), d2, d3, pk_mul, inb_nI (n := 1369) hv (by decide), nI_clamp (n := v) (by omega), al, ne, pd, pr, n37, g1, g2, mv_ix hs (show p / M < 6 by omega), mv_ix hs (show p % M < 6 by omega), inb_nI (n := 48) (show 6 * s + p / M < 48 by omega) (by decide), inb_nI (n := 48) (show 6 * s + p % M < 48 by omega) (by decide), nI_clamp (n := 6 * s + p / M) (by omega), nI_clamp (n := 6 * s + p % M) (by omega), (d4 _ hi).2.1, (d4 _ hi).2.2.1, (d4 _ hj).2.1, (d4 _ hj).2.2.1, iv_n b, iv_mul, k1, k2]
    rw [if_neg (nI_ge hlt (by omega))]
    refine m_isAlv hwH ⟨by omega, by omega⟩ ⟨by omega, by omega⟩ (fun z => ?_) (fun z => ?_)
    · have za := (mH _ _).mp z
      obtain ⟨q1, q2, q3⟩ := xm_vm z.1.1 z.1.2
      have ev : iv (37 * ((b : Int) * ym v + dX M sy p + 18) + ((b : Int) * xm v + dX M sx p) + 18) = nI (vm ((b : Int) * xm v + dX M sx p) ((b : Int) * ym v + dX M sy p)) := iv_nn (by have := z.1; omega)
      have hw0 : hL H 158 (vm ((b : Int) * xm v + dX M sx p) ((b : Int) * ym v + dX M sy p)) = jv (Gw b M R sx sy t (b * xm v + dX M sx p) (b * ym v + dX M sy p)) := by
        rw [f.l (by omega), hu _ q3, q1, q2]
      simp only [x_235_236, x_235_239, x_235_240, x_235_243, x_235_245, x_235_247, x_235_250, x_235_251, o_124 hwH, w_124_56 hwH, o_158 hwH, show LN 158 = 1369 from rfl, o_158 hwH, show LN 158 = 1369 from rfl, cl2_i, cl2_r, cl2_n, cl2_l, tl_s, tl_n, true_and, and_true, Option.some.injEq, exists_eq_left', Bool.and_self, Bool.true_and, Bool.and_true, Bool.or_true, Bool.true_or, i_10, i_00, if_true, if_false, not_true_eq_false, not_false_eq_true, and_false, false_and, okp_sI, okp_sL, okp_aI, okp_aL, hR_sI, hR_sL, hR_aI, hR_aL, m_vector, ev, inb_nI (n := 1369) q3 (by decide), nI_clamp (n := vm ((b : Int) * xm v + dX M sx p) ((b : Int) * ym v + dX M sy p)) (by omega), hw0]
      exact key _ (by rw [if_pos (show cd _ = true by rw [cd_t]; exact za)])
    · simp only [x_235_236, x_235_254, cl2_i, cl2_r, cl2_n, cl2_l, tl_s, tl_n, true_and, and_true, Option.some.injEq, exists_eq_left', Bool.and_self, Bool.true_and, Bool.and_true, Bool.or_true, Bool.true_or, i_10, i_00, if_true, if_false, not_true_eq_false, not_false_eq_true, and_false, false_and, okp_sI, okp_sL, okp_aI, okp_aL, hR_sI, hR_sL, hR_aI, hR_aL]
      exact key 0 (by rw [if_neg (show ¬ cd _ = true by rw [cd_t]; exact fun q => z ((mH _ _).mpr q))])
theorem m_ri_a (hw : WF h) (hs : s < 8) (D : ShM h s kd b M tn sx sy ex) (W : ShV b M sx sy) (m : AlM h b M R sx sy) (hu : ∀ j, j < 1369 → hL h 158 j = jv (Gw b M R sx sy t (xm j) (ym j))) (hK : ∀ H l6 l7 l8 l9 l10, cl2 l6 = l6 → cl2 l7 = l7 → cl2 l8 = l8 → cl2 l9 = l9 → Fq (fun a _ => a = 159) h H → (∀ j, j < 1369 → hL H 159 j = jv (Gw b M R sx sy (t + 1) (xm j) (ym j))) → Tr sc (d + 2) 235 (269, [some (.ref 124), some (.int (nI s)), some (.int y), some (.int 0), some (.int (nI n)), some (.int (nI 1369)), l6, l7, l8, l9, l10], [], H) Q) : ∀ (c v : Nat) (H : PH) (l6 l7 l8 l9 l10 : Option Value), cl2 l6 = l6 → cl2 l7 = l7 → cl2 l8 = l8 → cl2 l9 = l9 → v + c = 1369 → Fq (fun a _ => a = 159) h H → (∀ j, j < v → hL H 159 j = jv (Gw b M R sx sy (t + 1) (xm j) (ym j))) → Tr sc (d + 2) 235 (75, [some (.ref 124), some (.int (nI s)), some (.int y), some (.int 0), some (.int (nI n)), some (.int (nI v)), l6, l7, l8, l9, l10], [], H) Q := by
  obtain ⟨⟨b1, b2⟩, ⟨m1, m2⟩, wt⟩ := id W
  have mm : M * M ≤ 36 := Nat.mul_le_mul m2 m2
  intro c
  induction c with
  | zero =>
    intro v H l6 l7 l8 l9 l10 h6 h7 h8 h9 hv f a1
    have e : v = 1369 := by omega
    subst e
    rw [x_235_75]
    simp only [x_235_77, x_235_80, cl2_i, cl2_r, cl2_n, cl2_l, tl_s, tl_n, true_and, and_true, Option.some.injEq, exists_eq_left', Bool.and_self, Bool.true_and, Bool.and_true, Bool.or_true, Bool.true_or, i_10, i_00, if_true, if_false, not_true_eq_false, not_false_eq_true, and_false, false_and, okp_sI, okp_sL, okp_aI, okp_aL, hR_sI, hR_sL, hR_aI, hR_aL]
    rw [if_pos (by decide)]
    exact hK H _ _ _ _ _ h6 h7 h8 h9 f a1
  | succ c ih =>
    intro v H l6 l7 l8 l9 l10 h6 h7 h8 h9 hv f a1
    have hlt : v < 1369 := by omega
    have hwH := f.WF hw
    have mH : AlM H b M R sx sy := m.fr f (fun j q => by omega)
    have D' := D.fr f (fun a j h1 h2 q => by omega)
    have fin : ∀ H2, Fq (fun a j => a = 159 ∧ j = v) (sL H 159 v 0) H2 → hL H2 159 v = jv (Gw b M R sx sy (t + 1) (xm v) (ym v)) → ∀ l6 l7 l8 l9 l10, cl2 l6 = l6 → cl2 l7 = l7 → cl2 l8 = l8 → cl2 l9 = l9 → Tr sc (d + 2) 235 (263, [some (.ref 124), some (.int (nI s)), some (.int y), some (.int 0), some (.int (nI n)), some (.int (nI v)), l6, l7, l8, l9, l10], [], H2) Q := by
      intro H2 f2 a2 l6 l7 l8 l9 l10 h6 h7 h8 h9
      simp only [x_235_263, x_235_266, cl2_i, cl2_r, cl2_n, cl2_l, tl_s, tl_n, true_and, and_true, Option.some.injEq, exists_eq_left', Bool.and_self, Bool.true_and, Bool.and_true, Bool.or_true, Bool.true_or, i_10, i_00, if_true, if_false, not_true_eq_false, not_false_eq_true, and_false, false_and, okp_sI, okp_sL, okp_aI, okp_aL, hR_sI, hR_sL, hR_aI, hR_aL, nI_1, h6, h7, h8, h9]
      refine ih (v + 1) H2 l6 l7 l8 l9 l10 h6 h7 h8 h9 (by omega) ((f.sL rfl).tr (f2.wk (fun a b q => q.1))) (fun j hj => ?_)
      by_cases e : j = v
      · rw [e]; exact a2
      · rw [f2.l (fun q => e q.2), hL_sL, if_pos rfl, if_neg e]; exact a1 j (by omega)
    rw [x_235_75]
    simp only [x_235_77, x_235_80, x_235_83, x_235_84, x_235_87, x_235_89, x_235_90, x_235_91, x_235_92, o_124 hwH, w_124_57 hwH, o_159 hwH, show LN 159 = 1369 from rfl, cl2_i, cl2_r, cl2_n, cl2_l, tl_s, tl_n, true_and, and_true, Option.some.injEq, exists_eq_left', Bool.and_self, Bool.true_and, Bool.and_true, Bool.or_true, Bool.true_or, i_10, i_00, if_true, if_false, not_true_eq_false, not_false_eq_true, and_false, false_and, okp_sI, okp_sL, okp_aI, okp_aL, hR_sI, hR_sL, hR_aI, hR_aL, inb_nI (n := 1369) hlt (by decide), nI_clamp (n := v) (by omega), h6, h7, h8, h9]
    rw [if_neg (show ¬ (1369 : Int32) ≤ nI v from nI_ge (a := v) (b := 1369) hlt (by decide))]
    by_cases q : Alv b M R sx sy (xm v) (ym v)
    · refine m_ri_p (h := sL H 159 v 0) (t := t) (n := n) hwH hs D' W mH hlt q (fun j hj => by show hL H 158 j = _; rw [f.l (by omega)]; exact hu j hj) (fun H2 l6 l7 l8 l9 l10 g6 g7 g8 g9 f2 a2 => ?_) (M * M) 0 _ l7 l8 l9 l10 h7 h8 h9 (by omega) Fq.rf (by rw [hL_sL, if_pos rfl, if_pos rfl]; rfl)
      exact fin H2 f2 (by rw [a2]; congr 1; exact (if_pos (show cd _ = true by rw [cd_t]; exact q)).symm) _ _ _ _ _ g6 g7 g8 g9
    · have al : hI H 148 v = 0 := Classical.byContradiction (fun z => q ((alm_at mH hlt).mp z))
      obtain ⟨d1, d2, d3, d4⟩ := D'
      have mp : 0 < M * M := Nat.mul_pos m1 m1
      rw [x_235_94]
      simp only [x_235_96, x_235_97, x_235_100, x_235_101, x_235_102, x_235_103, x_235_106, x_235_107, x_235_108, x_235_109, x_235_112, x_235_113, x_235_116, x_235_118, x_235_119, o_124 hwH, w_124_18 hwH, w_124_45 hwH, o_134 hwH, iOk_lt (k := 134) (by decide), iRd_lt (k := 134) (by decide), show LN 134 = 8 from rfl, o_148 hwH, show LN 148 = 1369 from rfl, cl2_i, cl2_r, cl2_n, cl2_l, tl_s, tl_n, true_and, and_true, Option.some.injEq, exists_eq_left', Bool.and_self, Bool.true_and, Bool.and_true, Bool.or_true, Bool.true_or, i_10, i_00, if_true, if_false, not_true_eq_false, not_false_eq_true, and_false, false_and, okp_sI, okp_sL, okp_aI, okp_aL, hR_sI, hR_sL, hR_aI, hR_aL, iOk_sL, iRd_sL, hI_sL, inb_nI (n := 8) hs (by decide), nI_clamp (n := s) (by omega), d3, pk_mul, inb_nI (n := 1369) hlt (by decide), nI_clamp (n := v) (by omega), al]
      rw [if_neg (show ¬ nI (M * M) ≤ 0 from nI_nle mp (by omega))]
      exact fin _ Fq.rf (by rw [hL_sL, if_pos rfl, if_pos rfl, Gw_0 q]; rfl) _ _ _ _ _ rfl h7 h8 h9
theorem m_ri_c {g : Nat → Int} {l6 l7 l8 l9 l10 : Option Value} (hw : WF h) (hl : cl2 l6 = l6 ∧ cl2 l7 = l7 ∧ cl2 l8 = l8 ∧ cl2 l9 = l9) (hu : ∀ j, j < 1369 → hL h 159 j = jv (g j)) (hK : ∀ H, Fq (fun a _ => a = 158) h H → (∀ j, j < 1369 → hL H 158 j = jv (g j)) → Tr sc d 235 (300, [some (.ref 124), some (.int x), some (.int y), some (.int 0), some (.int (nI n)), some (.int (nI 1369)), l6, l7, l8, l9, l10], [], H) Q) : ∀ (c v : Nat) (H : PH), v + c = 1369 → Fq (fun a _ => a = 158) h H → (∀ j, j < v → hL H 158 j = jv (g j)) → Tr sc d 235 (272, [some (.ref 124), some (.int x), some (.int y), some (.int 0), some (.int (nI n)), some (.int (nI v)), l6, l7, l8, l9, l10], [], H) Q := by
  obtain ⟨h6, h7, h8, h9⟩ := hl
  intro c
  induction c with
  | zero =>
    intro v H hv f a1
    have e : v = 1369 := by omega
    subst e
    rw [x_235_272]
    simp only [x_235_274, x_235_277, cl2_i, cl2_r, cl2_n, cl2_l, tl_s, tl_n, true_and, and_true, Option.some.injEq, exists_eq_left', Bool.and_self, Bool.true_and, Bool.and_true, Bool.or_true, Bool.true_or, i_10, i_00, if_true, if_false, not_true_eq_false, not_false_eq_true, and_false, false_and, okp_sI, okp_sL, okp_aI, okp_aL, hR_sI, hR_sL, hR_aI, hR_aL]
    rw [if_pos (by decide)]
    exact hK H f a1
  | succ c ih =>
    intro v H hv f a1
    have hlt : v < 1369 := by omega
    have hwH := f.WF hw
    rw [x_235_272]
    simp only [x_235_274, x_235_277, x_235_280, x_235_281, x_235_284, x_235_286, x_235_287, x_235_290, x_235_292, x_235_293, x_235_294, x_235_297, o_124 hwH, w_124_56 hwH, w_124_57 hwH, o_158 hwH, show LN 158 = 1369 from rfl, o_159 hwH, show LN 159 = 1369 from rfl, cl2_i, cl2_r, cl2_n, cl2_l, tl_s, tl_n, true_and, and_true, Option.some.injEq, exists_eq_left', Bool.and_self, Bool.true_and, Bool.and_true, Bool.or_true, Bool.true_or, i_10, i_00, if_true, if_false, not_true_eq_false, not_false_eq_true, and_false, false_and, okp_sI, okp_sL, okp_aI, okp_aL, hR_sI, hR_sL, hR_aI, hR_aL, inb_nI (n := 1369) hlt (by decide), nI_clamp (n := v) (by omega), nI_1, h6, h7, h8, h9]
    rw [if_neg (show ¬ (1369 : Int32) ≤ nI v from nI_ge (a := v) (b := 1369) hlt (by decide))]
    refine ih (v + 1) _ (by omega) (f.sL rfl) (fun j hj => ?_)
    rw [hL_sL, if_pos rfl]
    by_cases e : j = v
    · rw [if_pos e, e, f.l (by omega)]; exact hu v hlt
    · rw [if_neg e]; exact a1 j (by omega)
theorem m_ri_t {N : Nat} (hw : WF h) (hs : s < 8) (D : ShM h s kd b M tn sx sy ex) (W : ShV b M sx sy) (m : AlM h b M R sx sy) (hN : N ≤ 6) (hK : ∀ H l5 l6 l7 l8 l9 l10, cl2 l5 = l5 → Fq Pn h H → (∀ j, j < 1369 → hL H 158 j = jv (Gw b M R sx sy N (xm j) (ym j))) → Tr sc (d + 2) 235 (306, [some (.ref 124), some (.int (nI s)), some (.int (nI N)), some (.int 0), some (.int (nI N)), l5, l6, l7, l8, l9, l10], [], H) Q) : ∀ (c t : Nat) (H : PH) (l5 l6 l7 l8 l9 l10 : Option Value), cl2 l5 = l5 → cl2 l6 = l6 → cl2 l7 = l7 → cl2 l8 = l8 → cl2 l9 = l9 → t + c = N → Fq Pn h H → (∀ j, j < 1369 → hL H 158 j = jv (Gw b M R sx sy t (xm j) (ym j))) → Tr sc (d + 2) 235 (66, [some (.ref 124), some (.int (nI s)), some (.int (nI N)), some (.int 0), some (.int (nI t)), l5, l6, l7, l8, l9, l10], [], H) Q := by
  intro c
  induction c with
  | zero =>
    intro t H l5 l6 l7 l8 l9 l10 h5 h6 h7 h8 h9 ht f a1
    have e : t = N := by omega
    subst e
    rw [x_235_66]
    simp only [x_235_68, x_235_69, cl2_i, cl2_r, cl2_n, cl2_l, tl_s, tl_n, true_and, and_true, Option.some.injEq, exists_eq_left', Bool.and_self, Bool.true_and, Bool.and_true, Bool.or_true, Bool.true_or, i_10, i_00, if_true, if_false, not_true_eq_false, not_false_eq_true, and_false, false_and, okp_sI, okp_sL, okp_aI, okp_aL, hR_sI, hR_sL, hR_aI, hR_aL]
    rw [if_pos (Int32.le_refl _)]
    exact hK H _ _ _ _ _ _ h5 f a1
  | succ c ih =>
    intro t H l5 l6 l7 l8 l9 l10 h5 h6 h7 h8 h9 ht f a1
    have hwH := f.WF hw
    have mH : AlM H b M R sx sy := m.fr f (fun j q => by unfold Pn at q; omega)
    have D' := D.fr f (fun a j h1 h2 q => by unfold Pn at q; omega)
    rw [x_235_66]
    simp only [x_235_68, x_235_69, x_235_72, x_235_73, cl2_i, cl2_r, cl2_n, cl2_l, tl_s, tl_n, true_and, and_true, Option.some.injEq, exists_eq_left', Bool.and_self, Bool.true_and, Bool.and_true, Bool.or_true, Bool.true_or, i_10, i_00, if_true, if_false, not_true_eq_false, not_false_eq_true, and_false, false_and, okp_sI, okp_sL, okp_aI, okp_aL, hR_sI, hR_sL, hR_aI, hR_aL, h5, h6, h7, h8, h9]
    rw [if_neg (nI_ge (show t < N by omega) (by omega))]
    refine m_ri_a (t := t) (n := t) hwH hs D' W mH a1 (fun H2 l6 l7 l8 l9 l10 g6 g7 g8 g9 f2 a2 => ?_) 1369 0 H l6 l7 l8 l9 l10 h6 h7 h8 h9 (by omega) Fq.rf (fun j hj => by omega)
    simp only [x_235_269, x_235_270, cl2_i, cl2_r, cl2_n, cl2_l, tl_s, tl_n, true_and, and_true, Option.some.injEq, exists_eq_left', Bool.and_self, Bool.true_and, Bool.and_true, Bool.or_true, Bool.true_or, i_10, i_00, if_true, if_false, not_true_eq_false, not_false_eq_true, and_false, false_and, okp_sI, okp_sL, okp_aI, okp_aL, hR_sI, hR_sL, hR_aI, hR_aL, g6, g7, g8, g9]
    have hw2 := f2.WF hwH
    refine m_ri_c (n := t) (g := fun j => Gw b M R sx sy (t + 1) (xm j) (ym j)) hw2 ⟨g6, g7, g8, g9⟩ a2 (fun H3 f3 a3 => ?_) 1369 0 H2 (by omega) Fq.rf (fun j hj => by omega)
    simp only [x_235_300, x_235_303, cl2_i, cl2_r, cl2_n, cl2_l, tl_s, tl_n, true_and, and_true, Option.some.injEq, exists_eq_left', Bool.and_self, Bool.true_and, Bool.and_true, Bool.or_true, Bool.true_or, i_10, i_00, if_true, if_false, not_true_eq_false, not_false_eq_true, and_false, false_and, okp_sI, okp_sL, okp_aI, okp_aL, hR_sI, hR_sL, hR_aI, hR_aL, g6, g7, g8, g9, nI_1]
    exact ih (t + 1) H3 _ l6 l7 l8 l9 l10 rfl g6 g7 g8 g9 (by omega) (f.tr ((f2.wk (fun a b q => Or.inr q)).tr (f3.wk (fun a b q => Or.inl q)))) a3
theorem m_ri_0 {l5 l6 l7 l8 l9 l10 : Option Value} (hw : WF h) (m : AlM h b M R sx sy) (hl : cl2 l5 = l5) (hK : ∀ H, Fq Pn h H → (∀ j, j < 1369 → hL H 158 j = jv (Gw b M R sx sy 0 (xm j) (ym j))) → Tr sc d 235 (63, [some (.ref 124), some (.int x), some (.int y), some (.int 0), some (.int (nI 1369)), l5, l6, l7, l8, l9, l10], [], H) Q) : ∀ (c v : Nat) (H : PH), v + c = 1369 → Fq Pn h H → (∀ j, j < v → hL H 158 j = jv (Gw b M R sx sy 0 (xm j) (ym j))) → Tr sc d 235 (27, [some (.ref 124), some (.int x), some (.int y), some (.int 0), some (.int (nI v)), l5, l6, l7, l8, l9, l10], [], H) Q := by
  intro c
  induction c with
  | zero =>
    intro v H hv f a1
    have e : v = 1369 := by omega
    subst e
    rw [x_235_27]
    simp only [x_235_29, x_235_32, cl2_i, cl2_r, cl2_n, cl2_l, tl_s, tl_n, true_and, and_true, Option.some.injEq, exists_eq_left', Bool.and_self, Bool.true_and, Bool.and_true, Bool.or_true, Bool.true_or, i_10, i_00, if_true, if_false, not_true_eq_false, not_false_eq_true, and_false, false_and, okp_sI, okp_sL, okp_aI, okp_aL, hR_sI, hR_sL, hR_aI, hR_aL]
    rw [if_pos (by decide)]
    exact hK H f a1
  | succ c ih =>
    intro v H hv f a1
    have hlt : v < 1369 := by omega
    have hwH := f.WF hw
    have mH : AlM H b M R sx sy := m.fr f (fun j q => by unfold Pn at q; omega)
    have key : ∀ z : Int64, z = jv (Gw b M R sx sy 0 (xm v) (ym v)) → Tr sc d 235 (56, [some (.ref 124), some (.int x), some (.int y), some (.int 0), some (.int (nI v)), l5, l6, l7, l8, l9, l10], [.long z, .int (nI v), .ref 158], H) Q := by
      intro z hz
      simp only [x_235_56, x_235_57, x_235_60, o_124 hwH, o_158 hwH, show LN 158 = 1369 from rfl, cl2_i, cl2_r, cl2_n, cl2_l, tl_s, tl_n, true_and, and_true, Option.some.injEq, exists_eq_left', Bool.and_self, Bool.true_and, Bool.and_true, Bool.or_true, Bool.true_or, i_10, i_00, if_true, if_false, not_true_eq_false, not_false_eq_true, and_false, false_and, okp_sI, okp_sL, okp_aI, okp_aL, hR_sI, hR_sL, hR_aI, hR_aL, inb_nI (n := 1369) hlt (by decide), nI_clamp (n := v) (by omega), nI_1, hl]
      refine ih (v + 1) _ (by omega) (f.sL (Or.inl rfl)) (fun j hj => ?_)
      rw [hL_sL, if_pos rfl]
      by_cases e : j = v
      · rw [if_pos e, e, hz]
      · rw [if_neg e]; exact a1 j (by omega)
    rw [x_235_27]
    simp only [x_235_29, x_235_32, x_235_35, x_235_36, x_235_39, x_235_41, x_235_42, x_235_45, x_235_47, x_235_48, x_235_51, x_235_52, x_235_55, o_124 hwH, w_124_45 hwH, w_124_56 hwH, o_158 hwH, show LN 158 = 1369 from rfl, o_148 hwH, show LN 148 = 1369 from rfl, cl2_i, cl2_r, cl2_n, cl2_l, tl_s, tl_n, true_and, and_true, Option.some.injEq, exists_eq_left', Bool.and_self, Bool.true_and, Bool.and_true, Bool.or_true, Bool.true_or, i_10, i_00, if_true, if_false, not_true_eq_false, not_false_eq_true, and_false, false_and, okp_sI, okp_sL, okp_aI, okp_aL, hR_sI, hR_sL, hR_aI, hR_aL, inb_nI (n := 1369) hlt (by decide), nI_clamp (n := v) (by omega)]
    rw [if_neg (show ¬ (1369 : Int32) ≤ nI v from nI_ge (a := v) (b := 1369) hlt (by decide))]
    by_cases q : hI H 148 v = 0
    · rw [if_pos q]
      exact key 0 (by rw [Gw_0 (fun z => (alm_at mH hlt).mpr z q)]; rfl)
    · rw [if_neg q]
      exact key 1 (by rw [show Gw b M R sx sy 0 (xm v) (ym v) = 1 from if_pos (by rw [cd_t]; exact (alm_at mH hlt).mp q)]; rfl)
theorem m_ri_s {g : Nat → Int} {l5 l6 l7 l8 l9 l10 : Option Value} (hw : WF h) (hl : cl2 l5 = l5) (hu : ∀ j, j < 1369 → hL h 158 j = jv (g j)) (hK : ∀ H, Fq (fun a j => a = 124 ∧ j = 3) h H → hL H 124 3 = jv (sZ (fun a => if a = 684 then 0 else g a) 1369) → Q (some (.int 1), H)) : ∀ (c v : Nat) (H : PH), v + c = 1369 → Fq (fun a j => a = 124 ∧ j = 3) h H → hL H 124 3 = jv (sZ (fun a => if a = 684 then 0 else g a) v) → Tr sc (d + 1) 235 (314, [some (.ref 124), some (.int x), some (.int y), some (.int 0), some (.int (nI v)), l5, l6, l7, l8, l9, l10], [], H) Q := by
  intro c
  induction c with
  | zero =>
    intro v H hv f a1
    have e : v = 1369 := by omega
    subst e
    rw [x_235_314]
    simp only [x_235_316, x_235_319, x_235_358, x_235_359, cl2_i, cl2_r, cl2_n, cl2_l, tl_s, tl_n, true_and, and_true, Option.some.injEq, exists_eq_left', Bool.and_self, Bool.true_and, Bool.and_true, Bool.or_true, Bool.true_or, i_10, i_00, if_true, if_false, not_true_eq_false, not_false_eq_true, and_false, false_and, okp_sI, okp_sL, okp_aI, okp_aL, hR_sI, hR_sL, hR_aI, hR_aL]
    rw [if_pos (by decide)]
    exact hK H f a1
  | succ c ih =>
    intro v H hv f a1
    have hlt : v < 1369 := by omega
    have hwH := f.WF hw
    have mv : ∀ (d : Nat) (Q : PRes → Prop), Tr sc d 212 (ent0 212 [.int 0, .int 0] H) Q = Q (some (.int (nI 684)), H) := fun d Q => m_vector (X := 0) (Y := 0)
    have fe : sZ (fun a => if a = 684 then 0 else g a) (v + 1) = sZ (fun a => if a = 684 then 0 else g a) v + (if v = 684 then 0 else g v) := rfl
    rw [x_235_314]
    simp only [x_235_316, x_235_319, x_235_322, x_235_323, x_235_324, x_235_327, x_235_329, x_235_330, x_235_331, x_235_334, x_235_337, x_235_338, x_235_341, x_235_342, x_235_345, x_235_347, x_235_348, x_235_349, x_235_352, x_235_355, o_124 hwH, w_124_56 hwH, o_158 hwH, show LN 158 = 1369 from rfl, cl2_i, cl2_r, cl2_n, cl2_l, tl_s, tl_n, true_and, and_true, Option.some.injEq, exists_eq_left', Bool.and_self, Bool.true_and, Bool.and_true, Bool.or_true, Bool.true_or, i_10, i_00, if_true, if_false, not_true_eq_false, not_false_eq_true, and_false, false_and, okp_sI, okp_sL, okp_aI, okp_aL, hR_sI, hR_sL, hR_aI, hR_aL, mv, inb_nI (n := 1369) hlt (by decide), nI_clamp (n := v) (by omega), nI_1, hl]
    rw [if_neg (show ¬ (1369 : Int32) ≤ nI v from nI_ge (a := v) (b := 1369) hlt (by decide))]
    by_cases e : v = 684
    · rw [if_pos (by rw [e])]
      refine ih (v + 1) _ (by omega) (f.sL ⟨rfl, rfl⟩) ?_
      rw [hL_sL, if_pos rfl, if_pos rfl, fe, if_pos e, a1, Int.add_zero, Int64.add_zero]
    · rw [if_neg (fun q => e ((nI_eq (by omega) (by decide)).mp q))]
      refine ih (v + 1) _ (by omega) (f.sL ⟨rfl, rfl⟩) ?_
      rw [hL_sL, if_pos rfl, if_pos rfl, fe, if_neg e, a1, f.l (by omega), hu v hlt, jv_add]
theorem both_rim (hc : CM h) : Both sc 127 235 [.int x, .int y] h := by
  have hw := hc.1
  refine glue_st (x := x) (T := 0 ≤ y ∧ y ≤ 6) (CC := fun Q => Tr sc 19 127 (27, [some (.ref 0), some (.int x), some (.int y), some (.int 0)], [], h) Q) (MC := fun h1 Q => Tr sc 17 215 (ent0 215 [.ref 124, .int x] h1) (fun u => Tr sc 18 218 (31, [some (.ref 124), some (.int x), some (.int 0)], u.1.toList ++ [], u.2) (fun u => Tr sc 19 235 (17, [some (.ref 124), some (.int x), some (.int y), none, none, none, none, none, none, none, none], u.1.toList ++ [], u.2) Q))) hc (fun Q => ?_) (fun h1 Q hw1 => ?_) (fun s hs hx hT hA hst => ?_) (fun A B hAB q => Tr_mono q hAB)
  · rw [e_127]
    simp only [x_127_0, x_127_1, x_127_2, x_127_3, x_127_6, x_127_7, x_127_9, x_127_12, x_127_13, x_127_16, x_127_17, x_127_20, x_127_21, x_127_22, x_127_25, x_127_26, o_0 hw, cl2_i, cl2_r, cl2_n, cl2_l, tl_s, tl_n, true_and, and_true, Option.some.injEq, exists_eq_left', Bool.and_self, Bool.true_and, Bool.and_true, Bool.or_true, Bool.true_or, i_10, i_00, if_true, if_false, not_true_eq_false, not_false_eq_true, and_false, false_and, okp_sI, okp_sL, okp_aI, okp_aL, hR_sI, hR_sL, hR_aI, hR_aL, c_stR hw, i_1m1, i_3m1, g_tw]
  · rw [e_235]
    simp only [x_235_0, x_235_1, x_235_2, x_235_4, x_235_7, x_235_10, x_235_11, x_235_12, x_235_13, x_235_14, o_124 hw1, cl2_i, cl2_r, cl2_n, cl2_l, tl_s, tl_n, true_and, and_true, Option.some.injEq, exists_eq_left', Bool.and_self, Bool.true_and, Bool.and_true, Bool.or_true, Bool.true_or, i_10, i_00, if_true, if_false, not_true_eq_false, not_false_eq_true, and_false, false_and, okp_sI, okp_sL, okp_aI, okp_aL, hR_sI, hR_sL, hR_aI, hR_aL, m_in, bI_0, m_stR (d := 15) hw1]
    simp only [x_235_17, x_235_18, x_235_19, x_235_22, x_235_23, o_124 hw1, cl2_i, cl2_r, cl2_n, cl2_l, tl_s, tl_n, true_and, and_true, Option.some.injEq, exists_eq_left', Bool.and_self, Bool.true_and, Bool.and_true, Bool.or_true, Bool.true_or, i_10, i_00, if_true, if_false, not_true_eq_false, not_false_eq_true, and_false, false_and, okp_sI, okp_sL, okp_aI, okp_aL, hR_sI, hR_sL, hR_aI, hR_aL, i_m1, i_m3, g_nt]
  · subst hx
    obtain ⟨N, hN, rfl⟩ := ir_of (n := 7) (by decide) (show 0 ≤ y ∧ y < 7 from ⟨hT.1, by have h1 := Int32.le_iff_toInt_le.mp hT.2; have e6 : (6 : Int32).toInt = 6 := rfl; have e7 : (7 : Int32).toInt = 7 := rfl; exact Int32.lt_iff_toInt_lt.mpr (by omega)⟩)
    obtain ⟨kd, b, M, tn, sx, sy, ex, W, C, D⟩ := sh_ab hA
    have W' := shv_of W
    obtain ⟨w1, w2, -⟩ := hw.shape hs
    obtain ⟨-, hR⟩ := rch_ok W'
    simp only [x_127_27, x_127_28, x_127_31, x_127_32, x_127_35, x_127_36, x_127_37, o_0 hw, w_0_2 hw, w_0_9 hw, o_24 hw, o_3 hw, show LN 3 = 8 from rfl, cl2_i, cl2_r, cl2_n, cl2_l, tl_s, tl_n, true_and, and_true, Option.some.injEq, exists_eq_left', Bool.and_self, Bool.true_and, Bool.and_true, Bool.or_true, Bool.true_or, i_10, i_00, if_true, if_false, not_true_eq_false, not_false_eq_true, and_false, false_and, okp_sI, okp_sL, okp_aI, okp_aL, hR_sI, hR_sL, hR_aI, hR_aL, inb_nI (n := 8) hs (by decide), nI_clamp (n := s) (by omega), w1, w2]
    refine c_look (d := 15) hw (is_sh hs) C W' (fun H f V a => ?_)
    have hwH := f.WF hw
    have fS : Fq Sc h H := f.wk (fun _ _ => Pv_Sc)
    simp only [x_127_40, x_127_41, x_127_42, x_127_45, x_127_46, o_0 hwH, w_0_9 hwH, o_24 hwH, cl2_i, cl2_r, cl2_n, cl2_l, tl_s, tl_n, true_and, and_true, Option.some.injEq, exists_eq_left', Bool.and_self, Bool.true_and, Bool.and_true, Bool.or_true, Bool.true_or, i_10, i_00, if_true, if_false, not_true_eq_false, not_false_eq_true, and_false, false_and, okp_sI, okp_sL, okp_aI, okp_aL, hR_sI, hR_sL, hR_aI, hR_aL]
    refine c_countWays (d := 15) (N := N) hwH V W' a hR (by omega) (fun H2 f2 => ?_)
    have hw2 := f2.WF hwH
    have fS2 : Fq Sc h H2 := fS.tr (f2.wk (fun a b q => by unfold Py at q; unfold Sc; omega))
    simp only [x_127_49, x_127_52, x_127_53, o_0 hw2, cl2_i, cl2_r, cl2_n, cl2_l, tl_s, tl_n, true_and, and_true, Option.some.injEq, exists_eq_left', Bool.and_self, Bool.true_and, Bool.and_true, Bool.or_true, Bool.true_or, i_10, i_00, if_true, if_false, not_true_eq_false, not_false_eq_true, and_false, false_and, okp_sI, okp_sL, okp_aI, okp_aL, hR_sI, hR_sL, hR_aI, hR_aL]
    refine ⟨hw2, fS2.i (by unfold Sc; omega), fS2.i (by unfold Sc; omega), ?_⟩
    rw [rim_eq hR]
    generalize hh3 : sL H2 0 16 (jv (sZ (fun a => if a = 684 then 0 else Gw b M (rch b M sx sy) sx sy N (xm a) (ym a)) 1369)) = h3
    have hw3 : WF h3 := by rw [← hh3]; exact hw2
    have D3 : ShM h3 s kd b M tn sx sy ex := by rw [← hh3]; exact (show ShM H2 s kd b M tn sx sy ex from D.fr fS2 (fun a j h1 h2 => by unfold Sc; omega))
    refine st_model hw3 hs D3 W' (fun H4 f4 m => ?_)
    have hw4 := f4.WF hw3
    have D4 := D3.fr f4 (fun a j h1 h2 q => by unfold Pa at q; omega)
    simp only [x_235_17, x_235_18, x_235_19, x_235_22, x_235_23, x_235_24, x_235_25, cl2_i, cl2_r, cl2_n, cl2_l, tl_s, tl_n, true_and, and_true, Option.some.injEq, exists_eq_left', Bool.and_self, Bool.true_and, Bool.and_true, Bool.or_true, Bool.true_or, i_10, i_00, if_true, if_false, not_true_eq_false, not_false_eq_true, and_false, false_and, okp_sI, okp_sL, okp_aI, okp_aL, hR_sI, hR_sL, hR_aI, hR_aL, i_0]
    refine m_ri_0 hw4 m rfl (fun H5 f5 a5 => ?_) 1369 0 H4 (by omega) Fq.rf (fun j hj => by omega)
    simp only [x_235_63, x_235_64, cl2_i, cl2_r, cl2_n, cl2_l, tl_s, tl_n, true_and, and_true, Option.some.injEq, exists_eq_left', Bool.and_self, Bool.true_and, Bool.and_true, Bool.or_true, Bool.true_or, i_10, i_00, if_true, if_false, not_true_eq_false, not_false_eq_true, and_false, false_and, okp_sI, okp_sL, okp_aI, okp_aL, hR_sI, hR_sL, hR_aI, hR_aL]
    refine m_ri_t (d := 17) (N := N) hw4 hs D4 W' m (by omega) (fun H6 l5 l6 l7 l8 l9 l10 h5 f6 a6 => ?_) N 0 H5 none none none none none none rfl rfl rfl rfl rfl (by omega) f5 a5
    have hw6 := f6.WF hw4
    simp only [x_235_306, x_235_307, x_235_308, x_235_311, x_235_312, o_124 hw6, cl2_i, cl2_r, cl2_n, cl2_l, tl_s, tl_n, true_and, and_true, Option.some.injEq, exists_eq_left', Bool.and_self, Bool.true_and, Bool.and_true, Bool.or_true, Bool.true_or, i_10, i_00, if_true, if_false, not_true_eq_false, not_false_eq_true, and_false, false_and, okp_sI, okp_sL, okp_aI, okp_aL, hR_sI, hR_sL, hR_aI, hR_aL, h5]
    refine m_ri_s (d := 18) (h := H6) (g := fun j => Gw b M (rch b M sx sy) sx sy N (xm j) (ym j)) hw6 h5 a6 (fun H7 f7 a7 => ?_) 1369 0 _ (by omega) (Fq.rf.sL ⟨rfl, rfl⟩) rfl
    rw [← hh3] at f4
    refine ⟨by first | rfl | exact ⟨_, rfl, rfl⟩, cm_eN hc fS2 ((f4.wk (fun a b q => Or.inl (Pa_Sc q))).tr ((f6.wk (fun a b q => Or.inl (by unfold Pn at q; unfold Sc; omega))).tr (f7.wk (fun a b q => Or.inr q)))) a7⟩
end RN
