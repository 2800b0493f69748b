/-! ===== in: the model's places, and what goes on ===== -/
def GA (h : PH) (e : Nat → Bool) (n : Nat) : Prop := ∀ p, p < n → hI h 155 p = bo (!(e p))
section WN
variable {sc : Nat × (Nat → Int32)} {d : Nat} {Q : PRes → Prop} {h h' h1 H G : PH} {i j k n t u b M N s f : Nat} {q a1 a2 c1 c2 : Int} {sx sy ex : Nat → Int} {L LL R : List Pnt} {p : Pnt} {P : Nat → Nat → Prop} {wi : Pnt → Bool} {nx : Pnt → Nat → Pnt} {x y z kd : Int32} {e : Nat → Bool} {tn : Nat → Nat}
theorem LdO_m (hk : k < L.length) (o : LdO h wi nx L k i) : LdO h wi nx (adW wi L p) k i := by
  have gk := (adW_gd (wi := wi) (p := p) hk).1
  refine ⟨fun w => ?_, fun w => ?_⟩
  · rw [gk] at w ⊢
    obtain ⟨r, h1, h2, h3⟩ := o.1 w
    have gr := adW_gd (wi := wi) (p := p) h1
    exact ⟨r, gr.2, by rw [gr.1]; exact h2, h3⟩
  · rw [gk] at w
    exact o.2 w
theorem LdO_f (F : Fq P h h') (hP : ¬ P 156 (6 * k + i)) (o : LdO h wi nx L k i) : LdO h' wi nx L k i := by
  refine ⟨fun w => ?_, fun w => ?_⟩
  · obtain ⟨r, h1, h2, h3⟩ := o.1 w
    exact ⟨r, h1, h2, by rw [F.i hP]; exact h3⟩
  · rw [F.i hP]; exact o.2 w
theorem inn_le : ∀ m, (inn wi nx L p i).length ≤ (inn wi nx L p (i + m)).length
  | 0 => Nat.le_refl _
  | m + 1 => by
    have ih := inn_le m
    refine Nat.le_trans ih ?_
    show _ ≤ (adW wi (inn wi nx L p (i + m)) (nx p (i + m))).length
    unfold adW addP
    split
    · split
      · exact Nat.le_refl _
      · rw [List.length_append]; omega
    · exact Nat.le_refl _
theorem CoA.fr (a : CoA h L) (F : Fq P h h') (hP : ∀ x y, (x = 153 ∨ x = 154 ∨ (x = 124 ∧ y = 50)) → ¬ P x y) : CoA h' L := by
  refine ⟨by rw [F.i (hP _ _ (by omega))]; exact a.1, fun j hj => ?_⟩
  rw [F.i (hP _ _ (by omega)), F.i (hP _ _ (by omega))]; exact a.2 j hj
/-- all moves from one place -/
theorem m_in_i (hw : WF h) (hs : s < 8) (D : ShM h s kd b M tn sx sy ex) (I : BoI h a1 a2 c1 c2) (B : WkB b M q a1 a2 c1 c2 sx sy) (hk : k < L.length) (hL : L.length ≤ 2000) (LI : LsI (Wit b q a1 a2 c1 c2) L) : ∀ (m i : Nat) (H : PH), i + m = M → Fq Pin h H → (inn (Wit b q a1 a2 c1 c2) (nxP b q sx sy) L (L.getD k pt0) i).length ≤ 2000 → CoA H (inn (Wit b q a1 a2 c1 c2) (nxP b q sx sy) L (L.getD k pt0) i) → (∀ k' j, k' < k → j < M → LdO H (Wit b q a1 a2 c1 c2) (nxP b q sx sy) (inn (Wit b q a1 a2 c1 c2) (nxP b q sx sy) L (L.getD k pt0) i) k' j) → (∀ j, j < i → LdO H (Wit b q a1 a2 c1 c2) (nxP b q sx sy) (inn (Wit b q a1 a2 c1 c2) (nxP b q sx sy) L (L.getD k pt0) i) k j) → (∀ k', k' < k + 1 → hI H 155 k' = 1) → ∃ H', Fq Pin h H' ∧ (((inn (Wit b q a1 a2 c1 c2) (nxP b q sx sy) L (L.getD k pt0) M).length ≤ 2000 ∧ CoA H' (inn (Wit b q a1 a2 c1 c2) (nxP b q sx sy) L (L.getD k pt0) M) ∧ (∀ k' j, k' < k + 1 → j < M → LdO H' (Wit b q a1 a2 c1 c2) (nxP b q sx sy) (inn (Wit b q a1 a2 c1 c2) (nxP b q sx sy) L (L.getD k pt0) M) k' j) ∧ (∀ k', k' < k + 1 → hI H' 155 k' = 1) ∧ ∀ d Q l8 l9 l10, cl2 l8 = l8 → cl2 l9 = l9 → ∃ l8' l9' l10', (cl2 l8' = l8' ∧ cl2 l9' = l9') ∧ Tr sc (d + 2) 233 (132, [some (.ref 124), some (.int (nI s)), some (.int x), some (.int y), some (.int (iv q)), some (.int 0), some (.int (nI k)), some (.int (nI i)), l8, l9, l10], [], H) Q = Tr sc (d + 2) 233 (314, [some (.ref 124), some (.int (nI s)), some (.int x), some (.int y), some (.int (iv q)), some (.int 0), some (.int (nI k)), some (.int (nI M)), l8', l9', l10'], [], H') Q) ∨ (2000 < (inn (Wit b q a1 a2 c1 c2) (nxP b q sx sy) L (L.getD k pt0) M).length ∧ ∀ d Q l8 l9 l10, cl2 l8 = l8 → cl2 l9 = l9 → Tr sc (d + 2) 233 (132, [some (.ref 124), some (.int (nI s)), some (.int x), some (.int y), some (.int (iv q)), some (.int 0), some (.int (nI k)), some (.int (nI i)), l8, l9, l10], [], H) Q = Q (some (.int (-6)), H'))) := by
  have hM := B.2.1
  intro m
  induction m with
  | zero =>
    intro i H hi F hl A o1 o2 g
    have ei : i = M := by omega
    subst ei
    have hwH := F.WF hw
    have DH := D.fr F (fun a j h1 h2 q => by unfold Pin at q; omega)
    refine ⟨H, F, Or.inl ⟨hl, A, fun k' j h1 h2 => ?_, g, fun d Q l8 l9 l10 h8 h9 => ⟨l8, l9, l10, ⟨h8, h9⟩, ?_⟩⟩⟩
    · by_cases z : k' = k
      · rw [z]; exact o2 j h2
      · exact o1 k' j (by omega) h2
    · rw [x_233_132]
      simp only [x_233_134, x_233_135, x_233_138, x_233_139, x_233_140, o_124 hwH, w_124_18 hwH, o_134 hwH, iOk_lt (k := 134) (by decide), iRd_lt (k := 134) (by decide), show LN 134 = 8 from rfl, cl2_i, cl2_r, cl2_n, cl2_l, tl_s, tl_n, true_and, and_true, Option.some.injEq, exists_eq_left', Bool.and_self, Bool.true_and, Bool.and_true, Bool.or_true, Bool.true_or, i_10, i_00, if_true, if_false, not_true_eq_false, not_false_eq_true, and_false, false_and, okp_sI, okp_sL, okp_aI, okp_aL, hR_sI, hR_sL, hR_aI, hR_aL, inb_nI (n := 8) hs (by decide), nI_clamp (n := s) (by omega), DH.2.2.1]
      rw [if_pos (Int32.le_refl _)]
  | succ m ih =>
    intro i H hi F hl A o1 o2 g
    have hlt : i < M := by omega
    have hwH := F.WF hw
    have DH := D.fr F (fun a j h1 h2 q => by unfold Pin at q; omega)
    have IH : BoI H a1 a2 c1 c2 := by
      obtain ⟨i0, i1, i2, i3⟩ := I
      exact ⟨by rw [F.i (by unfold Pin; omega)]; exact i0, by rw [F.i (by unfold Pin; omega)]; exact i1, by rw [F.i (by unfold Pin; omega)]; exact i2, by rw [F.i (by unfold Pin; omega)]; exact i3⟩
    have il := (inn_len (wi := Wit b q a1 a2 c1 c2) (nx := nxP b q sx sy) (L := L) (p := L.getD k pt0) i).2
    have gk : (inn (Wit b q a1 a2 c1 c2) (nxP b q sx sy) L (L.getD k pt0) i).getD k pt0 = L.getD k pt0 := inn_gd hk i
    have LIi := inn_I (nx := nxP b q sx sy) (p := L.getD k pt0) LI i
    have is : inn (Wit b q a1 a2 c1 c2) (nxP b q sx sy) L (L.getD k pt0) (i + 1) = adW (Wit b q a1 a2 c1 c2) (inn (Wit b q a1 a2 c1 c2) (nxP b q sx sy) L (L.getD k pt0) i) (nxP b q sx sy (L.getD k pt0) i) := rfl
    have iM : (inn (Wit b q a1 a2 c1 c2) (nxP b q sx sy) L (L.getD k pt0) (i + 1)).length ≤ (inn (Wit b q a1 a2 c1 c2) (nxP b q sx sy) L (L.getD k pt0) M).length := by
      have := inn_le (wi := Wit b q a1 a2 c1 c2) (nx := nxP b q sx sy) (L := L) (p := L.getD k pt0) (i := i + 1) m
      rw [show i + 1 + m = M by omega] at this
      exact this
    have nb := nx_b B (wit_b B (LI.2 _ (gd_mem hk))) hlt
    obtain ⟨-, q2, q3, -⟩ := DH.2.2.2 i hlt
    obtain ⟨k1, k2⟩ := A.2 k (by omega)
    rw [gk] at k1 k2
    have ibk := inb_nI (n := 2001) (show k < 2001 by omega) (by decide)
    have cbk := nI_clamp (n := k) (by omega)
    have ex1 : nI b * iv (L.getD k pt0).1 - iv q * iv (sx i) = iv (nxP b q sx sy (L.getD k pt0) i).1 := by rw [iv_n, iv_mul, iv_mul, iv_sub]; rfl
    have ex2 : nI b * iv (L.getD k pt0).2 - iv q * iv (sy i) = iv (nxP b q sx sy (L.getD k pt0) i).2 := by rw [iv_n, iv_mul, iv_mul, iv_sub]; rfl
    have wtn : ∀ d Q, Tr sc (d + 1) 231 (ent0 231 [.ref 124, .int (nI s), .int (iv (nxP b q sx sy (L.getD k pt0) i).1), .int (iv (nxP b q sx sy (L.getD k pt0) i).2), .int (iv q)] H) Q = Q (some (.int (bo (Wit b q a1 a2 c1 c2 (nxP b q sx sy (L.getD k pt0) i)))), H) := fun d Q => m_isWithin hwH hs DH IH B nb
    have six : (6 : Int32) * nI k + nI i = nI (6 * k + i) := by rw [show (6 : Int32) = nI 6 from rfl, pk_mul, nI_add]
    have i12 := inb_nI (n := 12006) (show 6 * k + i < 12006 by omega) (by decide)
    have c12 := nI_clamp (n := 6 * k + i) (by omega)
    generalize hL' : inn (Wit b q a1 a2 c1 c2) (nxP b q sx sy) L (L.getD k pt0) i = L' at *
    generalize hpp : nxP b q sx sy (L.getD k pt0) i = pp at *
    have lead : ∀ d Q l8 l9 l10, cl2 l8 = l8 → cl2 l9 = l9 → Tr sc (d + 2) 233 (132, [some (.ref 124), some (.int (nI s)), some (.int x), some (.int y), some (.int (iv q)), some (.int 0), some (.int (nI k)), some (.int (nI i)), l8, l9, l10], [], H) Q = if bo (Wit b q a1 a2 c1 c2 pp) = 0 then Tr sc (d + 2) 233 (232, [some (.ref 124), some (.int (nI s)), some (.int x), some (.int y), some (.int (iv q)), some (.int 0), some (.int (nI k)), some (.int (nI i)), some (.int (iv pp.1)), some (.int (iv pp.2)), l10], [], H) Q else Tr sc (d + 2) 233 (221, [some (.ref 124), some (.int (nI s)), some (.int x), some (.int y), some (.int (iv q)), some (.int 0), some (.int (nI k)), some (.int (nI i)), some (.int (iv pp.1)), some (.int (iv pp.2)), l10], [], H) Q := by
      intro d Q l8 l9 l10 h8 h9
      rw [x_233_132]
      simp only [x_233_134, x_233_135, x_233_138, x_233_139, x_233_140, x_233_143, x_233_144, x_233_147, x_233_148, x_233_149, x_233_150, x_233_153, x_233_155, x_233_156, x_233_157, x_233_159, x_233_160, x_233_163, x_233_165, x_233_166, x_233_167, x_233_169, x_233_170, x_233_171, x_233_172, x_233_173, x_233_175, x_233_176, x_233_179, x_233_180, x_233_181, x_233_182, x_233_185, x_233_187, x_233_188, x_233_189, x_233_191, x_233_192, x_233_195, x_233_197, x_233_198, x_233_199, x_233_201, x_233_202, x_233_203, x_233_204, x_233_205, x_233_207, x_233_208, x_233_209, x_233_211, x_233_213, x_233_215, x_233_218, o_124 hwH, w_124_17 hwH, w_124_18 hwH, w_124_20 hwH, w_124_21 hwH, w_124_51 hwH, w_124_52 hwH, o_134 hwH, iOk_lt (k := 134) (by decide), iRd_lt (k := 134) (by decide), show LN 134 = 8 from rfl, o_133 hwH, iOk_lt (k := 133) (by decide), iRd_lt (k := 133) (by decide), show LN 133 = 8 from rfl, o_153 hwH, iOk_lt (k := 153) (by decide), iRd_lt (k := 153) (by decide), show LN 153 = 2001 from rfl, o_136 hwH, iOk_lt (k := 136) (by decide), iRd_lt (k := 136) (by decide), show LN 136 = 48 from rfl, o_154 hwH, iOk_lt (k := 154) (by decide), iRd_lt (k := 154) (by decide), show LN 154 = 2001 from rfl, o_137 hwH, iOk_lt (k := 137) (by decide), iRd_lt (k := 137) (by decide), show LN 137 = 48 from rfl, cl2_i, cl2_r, cl2_n, cl2_l, tl_s, tl_n, true_and, and_true, Option.some.injEq, exists_eq_left', Bool.and_self, Bool.true_and, Bool.and_true, Bool.or_true, Bool.true_or, i_10, i_00, if_true, if_false, not_true_eq_false, not_false_eq_true, and_false, false_and, okp_sI, okp_sL, okp_aI, okp_aL, hR_sI, hR_sL, hR_aI, hR_aL, h8, h9, inb_nI (n := 8) hs (by decide), nI_clamp (n := s) (by omega), DH.2.2.1, DH.2.1, ibk, cbk, k1, k2, mv_ix hs (show i < 6 by omega), inb_nI (n := 48) (show 6 * s + i < 48 by omega) (by decide), nI_clamp (n := 6 * s + i) (by omega), q2, q3, ex1, ex2, wtn]
      rw [if_neg (nI_ge hlt (by omega))]
    have store : ∀ (G : PH) (v : Int32), WF G → ∀ d Q l10, ¬ v = -9 → Tr sc (d + 2) 233 (233, [some (.ref 124), some (.int (nI s)), some (.int x), some (.int y), some (.int (iv q)), some (.int 0), some (.int (nI k)), some (.int (nI i)), some (.int (iv pp.1)), some (.int (iv pp.2)), l10], [.int v], G) Q = Tr sc (d + 2) 233 (132, [some (.ref 124), some (.int (nI s)), some (.int x), some (.int y), some (.int (iv q)), some (.int 0), some (.int (nI k)), some (.int (nI (i + 1))), some (.int (iv pp.1)), some (.int (iv pp.2)), some (.int v)], [], sI G 156 (6 * k + i) v) Q := by
      intro G v hG d Q l10 hv
      simp only [x_233_233, x_233_235, x_233_237, x_233_239, o_124 hG, x_233_293, x_233_294, x_233_297, x_233_299, x_233_301, x_233_302, x_233_304, x_233_305, x_233_307, x_233_308, x_233_311, o_124 hG, w_124_54 hG, o_156 hG, iOk_lt (k := 156) (by decide), iRd_lt (k := 156) (by decide), show LN 156 = 12006 from rfl, cl2_i, cl2_r, cl2_n, cl2_l, tl_s, tl_n, true_and, and_true, Option.some.injEq, exists_eq_left', Bool.and_self, Bool.true_and, Bool.and_true, Bool.or_true, Bool.true_or, i_10, i_00, if_true, if_false, not_true_eq_false, not_false_eq_true, and_false, false_and, okp_sI, okp_sL, okp_aI, okp_aL, hR_sI, hR_sL, hR_aI, hR_aL, hv, six, i12, c12, nI_1]
    cases hwt : Wit b q a1 a2 c1 c2 pp
    · -- not within
      have isf : inn (Wit b q a1 a2 c1 c2) (nxP b q sx sy) L (L.getD k pt0) (i + 1) = L' := by rw [is]; unfold adW; rw [hwt, if_neg (by decide)]
      have f1 : Fq (fun a b => a = 156 ∧ b = 6 * k + i) H (sI H 156 (6 * k + i) (-1)) := Fq.rf.sI ⟨rfl, rfl⟩
      obtain ⟨H', F', R'⟩ := ih (i + 1) (sI H 156 (6 * k + i) (-1)) (by omega) (F.sI (by unfold Pin; omega)) (by rw [isf]; exact hl) (by rw [isf]; exact A.fr f1 (fun x y z1 z2 => by omega)) (fun k' j h1 h2 => by rw [isf]; exact LdO_f f1 (fun z => by omega) (o1 k' j h1 h2)) (fun j hj => by
        rw [isf]
        by_cases z : j = i
        · subst z
          refine ⟨fun w => ?_, fun w => rd_eq⟩
          rw [gk, hpp, hwt] at w; cases w
        · exact LdO_f f1 (fun z => by omega) (o2 j (by omega))) (fun k' h1 => by rw [rd_ne (by omega)]; exact g k' h1)
      refine ⟨H', F', ?_⟩
      have ld : ∀ d Q l8 l9 l10, cl2 l8 = l8 → cl2 l9 = l9 → Tr sc (d + 2) 233 (132, [some (.ref 124), some (.int (nI s)), some (.int x), some (.int y), some (.int (iv q)), some (.int 0), some (.int (nI k)), some (.int (nI i)), l8, l9, l10], [], H) Q = Tr sc (d + 2) 233 (132, [some (.ref 124), some (.int (nI s)), some (.int x), some (.int y), some (.int (iv q)), some (.int 0), some (.int (nI k)), some (.int (nI (i + 1))), some (.int (iv pp.1)), some (.int (iv pp.2)), some (.int (-1))], [], sI H 156 (6 * k + i) (-1)) Q := by
        intro d Q l8 l9 l10 h8 h9
        rw [lead d Q l8 l9 l10 h8 h9, hwt, if_pos (show bo false = 0 from rfl)]
        simp only [x_233_232, cl2_i, cl2_r, cl2_n, cl2_l, tl_s, tl_n, true_and, and_true, Option.some.injEq, exists_eq_left', Bool.and_self, Bool.true_and, Bool.and_true, Bool.or_true, Bool.true_or, i_10, i_00, if_true, if_false, not_true_eq_false, not_false_eq_true, and_false, false_and, okp_sI, okp_sL, okp_aI, okp_aL, hR_sI, hR_sL, hR_aI, hR_aL]
        exact store H (-1) hwH d Q l10 (by decide)
      rcases R' with ⟨r1, r2, r3, r4, r5⟩ | ⟨r1, r2⟩
      · refine Or.inl ⟨r1, r2, r3, r4, fun d Q l8 l9 l10 h8 h9 => ?_⟩
        obtain ⟨l8', l9', l10', hl', eq'⟩ := r5 d Q (some (.int (iv pp.1))) (some (.int (iv pp.2))) (some (.int (-1))) rfl rfl
        exact ⟨l8', l9', l10', hl', by rw [ld d Q l8 l9 l10 h8 h9]; exact eq'⟩
      · exact Or.inr ⟨r1, fun d Q l8 l9 l10 h8 h9 => by rw [ld d Q l8 l9 l10 h8 h9]; exact r2 d Q _ _ _ rfl rfl⟩
    · have bnds : ∀ p, p ∈ L' → Bnd p := fun p hp => wit_b B (LIi.2 p hp)
      obtain ⟨ca1, ca2⟩ := m_comeAt (sc := sc) hwH A hl LIi.1 bnds nb
      by_cases mem : pp ∈ L'
      · obtain ⟨r, hr, er⟩ := mem_gd mem
        have isf : inn (Wit b q a1 a2 c1 c2) (nxP b q sx sy) L (L.getD k pt0) (i + 1) = L' := by rw [is]; unfold adW addP; rw [hwt, if_pos rfl, if_pos mem]
        have f1 : Fq (fun a b => a = 156 ∧ b = 6 * k + i) H (sI H 156 (6 * k + i) (nI r)) := Fq.rf.sI ⟨rfl, rfl⟩
        obtain ⟨H', F', R'⟩ := ih (i + 1) (sI H 156 (6 * k + i) (nI r)) (by omega) (F.sI (by unfold Pin; omega)) (by rw [isf]; exact hl) (by rw [isf]; exact A.fr f1 (fun x y z1 z2 => by omega)) (fun k' j h1 h2 => by rw [isf]; exact LdO_f f1 (fun z => by omega) (o1 k' j h1 h2)) (fun j hj => by
          rw [isf]
          by_cases z : j = i
          · subst z
            refine ⟨fun w => ⟨r, hr, by rw [gk, hpp]; exact er, rd_eq⟩, fun w => ?_⟩
            rw [gk, hpp, hwt] at w; cases w
          · exact LdO_f f1 (fun z => by omega) (o2 j (by omega))) (fun k' h1 => by rw [rd_ne (by omega)]; exact g k' h1)
        refine ⟨H', F', ?_⟩
        have ld : ∀ d Q l8 l9 l10, cl2 l8 = l8 → cl2 l9 = l9 → Tr sc (d + 2) 233 (132, [some (.ref 124), some (.int (nI s)), some (.int x), some (.int y), some (.int (iv q)), some (.int 0), some (.int (nI k)), some (.int (nI i)), l8, l9, l10], [], H) Q = Tr sc (d + 2) 233 (132, [some (.ref 124), some (.int (nI s)), some (.int x), some (.int y), some (.int (iv q)), some (.int 0), some (.int (nI k)), some (.int (nI (i + 1))), some (.int (iv pp.1)), some (.int (iv pp.2)), some (.int (nI r))], [], sI H 156 (6 * k + i) (nI r)) Q := by
          intro d Q l8 l9 l10 h8 h9
          rw [lead d Q l8 l9 l10 h8 h9, hwt, if_neg (by decide)]
          simp only [x_233_221, x_233_222, x_233_224, x_233_226, x_233_229, o_124 hwH, cl2_i, cl2_r, cl2_n, cl2_l, tl_s, tl_n, true_and, and_true, Option.some.injEq, exists_eq_left', Bool.and_self, Bool.true_and, Bool.and_true, Bool.or_true, Bool.true_or, i_10, i_00, if_true, if_false, not_true_eq_false, not_false_eq_true, and_false, false_and, okp_sI, okp_sL, okp_aI, okp_aL, hR_sI, hR_sL, hR_aI, hR_aL, ca1 r hr er]
          exact store H (nI r) hwH d Q l10 (nI_m9 (by omega))
        rcases R' with ⟨r1, r2, r3, r4, r5⟩ | ⟨r1, r2⟩
        · refine Or.inl ⟨r1, r2, r3, r4, fun d Q l8 l9 l10 h8 h9 => ?_⟩
          obtain ⟨l8', l9', l10', hl', eq'⟩ := r5 d Q (some (.int (iv pp.1))) (some (.int (iv pp.2))) (some (.int (nI r))) rfl rfl
          exact ⟨l8', l9', l10', hl', by rw [ld d Q l8 l9 l10 h8 h9]; exact eq'⟩
        · exact Or.inr ⟨r1, fun d Q l8 l9 l10 h8 h9 => by rw [ld d Q l8 l9 l10 h8 h9]; exact r2 d Q _ _ _ rfl rfl⟩
      · have isf : inn (Wit b q a1 a2 c1 c2) (nxP b q sx sy) L (L.getD k pt0) (i + 1) = L' ++ [pp] := by rw [is]; unfold adW addP; rw [hwt, if_pos rfl, if_neg mem]
        have ll : (L' ++ [pp]).length = L'.length + 1 := by rw [List.length_append]; rfl
        by_cases full : L'.length = 2000
        · refine ⟨H, F, Or.inr ⟨?_, fun d Q l8 l9 l10 h8 h9 => ?_⟩⟩
          · rw [isf, ll] at iM; omega
          · rw [lead d Q l8 l9 l10 h8 h9, hwt, if_neg (by decide)]
            simp only [x_233_221, x_233_222, x_233_224, x_233_226, x_233_229, x_233_232, x_233_233, x_233_235, x_233_237, x_233_239, x_233_242, x_233_243, x_233_246, x_233_249, x_233_252, x_233_254, o_124 hwH, cl2_i, cl2_r, cl2_n, cl2_l, tl_s, tl_n, true_and, and_true, Option.some.injEq, exists_eq_left', Bool.and_self, Bool.true_and, Bool.and_true, Bool.or_true, Bool.true_or, i_10, i_00, if_true, if_false, not_true_eq_false, not_false_eq_true, and_false, false_and, okp_sI, okp_sL, okp_aI, okp_aL, hR_sI, hR_sL, hR_aI, hR_aL, ca2 mem, A.1, full, show nI 2000 = 2000 from rfl]
        · have nf : (nI L'.length = 2000) = False := eq_false (fun z => full ((nI_eq (b := 2000) (by omega) (by decide)).mp z))
          generalize hG : sI (sI (sI H 153 L'.length (iv pp.1)) 154 L'.length (iv pp.2)) 124 50 (nI (L'.length + 1)) = G
          have fG : Fq (fun a b => (a = 153 ∧ b = L'.length) ∨ (a = 154 ∧ b = L'.length) ∨ (a = 124 ∧ b = 50)) H G := by
            rw [← hG]; exact ((Fq.rf.sI (by omega)).sI (by omega)).sI (by omega)
          have hwG := fG.WF hwH
          have f1 : Fq (fun a b => a = 156 ∧ b = 6 * k + i) G (sI G 156 (6 * k + i) (nI L'.length)) := Fq.rf.sI ⟨rfl, rfl⟩
          have AG : CoA G (L' ++ [pp]) := by
            refine ⟨by rw [← hG, rd_eq, ll], fun j hj => ?_⟩
            rw [ll] at hj
            by_cases z : j = L'.length
            · rw [z, gd_app2]
              exact ⟨by rw [← hG, rd_ne (by omega), rd_ne (by omega), rd_eq], by rw [← hG, rd_ne (by omega), rd_eq]⟩
            · rw [gd_app1 (by omega), fG.i (by omega), fG.i (by omega)]
              exact A.2 j (by omega)
          have ad : adW (Wit b q a1 a2 c1 c2) L' pp = L' ++ [pp] := by rw [← is]; exact isf
          obtain ⟨H', F', R'⟩ := ih (i + 1) (sI G 156 (6 * k + i) (nI L'.length)) (by omega) ((F.tr (fG.wk (fun a b z => by unfold Pin; omega))).sI (by unfold Pin; omega)) (by rw [isf, ll]; omega) (by rw [isf]; exact AG.fr f1 (fun x y z1 z2 => by omega)) (fun k' j h1 h2 => by
            rw [isf, ← ad]
            exact LdO_m (by omega) (LdO_f f1 (fun z => by omega) (LdO_f fG (fun z => by omega) (o1 k' j h1 h2)))) (fun j hj => by
            rw [isf, ← ad]
            by_cases z : j = i
            · subst z
              have gk2 : (adW (Wit b q a1 a2 c1 c2) L' pp).getD k pt0 = L.getD k pt0 := by rw [(adW_gd (by omega)).1]; exact gk
              refine ⟨fun w => ⟨L'.length, by rw [ad, ll]; omega, by rw [gk2, hpp, ad, gd_app2], rd_eq⟩, fun w => ?_⟩
              rw [gk2, hpp, hwt] at w; cases w
            · exact LdO_m (by omega) (LdO_f f1 (fun z => by omega) (LdO_f fG (fun z => by omega) (o2 j (by omega))))) (fun k' h1 => by rw [rd_ne (by omega), fG.i (by omega)]; exact g k' h1)
          refine ⟨H', F', ?_⟩
          have ld : ∀ d Q l8 l9 l10, cl2 l8 = l8 → cl2 l9 = l9 → Tr sc (d + 2) 233 (132, [some (.ref 124), some (.int (nI s)), some (.int x), some (.int y), some (.int (iv q)), some (.int 0), some (.int (nI k)), some (.int (nI i)), l8, l9, l10], [], H) Q = Tr sc (d + 2) 233 (132, [some (.ref 124), some (.int (nI s)), some (.int x), some (.int y), some (.int (iv q)), some (.int 0), some (.int (nI k)), some (.int (nI (i + 1))), some (.int (iv pp.1)), some (.int (iv pp.2)), some (.int (nI L'.length))], [], sI G 156 (6 * k + i) (nI L'.length)) Q := by
            intro d Q l8 l9 l10 h8 h9
            have il' := inb_nI (n := 2001) (show L'.length < 2001 by omega) (by decide)
            have cl' := nI_clamp (n := L'.length) (by omega)
            rw [lead d Q l8 l9 l10 h8 h9, hwt, if_neg (by decide)]
            simp only [x_233_221, x_233_222, x_233_224, x_233_226, x_233_229, x_233_232, x_233_233, x_233_235, x_233_237, x_233_239, x_233_242, x_233_243, x_233_246, x_233_249, x_233_252, x_233_254, x_233_255, x_233_256, x_233_259, x_233_261, x_233_262, x_233_265, x_233_266, x_233_269, x_233_271, x_233_272, x_233_273, x_233_276, x_233_277, x_233_280, x_233_282, x_233_283, x_233_284, x_233_285, x_233_288, x_233_289, x_233_290, o_124 hwH, w_124_51 hwH, w_124_52 hwH, o_153 hwH, iOk_lt (k := 153) (by decide), iRd_lt (k := 153) (by decide), show LN 153 = 2001 from rfl, o_154 hwH, iOk_lt (k := 154) (by decide), iRd_lt (k := 154) (by decide), show LN 154 = 2001 from rfl, cl2_i, cl2_r, cl2_n, cl2_l, tl_s, tl_n, true_and, and_true, Option.some.injEq, exists_eq_left', Bool.and_self, Bool.true_and, Bool.and_true, Bool.or_true, Bool.true_or, i_10, i_00, if_true, if_false, not_true_eq_false, not_false_eq_true, and_false, false_and, okp_sI, okp_sL, okp_aI, okp_aL, hR_sI, hR_sL, hR_aI, hR_aL, ca2 mem, A.1, nf, il', cl', rd_ne (q := 153) (a := 124) (Or.inl (by decide)), rd_ne (q := 154) (a := 124) (Or.inl (by decide)), nI_1, hG]
            simp only [x_233_293, x_233_294, x_233_297, x_233_299, x_233_301, x_233_302, x_233_304, x_233_305, x_233_307, x_233_308, x_233_311, o_124 hwG, w_124_54 hwG, o_156 hwG, iOk_lt (k := 156) (by decide), iRd_lt (k := 156) (by decide), show LN 156 = 12006 from rfl, cl2_i, cl2_r, cl2_n, cl2_l, tl_s, tl_n, true_and, and_true, Option.some.injEq, exists_eq_left', Bool.and_self, Bool.true_and, Bool.and_true, Bool.or_true, Bool.true_or, i_10, i_00, if_true, if_false, not_true_eq_false, not_false_eq_true, and_false, false_and, okp_sI, okp_sL, okp_aI, okp_aL, hR_sI, hR_sL, hR_aI, hR_aL, six, i12, c12, nI_1]
          rcases R' with ⟨r1, r2, r3, r4, r5⟩ | ⟨r1, r2⟩
          · refine Or.inl ⟨r1, r2, r3, r4, fun d Q l8 l9 l10 h8 h9 => ?_⟩
            obtain ⟨l8', l9', l10', hl', eq'⟩ := r5 d Q (some (.int (iv pp.1))) (some (.int (iv pp.2))) (some (.int (nI L'.length))) rfl rfl
            exact ⟨l8', l9', l10', hl', by rw [ld d Q l8 l9 l10 h8 h9]; exact eq'⟩
          · exact Or.inr ⟨r1, fun d Q l8 l9 l10 h8 h9 => by rw [ld d Q l8 l9 l10 h8 h9]; exact r2 d Q _ _ _ rfl rfl⟩
theorem m_in_o (hw : WF h) (hs : s < 8) (D : ShM h s kd b M tn sx sy ex) (I : BoI h a1 a2 c1 c2) (B : WkB b M q a1 a2 c1 c2 sx sy) : ∀ (f k : Nat) (H : PH) (L : List Pnt), k + f = 2001 → Fq Pin h H → L.length ≤ 2000 → LsI (Wit b q a1 a2 c1 c2) L → CoA H L → k ≤ L.length → (∀ k' j, k' < k → j < M → LdO H (Wit b q a1 a2 c1 c2) (nxP b q sx sy) L k' j) → (∀ k', k' < k → hI H 155 k' = 1) → ∃ H', Fq Pin h H' ∧ (((wlk (Wit b q a1 a2 c1 c2) (nxP b q sx sy) M f k L).length ≤ 2000 ∧ CoA H' (wlk (Wit b q a1 a2 c1 c2) (nxP b q sx sy) M f k L) ∧ (∀ k' j, k' < (wlk (Wit b q a1 a2 c1 c2) (nxP b q sx sy) M f k L).length → j < M → LdO H' (Wit b q a1 a2 c1 c2) (nxP b q sx sy) (wlk (Wit b q a1 a2 c1 c2) (nxP b q sx sy) M f k L) k' j) ∧ (∀ k', k' < (wlk (Wit b q a1 a2 c1 c2) (nxP b q sx sy) M f k L).length → hI H' 155 k' = 1) ∧ ∀ d Q l7 l8 l9 l10, cl2 l7 = l7 → cl2 l8 = l8 → cl2 l9 = l9 → ∃ l6' l7' l8' l9' l10', (cl2 l6' = l6' ∧ cl2 l7' = l7' ∧ cl2 l8' = l8' ∧ cl2 l9' = l9') ∧ Tr sc (d + 2) 233 (112, [some (.ref 124), some (.int (nI s)), some (.int x), some (.int y), some (.int (iv q)), some (.int 0), some (.int (nI k)), l7, l8, l9, l10], [], H) Q = Tr sc (d + 2) 233 (320, [some (.ref 124), some (.int (nI s)), some (.int x), some (.int y), some (.int (iv q)), some (.int 0), l6', l7', l8', l9', l10'], [], H') Q) ∨ (2000 < (wlk (Wit b q a1 a2 c1 c2) (nxP b q sx sy) M f k L).length ∧ ∀ d Q l7 l8 l9 l10, cl2 l7 = l7 → cl2 l8 = l8 → cl2 l9 = l9 → Tr sc (d + 2) 233 (112, [some (.ref 124), some (.int (nI s)), some (.int x), some (.int y), some (.int (iv q)), some (.int 0), some (.int (nI k)), l7, l8, l9, l10], [], H) Q = Q (some (.int (-6)), H'))) := by
  have stop : ∀ (k : Nat) (H : PH) (L : List Pnt) (R : List Pnt), R = L → Fq Pin h H → L.length ≤ 2000 → CoA H L → k = L.length → (∀ k' j, k' < k → j < M → LdO H (Wit b q a1 a2 c1 c2) (nxP b q sx sy) L k' j) → (∀ k', k' < k → hI H 155 k' = 1) → R.length ≤ 2000 ∧ CoA H R ∧ (∀ k' j, k' < R.length → j < M → LdO H (Wit b q a1 a2 c1 c2) (nxP b q sx sy) R k' j) ∧ (∀ k', k' < R.length → hI H 155 k' = 1) ∧ ∀ d Q l7 l8 l9 l10, cl2 l7 = l7 → cl2 l8 = l8 → cl2 l9 = l9 → ∃ l6' l7' l8' l9' l10', (cl2 l6' = l6' ∧ cl2 l7' = l7' ∧ cl2 l8' = l8' ∧ cl2 l9' = l9') ∧ Tr sc (d + 2) 233 (112, [some (.ref 124), some (.int (nI s)), some (.int x), some (.int y), some (.int (iv q)), some (.int 0), some (.int (nI k)), l7, l8, l9, l10], [], H) Q = Tr sc (d + 2) 233 (320, [some (.ref 124), some (.int (nI s)), some (.int x), some (.int y), some (.int (iv q)), some (.int 0), l6', l7', l8', l9', l10'], [], H) Q := by
    intro k H L R hR F hl A hk o g
    subst hR
    have hwH := F.WF hw
    refine ⟨hl, A, fun k' j h1 h2 => o k' j (by omega) h2, fun k' h1 => g k' (by omega), fun d Q l7 l8 l9 l10 h7 h8 h9 => ⟨some (.int (nI k)), l7, l8, l9, l10, ⟨rfl, h7, h8, h9⟩, ?_⟩⟩
    · rw [x_233_112]
      simp only [x_233_114, x_233_115, x_233_118, o_124 hwH, cl2_i, cl2_r, cl2_n, cl2_l, tl_s, tl_n, true_and, and_true, Option.some.injEq, exists_eq_left', Bool.and_self, Bool.true_and, Bool.and_true, Bool.or_true, Bool.true_or, i_10, i_00, if_true, if_false, not_true_eq_false, not_false_eq_true, and_false, false_and, okp_sI, okp_sL, okp_aI, okp_aL, hR_sI, hR_sL, hR_aI, hR_aL, A.1, hk]
      rw [if_pos (Int32.le_refl _)]
  intro f
  induction f with
  | zero =>
    intro k H L hk F hl LI A hkl o g
    omega
  | succ f ih =>
    intro k H L hk F hl LI A hkl o g
    have hwH := F.WF hw
    by_cases z : k < L.length
    · have ws : wlk (Wit b q a1 a2 c1 c2) (nxP b q sx sy) M (f + 1) k L = wlk (Wit b q a1 a2 c1 c2) (nxP b q sx sy) M f (k + 1) (inn (Wit b q a1 a2 c1 c2) (nxP b q sx sy) L (L.getD k pt0) M) := if_pos ⟨z, hl⟩
      have DH := D.fr F (fun a j h1 h2 q => by unfold Pin at q; omega)
      have IH : BoI H a1 a2 c1 c2 := by
        obtain ⟨i0, i1, i2, i3⟩ := I
        exact ⟨by rw [F.i (by unfold Pin; omega)]; exact i0, by rw [F.i (by unfold Pin; omega)]; exact i1, by rw [F.i (by unfold Pin; omega)]; exact i2, by rw [F.i (by unfold Pin; omega)]; exact i3⟩
      have f1 : Fq (fun a b => a = 155 ∧ b = k) H (sI H 155 k 1) := Fq.rf.sI ⟨rfl, rfl⟩
      obtain ⟨H1, F1, R1⟩ := m_in_i (sc := sc) (x := x) (y := y) hwH hs DH IH B z hl LI M 0 (sI H 155 k 1) (by omega) (Fq.rf.sI (by unfold Pin; omega)) hl (A.fr f1 (fun x y z1 z2 => by omega)) (fun k' j h1 h2 => LdO_f f1 (fun w => by omega) (o k' j h1 h2)) (fun j hj => absurd hj (Nat.not_lt_zero _)) (fun k' h1 => by
        by_cases w : k' = k
        · rw [w, rd_eq]
        · rw [rd_ne (by omega)]; exact g k' (by omega))
      have lead : ∀ d Q l7 l8 l9 l10, cl2 l7 = l7 → Tr sc (d + 2) 233 (112, [some (.ref 124), some (.int (nI s)), some (.int x), some (.int y), some (.int (iv q)), some (.int 0), some (.int (nI k)), l7, l8, l9, l10], [], H) Q = Tr sc (d + 2) 233 (132, [some (.ref 124), some (.int (nI s)), some (.int x), some (.int y), some (.int (iv q)), some (.int 0), some (.int (nI k)), some (.int (nI 0)), l8, l9, l10], [], sI H 155 k 1) Q := by
        intro d Q l7 l8 l9 l10 h7
        rw [x_233_112]
        simp only [x_233_114, x_233_115, x_233_118, x_233_121, x_233_122, x_233_125, x_233_127, x_233_128, x_233_129, x_233_130, o_124 hwH, w_124_53 hwH, o_155 hwH, show LN 155 = 2001 from rfl, cl2_i, cl2_r, cl2_n, cl2_l, tl_s, tl_n, true_and, and_true, Option.some.injEq, exists_eq_left', Bool.and_self, Bool.true_and, Bool.and_true, Bool.or_true, Bool.true_or, i_10, i_00, if_true, if_false, not_true_eq_false, not_false_eq_true, and_false, false_and, okp_sI, okp_sL, okp_aI, okp_aL, hR_sI, hR_sL, hR_aI, hR_aL, A.1, inb_nI (n := 2001) (show k < 2001 by omega) (by decide), nI_clamp (n := k) (by omega), vp_b1]
        rw [if_neg (nI_ge z (by omega))]
        rfl
      rcases R1 with ⟨r1, r2, r3, r4, r5⟩ | ⟨r1, r2⟩
      · obtain ⟨H', F', R'⟩ := ih (k + 1) H1 _ (by omega) (F.tr F1) r1 (inn_I LI M) r2 (by have := (inn_len (wi := Wit b q a1 a2 c1 c2) (nx := nxP b q sx sy) (L := L) (p := L.getD k pt0) M).2; omega) r3 r4
        refine ⟨H', F', ?_⟩
        rw [ws]
        rcases R' with ⟨t1, t2, t3, t4, t5⟩ | ⟨t1, t2⟩
        · refine Or.inl ⟨t1, t2, t3, t4, fun d Q l7 l8 l9 l10 h7 h8 h9 => ?_⟩
          obtain ⟨l8', l9', l10', hl', eq1⟩ := r5 d Q l8 l9 l10 h8 h9
          obtain ⟨m6, m7, m8, m9, m10, hm, eq2⟩ := t5 d Q (some (.int (nI M))) l8' l9' l10' rfl hl'.1 hl'.2
          refine ⟨m6, m7, m8, m9, m10, hm, ?_⟩
          rw [lead d Q l7 l8 l9 l10 h7]
          refine eq1.trans ?_
          simp only [x_233_314, x_233_317, cl2_i, cl2_r, cl2_n, cl2_l, tl_s, tl_n, true_and, and_true, Option.some.injEq, exists_eq_left', Bool.and_self, Bool.true_and, Bool.and_true, Bool.or_true, Bool.true_or, i_10, i_00, if_true, if_false, not_true_eq_false, not_false_eq_true, and_false, false_and, okp_sI, okp_sL, okp_aI, okp_aL, hR_sI, hR_sL, hR_aI, hR_aL, nI_1]
          exact eq2
        · refine Or.inr ⟨t1, fun d Q l7 l8 l9 l10 h7 h8 h9 => ?_⟩
          obtain ⟨l8', l9', l10', hl', eq1⟩ := r5 d Q l8 l9 l10 h8 h9
          rw [lead d Q l7 l8 l9 l10 h7]
          refine eq1.trans ?_
          simp only [x_233_314, x_233_317, cl2_i, cl2_r, cl2_n, cl2_l, tl_s, tl_n, true_and, and_true, Option.some.injEq, exists_eq_left', Bool.and_self, Bool.true_and, Bool.and_true, Bool.or_true, Bool.true_or, i_10, i_00, if_true, if_false, not_true_eq_false, not_false_eq_true, and_false, false_and, okp_sI, okp_sL, okp_aI, okp_aL, hR_sI, hR_sL, hR_aI, hR_aL, nI_1]
          exact t2 d Q _ _ _ _ rfl hl'.1 hl'.2
      · refine ⟨H1, F.tr F1, Or.inr ⟨?_, fun d Q l7 l8 l9 l10 h7 h8 h9 => ?_⟩⟩
        · rw [ws, wlk_big r1]; exact r1
        · rw [lead d Q l7 l8 l9 l10 h7]
          exact r2 d Q l8 l9 l10 h8 h9
    · have ws : wlk (Wit b q a1 a2 c1 c2) (nxP b q sx sy) M (f + 1) k L = L := if_neg (fun w => z w.1)
      exact ⟨H, F, Or.inl (stop k H L _ ws F hl A (by omega) o g)⟩
end WN
