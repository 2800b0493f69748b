/-! ===== net, rings: the model's answers ===== -/
def halfS (e : Nat → Nat → Bool) (n : Nat) : Nat := sN (fun a => sN (fun b => if a < b then en e a b else 0) n) n
def prtS (e : Nat → Nat → Bool) (n : Nat) : Nat := (rts e n n 0 (fun _ => false)).length
def outS (e : Nat → Nat → Bool) (n a : Nat) : Nat := (rts e n n 0 (fun x => decide (x = a))).length
def cutS (e : Nat → Nat → Bool) (n : Nat) : Nat → Nat := sN (fun a => if prtS e n < outS e n a then 1 else 0)
def PNm (a b : Nat) : Prop := a = 150 ∨ a = 151 ∨ a = 152
section N3
variable {sc : Nat × (Nat → Int32)} {d : Nat} {Q : PRes → Prop} {h h' H G : PH} {n R M b : Nat} {eM : Nat → Nat → Bool} {P L : List Pnt} {sx sy : Nat → Int} {x y : Int32}
theorem rts_len : ∀ (m a : Nat) (F : Nat → Bool), (rts eM n m a F).length ≤ m
  | 0, _, _ => Nat.le_refl _
  | m + 1, a, F => by
    show (if F a = true then rts eM n m (a + 1) F else a :: rts eM n m (a + 1) (gfs eM n (n + 1) 0 (opn true a (F, []))).1).length ≤ m + 1
    split
    · have := rts_len m (a + 1) F; omega
    · have := rts_len m (a + 1) (gfs eM n (n + 1) 0 (opn true a (F, []))).1
      rw [List.length_cons]; omega
theorem m_net_r (hw : WF H) (PM : PtM H L P) (nb : P.length ≤ 216) (rg : ∀ p, p ∈ P → Rg p) (he : ∀ a b, eM a b = true ↔ a ≠ b ∧ Lm H (dfX P a b) (dfY P a b)) : ∃ H', Fq PNm H H' ∧ ∀ Q, Tr sc 19 228 (13, [some (.ref 124), some (.int x), some (.int y), some (.int 0), none], [], H) Q = Q (some (.int (nI (halfS eM P.length))), sL H' 124 3 (jv (prtS eM P.length))) := by
  obtain ⟨p1, -, p4, -⟩ := PM
  obtain ⟨H1, F1, J1, eq1⟩ := m_setJoints (sc := sc) hw nb rg p1 p4 he
  have hw1 := F1.WF hw
  obtain ⟨H2, F2, eq2⟩ := m_partsWithout (sc := sc) (x := -9) hw1 nb (by rw [F1.i (by omega)]; exact p1) J1 (fun _ => false) (fun a ha => ⟨fun z => absurd z (nI_m9 (by omega)), fun z => by cases z⟩)
  have hw2 := F2.WF hw1
  have rl := rts_len (eM := eM) (n := P.length) P.length 0 (fun _ => false)
  refine ⟨H2, (F1.wk (fun a b q => Or.inl q)).tr (F2.wk (fun a b q => by unfold PGm at q; (try unfold PNm); omega)), fun Q => ?_⟩
  have eq1' : ∀ Q, Tr sc 18 224 (ent0 224 [.ref 124] H) Q = Q (some (.int (nI (halfS eM P.length))), H1) := fun Q => eq1 16 Q
  have eq2' : ∀ Q, Tr sc 18 225 (ent0 225 [.ref 124, .int (-9)] H1) Q = Q (some (.int (nI (prtS eM P.length))), H2) := fun Q => eq2 17 Q
  have ej : (nI (prtS eM P.length)).toInt64 = jv (prtS eM P.length) := nI_j (by unfold prtS; omega)
  simp only [x_228_13, x_228_14, o_124 hw, x_228_17, x_228_19, x_228_20, x_228_21, x_228_23, o_124 hw1, x_228_26, x_228_27, x_228_30, x_228_32, o_124 hw2, cl2_i, cl2_r, cl2_n, cl2_l, tl_s, tl_n, true_and, and_true, Option.some.injEq, exists_eq_left', Bool.and_self, Bool.true_and, Bool.and_true, Bool.or_true, Bool.true_or, i_10, i_00, if_true, if_false, not_true_eq_false, not_false_eq_true, and_false, false_and, okp_sI, okp_sL, okp_aI, okp_aL, hR_sI, hR_sL, hR_aI, hR_aL, eq1', eq2', ej]
theorem m_rg_l (hw : WF h) (nb : n ≤ 216) (hc : hI h 124 36 = nI n) (J : JA h eM n) : ∀ (m a : Nat) (H : PH), a + m = n → Fq PGm h H → ∃ H', Fq PGm h H' ∧ ∀ Q l3 l4, Tr sc 19 229 (33, [some (.ref 124), some (.int x), some (.int y), l3, l4, some (.int (nI (prtS eM n))), some (.int (nI (cutS eM n a))), some (.int (nI a))], [], H) Q = Tr sc 19 229 (69, [some (.ref 124), some (.int x), some (.int y), l3, l4, some (.int (nI (prtS eM n))), some (.int (nI (cutS eM n n))), some (.int (nI n))], [], H') Q := by
  have rl := rts_len (eM := eM) (n := n) n 0 (fun _ => false)
  intro m
  induction m with
  | zero =>
    intro a H ha F
    have e : a = n := by omega
    subst e
    have hwH := F.WF hw
    refine ⟨H, F, fun Q l3 l4 => ?_⟩
    rw [x_229_33]
    simp only [x_229_35, x_229_36, x_229_39, o_124 hwH, cl2_i, cl2_r, cl2_n, cl2_l, tl_s, tl_n, true_and, and_true, Option.some.injEq, exists_eq_left', Bool.and_self, Bool.true_and, Bool.and_true, Bool.or_true, Bool.true_or, i_10, i_00, if_true, if_false, not_true_eq_false, not_false_eq_true, and_false, false_and, okp_sI, okp_sL, okp_aI, okp_aL, hR_sI, hR_sL, hR_aI, hR_aL, F.i (a := 124) (b := 36) (by unfold PGm; omega), hc]
    rw [if_pos (Int32.le_refl _)]
  | succ m ih =>
    intro a H ha F
    have hlt : a < n := by omega
    have hwH := F.WF hw
    have hcH : hI H 124 36 = nI n := by rw [F.i (by unfold PGm; omega)]; exact hc
    have JH : JA H eM n := fun a b h1 h2 => by rw [F.i (by unfold PGm; omega)]; exact J a b h1 h2
    obtain ⟨H1, F1, eq1⟩ := m_partsWithout (sc := sc) (x := nI a) hwH nb hcH JH (fun x => decide (x = a)) (fun b hb => by
      rw [decide_eq_true_eq]
      exact ⟨fun z => (nI_eq (by omega) (by omega)).mp z, fun z => by rw [z]⟩)
    obtain ⟨H', F', eq'⟩ := ih (a + 1) H1 (by omega) (F.tr F1)
    have rl2 := rts_len (eM := eM) (n := n) n 0 (fun x => decide (x = a))
    have eq1' : ∀ Q, Tr sc 18 225 (ent0 225 [.ref 124, .int (nI a)] H) Q = Q (some (.int (nI (outS eM n a))), H1) := fun Q => eq1 17 Q
    have es : cutS eM n (a + 1) = cutS eM n a + (if prtS eM n < outS eM n a then 1 else 0) := rfl
    refine ⟨H', F', fun Q l3 l4 => ?_⟩
    rw [x_229_33]
    simp only [x_229_35, x_229_36, x_229_39, x_229_42, x_229_44, x_229_45, x_229_47, x_229_50, x_229_52, o_124 hwH, cl2_i, cl2_r, cl2_n, cl2_l, tl_s, tl_n, true_and, and_true, Option.some.injEq, exists_eq_left', Bool.and_self, Bool.true_and, Bool.and_true, Bool.or_true, Bool.true_or, i_10, i_00, if_true, if_false, not_true_eq_false, not_false_eq_true, and_false, false_and, okp_sI, okp_sL, okp_aI, okp_aL, hR_sI, hR_sL, hR_aI, hR_aL, hcH, eq1', nI_1]
    rw [if_neg (nI_ge hlt (by omega))]
    have e' := eq' Q l3 l4
    rw [es] at e'
    by_cases z : prtS eM n < outS eM n a
    · rw [if_pos z] at e'
      rw [if_neg (nI_ge z (by unfold outS; omega))]
      simp only [x_229_55, x_229_56, x_229_59, x_229_60, x_229_61, x_229_63, x_229_66, cl2_i, cl2_r, cl2_n, cl2_l, tl_s, tl_n, true_and, and_true, Option.some.injEq, exists_eq_left', Bool.and_self, Bool.true_and, Bool.and_true, Bool.or_true, Bool.true_or, i_10, i_00, if_true, if_false, not_true_eq_false, not_false_eq_true, and_false, false_and, okp_sI, okp_sL, okp_aI, okp_aL, hR_sI, hR_sL, hR_aI, hR_aL, nI_1]
      exact e'
    · rw [if_neg z, Nat.add_zero] at e'
      rw [if_pos (nI_le (by omega) (by unfold prtS; omega))]
      simp only [x_229_59, x_229_60, x_229_61, x_229_63, x_229_66, cl2_i, cl2_r, cl2_n, cl2_l, tl_s, tl_n, true_and, and_true, Option.some.injEq, exists_eq_left', Bool.and_self, Bool.true_and, Bool.and_true, Bool.or_true, Bool.true_or, i_10, i_00, if_true, if_false, not_true_eq_false, not_false_eq_true, and_false, false_and, okp_sI, okp_sL, okp_aI, okp_aL, hR_sI, hR_sL, hR_aI, hR_aL, nI_1, Int32.add_zero]
      exact e'
theorem cutS_le : ∀ a, cutS eM n a ≤ a
  | 0 => Nat.le_refl _
  | a + 1 => by
    have := cutS_le a
    show cutS eM n a + (if prtS eM n < outS eM n a then 1 else 0) ≤ a + 1
    split <;> omega
theorem m_rings_r (hw : WF H) (PM : PtM H L P) (nb : P.length ≤ 216) (rg : ∀ p, p ∈ P → Rg p) (he : ∀ a b, eM a b = true ↔ a ≠ b ∧ Lm H (dfX P a b) (dfY P a b)) : ∃ H', Fq PNm H H' ∧ ∀ Q, Tr sc 19 229 (13, [some (.ref 124), some (.int x), some (.int y), some (.int 0), none, none, none, none], [], H) Q = Q (some (.int (nI (halfS eM P.length) - nI P.length + nI (prtS eM P.length))), sL H' 124 3 (jv (cutS eM P.length P.length))) := by
  obtain ⟨p1, -, p4, -⟩ := PM
  obtain ⟨H1, F1, J1, eq1⟩ := m_setJoints (sc := sc) hw nb rg p1 p4 he
  have hw1 := F1.WF hw
  have c1 : hI H1 124 36 = nI P.length := by rw [F1.i (by omega)]; exact p1
  obtain ⟨H2, F2, eq2⟩ := m_partsWithout (sc := sc) (x := -9) hw1 nb c1 J1 (fun _ => false) (fun a ha => ⟨fun z => absurd z (nI_m9 (by omega)), fun z => by cases z⟩)
  have hw2 := F2.WF hw1
  have c2 : hI H2 124 36 = nI P.length := by rw [F2.i (by unfold PGm; omega)]; exact c1
  have J2 : JA H2 eM P.length := fun a b h1 h2 => by rw [F2.i (by unfold PGm; omega)]; exact J1 a b h1 h2
  obtain ⟨H3, F3, eq3⟩ := m_rg_l (sc := sc) (x := x) (y := y) hw2 nb c2 J2 P.length 0 H2 (by omega) Fq.rf
  have hw3 := F3.WF hw2
  have c3 : hI H3 124 36 = nI P.length := by rw [F3.i (by unfold PGm; omega)]; exact c2
  have cl := cutS_le (eM := eM) (n := P.length) P.length
  refine ⟨H3, (F1.wk (fun a b q => Or.inl q)).tr ((F2.wk (fun a b q => by unfold PGm at q; (try unfold PNm); omega)).tr (F3.wk (fun a b q => by unfold PGm at q; (try unfold PNm); omega))), fun Q => ?_⟩
  have eq1' : ∀ Q, Tr sc 18 224 (ent0 224 [.ref 124] H) Q = Q (some (.int (nI (halfS eM P.length))), H1) := fun Q => eq1 16 Q
  have eq2' : ∀ Q, Tr sc 18 225 (ent0 225 [.ref 124, .int (-9)] H1) Q = Q (some (.int (nI (prtS eM P.length))), H2) := fun Q => eq2 17 Q
  have ej : (nI (cutS eM P.length P.length)).toInt64 = jv (cutS eM P.length P.length) := nI_j (by omega)
  simp only [x_229_13, x_229_14, o_124 hw, x_229_17, x_229_19, x_229_20, x_229_22, o_124 hw1, x_229_25, x_229_27, x_229_28, x_229_30, x_229_31, cl2_i, cl2_r, cl2_n, cl2_l, tl_s, tl_n, true_and, and_true, Option.some.injEq, exists_eq_left', Bool.and_self, Bool.true_and, Bool.and_true, Bool.or_true, Bool.true_or, i_10, i_00, if_true, if_false, not_true_eq_false, not_false_eq_true, and_false, false_and, okp_sI, okp_sL, okp_aI, okp_aL, hR_sI, hR_sL, hR_aI, hR_aL, eq1', eq2']
  refine (eq3 Q _ _).trans ?_
  have c3' : hI (sL H3 124 3 (jv (cutS eM P.length P.length))) 124 36 = nI P.length := c3
  simp only [x_229_69, x_229_70, x_229_72, x_229_73, x_229_76, x_229_78, x_229_79, x_229_82, x_229_83, x_229_85, x_229_86, o_124 hw3, cl2_i, cl2_r, cl2_n, cl2_l, tl_s, tl_n, true_and, and_true, Option.some.injEq, exists_eq_left', Bool.and_self, Bool.true_and, Bool.and_true, Bool.or_true, Bool.true_or, i_10, i_00, if_true, if_false, not_true_eq_false, not_false_eq_true, and_false, false_and, okp_sI, okp_sL, okp_aI, okp_aL, hR_sI, hR_sL, hR_aI, hR_aL, ej, hI_sL, c3]
end N3
