/-! ===== fault, shape ===== -/
section KP
variable {sc : Nat × (Nat → Int32)} {d : Nat} {Q : PRes → Prop} {h h' h1 h2 H : PH} {k s r b M R i j v p n t op : Nat} {kd x y z w : Int32} {tn : Nat → Nat} {sx sy ex : Nat → Int} {X Y : Int} {ms : Mv3} {ch tx : Nat → Int32}
def gdM (m : Int32 × Int32 × Int32) : Prop := (∃ j, j ≤ 7 ∧ m.1 = nI j) ∧ (-9 ≤ m.2.1.toInt ∧ m.2.1.toInt ≤ 9) ∧ (-9 ≤ m.2.2.toInt ∧ m.2.2.toInt ≤ 9)
theorem mvG_of (h1 : 1 ≤ ms.length ∧ ms.length ≤ 6) (g : ∀ m, m ∈ ms → gdM m) : MvG ms := ⟨h1, fun i hi => by
  have e := at_gt hi
  have gm := g _ (List.mem_of_getElem? e)
  obtain ⟨⟨j, hj, e1⟩, g2, g3⟩ := gm
  have e2 : gtT ms i = j := by unfold gtT; rw [e1, nI_clamp (by omega)]
  exact ⟨by omega, by rw [e1, e2], g2, g3⟩⟩
theorem vlF_b (o : 48 ≤ ch (pfQ ch p) ∧ ch (pfQ ch p) ≤ 57) : -9 ≤ (vlF ch p).toInt ∧ (vlF ch p).toInt ≤ 9 := by
  have c1 := Int32.le_iff_toInt_le.mp o.1
  have c2 := Int32.le_iff_toInt_le.mp o.2
  have e1 : (48 : Int32).toInt = 48 := rfl
  have e2 : (57 : Int32).toInt = 57 := rfl
  unfold vlF
  generalize ch (pfQ ch p) = c at *
  split
  · rw [Int32.toInt_sub, e1, show (48 - c.toInt).bmod (2 ^ 32) = 48 - c.toInt by apply Int.bmod_eq_of_le <;> omega]; omega
  · rw [Int32.toInt_sub, e1, show (c.toInt - 48).bmod (2 ^ 32) = c.toInt - 48 by apply Int.bmod_eq_of_le <;> omega]; omega
theorem mvP_g (o : (mvP ch p).1 = true) : gdM (mvP ch p).2.2 := by
  unfold mvP at o ⊢
  by_cases c1 : ch p = 47
  · rw [if_pos c1] at o ⊢
    by_cases c2 : 97 ≤ ch (p + 1) ∧ ch (p + 1) ≤ 104
    · rw [if_pos c2] at o ⊢
      by_cases c3 : 48 ≤ ch (pfQ ch (p + 2)) ∧ ch (pfQ ch (p + 2)) ≤ 57
      · rw [if_pos c3] at o ⊢
        by_cases c4 : 48 ≤ ch (pfQ ch (pfQ ch (p + 2) + 1)) ∧ ch (pfQ ch (pfQ ch (p + 2) + 1)) ≤ 57
        · rw [if_pos c4]
          exact ⟨(turn7 c2.1 c2.2).2, vlF_b c3, vlF_b c4⟩
        · rw [if_neg c4] at o; exact absurd o Bool.false_ne_true
      · rw [if_neg c3] at o; exact absurd o Bool.false_ne_true
    · rw [if_neg c2] at o; exact absurd o Bool.false_ne_true
  · rw [if_neg c1] at o; exact absurd o Bool.false_ne_true
theorem rdL_g : ∀ k p, (rdL ch n k p).2.length ≤ k ∧ ∀ m, m ∈ (rdL ch n k p).2 → gdM m
  | 0, p => ⟨Nat.le_refl _, fun m hm => by cases hm⟩
  | k + 1, p => by
    have ih := rdL_g k (mvP ch p).2.1
    unfold rdL
    by_cases q : n ≤ p
    · rw [if_pos q]; exact ⟨Nat.zero_le _, fun m hm => by cases hm⟩
    · rw [if_neg q]
      by_cases o : (mvP ch p).1 = true
      · rw [if_pos o]
        refine ⟨Nat.succ_le_succ ih.1, fun m hm => ?_⟩
        rcases List.mem_cons.mp hm with e | e
        · rw [e]; exact mvP_g o
        · exact ih.2 m e
      · rw [if_neg o]; exact ⟨Nat.zero_le _, fun m hm => by cases hm⟩
theorem rdA_g (e : (rdA ch n).1 = -9) (hp : (mvP ch 1).2.1 < 2 ^ 31) : MvG (rdA ch n).2 ∧ ∃ b, (2 ≤ b ∧ b ≤ 4) ∧ ch 0 - 48 = nI b := by
  unfold rdA at e ⊢
  by_cases c : 50 ≤ ch 0 ∧ ch 0 ≤ 52
  · rw [if_pos c] at e ⊢
    by_cases o : (mvP ch 1).1 = true
    · rw [if_pos o]
      obtain ⟨l1, l2⟩ := rdL_g (ch := ch) (n := n) 5 (mvP ch 1).2.1
      refine ⟨mvG_of ⟨Nat.succ_le_succ (Nat.zero_le _), Nat.succ_le_succ l1⟩ (fun m hm => ?_), ?_⟩
      · rcases List.mem_cons.mp hm with e | e
        · rw [e]; exact mvP_g o
        · exact l2 m e
      · have c1 := Int32.le_iff_toInt_le.mp c.1
        have c2 := Int32.le_iff_toInt_le.mp c.2
        have e1 : (50 : Int32).toInt = 50 := rfl
        have e2 : (52 : Int32).toInt = 52 := rfl
        refine ⟨((ch 0).toInt - 48).toNat, by omega, ?_⟩
        have e0 : iv ((ch 0).toInt - 48) = ch 0 - 48 := by rw [← iv_sub, ← iv_of]; rfl
        rw [← e0]
        exact iv_nn (z := (ch 0).toInt - 48) (by omega)
    · rw [if_neg o] at e
      exact absurd e (nI_m9 hp)
  · rw [if_neg c] at e
    exact absurd e (by decide)
def Pk (s a b : Nat) : Prop := Pg a b ∨ (68 + 7 * s ≤ a ∧ a < 72 + 7 * s)
theorem c_keep (hw : WF h) (hs : s < 8) (D : DV h (nI b) ms) (g : MvG ms) (hb : 2 ≤ b ∧ b ≤ 4) (hK : ∀ H, Fq (Pk s) h H → hI H (68 + 7 * s) 6 = kdN b ms → hI H (68 + 7 * s) 7 = nI b → hI H (68 + 7 * s) 8 = nI ms.length → (∀ i, i < ms.length → hI H (69 + 7 * s) i = nI (gtT ms i) ∧ hI H (70 + 7 * s) i = iv (gtX ms i) ∧ hI H (71 + 7 * s) i = iv (gtY ms i)) → Q (some (.int (kdN b ms)), H)) : Tr sc (d + 5) 150 (ent0 150 [.ref 0, .int (nI s)] h) Q := by
  obtain ⟨w1, w2, ⟨r0, r1, r2, r3, r4, r5⟩, ⟨o0, o1, o2, o3, o4, o5⟩, n0, n1, n2, n3, n4, n5⟩ := hw.shape hs
  obtain ⟨g1, g2, g3⟩ := D
  rw [e_150]
  simp only [x_150_0, x_150_1, x_150_4, x_150_5, x_150_6, x_150_7, x_150_10, o_0 hw, w_0_2 hw, w_0_3 hw, o_3 hw, show LN 3 = 8 from rfl, o_4 hw, cl2_i, cl2_r, cl2_n, cl2_l, tl_s, tl_n, true_and, and_true, Option.some.injEq, exists_eq_left', Bool.and_self, Bool.true_and, Bool.and_true, Bool.or_true, Bool.true_or, i_10, i_00, if_true, if_false, not_true_eq_false, not_false_eq_true, and_false, false_and, okp_sI, okp_sL, okp_aI, okp_aL, hR_sI, hR_sL, hR_aI, hR_aL, inb_nI (n := 8) hs (by decide), nI_clamp (n := s) (by omega), w1, w2]
  rw [e_53]
  have ne : ¬ 4 = 68 + 7 * s := by omega
  simp only [x_53_0, x_53_1, x_53_2, x_53_5, x_53_8, x_53_9, x_53_10, x_53_13, x_53_16, x_53_17, o_4 hw, w_4_0 hw, w_4_1 hw, w_4_2 hw, w_4_3 hw, w_4_4 hw, w_4_5 hw, cl2_i, cl2_r, cl2_n, cl2_l, tl_s, tl_n, true_and, and_true, Option.some.injEq, exists_eq_left', Bool.and_self, Bool.true_and, Bool.and_true, Bool.or_true, Bool.true_or, i_10, i_00, if_true, if_false, not_true_eq_false, not_false_eq_true, and_false, false_and, okp_sI, okp_sL, okp_aI, okp_aL, hR_sI, hR_sL, hR_aI, hR_aL, w2, hI_sI, ne, g1, g2]
  have F0 : Fr (fun a => a = 68 + 7 * s ∨ a = 69 + 7 * s ∨ a = 70 + 7 * s ∨ a = 71 + 7 * s) h (sI (sI h (68 + 7 * s) 7 (nI b)) (68 + 7 * s) 8 (nI ms.length)) := (Fr_sI (Or.inl rfl)).tr (Fr_sI (Or.inl rfl))
  refine c_tm_loop (h := h) (k' := 4) (p0 := 5) (p1 := 6) (p2 := 7) (t := fun j => (ms.getD j (0, 0, 0)).1) (x := fun j => (ms.getD j (0, 0, 0)).2.1) (y := fun j => (ms.getD j (0, 0, 0)).2.2) (b := nI b) w2 (o_4 hw) r0 r1 r2 (w_4_0 hw) (w_4_1 hw) (w_4_2 hw) o0 o1 o2 (o_5 hw) (o_6 hw) (o_7 hw) n0 n1 n2 rfl rfl rfl (by omega) (by omega) (by omega) g.1.2 (fun H1 T => ?_) ms.length 0 _ (by omega) F0 ?_ ?_ ?_ (fun j hj => by omega) (fun j _ hj => ?_)
  · obtain ⟨F1, t1, t2, t3, t4⟩ := T
    have hw1 := Fr_WF F1 hw
    obtain ⟨w1', w2', -⟩ := hw1.shape hs
    have f1 : Fq (fun a _ => a = 68 + 7 * s ∨ a = 69 + 7 * s ∨ a = 70 + 7 * s ∨ a = 71 + 7 * s) h H1 := Fq_fr F1
    have C1 : ShC H1 (68 + 7 * s) (hI H1 (68 + 7 * s) 6) b ms.length (gtT ms) (gtX ms) (gtY ms) (fun i => (hI H1 (68 + 7 * s + 4) i).toInt) := by
      refine ⟨rfl, t1, t2, fun i hi => ?_⟩
      rw [show 68 + 7 * s + 1 = 69 + 7 * s by omega, show 68 + 7 * s + 2 = 70 + 7 * s by omega, show 68 + 7 * s + 3 = 71 + 7 * s by omega]
      obtain ⟨u1, u2, u3⟩ := t4 i hi
      exact ⟨by rw [u1]; exact (g.2 i hi).2.1, by rw [u2]; exact iv_of _, by rw [u3]; exact iv_of _, iv_of _⟩
    simp only [x_150_13, x_150_14, x_150_17, x_150_18, x_150_19, x_150_20, x_150_21, x_150_24, x_150_25, x_150_26, o_0 hw1, w_0_2 hw1, o_3 hw1, show LN 3 = 8 from rfl, cl2_i, cl2_r, cl2_n, cl2_l, tl_s, tl_n, true_and, and_true, Option.some.injEq, exists_eq_left', Bool.and_self, Bool.true_and, Bool.and_true, Bool.or_true, Bool.true_or, i_10, i_00, if_true, if_false, not_true_eq_false, not_false_eq_true, and_false, false_and, okp_sI, okp_sL, okp_aI, okp_aL, hR_sI, hR_sL, hR_aI, hR_aL, inb_nI (n := 8) hs (by decide), nI_clamp (n := s) (by omega), w1', w2']
    refine c_kind hw1 (is_sh hs) C1 g hb (fun H2 f2 => ?_)
    have hw2 := f2.WF hw1
    obtain ⟨w1'', w2'', -⟩ := hw2.shape hs
    have C2 := C1.fr f2 (fun a j h1 h2 q => by unfold Pg Pv Po at q; omega)
    simp only [x_150_29, x_150_32, x_150_33, x_150_36, x_150_37, x_150_38, x_150_41, o_0 hw2, w_0_2 hw2, o_3 hw2, show LN 3 = 8 from rfl, cl2_i, cl2_r, cl2_n, cl2_l, tl_s, tl_n, true_and, and_true, Option.some.injEq, exists_eq_left', Bool.and_self, Bool.true_and, Bool.and_true, Bool.or_true, Bool.true_or, i_10, i_00, if_true, if_false, not_true_eq_false, not_false_eq_true, and_false, false_and, okp_sI, okp_sL, okp_aI, okp_aL, hR_sI, hR_sL, hR_aI, hR_aL, inb_nI (n := 8) hs (by decide), nI_clamp (n := s) (by omega), w1'', w2'', hI_sI]
    obtain ⟨c1, c2, c3, c4⟩ := C2
    have f12 : Fq (Pk s) h H2 := (f1.wk (fun a b q => Or.inr (by omega))).tr (f2.wk (fun a b q => Or.inl q))
    refine hK _ (f12.sI (Or.inr (by omega))) ?_ ?_ ?_ (fun i hi => ?_)
    · rw [hI_sI, if_pos rfl, if_pos rfl]
    · rw [hI_sI, if_pos rfl, if_neg (by decide)]; exact c2
    · rw [hI_sI, if_pos rfl, if_neg (by decide)]; exact c3
    · obtain ⟨e1, e2, e3, -⟩ := c4 i hi
      rw [show 68 + 7 * s + 1 = 69 + 7 * s by omega] at e1
      rw [show 68 + 7 * s + 2 = 70 + 7 * s by omega] at e2
      rw [show 68 + 7 * s + 3 = 71 + 7 * s by omega] at e3
      rw [hI_sI, if_neg (by omega), hI_sI, if_neg (by omega), hI_sI, if_neg (by omega)]
      exact ⟨e1, e2, e3⟩
  · rw [hI_sI, if_pos rfl, if_neg (by decide), hI_sI, if_pos rfl, if_pos rfl]
  · rw [hI_sI, if_pos rfl, if_pos rfl]
  · rw [hI_sI, if_pos rfl, if_neg (by decide), hI_sI, if_pos rfl, if_neg (by decide)]
  · obtain ⟨e1, e2, e3⟩ := g3 j _ (at_gt hj)
    rw [hI_sI, if_neg (by omega), hI_sI, if_neg (by omega), hI_sI, if_neg (by omega), hI_sI, if_neg (by omega), hI_sI, if_neg (by omega), hI_sI, if_neg (by omega)]
    exact ⟨e1, e2, e3⟩
def Pt (s a b : Nat) : Prop := Pd a b ∨ ((132 ≤ a ∧ a ≤ 134) ∧ b = s) ∨ ((135 ≤ a ∧ a ≤ 138) ∧ 6 * s ≤ b ∧ b < 6 * s + 6)
/-- while the model takes what it read -/
def TkI (h H : PH) (s b : Nat) (ms : Mv3) (i : Nat) : Prop := Fq (Pt s) h H ∧ hI H 133 s = nI b ∧ hI H 134 s = nI ms.length ∧ ∀ j, j < i → hI H 135 (6 * s + j) = nI (gtT ms j) ∧ hI H 136 (6 * s + j) = iv (gtX ms j) ∧ hI H 137 (6 * s + j) = iv (gtY ms j) ∧ hI H 138 (6 * s + j) = 0
theorem m_tk_loop (hw : WF h) (hs : s < 8) (D : DM h (nI b) ms) (g : MvG ms) (hK : ∀ H, TkI h H s b ms ms.length → Tr sc d 180 (132, [some (.ref 124), some (.int (nI s)), some (.int (bI (cd (∀ j, j < ms.length → gtT ms j = 0) = true))), some (.int (nI ms.length))], [], H) Q) : ∀ (c i : Nat) (H : PH), i + c = ms.length → TkI h H s b ms i → Tr sc d 180 (24, [some (.ref 124), some (.int (nI s)), some (.int (bI (cd (∀ j, j < i → gtT ms j = 0) = true))), some (.int (nI i))], [], H) Q := by
  obtain ⟨g1, g2, g3⟩ := D
  have hl := g.1.2
  intro c
  induction c with
  | zero =>
    intro i H hi I
    have e : i = ms.length := by omega
    subst e
    have hwH := I.1.WF hw
    have e2 : hI H 124 12 = nI ms.length := by rw [I.1.i (by unfold Pt Pd; omega)]; exact g2
    rw [x_180_24]
    simp only [x_180_25, x_180_26, x_180_29, o_124 hwH, cl2_i, cl2_r, cl2_n, cl2_l, tl_s, tl_n, true_and, and_true, Option.some.injEq, exists_eq_left', Bool.and_self, Bool.true_and, Bool.and_true, Bool.or_true, Bool.true_or, i_10, i_00, if_true, if_false, not_true_eq_false, not_false_eq_true, and_false, false_and, okp_sI, okp_sL, okp_aI, okp_aL, hR_sI, hR_sL, hR_aI, hR_aL, e2]
    rw [if_pos (Int32.le_refl _)]
    exact hK H I
  | succ c ih =>
    intro i H hi I
    have hlt : i < ms.length := by omega
    have hwH := I.1.WF hw
    have e2 : hI H 124 12 = nI ms.length := by rw [I.1.i (by unfold Pt Pd; omega)]; exact g2
    obtain ⟨u1, u2, u3⟩ := g3 i _ (at_gt hlt)
    have v1 : hI H 131 (3 * i) = nI (gtT ms i) := by rw [I.1.i (by unfold Pt Pd; omega), u1]; exact (g.2 i hlt).2.1
    have v2 : hI H 131 (3 * i + 1) = iv (gtX ms i) := by rw [I.1.i (by unfold Pt Pd; omega), u2]; exact iv_of _
    have v3 : hI H 131 (3 * i + 2) = iv (gtY ms i) := by rw [I.1.i (by unfold Pt Pd; omega), u3]; exact iv_of _
    have k0 : (3 : Int32) * nI i = nI (3 * i) := by rw [show (3 : Int32) = nI 3 from rfl, pk_mul]
    have k1 : nI (3 * i) + 1 = nI (3 * i + 1) := nI_1 _
    have k2 : nI (3 * i) + 2 = nI (3 * i + 2) := by rw [show (2 : Int32) = nI 2 from rfl, nI_add]
    have t7 := (g.2 i hlt).1
    have nx : ∀ fl : Int32, fl = bI (cd (∀ j, j < i + 1 → gtT ms j = 0) = true) → Tr sc d 180 (125, [some (.ref 124), some (.int (nI s)), some (.int (bI (cd (∀ j, j < i → gtT ms j = 0) = true))), some (.int (nI i))], [.int fl], sI (sI (sI (sI H 135 (6 * s + i) (nI (gtT ms i))) 136 (6 * s + i) (iv (gtX ms i))) 137 (6 * s + i) (iv (gtY ms i))) 138 (6 * s + i) 0) Q := by
      intro fl hfl
      simp only [x_180_125, x_180_126, x_180_129, cl2_i, cl2_r, cl2_n, cl2_l, tl_s, tl_n, true_and, and_true, Option.some.injEq, exists_eq_left', Bool.and_self, Bool.true_and, Bool.and_true, Bool.or_true, Bool.true_or, i_10, i_00, if_true, if_false, not_true_eq_false, not_false_eq_true, and_false, false_and, okp_sI, okp_sL, okp_aI, okp_aL, hR_sI, hR_sL, hR_aI, hR_aL, nI_1]
      rw [hfl]
      refine ih (i + 1) _ (by omega) ⟨(((I.1.sI (by unfold Pt; omega)).sI (by unfold Pt; omega)).sI (by unfold Pt; omega)).sI (by unfold Pt; omega), I.2.1, I.2.2.1, fun j hj => ?_⟩
      by_cases e : j = i
      · subst e
        refine ⟨?_, ?_, ?_, ?_⟩
        · rw [rd_ne (by omega), rd_ne (by omega), rd_ne (by omega), rd_eq]
        · rw [rd_ne (by omega), rd_ne (by omega), rd_eq]
        · rw [rd_ne (by omega), rd_eq]
        · rw [rd_eq]
      · obtain ⟨z1, z2, z3, z4⟩ := I.2.2.2 j (by omega)
        refine ⟨?_, ?_, ?_, ?_⟩
        · rw [rd_ne (by omega), rd_ne (by omega), rd_ne (by omega), rd_ne (by omega)]; exact z1
        · rw [rd_ne (by omega), rd_ne (by omega), rd_ne (by omega), rd_ne (by omega)]; exact z2
        · rw [rd_ne (by omega), rd_ne (by omega), rd_ne (by omega), rd_ne (by omega)]; exact z3
        · rw [rd_ne (by omega), rd_ne (by omega), rd_ne (by omega), rd_ne (by omega)]; exact z4
    have s1 : ¬ 131 = 135 := by decide
    rw [x_180_24]
    simp only [x_180_25, x_180_26, x_180_29, x_180_32, x_180_33, x_180_36, x_180_38, x_180_39, x_180_40, x_180_41, x_180_42, x_180_43, x_180_46, x_180_47, x_180_48, x_180_49, x_180_50, x_180_51, x_180_52, x_180_55, x_180_57, x_180_58, x_180_59, x_180_60, x_180_61, x_180_62, x_180_65, x_180_66, x_180_67, x_180_68, x_180_69, x_180_70, x_180_71, x_180_72, x_180_73, x_180_76, x_180_78, x_180_79, x_180_80, x_180_81, x_180_82, x_180_83, x_180_86, x_180_87, x_180_88, x_180_89, x_180_90, x_180_91, x_180_92, x_180_93, x_180_94, x_180_97, x_180_99, x_180_100, x_180_101, x_180_102, x_180_103, x_180_104, x_180_105, x_180_106, x_180_109, x_180_110, x_180_113, x_180_114, x_180_115, x_180_116, x_180_117, x_180_120, x_180_121, x_180_124, o_124 hwH, w_124_13 hwH, w_124_19 hwH, w_124_20 hwH, w_124_21 hwH, w_124_22 hwH, o_135 hwH, iOk_lt (k := 135) (by decide), iRd_lt (k := 135) (by decide), show LN 135 = 48 from rfl, o_131 hwH, iOk_lt (k := 131) (by decide), iRd_lt (k := 131) (by decide), show LN 131 = 18 from rfl, o_136 hwH, iOk_lt (k := 136) (by decide), iRd_lt (k := 136) (by decide), show LN 136 = 48 from rfl, o_137 hwH, iOk_lt (k := 137) (by decide), iRd_lt (k := 137) (by decide), show LN 137 = 48 from rfl, o_138 hwH, iOk_lt (k := 138) (by decide), iRd_lt (k := 138) (by decide), show LN 138 = 48 from rfl, cl2_i, cl2_r, cl2_n, cl2_l, tl_s, tl_n, true_and, and_true, Option.some.injEq, exists_eq_left', Bool.and_self, Bool.true_and, Bool.and_true, Bool.or_true, Bool.true_or, i_10, i_00, if_true, if_false, not_true_eq_false, not_false_eq_true, and_false, false_and, okp_sI, okp_sL, okp_aI, okp_aL, hR_sI, hR_sL, hR_aI, hR_aL, e2, mv_ix hs (show i < 6 by omega), k0, k1, k2, inb_nI (n := 48) (show 6 * s + i < 48 by omega) (by decide), nI_clamp (n := 6 * s + i) (by omega), inb_nI (n := 18) (show 3 * i < 18 by omega) (by decide), inb_nI (n := 18) (show 3 * i + 1 < 18 by omega) (by decide), inb_nI (n := 18) (show 3 * i + 2 < 18 by omega) (by decide), nI_clamp (n := 3 * i) (by omega), nI_clamp (n := 3 * i + 1) (by omega), nI_clamp (n := 3 * i + 2) (by omega), hI_sI, Nat.reduceEqDiff, v1, v2, v3, bI_0]
    rw [if_neg (nI_ge hlt (by omega))]
    by_cases q : ∀ j, j < i → gtT ms j = 0
    · rw [if_neg (show ¬ ¬ cd (∀ j, j < i → gtT ms j = 0) = true from fun z => z (by rw [cd_t]; exact q))]
      by_cases q2 : gtT ms i = 0
      · rw [if_pos (show nI (gtT ms i) = 0 by rw [q2]; rfl)]
        exact nx 1 (bI_t (show cd _ = true by
          rw [cd_t]
          intro j hj
          by_cases e : j = i
          · rw [e]; exact q2
          · exact q j (by omega))).symm
      · rw [if_neg (nI_ne0 (by omega) (by omega))]
        exact nx 0 (bI_f (show ¬ cd _ = true by rw [cd_t]; exact fun z => q2 (z i (by omega)))).symm
    · rw [if_pos (show ¬ cd (∀ j, j < i → gtT ms j = 0) = true by rw [cd_t]; exact q)]
      exact nx 0 (bI_f (show ¬ cd _ = true by rw [cd_t]; exact fun z => q (fun j hj => z j (by omega)))).symm
theorem m_take (hw : WF h) (hs : s < 8) (D : DM h (nI b) ms) (g : MvG ms) (hb : 2 ≤ b ∧ b ≤ 4) (hK : ∀ H, TkI h H s b ms ms.length → hI H 132 s = kdN b ms → Q (some (.int (kdN b ms)), H)) : Tr sc (d + 5) 180 (ent0 180 [.ref 124, .int (nI s)] h) Q := by
  have W := mv_shv g hb
  have D' := D
  obtain ⟨g1, g2, g3⟩ := D
  rw [e_180]
  simp only [x_180_0, x_180_1, x_180_4, x_180_5, x_180_6, x_180_9, x_180_10, x_180_11, x_180_14, x_180_15, x_180_16, x_180_19, x_180_20, x_180_21, x_180_22, x_180_23, o_124 hw, w_124_17 hw, w_124_18 hw, o_133 hw, iOk_lt (k := 133) (by decide), iRd_lt (k := 133) (by decide), show LN 133 = 8 from rfl, o_134 hw, iOk_lt (k := 134) (by decide), iRd_lt (k := 134) (by decide), show LN 134 = 8 from rfl, cl2_i, cl2_r, cl2_n, cl2_l, tl_s, tl_n, true_and, and_true, Option.some.injEq, exists_eq_left', Bool.and_self, Bool.true_and, Bool.and_true, Bool.or_true, Bool.true_or, i_10, i_00, if_true, if_false, not_true_eq_false, not_false_eq_true, and_false, false_and, okp_sI, okp_sL, okp_aI, okp_aL, hR_sI, hR_sL, hR_aI, hR_aL, hI_sI, Nat.reduceEqDiff, g1, g2, inb_nI (n := 8) hs (by decide), nI_clamp (n := s) (by omega)]
  have st := m_tk_loop (sc := sc) (d := d + 5) (Q := Q) (h := h) (s := s) (b := b) (ms := ms) hw hs D' g (fun H I => ?_) ms.length 0 (sI (sI h 133 s (nI b)) 134 s (nI ms.length)) (by omega) ⟨(Fq.rf.sI (by unfold Pt; omega)).sI (by unfold Pt; omega), by simp only [hI_sI, Nat.reduceEqDiff, if_true, if_false], by simp only [hI_sI, if_true], fun j hj => by omega⟩
  · rw [bI_t (show cd (∀ j, j < 0 → gtT ms j = 0) = true by rw [cd_t]; exact fun j hj => by omega)] at st
    exact st
  · have hwH := I.1.WF hw
    have fin : ∀ (H2 : PH) (kd : Int32), Fq Pd H H2 → kd = kdN b ms → Tr sc (d + 5) 180 (158, [some (.ref 124), some (.int (nI s)), some (.int (bI (cd (∀ j, j < ms.length → gtT ms j = 0) = true))), some (.int (nI ms.length))], [.int kd, .int (nI s), .ref 132], H2) Q := by
      intro H2 kd f2 hk
      have hw2 := f2.WF hwH
      simp only [x_180_158, x_180_159, x_180_160, x_180_163, x_180_164, x_180_165, o_124 hw2, w_124_16 hw2, o_132 hw2, iOk_lt (k := 132) (by decide), iRd_lt (k := 132) (by decide), show LN 132 = 8 from rfl, o_132 hw2, iOk_lt (k := 132) (by decide), iRd_lt (k := 132) (by decide), show LN 132 = 8 from rfl, cl2_i, cl2_r, cl2_n, cl2_l, tl_s, tl_n, true_and, and_true, Option.some.injEq, exists_eq_left', Bool.and_self, Bool.true_and, Bool.and_true, Bool.or_true, Bool.true_or, i_10, i_00, if_true, if_false, not_true_eq_false, not_false_eq_true, and_false, false_and, okp_sI, okp_sL, okp_aI, okp_aL, hR_sI, hR_sL, hR_aI, hR_aL, inb_nI (n := 8) hs (by decide), nI_clamp (n := s) (by omega), hI_sI]
      rw [hk]
      refine hK _ ⟨(I.1.tr (f2.wk (fun a b q => Or.inl q))).sI (by unfold Pt; omega), ?_, ?_, fun j hj => ?_⟩ (by simp only [hI_sI, if_true])
      · simp only [hI_sI, Nat.reduceEqDiff, if_false]
        rw [f2.i (by unfold Pd; omega)]; exact I.2.1
      · simp only [hI_sI, Nat.reduceEqDiff, if_false]
        rw [f2.i (by unfold Pd; omega)]; exact I.2.2.1
      · simp only [hI_sI, Nat.reduceEqDiff, if_false]
        rw [f2.i (by unfold Pd; omega), f2.i (by unfold Pd; omega), f2.i (by unfold Pd; omega), f2.i (by unfold Pd; omega)]
        exact I.2.2.2 j hj
    simp only [x_180_132, x_180_133, x_180_136, x_180_137, x_180_138, x_180_141, x_180_142, x_180_145, x_180_146, x_180_147, o_124 hwH, w_124_16 hwH, o_132 hwH, iOk_lt (k := 132) (by decide), iRd_lt (k := 132) (by decide), show LN 132 = 8 from rfl, cl2_i, cl2_r, cl2_n, cl2_l, tl_s, tl_n, true_and, and_true, Option.some.injEq, exists_eq_left', Bool.and_self, Bool.true_and, Bool.and_true, Bool.or_true, Bool.true_or, i_10, i_00, if_true, if_false, not_true_eq_false, not_false_eq_true, and_false, false_and, okp_sI, okp_sL, okp_aI, okp_aL, hR_sI, hR_sL, hR_aI, hR_aL, bI_0]
    by_cases q : ∀ j, j < ms.length → gtT ms j = 0
    · rw [if_neg (show ¬ ¬ cd (∀ j, j < ms.length → gtT ms j = 0) = true from fun z => z (by rw [cd_t]; exact q))]
      have kd1 : kdN b ms = if cd (Cme b ms.length (rch b ms.length (gtX ms) (gtY ms)) (gtX ms) (gtY ms) (Jn ms.length) 0 0) = true then 1 else 2 := if_pos q
      have DM2 : ShM H s (hI H 132 s) b ms.length (gtT ms) (gtX ms) (gtY ms) (fun _ => 0) := ⟨rfl, I.2.1, I.2.2.1, fun i hi => ⟨(I.2.2.2 i hi).1, (I.2.2.2 i hi).2.1, (I.2.2.2 i hi).2.2.1, fun _ => (I.2.2.2 i hi).2.2.2⟩⟩
      refine m_isApart hwH hs DM2 W (fun c H2 f2 => ?_) (fun c H2 f2 => ?_)
      · simp only [x_180_150, x_180_153, x_180_154, x_180_157, cl2_i, cl2_r, cl2_n, cl2_l, tl_s, tl_n, true_and, and_true, Option.some.injEq, exists_eq_left', Bool.and_self, Bool.true_and, Bool.and_true, Bool.or_true, Bool.true_or, i_10, i_00, if_true, if_false, not_true_eq_false, not_false_eq_true, and_false, false_and, okp_sI, okp_sL, okp_aI, okp_aL, hR_sI, hR_sL, hR_aI, hR_aL]
        exact fin H2 2 f2 (by rw [kd1, if_neg (show ¬ cd _ = true by rw [cd_t]; exact c)])
      · simp only [x_180_150, x_180_153, x_180_154, x_180_157, cl2_i, cl2_r, cl2_n, cl2_l, tl_s, tl_n, true_and, and_true, Option.some.injEq, exists_eq_left', Bool.and_self, Bool.true_and, Bool.and_true, Bool.or_true, Bool.true_or, i_10, i_00, if_true, if_false, not_true_eq_false, not_false_eq_true, and_false, false_and, okp_sI, okp_sL, okp_aI, okp_aL, hR_sI, hR_sL, hR_aI, hR_aL]
        exact fin H2 1 f2 (by rw [kd1, if_pos (show cd _ = true by rw [cd_t]; exact c)])
    · rw [if_pos (show ¬ cd (∀ j, j < ms.length → gtT ms j = 0) = true by rw [cd_t]; exact q)]
      exact fin H 0 Fq.rf (by rw [show kdN b ms = 0 from if_neg q])
end KP
