/-! ===== the model's setWords ===== -/
def fI (f : Nat) : Int32 := if f < 6 then nI f else -9
def WA (h : PH) (j : Nat) (w : Wrd) : Prop := hI h 141 j = iv w.1 ∧ hI h 142 j = iv w.2.1 ∧ hI h 143 j = fI w.2.2.1 ∧ hL h 144 j = jv w.2.2.2
def XA (h : PH) (j : Nat) (ok : Bool) (w : Wrd) : Prop := hI h 141 j = iv w.1 ∧ hI h 142 j = iv w.2.1 ∧ hI h 143 j = (if ok = true then nI w.2.2.1 else 6) ∧ hL h 144 j = jv w.2.2.2
def P4 (a b : Nat) : Prop := (141 ≤ a ∧ a ≤ 144) ∨ (a = 124 ∧ b = 31)
section SW
variable {sc : Nat × (Nat → Int32)} {d : Nat} {Q : PRes → Prop} {h h' H : PH} {s b M n i j u K : Nat} {kd x y z : Int32} {tn : Nat → Nat} {sx sy ex : Nat → Int} {L : List Wrd}
theorem gd_last {x : Wrd} : (L ++ [x]).getD L.length w0 = x := by
  rw [List.getD_eq_getElem?_getD, List.getElem?_append_right (Nat.le_refl _), Nat.sub_self]; rfl
theorem gd_left {x : Wrd} (hj : j < L.length) : (L ++ [x]).getD j w0 = L.getD j w0 := by
  rw [List.getD_eq_getElem?_getD, List.getElem?_append_left hj, ← List.getD_eq_getElem?_getD]
theorem bI_cg {p q : Prop} [Decidable p] [Decidable q] (e : p ↔ q) : bI p = bI q := by
  by_cases z : p
  · rw [bI_t z, bI_t (e.mp z)]
  · rw [bI_f z, bI_f (fun w => z (e.mpr w))]
theorem WA.kp {f : Nat → Nat → Prop} {w : Wrd} (a : WA h j w) (fr : Fq f h h') (hn : ∀ a, 141 ≤ a → a ≤ 144 → ¬ f a j) : WA h' j w := by
  obtain ⟨a1, a2, a3, a4⟩ := a
  exact ⟨by rw [fr.i (hn _ (by omega) (by omega))]; exact a1, by rw [fr.i (hn _ (by omega) (by omega))]; exact a2, by rw [fr.i (hn _ (by omega) (by omega))]; exact a3, by rw [fr.l (hn _ (by omega) (by omega))]; exact a4⟩
theorem XA.kp {f : Nat → Nat → Prop} {w : Wrd} {ok : Bool} (a : XA h j ok w) (fr : Fq f h h') (hn : ∀ a, 141 ≤ a → a ≤ 144 → ¬ f a j) : XA h' j ok w := by
  obtain ⟨a1, a2, a3, a4⟩ := a
  exact ⟨by rw [fr.i (hn _ (by omega) (by omega))]; exact a1, by rw [fr.i (hn _ (by omega) (by omega))]; exact a2, by rw [fr.i (hn _ (by omega) (by omega))]; exact a3, by rw [fr.l (hn _ (by omega) (by omega))]; exact a4⟩
/-- one move ahead of one word: the four places are written -/
theorem m_sw_1 {w : Wrd} {l13 l14 : Option Value} (hw : WF h) (hs : s < 8) (D : ShM h s kd b M tn sx sy ex) (W : ShW kd b M tn sx sy ex) (hi : i < M) (hK : K < 7776) (hf : w.2.2.1 ≤ 6) (hl : cl2 l14 = l14) (hN : ∀ H, Fq (fun a j => (141 ≤ a ∧ a ≤ 144) ∧ j = K) h H → XA H K (okK kd ex w i) (kid b tn sx sy kd ex n w i) → Tr sc (d + 1) 202 (119, [some (.ref 124), some (.int (nI s)), some (.int x), some (.int (iv ((b : Int) ^ n))), some (.int y), some (.int z), some (.int (nI K)), some (.int (nI u)), some (.int (iv w.1)), some (.int (iv w.2.1)), some (.int (fI w.2.2.1)), some (.long (jv w.2.2.2)), none, some (.int (iv ((i : Int) - 1))), some (.int (nI (6 * s + i)))], [], H) Q) : Tr sc (d + 1) 202 (119, [some (.ref 124), some (.int (nI s)), some (.int x), some (.int (iv ((b : Int) ^ n))), some (.int y), some (.int z), some (.int (nI (K + 1))), some (.int (nI u)), some (.int (iv w.1)), some (.int (iv w.2.1)), some (.int (fI w.2.2.1)), some (.long (jv w.2.2.2)), none, some (.int (iv (((i + 1 : Nat) : Int) - 1))), l14], [], h) Q := by
  obtain ⟨d1, d2, d3, d4⟩ := id D
  obtain ⟨q1, q2, q3, q4⟩ := d4 i hi
  have hM := W.2.2.1
  obtain ⟨t7, ⟨x1, x2⟩, ⟨y1, y2⟩, -⟩ := W.2.2.2 i hi
  have wb := wgt_b W hi
  have ei : iv (((i + 1 : Nat) : Int) - 1) = nI i := by rw [iv_n]; congr 1; omega
  have em : nI i + -1 = iv ((i : Int) - 1) := by rw [iv_n, show (-1 : Int32) = iv (-1) from rfl, iv_add]; rfl
  have n0 : (nI i < 0) = False := eq_false (nI_pos (by omega))
  have key : ∀ c : Int32, c = (if okK kd ex w i = true then nI i else 6) → Tr sc (d + 1) 202 (228, [some (.ref 124), some (.int (nI s)), some (.int x), some (.int (iv ((b : Int) ^ n))), some (.int y), some (.int z), some (.int (nI K)), some (.int (nI u)), some (.int (iv w.1)), some (.int (iv w.2.1)), some (.int (fI w.2.2.1)), some (.long (jv w.2.2.2)), none, some (.int (nI i)), some (.int (nI (6 * s + i)))], [.int c, .int (nI K), .ref 143], sI (sI h 141 K (iv (tX (tn i) w.1 w.2.1 + (b : Int) ^ n * sx i))) 142 K (iv (tY (tn i) w.1 w.2.1 + (b : Int) ^ n * sy i))) Q := by
    intro c hc
    have fin : ∀ g : Int32, g = iv (wgt kd ex i) → Tr sc (d + 1) 202 (258, [some (.ref 124), some (.int (nI s)), some (.int x), some (.int (iv ((b : Int) ^ n))), some (.int y), some (.int z), some (.int (nI K)), some (.int (nI u)), some (.int (iv w.1)), some (.int (iv w.2.1)), some (.int (fI w.2.2.1)), some (.long (jv w.2.2.2)), none, some (.int (nI i)), some (.int (nI (6 * s + i)))], [.int g, .long (jv w.2.2.2), .int (nI K), .ref 144], sI (sI (sI h 141 K (iv (tX (tn i) w.1 w.2.1 + (b : Int) ^ n * sx i))) 142 K (iv (tY (tn i) w.1 w.2.1 + (b : Int) ^ n * sy i))) 143 K c) Q := by
      intro g hg
      rw [hg]
      simp only [x_202_258, x_202_259, x_202_260, x_202_261, x_202_264, o_124 hw, o_144 hw, show LN 144 = 7776 from rfl, cl2_i, cl2_r, cl2_n, cl2_l, tl_s, tl_n, true_and, and_true, Option.some.injEq, exists_eq_left', Bool.and_self, Bool.true_and, Bool.and_true, Bool.or_true, Bool.true_or, i_10, i_00, if_true, if_false, not_true_eq_false, not_false_eq_true, and_false, false_and, okp_sI, okp_sL, okp_aI, okp_aL, hR_sI, hR_sL, hR_aI, hR_aL, iv_l (z := wgt kd ex i) ⟨by omega, by omega⟩, jv_mul, inb_nI (n := 7776) hK (by decide), nI_clamp (n := K) (by omega), em]
      refine hN _ ((((Fq.rf.sI (by omega)).sI (by omega)).sI (by omega)).sL (by omega)) ⟨?_, ?_, ?_, ?_⟩
      · rw [hI_sL, rd_ne (by omega), rd_ne (by omega), rd_eq]; rfl
      · rw [hI_sL, rd_ne (by omega), rd_eq]; rfl
      · rw [hI_sL, rd_eq, hc]; rfl
      · rw [hL_sL, if_pos rfl, if_pos rfl]; rfl
    simp only [x_202_228, x_202_229, x_202_230, x_202_233, x_202_235, x_202_237, x_202_238, x_202_241, x_202_242, x_202_243, x_202_244, x_202_247, x_202_248, x_202_251, x_202_253, x_202_254, x_202_257, o_124 hw, w_124_16 hw, w_124_22 hw, w_124_35 hw, o_144 hw, show LN 144 = 7776 from rfl, o_132 hw, iOk_lt (k := 132) (by decide), iRd_lt (k := 132) (by decide), show LN 132 = 8 from rfl, o_138 hw, iOk_lt (k := 138) (by decide), iRd_lt (k := 138) (by decide), show LN 138 = 48 from rfl, o_143 hw, iOk_lt (k := 143) (by decide), iRd_lt (k := 143) (by decide), show LN 143 = 7776 from rfl, cl2_i, cl2_r, cl2_n, cl2_l, tl_s, tl_n, true_and, and_true, Option.some.injEq, exists_eq_left', Bool.and_self, Bool.true_and, Bool.and_true, Bool.or_true, Bool.true_or, i_10, i_00, if_true, if_false, not_true_eq_false, not_false_eq_true, and_false, false_and, okp_sI, okp_sL, okp_aI, okp_aL, hR_sI, hR_sL, hR_aI, hR_aL, inb_nI (n := 7776) hK (by decide), nI_clamp (n := K) (by omega), inb_nI (n := 8) hs (by decide), nI_clamp (n := s) (by omega), inb_nI (n := 48) (show 6 * s + i < 48 by omega) (by decide), nI_clamp (n := 6 * s + i) (by omega), hI_sI, Nat.reduceEqDiff, d1]
    have ew : wgt kd ex i = if kd = 3 then ex i else 1 := rfl
    by_cases q : kd = 3
    · rw [if_pos q]
      rw [if_pos q] at ew
      exact fin _ (by rw [ew]; exact q4 (Or.inl q))
    · rw [if_neg q]
      rw [if_neg q] at ew
      exact fin _ (by rw [ew]; rfl)
  rw [x_202_119]
  simp only [x_202_121, x_202_124, x_202_127, x_202_129, x_202_130, x_202_131, x_202_133, x_202_134, x_202_136, x_202_137, x_202_140, x_202_142, x_202_143, x_202_146, x_202_148, x_202_149, x_202_151, x_202_153, x_202_156, x_202_157, x_202_158, x_202_161, x_202_163, x_202_164, x_202_165, x_202_166, x_202_167, x_202_168, x_202_171, x_202_173, x_202_174, x_202_177, x_202_179, x_202_180, x_202_182, x_202_184, x_202_187, x_202_188, x_202_189, x_202_192, x_202_194, x_202_195, x_202_196, x_202_197, x_202_198, x_202_199, x_202_202, x_202_204, x_202_206, o_124 hw, w_124_19 hw, w_124_20 hw, w_124_21 hw, w_124_32 hw, w_124_33 hw, w_124_34 hw, o_141 hw, iOk_lt (k := 141) (by decide), iRd_lt (k := 141) (by decide), show LN 141 = 7776 from rfl, o_135 hw, iOk_lt (k := 135) (by decide), iRd_lt (k := 135) (by decide), show LN 135 = 48 from rfl, o_136 hw, iOk_lt (k := 136) (by decide), iRd_lt (k := 136) (by decide), show LN 136 = 48 from rfl, o_142 hw, iOk_lt (k := 142) (by decide), iRd_lt (k := 142) (by decide), show LN 142 = 7776 from rfl, o_137 hw, iOk_lt (k := 137) (by decide), iRd_lt (k := 137) (by decide), show LN 137 = 48 from rfl, o_143 hw, iOk_lt (k := 143) (by decide), iRd_lt (k := 143) (by decide), show LN 143 = 7776 from rfl, cl2_i, cl2_r, cl2_n, cl2_l, tl_s, tl_n, true_and, and_true, Option.some.injEq, exists_eq_left', Bool.and_self, Bool.true_and, Bool.and_true, Bool.or_true, Bool.true_or, i_10, i_00, if_true, if_false, not_true_eq_false, not_false_eq_true, and_false, false_and, okp_sI, okp_sL, okp_aI, okp_aL, hR_sI, hR_sL, hR_aI, hR_aL, ei, n0, pk_m1, mv_ix hs (show i < 6 by omega), hl, inb_nI (n := 48) (show 6 * s + i < 48 by omega) (by decide), nI_clamp (n := 6 * s + i) (by omega), hI_sI, Nat.reduceEqDiff, q1, q2, q3, m_turnedX t7, m_turnedY t7, iv_mul, iv_add, inb_nI (n := 7776) hK (by decide), nI_clamp (n := K) (by omega)]
  by_cases q : w.2.2.1 < 6
  · have ef : fI w.2.2.1 = nI w.2.2.1 := if_pos q
    have mb : ∀ (d : Nat) (v1 v2 : Int32) (Q : PRes → Prop), Tr sc d 187 (ent0 187 [.ref 124, .int (nI s), .int (nI i), .int (nI w.2.2.1)] (sI (sI h 141 K v1) 142 K v2)) Q = Q (some (.int (bI (bF kd ex i w.2.2.1 = true))), sI (sI h 141 K v1) 142 K v2) := fun d v1 v2 Q => by
      rw [m_isBarred (h := sI (sI h 141 K v1) 142 K v2) (i := i) (j := w.2.2.1) hw hs (by omega)]
      rw [bI_cg (p := hI (sI (sI h 141 K v1) 142 K v2) 132 s = 4 ∧ bit1 (hI (sI (sI h 141 K v1) 142 K v2) 138 (6 * s + i)) w.2.2.1 = true) (q := bF kd ex i w.2.2.1 = true) (by
        rw [← m_bar_eq (j := w.2.2.1) D hi, decide_eq_true_eq]
        exact Iff.rfl)]
    rw [ef, if_neg (show ¬ nI w.2.2.1 < 0 from nI_pos (by omega))]
    simp only [x_202_209, x_202_210, x_202_211, x_202_213, x_202_215, x_202_218, x_202_221, x_202_223, x_202_226, o_124 hw, cl2_i, cl2_r, cl2_n, cl2_l, tl_s, tl_n, true_and, and_true, Option.some.injEq, exists_eq_left', Bool.and_self, Bool.true_and, Bool.and_true, Bool.or_true, Bool.true_or, i_10, i_00, if_true, if_false, not_true_eq_false, not_false_eq_true, and_false, false_and, okp_sI, okp_sL, okp_aI, okp_aL, hR_sI, hR_sL, hR_aI, hR_aL, mb, bI_0]
    rw [ef] at key
    by_cases q2 : bF kd ex i w.2.2.1 = true
    · rw [if_neg (fun z => z q2)]
      exact key 6 (by rw [if_neg (by unfold okK; simp [q, q2])])
    · rw [if_pos q2]
      exact key (nI i) (by rw [if_pos (by unfold okK; simp [q, q2])])
  · have ef : fI w.2.2.1 = -9 := if_neg q
    rw [ef, if_pos (by decide)]
    simp only [x_202_226, cl2_i, cl2_r, cl2_n, cl2_l, tl_s, tl_n, true_and, and_true, Option.some.injEq, exists_eq_left', Bool.and_self, Bool.true_and, Bool.and_true, Bool.or_true, Bool.true_or, i_10, i_00, if_true, if_false, not_true_eq_false, not_false_eq_true, and_false, false_and, okp_sI, okp_sL, okp_aI, okp_aL, hR_sI, hR_sL, hR_aI, hR_aL]
    rw [ef] at key
    exact key (nI i) (by rw [if_pos (by unfold okK; simp [q])])
/-- all moves ahead of word u, from the last: the places u M and on -/
theorem m_sw_i (hw : WF h) (hs : s < 8) (D : ShM h s kd b M tn sx sy ex) (W : ShW kd b M tn sx sy ex) (hL : L.length * M ≤ 7776) (hu : u < L.length) (hf : ∀ w, w ∈ L → w.2.2.1 ≤ 6) (hN : ∀ H l14, cl2 l14 = l14 → Fq (fun a j => (141 ≤ a ∧ a ≤ 144) ∧ u * M ≤ j) h H → (∀ j, u * M ≤ j → j < L.length * M → XA H j (okK kd ex (L.getD (j / M) w0) (j % M)) (kid b tn sx sy kd ex n (L.getD (j / M) w0) (j % M))) → Tr sc (d + 1) 202 (267, [some (.ref 124), some (.int (nI s)), some (.int x), some (.int (iv ((b : Int) ^ n))), some (.int y), some (.int z), some (.int (nI (u * M))), some (.int (nI u)), some (.int (iv (L.getD u w0).1)), some (.int (iv (L.getD u w0).2.1)), some (.int (fI (L.getD u w0).2.2.1)), some (.long (jv (L.getD u w0).2.2.2)), none, some (.int (-1)), l14], [], H) Q) : ∀ (i : Nat) (H : PH) (l14 : Option Value), i ≤ M → cl2 l14 = l14 → Fq (fun a j => (141 ≤ a ∧ a ≤ 144) ∧ u * M ≤ j) h H → (∀ j, u * M + i ≤ j → j < L.length * M → XA H j (okK kd ex (L.getD (j / M) w0) (j % M)) (kid b tn sx sy kd ex n (L.getD (j / M) w0) (j % M))) → Tr sc (d + 1) 202 (119, [some (.ref 124), some (.int (nI s)), some (.int x), some (.int (iv ((b : Int) ^ n))), some (.int y), some (.int z), some (.int (nI (u * M + i))), some (.int (nI u)), some (.int (iv (L.getD u w0).1)), some (.int (iv (L.getD u w0).2.1)), some (.int (fI (L.getD u w0).2.2.1)), some (.long (jv (L.getD u w0).2.2.2)), none, some (.int (iv ((i : Int) - 1))), l14], [], H) Q := by
  have hM := W.2.2.1
  intro i
  induction i with
  | zero =>
    intro H l14 hi hl f a1
    have em : iv (((0 : Nat) : Int) - 1) = -1 := rfl
    rw [em, x_202_119]
    simp only [x_202_121, cl2_i, cl2_r, cl2_n, cl2_l, tl_s, tl_n, true_and, and_true, Option.some.injEq, exists_eq_left', Bool.and_self, Bool.true_and, Bool.and_true, Bool.or_true, Bool.true_or, i_10, i_00, if_true, if_false, not_true_eq_false, not_false_eq_true, and_false, false_and, okp_sI, okp_sL, okp_aI, okp_aL, hR_sI, hR_sL, hR_aI, hR_aL, show ((-1 : Int32) < 0) = True from eq_true (by decide)]
    exact hN H _ hl f a1
  | succ i ih =>
    intro H l14 hi hl f a1
    have hwH := f.WF hw
    have D' := D.fr f (fun a j h1 h2 q => by omega)
    have hub : (u + 1) * M ≤ L.length * M := Nat.mul_le_mul_right M hu
    rw [Nat.add_mul, Nat.one_mul] at hub
    have e1 : (u * M + i) / M = u := by rw [Nat.mul_comm, Nat.mul_add_div (by omega), Nat.div_eq_of_lt (by omega), Nat.add_zero]
    have e2 : (u * M + i) % M = i := by rw [Nat.mul_comm, Nat.mul_add_mod, Nat.mod_eq_of_lt (by omega)]
    have hfu : (L.getD u w0).2.2.1 ≤ 6 := by
      rw [show L.getD u w0 = L[u] by rw [List.getD_eq_getElem?_getD, List.getElem?_eq_getElem hu]; rfl]
      exact hf _ (List.getElem_mem hu)
    refine m_sw_1 (w := L.getD u w0) (K := u * M + i) (l13 := none) hwH hs D' W (show i < M by omega) (by omega) hfu hl (fun H2 f2 x2 => ?_)
    refine ih H2 _ (by omega) rfl (f.tr (f2.wk (fun a j q => ⟨q.1, by omega⟩))) (fun j hj1 hj2 => ?_)
    by_cases e : j = u * M + i
    · rw [e, e1, e2]; exact x2
    · exact (a1 j (by omega) hj2).kp f2 (fun a h1 h2 q => e q.2)
theorem m_sw_w {l13 l14 : Option Value} (hw : WF h) (hs : s < 8) (D : ShM h s kd b M tn sx sy ex) (W : ShW kd b M tn sx sy ex) (hL : L.length * M ≤ 7776) (hf : ∀ w, w ∈ L → w.2.2.1 ≤ 6) (hN : ∀ H l8 l9 l10 l11 l12 l13 l14, cl2 l8 = l8 → cl2 l9 = l9 → cl2 l10 = l10 → cl2 l12 = l12 → cl2 l13 = l13 → cl2 l14 = l14 → Fq (fun a j => 141 ≤ a ∧ a ≤ 144) h H → (∀ j, j < L.length * M → XA H j (okK kd ex (L.getD (j / M) w0) (j % M)) (kid b tn sx sy kd ex n (L.getD (j / M) w0) (j % M))) → Tr sc (d + 1) 202 (273, [some (.ref 124), some (.int (nI s)), some (.int x), some (.int (iv ((b : Int) ^ n))), some (.int y), some (.int z), some (.int 0), some (.int (-1)), l8, l9, l10, l11, l12, l13, l14], [], H) Q) : ∀ (u : Nat) (H : PH) (l8 l9 l10 l11 l12 l13 l14 : Option Value), cl2 l8 = l8 → cl2 l9 = l9 → cl2 l10 = l10 → cl2 l12 = l12 → cl2 l13 = l13 → cl2 l14 = l14 → u ≤ L.length → Fq (fun a j => 141 ≤ a ∧ a ≤ 144) h H → (∀ j, j < u → WA H j (L.getD j w0)) → (∀ j, u * M ≤ j → j < L.length * M → XA H j (okK kd ex (L.getD (j / M) w0) (j % M)) (kid b tn sx sy kd ex n (L.getD (j / M) w0) (j % M))) → Tr sc (d + 1) 202 (68, [some (.ref 124), some (.int (nI s)), some (.int x), some (.int (iv ((b : Int) ^ n))), some (.int y), some (.int z), some (.int (nI (u * M))), some (.int (iv ((u : Int) - 1))), l8, l9, l10, l11, l12, l13, l14], [], H) Q := by
  have hM := W.2.2.1
  intro u
  induction u with
  | zero =>
    intro H l8 l9 l10 l11 l12 l13 l14 h8 h9 h10 h12 h13 h14 hu f a1 a2
    have em : iv (((0 : Nat) : Int) - 1) = -1 := rfl
    rw [em, x_202_68]
    simp only [x_202_70, cl2_i, cl2_r, cl2_n, cl2_l, tl_s, tl_n, true_and, and_true, Option.some.injEq, exists_eq_left', Bool.and_self, Bool.true_and, Bool.and_true, Bool.or_true, Bool.true_or, i_10, i_00, if_true, if_false, not_true_eq_false, not_false_eq_true, and_false, false_and, okp_sI, okp_sL, okp_aI, okp_aL, hR_sI, hR_sL, hR_aI, hR_aL, show ((-1 : Int32) < 0) = True from eq_true (by decide), Nat.zero_mul]
    exact hN H _ _ _ _ _ _ _ h8 h9 h10 h12 h13 h14 f (fun j hj => a2 j (by omega) hj)
  | succ u ih =>
    intro H l8 l9 l10 l11 l12 l13 l14 h8 h9 h10 h12 h13 h14 hu f a1 a2
    have hwH := f.WF hw
    have D' := D.fr f (fun a j h1 h2 q => by omega)
    have hub : (u + 1) * M ≤ L.length * M := Nat.mul_le_mul_right M hu
    rw [Nat.add_mul, Nat.one_mul] at hub
    have uM : u ≤ u * M := Nat.le_mul_of_pos_right u (by omega)
    have ei : iv (((u + 1 : Nat) : Int) - 1) = nI u := by rw [iv_n]; congr 1; omega
    have em : nI u + -1 = iv ((u : Int) - 1) := by rw [iv_n, show (-1 : Int32) = iv (-1) from rfl, iv_add]; rfl
    have n0 : (nI u < 0) = False := eq_false (nI_pos (by omega))
    obtain ⟨u1, u2, u3, u4⟩ := a1 u (by omega)
    have eM : nI M - 1 = iv ((M : Int) - 1) := by rw [iv_n, show (1 : Int32) = iv 1 from rfl, iv_sub]
    rw [ei, x_202_68]
    simp only [x_202_70, x_202_73, x_202_74, x_202_77, x_202_79, x_202_80, x_202_82, x_202_83, x_202_86, x_202_88, x_202_89, x_202_91, x_202_92, x_202_95, x_202_97, x_202_98, x_202_100, x_202_101, x_202_104, x_202_106, x_202_107, x_202_109, x_202_110, x_202_113, x_202_114, x_202_115, x_202_116, x_202_117, o_124 hwH, w_124_18 hwH, w_124_32 hwH, w_124_33 hwH, w_124_34 hwH, w_124_35 hwH, o_141 hwH, iOk_lt (k := 141) (by decide), iRd_lt (k := 141) (by decide), show LN 141 = 7776 from rfl, o_142 hwH, iOk_lt (k := 142) (by decide), iRd_lt (k := 142) (by decide), show LN 142 = 7776 from rfl, o_143 hwH, iOk_lt (k := 143) (by decide), iRd_lt (k := 143) (by decide), show LN 143 = 7776 from rfl, o_144 hwH, show LN 144 = 7776 from rfl, o_134 hwH, iOk_lt (k := 134) (by decide), iRd_lt (k := 134) (by decide), show LN 134 = 8 from rfl, cl2_i, cl2_r, cl2_n, cl2_l, tl_s, tl_n, true_and, and_true, Option.some.injEq, exists_eq_left', Bool.and_self, Bool.true_and, Bool.and_true, Bool.or_true, Bool.true_or, i_10, i_00, if_true, if_false, not_true_eq_false, not_false_eq_true, and_false, false_and, okp_sI, okp_sL, okp_aI, okp_aL, hR_sI, hR_sL, hR_aI, hR_aL, h8, h9, h10, h12, h13, h14, n0, inb_nI (n := 7776) (show u < 7776 by omega) (by decide), nI_clamp (n := u) (by omega), u1, u2, u3, u4, inb_nI (n := 8) hs (by decide), nI_clamp (n := s) (by omega), D'.2.2.1, eM]
    rw [show (u + 1) * M = u * M + M by rw [Nat.add_mul, Nat.one_mul]]
    refine m_sw_i (n := n) hwH hs D' W hL (show u < L.length by omega) hf (fun H2 l14 g14 f2 x2 => ?_) M H l14 (Nat.le_refl _) h14 Fq.rf (fun j h1 h2 => a2 j (by rw [Nat.add_mul, Nat.one_mul]; exact h1) h2)
    simp only [x_202_267, x_202_270, cl2_i, cl2_r, cl2_n, cl2_l, tl_s, tl_n, true_and, and_true, Option.some.injEq, exists_eq_left', Bool.and_self, Bool.true_and, Bool.and_true, Bool.or_true, Bool.true_or, i_10, i_00, if_true, if_false, not_true_eq_false, not_false_eq_true, and_false, false_and, okp_sI, okp_sL, okp_aI, okp_aL, hR_sI, hR_sL, hR_aI, hR_aL, em]
    exact ih H2 _ _ _ _ _ _ _ rfl rfl rfl rfl rfl g14 (by omega) (f.tr (f2.wk (fun a j q => q.1))) (fun j hj => (a1 j (by omega)).kp f2 (fun a h1 h2 q => by omega)) x2
/-- what is kept moves to the front -/
theorem m_sw_c {l8 l9 l10 l11 l12 l13 l14 : Option Value} (hw : WF h) (hs : s < 8) (D : ShM h s kd b M tn sx sy ex) (W : ShW kd b M tn sx sy ex) (hL : L.length * M ≤ 7776) (hl : cl2 l8 = l8) (hx : ∀ j, j < L.length * M → XA h j (okK kd ex (L.getD (j / M) w0) (j % M)) (kid b tn sx sy kd ex n (L.getD (j / M) w0) (j % M))) (hN : ∀ H, Fq P4 h H → hI H 124 31 = nI (cf b M tn sx sy kd ex n L (L.length * M)).length → (∀ j, j < (cf b M tn sx sy kd ex n L (L.length * M)).length → WA H j ((cf b M tn sx sy kd ex n L (L.length * M)).getD j w0)) → Tr sc d 202 (387, [some (.ref 124), some (.int (nI s)), some (.int x), some (.int y), some (.int z), some (.int (nI L.length)), some (.int 0), some (.int (nI (L.length * M))), l8, l9, l10, l11, l12, l13, l14], [], H) Q) : ∀ (m v : Nat) (H : PH), v + m = L.length * M → Fq P4 h H → hI H 124 31 = nI (cf b M tn sx sy kd ex n L v).length → (∀ j, j < (cf b M tn sx sy kd ex n L v).length → WA H j ((cf b M tn sx sy kd ex n L v).getD j w0)) → (∀ j, v ≤ j → j < L.length * M → XA H j (okK kd ex (L.getD (j / M) w0) (j % M)) (kid b tn sx sy kd ex n (L.getD (j / M) w0) (j % M))) → Tr sc d 202 (281, [some (.ref 124), some (.int (nI s)), some (.int x), some (.int y), some (.int z), some (.int (nI L.length)), some (.int 0), some (.int (nI v)), l8, l9, l10, l11, l12, l13, l14], [], H) Q := by
  have hM := W.2.2.1
  intro m
  induction m with
  | zero =>
    intro v H hv f c1 c2 c3
    have e : v = L.length * M := by omega
    subst e
    have hwH := f.WF hw
    obtain ⟨d1, d2, d3, d4⟩ := D.fr f (fun a j h1 h2 q => by unfold P4 at q; omega)
    rw [x_202_281]
    simp only [x_202_283, x_202_285, x_202_286, x_202_289, x_202_290, x_202_291, x_202_292, o_124 hwH, w_124_18 hwH, o_134 hwH, iOk_lt (k := 134) (by decide), iRd_lt (k := 134) (by decide), show LN 134 = 8 from rfl, cl2_i, cl2_r, cl2_n, cl2_l, tl_s, tl_n, true_and, and_true, Option.some.injEq, exists_eq_left', Bool.and_self, Bool.true_and, Bool.and_true, Bool.or_true, Bool.true_or, i_10, i_00, if_true, if_false, not_true_eq_false, not_false_eq_true, and_false, false_and, okp_sI, okp_sL, okp_aI, okp_aL, hR_sI, hR_sL, hR_aI, hR_aL, inb_nI (n := 8) hs (by decide), nI_clamp (n := s) (by omega), d3, pk_mul]
    rw [if_pos (Int32.le_refl _)]
    exact hN H f c1 c2
  | succ m ih =>
    intro v H hv f c1 c2 c3
    have hlt : v < L.length * M := by omega
    have hwH := f.WF hw
    obtain ⟨d1, d2, d3, d4⟩ := D.fr f (fun a j h1 h2 q => by unfold P4 at q; omega)
    obtain ⟨x1, x2, x3, x4⟩ := c3 v (Nat.le_refl _) hlt
    have cl := cf_len (b := b) (M := M) (tn := tn) (sx := sx) (sy := sy) (kd := kd) (ex := ex) (n := n) (L := L) v
    have es := cf_s (b := b) (M := M) (tn := tn) (sx := sx) (sy := sy) (kd := kd) (ex := ex) (n := n) (L := L) (v := v)
    have hm : v % M < M := Nat.mod_lt _ (by omega)
    have kf : (kid b tn sx sy kd ex n (L.getD (v / M) w0) (v % M)).2.2.1 = v % M := rfl
    rw [x_202_281]
    simp only [x_202_283, x_202_285, x_202_286, x_202_289, x_202_290, x_202_291, x_202_292, x_202_295, x_202_296, x_202_299, x_202_301, x_202_302, x_202_304, o_124 hwH, w_124_18 hwH, w_124_34 hwH, o_134 hwH, iOk_lt (k := 134) (by decide), iRd_lt (k := 134) (by decide), show LN 134 = 8 from rfl, o_143 hwH, iOk_lt (k := 143) (by decide), iRd_lt (k := 143) (by decide), show LN 143 = 7776 from rfl, cl2_i, cl2_r, cl2_n, cl2_l, tl_s, tl_n, true_and, and_true, Option.some.injEq, exists_eq_left', Bool.and_self, Bool.true_and, Bool.and_true, Bool.or_true, Bool.true_or, i_10, i_00, if_true, if_false, not_true_eq_false, not_false_eq_true, and_false, false_and, okp_sI, okp_sL, okp_aI, okp_aL, hR_sI, hR_sL, hR_aI, hR_aL, inb_nI (n := 8) hs (by decide), nI_clamp (n := s) (by omega), d3, pk_mul, inb_nI (n := 7776) (show v < 7776 by omega) (by decide), nI_clamp (n := v) (by omega), x3, kf]
    rw [if_neg (nI_ge hlt (by omega))]
    by_cases q : okK kd ex (L.getD (v / M) w0) (v % M) = true
    · rw [if_pos q, if_neg (show ¬ (6 : Int32) ≤ nI (v % M) from nI_ge (a := v % M) (b := 6) (by omega) (by decide))]
      rw [if_pos q] at es x3
      rw [kf] at x3
      generalize hc : cf b M tn sx sy kd ex n L v = C at *
      simp only [x_202_307, x_202_308, x_202_311, x_202_312, x_202_315, x_202_316, x_202_319, x_202_321, x_202_322, x_202_323, x_202_324, x_202_327, x_202_328, x_202_331, x_202_332, x_202_335, x_202_337, x_202_338, x_202_339, x_202_340, x_202_343, x_202_344, x_202_347, x_202_348, x_202_351, x_202_353, x_202_354, x_202_355, x_202_356, x_202_359, x_202_360, x_202_363, x_202_364, x_202_367, x_202_369, x_202_370, x_202_371, x_202_372, x_202_373, x_202_376, x_202_377, x_202_378, x_202_381, x_202_384, o_124 hwH, w_124_32 hwH, w_124_33 hwH, w_124_34 hwH, w_124_35 hwH, o_141 hwH, iOk_lt (k := 141) (by decide), iRd_lt (k := 141) (by decide), show LN 141 = 7776 from rfl, o_142 hwH, iOk_lt (k := 142) (by decide), iRd_lt (k := 142) (by decide), show LN 142 = 7776 from rfl, o_143 hwH, iOk_lt (k := 143) (by decide), iRd_lt (k := 143) (by decide), show LN 143 = 7776 from rfl, o_144 hwH, show LN 144 = 7776 from rfl, cl2_i, cl2_r, cl2_n, cl2_l, tl_s, tl_n, true_and, and_true, Option.some.injEq, exists_eq_left', Bool.and_self, Bool.true_and, Bool.and_true, Bool.or_true, Bool.true_or, i_10, i_00, if_true, if_false, not_true_eq_false, not_false_eq_true, and_false, false_and, okp_sI, okp_sL, okp_aI, okp_aL, hR_sI, hR_sL, hR_aI, hR_aL, hl, c1, inb_nI (n := 7776) (show C.length < 7776 by omega) (by decide), nI_clamp (n := C.length) (by omega), inb_nI (n := 7776) (show v < 7776 by omega) (by decide), nI_clamp (n := v) (by omega), hI_sI, hI_sL, hL_sI, Nat.reduceEqDiff, x1, x2, x3, x4, nI_1]
      have f2 : Fq (fun a j => ((141 ≤ a ∧ a ≤ 144) ∧ j = C.length) ∨ (a = 124 ∧ j = 31)) H (sI (sL (sI (sI (sI H 141 C.length (iv (kid b tn sx sy kd ex n (L.getD (v / M) w0) (v % M)).1)) 142 C.length (iv (kid b tn sx sy kd ex n (L.getD (v / M) w0) (v % M)).2.1)) 143 C.length (nI (v % M))) 144 C.length (jv (kid b tn sx sy kd ex n (L.getD (v / M) w0) (v % M)).2.2.2)) 124 31 (nI (C.length + 1))) := ((((Fq.rf.sI (by omega)).sI (by omega)).sI (by omega)).sL (by omega)).sI (by omega)
      refine ih (v + 1) _ (by omega) (f.tr (f2.wk (fun a j q => by unfold P4; omega))) ?_ (fun j hj => ?_) (fun j h1 h2 => (c3 j (by omega) h2).kp f2 (fun a g1 g2 q => by omega))
      · rw [rd_eq, es, List.length_append]; rfl
      · rw [es, List.length_append, List.length_singleton] at hj
        rw [es]
        by_cases e : j = C.length
        · subst e
          rw [gd_last]
          refine ⟨?_, ?_, ?_, ?_⟩
          · rw [rd_ne (by omega), hI_sL, rd_ne (by omega), rd_ne (by omega), rd_eq]
          · rw [rd_ne (by omega), hI_sL, rd_ne (by omega), rd_eq]
          · rw [rd_ne (by omega), hI_sL, rd_eq]
            show nI (v % M) = fI (v % M)
            unfold fI
            rw [if_pos (by omega)]
          · rw [hL_sI, hL_sL, if_pos rfl, if_pos rfl]
        · rw [gd_left (by omega)]
          exact (c2 j (by omega)).kp f2 (fun a g1 g2 q => by omega)
    · rw [if_neg q, if_pos (by decide)]
      rw [if_neg q, List.append_nil] at es
      simp only [x_202_381, x_202_384, cl2_i, cl2_r, cl2_n, cl2_l, tl_s, tl_n, true_and, and_true, Option.some.injEq, exists_eq_left', Bool.and_self, Bool.true_and, Bool.and_true, Bool.or_true, Bool.true_or, i_10, i_00, if_true, if_false, not_true_eq_false, not_false_eq_true, and_false, false_and, okp_sI, okp_sL, okp_aI, okp_aL, hR_sI, hR_sL, hR_aI, hR_aL, hl, nI_1]
      refine ih (v + 1) H (by omega) f ?_ ?_ (fun j h1 h2 => c3 j (by omega) h2)
      · rw [es]; exact c1
      · rw [es]; exact c2
theorem m_sw_n {N : Nat} (hw : WF h) (hs : s < 8) (D : ShM h s kd b M tn sx sy ex) (W : ShW kd b M tn sx sy ex) (hn : N ≤ 5) (hN : ∀ H, Fq P4 h H → hI H 124 31 = nI (Ws b M tn sx sy kd ex N).length → (∀ j, j < (Ws b M tn sx sy kd ex N).length → WA H j ((Ws b M tn sx sy kd ex N).getD j w0)) → Q (none, H)) : ∀ (m n : Nat) (H : PH) (l5 l6 l7 l8 l9 l10 l11 l12 l13 l14 : Option Value), cl2 l5 = l5 → cl2 l6 = l6 → cl2 l7 = l7 → cl2 l8 = l8 → cl2 l9 = l9 → cl2 l10 = l10 → cl2 l12 = l12 → cl2 l13 = l13 → cl2 l14 = l14 → n + m = N → Fq P4 h H → hI H 124 31 = nI (Ws b M tn sx sy kd ex n).length → (∀ j, j < (Ws b M tn sx sy kd ex n).length → WA H j ((Ws b M tn sx sy kd ex n).getD j w0)) → Tr sc (d + 1) 202 (39, [some (.ref 124), some (.int (nI s)), some (.int (nI N)), some (.int (iv ((b : Int) ^ n))), some (.int (nI n)), l5, l6, l7, l8, l9, l10, l11, l12, l13, l14], [], H) Q := by
  have hM := W.2.2.1
  have hb := W.2.1
  intro m
  induction m with
  | zero =>
    intro n H l5 l6 l7 l8 l9 l10 l11 l12 l13 l14 h5 h6 h7 h8 h9 h10 h12 h13 h14 hm f c1 c2
    have e : n = N := by omega
    subst e
    rw [x_202_39]
    simp only [x_202_41, x_202_42, x_202_402, cl2_i, cl2_r, cl2_n, cl2_l, tl_s, tl_n, true_and, and_true, Option.some.injEq, exists_eq_left', Bool.and_self, Bool.true_and, Bool.and_true, Bool.or_true, Bool.true_or, i_10, i_00, if_true, if_false, not_true_eq_false, not_false_eq_true, and_false, false_and, okp_sI, okp_sL, okp_aI, okp_aL, hR_sI, hR_sL, hR_aI, hR_aL]
    rw [if_pos (Int32.le_refl _)]
    exact hN H f c1 c2
  | succ m ih =>
    intro n H l5 l6 l7 l8 l9 l10 l11 l12 l13 l14 h5 h6 h7 h8 h9 h10 h12 h13 h14 hm f c1 c2
    have hwH := f.WF hw
    have D' := D.fr f (fun a j h1 h2 q => by unfold P4 at q; omega)
    have wl := Ws_len (b := b) (tn := tn) (sx := sx) (sy := sy) (kd := kd) (ex := ex) hM.1 n
    have hLM : (Ws b M tn sx sy kd ex n).length * M ≤ 7776 := Nat.le_trans (Nat.mul_le_mul_right M wl) (pow6 hM.2 (by omega))
    have hf : ∀ w, w ∈ Ws b M tn sx sy kd ex n → w.2.2.1 ≤ 6 := fun w hw => by rcases Ws_f n w hw with q | q <;> omega
    have wn : Ws b M tn sx sy kd ex (n + 1) = cf b M tn sx sy kd ex n (Ws b M tn sx sy kd ex n) ((Ws b M tn sx sy kd ex n).length * M) := (cf_all hM.1).symm
    have lL : (Ws b M tn sx sy kd ex n).length ≤ (Ws b M tn sx sy kd ex n).length * M := Nat.le_mul_of_pos_right _ (by omega)
    generalize hLL : Ws b M tn sx sy kd ex n = L at *
    have eL : nI L.length - 1 = iv ((L.length : Int) - 1) := by rw [iv_n, show (1 : Int32) = iv 1 from rfl, iv_sub]
    rw [x_202_39]
    simp only [x_202_41, x_202_42, x_202_45, x_202_46, x_202_49, x_202_51, x_202_53, x_202_54, x_202_57, x_202_58, x_202_59, x_202_60, x_202_62, x_202_64, x_202_65, x_202_66, o_124 hwH, w_124_18 hwH, o_134 hwH, iOk_lt (k := 134) (by decide), iRd_lt (k := 134) (by decide), show LN 134 = 8 from rfl, cl2_i, cl2_r, cl2_n, cl2_l, tl_s, tl_n, true_and, and_true, Option.some.injEq, exists_eq_left', Bool.and_self, Bool.true_and, Bool.and_true, Bool.or_true, Bool.true_or, i_10, i_00, if_true, if_false, not_true_eq_false, not_false_eq_true, and_false, false_and, okp_sI, okp_sL, okp_aI, okp_aL, hR_sI, hR_sL, hR_aI, hR_aL, h5, h6, h7, h8, h9, h10, h12, h13, h14, c1, inb_nI (n := 8) hs (by decide), nI_clamp (n := s) (by omega), D'.2.2.1, pk_mul, eL]
    rw [if_neg (nI_ge (show n < N by omega) (by omega))]
    refine m_sw_w (n := n) (l13 := none) (l14 := none) hwH hs D' W hLM hf (fun H2 l8 l9 l10 l11 l12 l13 l14 g8 g9 g10 g12 g13 g14 f2 x2 => ?_) L.length H l8 l9 l10 l11 l12 l13 l14 h8 h9 h10 h12 h13 h14 (Nat.le_refl _) Fq.rf c2 (fun j h1 h2 => by omega)
    have hw2 := f2.WF hwH
    have D2 := D'.fr f2 (fun a j h1 h2 q => by omega)
    simp only [x_202_273, x_202_274, x_202_275, x_202_278, x_202_279, o_124 hw2, cl2_i, cl2_r, cl2_n, cl2_l, tl_s, tl_n, true_and, and_true, Option.some.injEq, exists_eq_left', Bool.and_self, Bool.true_and, Bool.and_true, Bool.or_true, Bool.true_or, i_10, i_00, if_true, if_false, not_true_eq_false, not_false_eq_true, and_false, false_and, okp_sI, okp_sL, okp_aI, okp_aL, hR_sI, hR_sL, hR_aI, hR_aL, g8]
    refine m_sw_c (h := H2) (n := n) hw2 hs D2 W hLM g8 x2 (fun H3 f3 e1 e2 => ?_) (L.length * M) 0 _ (by omega) (Fq.rf.sI (by unfold P4; omega)) rfl (fun j hj => absurd hj (Nat.not_lt_zero _)) (fun j h1 h2 => (x2 j h2).kp ((Fq.rf (P := fun a j => a = 124 ∧ j = 31)).sI ⟨rfl, rfl⟩) (fun a g1 g2 q => by omega))
    have hw3 := f3.WF hw2
    have D3 := D2.fr f3 (fun a j h1 h2 q => by unfold P4 at q; omega)
    simp only [x_202_387, x_202_388, x_202_389, x_202_392, x_202_393, x_202_394, x_202_395, x_202_396, x_202_399, o_124 hw3, w_124_17 hw3, o_133 hw3, iOk_lt (k := 133) (by decide), iRd_lt (k := 133) (by decide), show LN 133 = 8 from rfl, cl2_i, cl2_r, cl2_n, cl2_l, tl_s, tl_n, true_and, and_true, Option.some.injEq, exists_eq_left', Bool.and_self, Bool.true_and, Bool.and_true, Bool.or_true, Bool.true_or, i_10, i_00, if_true, if_false, not_true_eq_false, not_false_eq_true, and_false, false_and, okp_sI, okp_sL, okp_aI, okp_aL, hR_sI, hR_sL, hR_aI, hR_aL, inb_nI (n := 8) hs (by decide), nI_clamp (n := s) (by omega), D3.2.1, nI_1, g8]
    rw [iv_n b, iv_mul, ← Int.pow_succ]
    rw [← wn] at e1 e2
    exact ih (n + 1) H3 _ _ _ _ _ _ _ _ _ _ rfl rfl rfl g8 g9 g10 g12 g13 g14 (by omega) (f.tr ((f2.wk (fun a j q => Or.inl q)).tr f3)) e1 e2
theorem m_setWords {N : Nat} (hw : WF h) (hs : s < 8) (D : ShM h s kd b M tn sx sy ex) (W : ShW kd b M tn sx sy ex) (hn : N ≤ 5) (hN : ∀ H, Fq P4 h H → hI H 124 31 = nI (Ws b M tn sx sy kd ex N).length → (∀ j, j < (Ws b M tn sx sy kd ex N).length → WA H j ((Ws b M tn sx sy kd ex N).getD j w0)) → Q (none, H)) : Tr sc (d + 1) 202 (ent0 202 [.ref 124, .int (nI s), .int (nI N)] h) Q := by
  rw [e_202]
  simp only [x_202_0, x_202_1, x_202_2, x_202_5, x_202_6, x_202_9, x_202_10, x_202_11, x_202_12, x_202_13, x_202_16, x_202_17, x_202_18, x_202_19, x_202_20, x_202_23, x_202_24, x_202_26, x_202_27, x_202_28, x_202_31, x_202_32, x_202_33, x_202_34, x_202_35, x_202_36, x_202_37, o_124 hw, w_124_32 hw, w_124_33 hw, w_124_34 hw, w_124_35 hw, o_141 hw, iOk_lt (k := 141) (by decide), iRd_lt (k := 141) (by decide), show LN 141 = 7776 from rfl, o_142 hw, iOk_lt (k := 142) (by decide), iRd_lt (k := 142) (by decide), show LN 142 = 7776 from rfl, o_143 hw, iOk_lt (k := 143) (by decide), iRd_lt (k := 143) (by decide), show LN 143 = 7776 from rfl, o_144 hw, show LN 144 = 7776 from rfl, cl2_i, cl2_r, cl2_n, cl2_l, tl_s, tl_n, true_and, and_true, Option.some.injEq, exists_eq_left', Bool.and_self, Bool.true_and, Bool.and_true, Bool.or_true, Bool.true_or, i_10, i_00, if_true, if_false, not_true_eq_false, not_false_eq_true, and_false, false_and, okp_sI, okp_sL, okp_aI, okp_aL, hR_sI, hR_sL, hR_aI, hR_aL, show inb 0 7776 = true from rfl, cl_0]
  refine m_sw_n hw hs D W hn hN N 0 _ none none none none none none none none none none rfl rfl rfl rfl rfl rfl rfl rfl rfl (by omega) (((((Fq.rf.sI (by unfold P4; omega)).sI (by unfold P4; omega)).sI (by unfold P4; omega)).sI (by unfold P4; omega)).sL (by unfold P4; omega)) rfl (fun j hj => ?_)
  have e : j = 0 := Nat.lt_one_iff.mp hj
  subst e
  exact ⟨rfl, rfl, rfl, rfl⟩
end SW
