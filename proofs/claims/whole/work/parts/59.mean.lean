/-! ===== mean ===== -/
def wgt (kd : Int32) (ex : Nat → Int) (i : Nat) : Int := if kd = 3 then ex i else 1
def sQ (f : Nat → Int) : Nat → Int
  | 0 => 0
  | n + 1 => sQ f n + f n
def blS (kd : Int32) (tn : Nat → Nat) (sx sy ex : Nat → Int) (n : Nat) : Int × Int × Int × Int × Int × Int := (sQ (fun i => wgt kd ex i * xxT (tn i)) n, sQ (fun i => wgt kd ex i * xyT (tn i)) n, sQ (fun i => wgt kd ex i * yxT (tn i)) n, sQ (fun i => wgt kd ex i * yyT (tn i)) n, sQ (fun i => wgt kd ex i * sx i) n, sQ (fun i => wgt kd ex i * sy i) n)
section ME
variable {sc : Nat × (Nat → Int32)} {d : Nat} {Q : PRes → Prop} {h h' H : PH} {k s r b M i j t n a : Nat} {kd x y z w v : Int32} {tn : Nat → Nat} {sx sy ex : Nat → Int} {S : Int}
theorem wgt_b (W : ShW kd b M tn sx sy ex) (hi : i < M) : 1 ≤ wgt kd ex i ∧ wgt kd ex i ≤ 99 := by
  unfold wgt
  by_cases q : kd = 3
  · rw [if_pos q]; exact (W.2.2.2 i hi).2.2.2.2.1 q
  · rw [if_neg q]; decide
theorem wgt_c (W : ShW kd b M tn sx sy ex) (hi : i < M) (hw : WF h) (hk : IsSh k) (C : ShC h k kd b M tn sx sy ex) : Tr sc d 56 (ent0 56 [.ref k, .int (nI i)] h) Q = Q (some (.int (iv (wgt kd ex i))), h) := by
  obtain ⟨ho, r0, r1, r2, r3, r4, r5, o0, o1, o2, o3, o4, o5, n0, n1, n2, n3, n4, n5⟩ := sh_ref hw hk
  have hM := W.2.2.1.2
  rw [c_weightOf ho r3 o3 n3 (show i < 6 by omega), C.1, (C.2.2.2 i hi).2.2.2]
  unfold wgt
  by_cases q : kd = 3
  · rw [if_pos q, if_pos q]
  · rw [if_neg q, if_neg q]; rfl
theorem wtS_iv {f : Nat → Int32} {g : Nat → Int} : ∀ n, (∀ j, j < n → f j = iv (g j)) → wtS f n = iv (sQ g n)
  | 0, _ => rfl
  | n + 1, e => by
    show wtS f n + f n = iv (sQ g n + g n)
    rw [wtS_iv n (fun j hj => e j (by omega)), e n (by omega), iv_add]
theorem sQ_b {f : Nat → Int} {B : Int} : ∀ n, (∀ j, j < n → -B ≤ f j ∧ f j ≤ B) → -(B * n) ≤ sQ f n ∧ sQ f n ≤ B * n
  | 0, _ => by show -(B * 0) ≤ (0 : Int) ∧ (0 : Int) ≤ B * 0; rw [Int.mul_zero]; decide
  | n + 1, e => by
    have h1 := sQ_b n (fun j hj => e j (by omega))
    have h2 := e n (by omega)
    show -(B * ((n + 1 : Nat) : Int)) ≤ sQ f n + f n ∧ sQ f n + f n ≤ B * ((n + 1 : Nat) : Int)
    rw [Int.natCast_add, Int.mul_add, show B * ((1 : Nat) : Int) = B from Int.mul_one B]
    omega
theorem sQ_w (W : ShW kd b M tn sx sy ex) : ∀ n, n ≤ M → (n : Int) ≤ sQ (wgt kd ex) n ∧ sQ (wgt kd ex) n ≤ 99 * n
  | 0, _ => by show ((0 : Nat) : Int) ≤ 0 ∧ (0 : Int) ≤ 99 * ((0 : Nat) : Int); decide
  | n + 1, hn => by
    have h1 := sQ_w W n (by omega)
    have h2 := wgt_b W (show n < M by omega)
    show ((n + 1 : Nat) : Int) ≤ sQ (wgt kd ex) n + wgt kd ex n ∧ sQ (wgt kd ex) n + wgt kd ex n ≤ 99 * ((n + 1 : Nat) : Int)
    omega
theorem t_row {u : Int} (ht : t ≤ 7) (hu : 0 ≤ u) : (u * xxT t + u * xyT t ≤ u ∧ u * xxT t - u * xyT t ≤ u ∧ -(u * xxT t) + u * xyT t ≤ u ∧ -(u * xxT t) - u * xyT t ≤ u) ∧ (u * yyT t + u * yxT t ≤ u ∧ u * yyT t - u * yxT t ≤ u ∧ -(u * yyT t) + u * yxT t ≤ u ∧ -(u * yyT t) - u * yxT t ≤ u) := by
  match t, ht with
  | 0, _ => simp only [xxT, xyT, yxT, yyT]; omega
  | 1, _ => simp only [xxT, xyT, yxT, yyT]; omega
  | 2, _ => simp only [xxT, xyT, yxT, yyT]; omega
  | 3, _ => simp only [xxT, xyT, yxT, yyT]; omega
  | 4, _ => simp only [xxT, xyT, yxT, yyT]; omega
  | 5, _ => simp only [xxT, xyT, yxT, yyT]; omega
  | 6, _ => simp only [xxT, xyT, yxT, yyT]; omega
  | 7, _ => simp only [xxT, xyT, yxT, yyT]; omega
  | n + 8, hn => omega
theorem bl_row (W : ShW kd b M tn sx sy ex) : ∀ n, n ≤ M → ((blS kd tn sx sy ex n).1 + (blS kd tn sx sy ex n).2.1 ≤ sQ (wgt kd ex) n ∧ (blS kd tn sx sy ex n).1 - (blS kd tn sx sy ex n).2.1 ≤ sQ (wgt kd ex) n ∧ -(blS kd tn sx sy ex n).1 + (blS kd tn sx sy ex n).2.1 ≤ sQ (wgt kd ex) n ∧ -(blS kd tn sx sy ex n).1 - (blS kd tn sx sy ex n).2.1 ≤ sQ (wgt kd ex) n) ∧ ((blS kd tn sx sy ex n).2.2.2.1 + (blS kd tn sx sy ex n).2.2.1 ≤ sQ (wgt kd ex) n ∧ (blS kd tn sx sy ex n).2.2.2.1 - (blS kd tn sx sy ex n).2.2.1 ≤ sQ (wgt kd ex) n ∧ -(blS kd tn sx sy ex n).2.2.2.1 + (blS kd tn sx sy ex n).2.2.1 ≤ sQ (wgt kd ex) n ∧ -(blS kd tn sx sy ex n).2.2.2.1 - (blS kd tn sx sy ex n).2.2.1 ≤ sQ (wgt kd ex) n)
  | 0, _ => by simp only [blS, sQ]; decide
  | n + 1, hn => by
    have h1 := bl_row W n (by omega)
    have h2 := wgt_b W (show n < M by omega)
    have h3 := t_row (W.2.2.2 n (by omega)).1 (show 0 ≤ wgt kd ex n by omega)
    simp only [blS] at h1 ⊢
    simp only [sQ]
    omega
theorem bl_sh (W : ShW kd b M tn sx sy ex) : (-5346 ≤ (blS kd tn sx sy ex M).2.2.2.2.1 ∧ (blS kd tn sx sy ex M).2.2.2.2.1 ≤ 5346) ∧ (-5346 ≤ (blS kd tn sx sy ex M).2.2.2.2.2 ∧ (blS kd tn sx sy ex M).2.2.2.2.2 ≤ 5346) := by
  have hM := W.2.2.1
  have e : ∀ f : Nat → Int, (∀ i, i < M → -9 ≤ f i ∧ f i ≤ 9) → -5346 ≤ sQ (fun i => wgt kd ex i * f i) M ∧ sQ (fun i => wgt kd ex i * f i) M ≤ 5346 := fun f hf => by
    have q := sQ_b (f := fun i => wgt kd ex i * f i) (B := 891) M (fun j hj => by
      have h1 := wgt_b W hj
      exact mulB (a := wgt kd ex j) (A := 99) (B := 9) (by omega) (hf j hj))
    omega
  exact ⟨e sx (fun i hi => (W.2.2.2 i hi).2.1), e sy (fun i hi => (W.2.2.2 i hi).2.2.1)⟩
theorem me_pos {W s xx xy yx yy : Int} (hW : 1 ≤ W) (hs : 2 * W ≤ s) (h1 : xx + xy ≤ W ∧ xx - xy ≤ W) (h2 : yy + yx ≤ W ∧ yy - yx ≤ W) : 0 < (s - xx) * (s - yy) - xy * yx := by
  have p1 : W + (xy.natAbs : Int) ≤ s - xx := by omega
  have p2 : W + (yx.natAbs : Int) ≤ s - yy := by omega
  have p3 := Int.mul_le_mul p1 p2 (by omega) (by omega)
  have p4 : xy * yx ≤ (xy.natAbs : Int) * yx.natAbs := (mulB (a := xy) (A := xy.natAbs) (b := yx) (B := yx.natAbs) (by omega) (by omega)).2
  rw [Int.add_mul, Int.mul_add, Int.mul_add] at p3
  have p5 := Int.mul_pos (show 0 < W by omega) (show 0 < W by omega)
  have p6 := Int.mul_nonneg (show 0 ≤ W by omega) (show 0 ≤ (yx.natAbs : Int) by omega)
  have p7 := Int.mul_nonneg (show 0 ≤ (xy.natAbs : Int) by omega) (show 0 ≤ W by omega)
  generalize (s - xx) * (s - yy) = A at *
  generalize W * W = B at *
  generalize W * (yx.natAbs : Int) = C at *
  generalize (xy.natAbs : Int) * W = D at *
  generalize (xy.natAbs : Int) * yx.natAbs = E at *
  generalize xy * yx = F at *
  omega
theorem me_ok (W : ShW kd b M tn sx sy ex) : (R6 (plX (b * sQ (wgt kd ex) M) (blS kd tn sx sy ex M)) ∧ plX (b * sQ (wgt kd ex) M) (blS kd tn sx sy ex M) ≠ -9223372036854775808) ∧ (R6 (plY (b * sQ (wgt kd ex) M) (blS kd tn sx sy ex M)) ∧ plY (b * sQ (wgt kd ex) M) (blS kd tn sx sy ex M) ≠ -9223372036854775808) ∧ 0 < plD (b * sQ (wgt kd ex) M) (blS kd tn sx sy ex M) ∧ R6 (plD (b * sQ (wgt kd ex) M) (blS kd tn sx sy ex M)) := by
  have hM := W.2.2.1
  have hb := W.2.1
  obtain ⟨w1, w2⟩ := sQ_w W M (Nat.le_refl _)
  obtain ⟨⟨r1, r2, r3, r4⟩, r5, r6, r7, r8⟩ := bl_row W M (Nat.le_refl _)
  obtain ⟨p1, p2⟩ := bl_sh W
  generalize blS kd tn sx sy ex M = zz at *
  generalize sQ (wgt kd ex) M = U at *
  have hU : 1 ≤ U ∧ U ≤ 594 := by omega
  have hs1 : 2 * U ≤ (b : Int) * U := by
    have := Int.mul_le_mul_of_nonneg_right (show (2 : Int) ≤ b by omega) (show 0 ≤ U by omega)
    exact this
  have hs2 : (b : Int) * U ≤ 2376 := (mulB (a := (b : Int)) (A := 4) (b := U) (B := 594) (by omega) (by omega)).2
  generalize (b : Int) * U = s at *
  have dp : 0 < plD s zz := me_pos hU.1 hs1 ⟨r1, r2⟩ ⟨r5, r6⟩
  have dD : -20000000 ≤ plD s zz ∧ plD s zz ≤ 20000000 := by
    unfold plD
    have m1 := mulB (a := s - zz.1) (A := 3000) (b := s - zz.2.2.2.1) (B := 3000) (by omega) (by omega)
    have m2 := mulB (a := zz.2.1) (A := 600) (b := zz.2.2.1) (B := 600) (by omega) (by omega)
    omega
  have dX' : -60000000 ≤ plX s zz ∧ plX s zz ≤ 60000000 := by
    unfold plX
    have m1 := mulB (a := s - zz.2.2.2.1) (A := 3000) (by omega) p1
    have m2 := mulB (a := zz.2.1) (A := 600) (by omega) p2
    omega
  have dY' : -60000000 ≤ plY s zz ∧ plY s zz ≤ 60000000 := by
    unfold plY
    have m1 := mulB (a := s - zz.1) (A := 3000) (by omega) p2
    have m2 := mulB (a := zz.2.2.1) (A := 600) (by omega) p1
    omega
  unfold R6
  exact ⟨⟨⟨by omega, by omega⟩, by omega⟩, ⟨⟨by omega, by omega⟩, by omega⟩, dp, by omega, by omega⟩
theorem c_bl_loop (hw : WF h) (ha : okp h a 0 = true) (hk : IsSh k) (hak : ¬ (k ≤ a ∧ a < k + 5)) (C : ShC h k kd b M tn sx sy ex) (W : ShW kd b M tn sx sy ex) (hK : ∀ h', Fq (fun x _ => x = a) h h' → AfC h' a (blS kd tn sx sy ex M) ((b : Int) * sQ (wgt kd ex) M) → Q (none, h')) : ∀ (m i : Nat) (H : PH) (l3 l4 l5 : Option Value), i + m = M → Fq (fun x _ => x = a) h H → AfC H a (blS kd tn sx sy ex i) 1 → Tr sc (d + 2) 4 (16, [some (.ref a), some (.ref k), some (.int (nI i)), l3, l4, l5], [], H) Q := by
  have hM := W.2.2.1
  have hb := W.2.1
  intro m
  induction m with
  | zero =>
    intro i H l3 l4 l5 hi f A
    have e : i = M := by omega
    subst e
    have hwH := f.WF hw
    have ha' : okp H a 0 = true := by rw [f.ok]; exact ha
    have C' := C.fr f (fun c j h1 h2 q => hak (by omega))
    obtain ⟨ho, r0, r1, r2, r3, r4, r5, o0, o1, o2, o3, o4, o5, n0, n1, n2, n3, n4, n5⟩ := sh_ref hwH hk
    obtain ⟨c1, c2, c3, c4⟩ := C'
    obtain ⟨w1, w2⟩ := sQ_w W i (Nat.le_refl _)
    have e1 : wtS (fun j => if hI H k 6 = 3 then hI H (k + 4) j else 1) i = iv (sQ (wgt kd ex) i) := wtS_iv i (fun j hj => by
      show (if hI H k 6 = 3 then hI H (k + 4) j else 1) = iv (wgt kd ex j)
      rw [c1, (c4 j hj).2.2.2]
      unfold wgt
      by_cases q : kd = 3
      · rw [if_pos q, if_pos q]
      · rw [if_neg q, if_neg q]; rfl)
    rw [x_4_16]
    simp only [x_4_17, x_4_18, x_4_21, x_4_153, x_4_154, x_4_155, x_4_158, x_4_159, x_4_160, x_4_163, x_4_164, x_4_165, x_4_168, cl2_i, cl2_r, cl2_n, cl2_l, tl_s, tl_n, true_and, and_true, Option.some.injEq, exists_eq_left', Bool.and_self, Bool.true_and, Bool.and_true, Bool.or_true, Bool.true_or, i_10, i_00, if_true, if_false, not_true_eq_false, not_false_eq_true, and_false, false_and, okp_sI, okp_sL, okp_aI, okp_aL, hR_sI, hR_sL, hR_aI, hR_aL, ho, ha', c2, c3, c_weightOfAll ho r3 o3 n3 c3 hM.2, e1, nI_j (n := b) (by omega), iv_l (z := sQ (wgt kd ex) i) ⟨by omega, by omega⟩, jv_mul]
    rw [if_pos (Int32.le_refl _)]
    refine hK _ (f.sL rfl) ?_
    obtain ⟨a0, a1, a2, a3, a4, a5, a6⟩ := A
    refine ⟨?_, ?_, ?_, ?_, ?_, ?_, ?_⟩ <;> simp only [hL_sL, eq_self, if_true, if_false, Nat.reduceEqDiff] <;> assumption
  | succ m ih =>
    intro i H l3 l4 l5 hi f A
    have hlt : i < M := by omega
    have hwH := f.WF hw
    have ha' : okp H a 0 = true := by rw [f.ok]; exact ha
    have C' := C.fr f (fun c j h1 h2 q => hak (by omega))
    obtain ⟨ho, r0, r1, r2, r3, r4, r5, o0, o1, o2, o3, o4, o5, n0, n1, n2, n3, n4, n5⟩ := sh_ref hwH hk
    have C'' := C'
    obtain ⟨c1, c2, c3, c4⟩ := C'
    obtain ⟨q1, q2, q3, -⟩ := c4 i hlt
    have wb := wgt_b W hlt
    obtain ⟨t7, ⟨x1, x2⟩, ⟨y1, y2⟩, -⟩ := W.2.2.2 i hlt
    obtain ⟨⟨u1, v1⟩, ⟨u2, v2⟩, ⟨u3, v3⟩, ⟨u4, v4⟩⟩ := tb_ok (sc := sc) (h := H) t7
    obtain ⟨j1, j2, j3, j4⟩ := tb_j t7
    obtain ⟨a0, a1, a2, a3, a4, a5, a6⟩ := A
    rw [x_4_16]
    simp only [x_4_17, x_4_18, x_4_21, x_4_24, x_4_25, x_4_26, x_4_29, x_4_30, x_4_31, x_4_32, x_4_35, x_4_36, x_4_37, x_4_39, x_4_40, x_4_41, x_4_44, x_4_45, x_4_48, x_4_50, x_4_51, x_4_52, x_4_53, x_4_54, x_4_57, x_4_58, x_4_59, x_4_62, x_4_63, x_4_66, x_4_68, x_4_69, x_4_70, x_4_71, x_4_72, x_4_75, x_4_76, x_4_77, x_4_80, x_4_81, x_4_84, x_4_86, x_4_87, x_4_88, x_4_89, x_4_90, x_4_93, x_4_94, x_4_95, x_4_98, x_4_99, x_4_102, x_4_104, x_4_105, x_4_106, x_4_107, x_4_108, x_4_111, x_4_112, x_4_113, x_4_116, x_4_117, x_4_118, x_4_121, x_4_122, x_4_123, x_4_124, x_4_125, x_4_126, x_4_129, x_4_130, x_4_131, x_4_134, x_4_135, x_4_136, x_4_139, x_4_140, x_4_141, x_4_142, x_4_143, x_4_144, x_4_147, x_4_150, cl2_i, cl2_r, cl2_n, cl2_l, tl_s, tl_n, true_and, and_true, Option.some.injEq, exists_eq_left', Bool.and_self, Bool.true_and, Bool.and_true, Bool.or_true, Bool.true_or, i_10, i_00, if_true, if_false, not_true_eq_false, not_false_eq_true, and_false, false_and, okp_sI, okp_sL, okp_aI, okp_aL, hR_sI, hR_sL, hR_aI, hR_aL, ho, ha', c3, wgt_c W hlt hwH hk C'', iv_l (z := wgt kd ex i) ⟨by omega, by omega⟩, r0, r1, r2, iOk_sL, iRd_sL, hI_sL, iOk_ok o0, iRd_ok o0, iOk_ok o1, iRd_ok o1, iOk_ok o2, iRd_ok o2, n0, n1, n2, inb_nI (n := 6) (show i < 6 by omega) (by decide), nI_clamp (n := i) (by omega), q1, q2, q3, Nat.add_zero, Nat.reduceAdd, u1, u2, u3, u4, v1, v2, v3, v4, j1, j2, j3, j4, iv_l (z := sx i) ⟨by omega, by omega⟩, iv_l (z := sy i) ⟨by omega, by omega⟩, hL_sL, eq_self, Nat.reduceEqDiff, a0, a1, a2, a3, a4, a5, a6, jv_mul, jv_add, nI_1]
    rw [if_neg (nI_ge hlt (by omega))]
    refine ih (i + 1) _ _ _ _ (by omega) (f.tr (by
      iterate 6 (refine Fq.sL ?_ rfl)
      exact Fq.rf)) ⟨?_, ?_, ?_, ?_, ?_, ?_, ?_⟩ <;> simp only [hL_sL, eq_self, if_true, if_false, Nat.reduceEqDiff] <;> first | rfl | assumption
theorem c_blend (hw : WF h) (ha : okp h a 0 = true) (hk : IsSh k) (hak : ¬ (k ≤ a ∧ a < k + 5)) (C : ShC h k kd b M tn sx sy ex) (W : ShW kd b M tn sx sy ex) (hK : ∀ h', Fq (fun x _ => x = a) h h' → AfC h' a (blS kd tn sx sy ex M) ((b : Int) * sQ (wgt kd ex) M) → Q (none, h')) : Tr sc (d + 2) 4 (ent0 4 [.ref a, .ref k] h) Q := by
  rw [e_4]
  simp only [x_4_0, x_4_1, x_4_4, x_4_5, x_4_6, x_4_9, x_4_10, x_4_11, x_4_14, x_4_15, cl2_i, cl2_r, cl2_n, cl2_l, tl_s, tl_n, true_and, and_true, Option.some.injEq, exists_eq_left', Bool.and_self, Bool.true_and, Bool.and_true, Bool.or_true, Bool.true_or, i_10, i_00, if_true, if_false, not_true_eq_false, not_false_eq_true, and_false, false_and, okp_sI, okp_sL, okp_aI, okp_aL, hR_sI, hR_sL, hR_aI, hR_aL, ha, c_rest ha]
  refine c_bl_loop hw ha hk hak C W hK M 0 _ none none none (by omega) (by
    iterate 9 (refine Fq.sL ?_ rfl)
    exact Fq.rf) ⟨?_, ?_, ?_, ?_, ?_, ?_, ?_⟩ <;> simp only [hL_sL, eq_self, if_true, if_false, Nat.reduceEqDiff] <;> rfl
theorem m_tX10 (ht : t ≤ 7) : Tr sc d 178 (ent0 178 [.int (nI t), .int 1, .int 0] h) Q = Q (some (.int (iv (xxT t))), h) := by
  have e := m_turnedX (sc := sc) (d := d) (h := h) (Q := Q) (X := 1) (Y := 0) ht
  rw [show tX t 1 0 = xxT t by unfold tX; omega] at e
  exact e
theorem m_tX01 (ht : t ≤ 7) : Tr sc d 178 (ent0 178 [.int (nI t), .int 0, .int 1] h) Q = Q (some (.int (iv (xyT t))), h) := by
  have e := m_turnedX (sc := sc) (d := d) (h := h) (Q := Q) (X := 0) (Y := 1) ht
  rw [show tX t 0 1 = xyT t by unfold tX; omega] at e
  exact e
theorem m_tY10 (ht : t ≤ 7) : Tr sc d 179 (ent0 179 [.int (nI t), .int 1, .int 0] h) Q = Q (some (.int (iv (yxT t))), h) := by
  have e := m_turnedY (sc := sc) (d := d) (h := h) (Q := Q) (X := 1) (Y := 0) ht
  rw [show tY t 1 0 = yxT t by unfold tY; omega] at e
  exact e
theorem m_tY01 (ht : t ≤ 7) : Tr sc d 179 (ent0 179 [.int (nI t), .int 0, .int 1] h) Q = Q (some (.int (iv (yyT t))), h) := by
  have e := m_turnedY (sc := sc) (d := d) (h := h) (Q := Q) (X := 0) (Y := 1) ht
  rw [show tY t 0 1 = yyT t by unfold tY; omega] at e
  exact e
theorem m_me_loop {v0 : Int64} (hw : WF h) (hs : s < 8) (D : ShM h s kd b M tn sx sy ex) (W : ShW kd b M tn sx sy ex) (hK : ∀ l19 l20 l21, Tr sc (d + 1) 236 (233, [some (.ref 124), some (.int (nI s)), some (.int y), some (.int 0), some (.long v0), none, some (.long (jv (S - (blS kd tn sx sy ex M).1))), none, some (.long (jv (-(blS kd tn sx sy ex M).2.1))), none, some (.long (jv (-(blS kd tn sx sy ex M).2.2.1))), none, some (.long (jv (S - (blS kd tn sx sy ex M).2.2.2.1))), none, some (.long (jv (blS kd tn sx sy ex M).2.2.2.2.1)), none, some (.long (jv (blS kd tn sx sy ex M).2.2.2.2.2)), none, some (.int (nI M)), l19, l20, l21], [], h) Q) : ∀ (m i : Nat) (l19 l20 l21 : Option Value), cl2 l19 = l19 → i + m = M → Tr sc (d + 1) 236 (67, [some (.ref 124), some (.int (nI s)), some (.int y), some (.int 0), some (.long v0), none, some (.long (jv (S - (blS kd tn sx sy ex i).1))), none, some (.long (jv (-(blS kd tn sx sy ex i).2.1))), none, some (.long (jv (-(blS kd tn sx sy ex i).2.2.1))), none, some (.long (jv (S - (blS kd tn sx sy ex i).2.2.2.1))), none, some (.long (jv (blS kd tn sx sy ex i).2.2.2.2.1)), none, some (.long (jv (blS kd tn sx sy ex i).2.2.2.2.2)), none, some (.int (nI i)), l19, l20, l21], [], h) Q := by
  have hM := W.2.2.1
  intro m
  induction m with
  | zero =>
    intro i l19 l20 l21 hl hi
    have e : i = M := by omega
    subst e
    rw [x_236_67]
    simp only [x_236_69, x_236_70, x_236_73, x_236_74, x_236_75, o_124 hw, w_124_18 hw, o_134 hw, iOk_lt (k := 134) (by decide), iRd_lt (k := 134) (by decide), show LN 134 = 8 from rfl, cl2_i, cl2_r, cl2_n, cl2_l, tl_s, tl_n, true_and, and_true, Option.some.injEq, exists_eq_left', Bool.and_self, Bool.true_and, Bool.and_true, Bool.or_true, Bool.true_or, i_10, i_00, if_true, if_false, not_true_eq_false, not_false_eq_true, and_false, false_and, okp_sI, okp_sL, okp_aI, okp_aL, hR_sI, hR_sL, hR_aI, hR_aL, inb_nI (n := 8) hs (by decide), nI_clamp (n := s) (by omega), D.2.2.1]
    rw [if_pos (Int32.le_refl _)]
    exact hK l19 l20 l21
  | succ m ih =>
    intro i l19 l20 l21 hl hi
    have hlt : i < M := by omega
    have wb := wgt_b W hlt
    obtain ⟨t7, ⟨x1, x2⟩, ⟨y1, y2⟩, -⟩ := W.2.2.2 i hlt
    obtain ⟨j1, j2, j3, j4⟩ := tb_j t7
    obtain ⟨d1, d2, d3, d4⟩ := D
    obtain ⟨q1, q2, q3, q4⟩ := d4 i hlt
    have ew : wgt kd ex i = if kd = 3 then ex i else 1 := rfl
    have key : Tr sc (d + 1) 236 (109, [some (.ref 124), some (.int (nI s)), some (.int y), some (.int 0), some (.long v0), none, some (.long (jv (S - (blS kd tn sx sy ex i).1))), none, some (.long (jv (-(blS kd tn sx sy ex i).2.1))), none, some (.long (jv (-(blS kd tn sx sy ex i).2.2.1))), none, some (.long (jv (S - (blS kd tn sx sy ex i).2.2.2.1))), none, some (.long (jv (blS kd tn sx sy ex i).2.2.2.2.1)), none, some (.long (jv (blS kd tn sx sy ex i).2.2.2.2.2)), none, some (.int (nI i)), some (.int (nI (6 * s + i))), l20, l21], [.long (jv (wgt kd ex i))], h) Q := by
      simp only [x_236_109, x_236_111, x_236_113, x_236_115, x_236_116, x_236_119, x_236_121, x_236_122, x_236_123, x_236_124, x_236_127, x_236_128, x_236_129, x_236_130, x_236_132, x_236_134, x_236_136, x_236_137, x_236_140, x_236_142, x_236_143, x_236_144, x_236_145, x_236_148, x_236_149, x_236_150, x_236_151, x_236_153, x_236_155, x_236_157, x_236_158, x_236_161, x_236_163, x_236_164, x_236_165, x_236_166, x_236_169, x_236_170, x_236_171, x_236_172, x_236_174, x_236_176, x_236_178, x_236_179, x_236_182, x_236_184, x_236_185, x_236_186, x_236_187, x_236_190, x_236_191, x_236_192, x_236_193, x_236_195, x_236_197, x_236_199, x_236_200, x_236_203, x_236_205, x_236_206, x_236_207, x_236_208, x_236_209, x_236_211, x_236_213, x_236_215, x_236_216, x_236_219, x_236_221, x_236_222, x_236_223, x_236_224, x_236_225, x_236_227, x_236_230, o_124 hw, w_124_19 hw, w_124_20 hw, w_124_21 hw, o_135 hw, iOk_lt (k := 135) (by decide), iRd_lt (k := 135) (by decide), show LN 135 = 48 from rfl, o_136 hw, iOk_lt (k := 136) (by decide), iRd_lt (k := 136) (by decide), show LN 136 = 48 from rfl, o_137 hw, iOk_lt (k := 137) (by decide), iRd_lt (k := 137) (by decide), show LN 137 = 48 from rfl, cl2_i, cl2_r, cl2_n, cl2_l, tl_s, tl_n, true_and, and_true, Option.some.injEq, exists_eq_left', Bool.and_self, Bool.true_and, Bool.and_true, Bool.or_true, Bool.true_or, i_10, i_00, if_true, if_false, not_true_eq_false, not_false_eq_true, and_false, false_and, okp_sI, okp_sL, okp_aI, okp_aL, hR_sI, hR_sL, hR_aI, hR_aL, inb_nI (n := 48) (show 6 * s + i < 48 by omega) (by decide), nI_clamp (n := 6 * s + i) (by omega), q1, q2, q3, m_tX10 t7, m_tX01 t7, m_tY10 t7, m_tY01 t7, j1, j2, j3, j4, iv_l (z := sx i) ⟨by omega, by omega⟩, iv_l (z := sy i) ⟨by omega, by omega⟩, jv_mul, jv_sub, jv_add, nI_1]
      have ih' := ih (i + 1) (some (.int (nI (6 * s + i)))) (some (.long (jv (wgt kd ex i)))) none rfl (by omega)
      have s1 : ∀ A B : Int, S - A - B = S - (A + B) := fun A B => by omega
      have s2 : ∀ A B : Int, -A - B = -(A + B) := fun A B => by omega
      simp only [s1, s2]
      exact ih'
    rw [x_236_67]
    simp only [x_236_69, x_236_70, x_236_73, x_236_74, x_236_75, x_236_78, x_236_80, x_236_81, x_236_82, x_236_84, x_236_85, x_236_87, x_236_88, x_236_91, x_236_92, x_236_93, x_236_94, x_236_97, x_236_98, x_236_101, x_236_103, x_236_104, x_236_105, x_236_108, o_124 hw, w_124_16 hw, w_124_18 hw, w_124_22 hw, o_134 hw, iOk_lt (k := 134) (by decide), iRd_lt (k := 134) (by decide), show LN 134 = 8 from rfl, o_132 hw, iOk_lt (k := 132) (by decide), iRd_lt (k := 132) (by decide), show LN 132 = 8 from rfl, o_138 hw, iOk_lt (k := 138) (by decide), iRd_lt (k := 138) (by decide), show LN 138 = 48 from rfl, cl2_i, cl2_r, cl2_n, cl2_l, tl_s, tl_n, true_and, and_true, Option.some.injEq, exists_eq_left', Bool.and_self, Bool.true_and, Bool.and_true, Bool.or_true, Bool.true_or, i_10, i_00, if_true, if_false, not_true_eq_false, not_false_eq_true, and_false, false_and, okp_sI, okp_sL, okp_aI, okp_aL, hR_sI, hR_sL, hR_aI, hR_aL, hl, inb_nI (n := 8) hs (by decide), nI_clamp (n := s) (by omega), d1, d3, mv_ix hs (show i < 6 by omega), inb_nI (n := 48) (show 6 * s + i < 48 by omega) (by decide), nI_clamp (n := 6 * s + i) (by omega)]
    rw [if_neg (nI_ge hlt (by omega))]
    by_cases q : kd = 3
    · rw [if_pos q]
      rw [if_pos q] at ew
      have e1 := q4 (Or.inl q)
      rw [e1, iv_l ⟨by omega, by omega⟩, ← ew]
      exact key
    · rw [if_neg q]
      rw [if_neg q] at ew
      rw [ew] at key
      exact key
theorem both_mean (hc : CM h) : Both sc 128 236 [.int x, .int y] h := by
  have hw := hc.1
  refine glue_sh (x := x) (T := True) (CC := fun Q => Tr sc 19 128 (13, [some (.ref 0), some (.int x), some (.int y), some (.int 0)], [], h) Q) (MC := fun h1 Q => Tr sc 19 236 (12, [some (.ref 124), some (.int x), some (.int y), some (.int 0), none, none, none, none, none, none, none, none, none, none, none, none, none, none, none, none, none, none], [], h1) Q) hc (fun Q => ?_) (fun h1 Q hw1 => ?_) (fun s hs hx hT hA => ?_) (fun A B hAB q => Tr_mono q hAB)
  · rw [e_128]
    simp only [x_128_0, x_128_1, x_128_2, x_128_3, x_128_6, x_128_7, x_128_8, x_128_11, x_128_12, o_0 hw, cl2_i, cl2_r, cl2_n, cl2_l, tl_s, tl_n, true_and, and_true, Option.some.injEq, exists_eq_left', Bool.and_self, Bool.true_and, Bool.and_true, Bool.or_true, Bool.true_or, i_10, i_00, if_true, if_false, not_true_eq_false, not_false_eq_true, and_false, false_and, okp_sI, okp_sL, okp_aI, okp_aL, hR_sI, hR_sL, hR_aI, hR_aL, c_shR hw, i_1m1, i_3m1]
  · rw [e_236]
    simp only [x_236_0, x_236_1, x_236_2, x_236_5, x_236_6, x_236_7, x_236_10, x_236_11, o_124 hw1, cl2_i, cl2_r, cl2_n, cl2_l, tl_s, tl_n, true_and, and_true, Option.some.injEq, exists_eq_left', Bool.and_self, Bool.true_and, Bool.and_true, Bool.or_true, Bool.true_or, i_10, i_00, if_true, if_false, not_true_eq_false, not_false_eq_true, and_false, false_and, okp_sI, okp_sL, okp_aI, okp_aL, hR_sI, hR_sL, hR_aI, hR_aL, m_shR hw1, i_m1, i_m3, i_0]
  · subst hx
    obtain ⟨kd, b, M, tn, sx, sy, ex, W, C, D⟩ := sh_ab hA
    have hM := W.2.2.1
    have hb := W.2.1
    obtain ⟨w1, w2, -⟩ := hw.shape hs
    simp only [x_128_13, x_128_14, x_128_17, x_128_18, x_128_19, x_128_22, x_128_23, x_128_26, x_128_27, x_128_28, o_0 hw, w_0_2 hw, o_3 hw, show LN 3 = 8 from rfl, cl2_i, cl2_r, cl2_n, cl2_l, tl_s, tl_n, true_and, and_true, Option.some.injEq, exists_eq_left', Bool.and_self, Bool.true_and, Bool.and_true, Bool.or_true, Bool.true_or, i_10, i_00, if_true, if_false, not_true_eq_false, not_false_eq_true, and_false, false_and, okp_sI, okp_sL, okp_aI, okp_aL, hR_sI, hR_sL, hR_aI, hR_aL, inb_nI (n := 8) hs (by decide), nI_clamp (n := s) (by omega), w1, w2, C.1, c_refuse_3 hw]
    by_cases q : kd = 4
    · rw [if_pos q]
      simp only [x_128_31, cl2_i, cl2_r, cl2_n, cl2_l, tl_s, tl_n, true_and, and_true, Option.some.injEq, exists_eq_left', Bool.and_self, Bool.true_and, Bool.and_true, Bool.or_true, Bool.true_or, i_10, i_00, if_true, if_false, not_true_eq_false, not_false_eq_true, and_false, false_and, okp_sI, okp_sL, okp_aI, okp_aL, hR_sI, hR_sL, hR_aI, hR_aL]
      have hwu := WF_refu (f := 3) hw
      refine ⟨hwu, refu_I (by decide) (by decide), ?_⟩
      simp only [x_236_12, x_236_13, x_236_16, x_236_17, x_236_18, x_236_19, x_236_22, x_236_23, x_236_24, x_236_27, o_124 hwu, w_124_16 hwu, o_132 hwu, iOk_lt (k := 132) (by decide), iRd_lt (k := 132) (by decide), show LN 132 = 8 from rfl, cl2_i, cl2_r, cl2_n, cl2_l, tl_s, tl_n, true_and, and_true, Option.some.injEq, exists_eq_left', Bool.and_self, Bool.true_and, Bool.and_true, Bool.or_true, Bool.true_or, i_10, i_00, if_true, if_false, not_true_eq_false, not_false_eq_true, and_false, false_and, okp_sI, okp_sL, okp_aI, okp_aL, hR_sI, hR_sL, hR_aI, hR_aL, inb_nI (n := 8) hs (by decide), nI_clamp (n := s) (by omega), m_meets_3 hwu]
      rw [if_pos (show hI (refu h 3) 132 s = 4 by rw [refu_I (by decide) (by decide), D.1]; exact q)]
      first | exact cm_ref (by decide) hc | exact ⟨rfl, cm_ref (by decide) hc⟩ | exact ⟨⟨_, rfl, rfl⟩, cm_ref (by decide) hc⟩
    · rw [if_neg q]
      simp only [x_128_32, x_128_33, x_128_36, x_128_37, x_128_40, x_128_41, x_128_42, o_0 hw, w_0_2 hw, w_0_6 hw, o_15 hw, o_3 hw, show LN 3 = 8 from rfl, cl2_i, cl2_r, cl2_n, cl2_l, tl_s, tl_n, true_and, and_true, Option.some.injEq, exists_eq_left', Bool.and_self, Bool.true_and, Bool.and_true, Bool.or_true, Bool.true_or, i_10, i_00, if_true, if_false, not_true_eq_false, not_false_eq_true, and_false, false_and, okp_sI, okp_sL, okp_aI, okp_aL, hR_sI, hR_sL, hR_aI, hR_aL, inb_nI (n := 8) hs (by decide), nI_clamp (n := s) (by omega), w1, w2]
      refine c_blend (d := 16) hw (o_15 hw) (is_sh hs) (by omega) C W (fun h2 f2 A2 => ?_)
      have hw2 := f2.WF hw
      have fS : Fq Sc h h2 := f2.wk (fun a b q => by unfold Sc; omega)
      obtain ⟨okX, okY, okL, okL2⟩ := me_ok W
      have key : ∀ U : Int, R6 U → U ≠ -9223372036854775808 → (U = if y = 0 then plX (b * sQ (wgt kd ex) M) (blS kd tn sx sy ex M) else plY (b * sQ (wgt kd ex) M) (blS kd tn sx sy ex M)) → ∀ h3, h3 = sL (sL h2 0 17 (jv U / lN (gdN U (plD (b * sQ (wgt kd ex) M) (blS kd tn sx sy ex M))))) 0 18 (jv (plD (b * sQ (wgt kd ex) M) (blS kd tn sx sy ex M)) / lN (gdN U (plD (b * sQ (wgt kd ex) M) (blS kd tn sx sy ex M)))) → WF h3 ∧ hI h3 134 s = hI h 134 s ∧ Tr sc 19 236 (12, [some (.ref 124), some (.int (nI s)), some (.int y), some (.int 0), none, none, none, none, none, none, none, none, none, none, none, none, none, none, none, none, none, none], [], h3) (fun r2 => r2.1 = some (Value.int 1) ∧ CM r2.2) := by
        intro U hU hU2 eU h3 hh3
        have hw3 : WF h3 := by rw [hh3]; exact hw2
        have f3 : Fq Sd h h3 := by rw [hh3]; exact (fS.toD.sL (by unfold Sd; omega)).sL (by unfold Sd; omega)
        have D3 : ShM h3 s kd b M tn sx sy ex := D.fr f3 (fun a j h1 h2 => by unfold Sd Sc; omega)
        refine ⟨hw3, f3.i (by unfold Sd Sc; omega), ?_⟩
        obtain ⟨wb1, wb2⟩ := sQ_w W M (Nat.le_refl _)
        have D3' := D3
        obtain ⟨d1, d2, d3, d4⟩ := D3'
        have e1 : wtS (fun j => if kd = 3 then hI h3 138 (6 * s + j) else 1) M = iv (sQ (wgt kd ex) M) := wtS_iv M (fun j hj => by
          show (if kd = 3 then hI h3 138 (6 * s + j) else 1) = iv (wgt kd ex j)
          unfold wgt
          by_cases q : kd = 3
          · rw [if_pos q, if_pos q]; exact (d4 j hj).2.2.2 (Or.inl q)
          · rw [if_neg q, if_neg q]; rfl)
        simp only [x_236_12, x_236_13, x_236_16, x_236_17, x_236_18, x_236_19, x_236_22, x_236_23, x_236_24, x_236_27, x_236_28, x_236_29, x_236_32, x_236_33, x_236_34, x_236_35, x_236_36, x_236_37, x_236_40, x_236_41, x_236_42, x_236_44, x_236_46, x_236_48, x_236_49, x_236_51, x_236_52, x_236_54, x_236_56, x_236_58, x_236_59, x_236_61, x_236_62, x_236_64, x_236_65, o_124 hw3, w_124_16 hw3, w_124_17 hw3, o_132 hw3, iOk_lt (k := 132) (by decide), iRd_lt (k := 132) (by decide), show LN 132 = 8 from rfl, o_133 hw3, iOk_lt (k := 133) (by decide), iRd_lt (k := 133) (by decide), show LN 133 = 8 from rfl, cl2_i, cl2_r, cl2_n, cl2_l, tl_s, tl_n, true_and, and_true, Option.some.injEq, exists_eq_left', Bool.and_self, Bool.true_and, Bool.and_true, Bool.or_true, Bool.true_or, i_10, i_00, if_true, if_false, not_true_eq_false, not_false_eq_true, and_false, false_and, okp_sI, okp_sL, okp_aI, okp_aL, hR_sI, hR_sL, hR_aI, hR_aL, inb_nI (n := 8) hs (by decide), nI_clamp (n := s) (by omega), d1, d2, q, m_weightOf hw3 hs d3 hM.2, e1, nI_j (n := b) (by omega), iv_l (z := sQ (wgt kd ex) M) ⟨by omega, by omega⟩, jv_mul]
        have lp := m_me_loop (sc := sc) (d := 18) (Q := fun r2 => r2.1 = some (Value.int 1) ∧ CM r2.2) (y := y) (S := (b : Int) * sQ (wgt kd ex) M) (v0 := jv ((b : Int) * sQ (wgt kd ex) M)) hw3 hs D3 W (fun l19 l20 l21 => ?_) M 0 none none none rfl (by omega)
        · have z1 : (b : Int) * sQ (wgt kd ex) M - (blS kd tn sx sy ex 0).1 = (b : Int) * sQ (wgt kd ex) M := Int.sub_zero _
          have z2 : (b : Int) * sQ (wgt kd ex) M - (blS kd tn sx sy ex 0).2.2.2.1 = (b : Int) * sQ (wgt kd ex) M := Int.sub_zero _
          rw [z1, z2] at lp
          exact lp
        · have z3 : ∀ A B C E : Int, A * B - -C * E = A * B + C * E := fun A B C E => by rw [Int.neg_mul, Int.sub_neg]
          have eX : ((b : Int) * sQ (wgt kd ex) M - (blS kd tn sx sy ex M).2.2.2.1) * (blS kd tn sx sy ex M).2.2.2.2.1 + (blS kd tn sx sy ex M).2.1 * (blS kd tn sx sy ex M).2.2.2.2.2 = plX (b * sQ (wgt kd ex) M) (blS kd tn sx sy ex M) := rfl
          have eY : ((b : Int) * sQ (wgt kd ex) M - (blS kd tn sx sy ex M).1) * (blS kd tn sx sy ex M).2.2.2.2.2 + (blS kd tn sx sy ex M).2.2.1 * (blS kd tn sx sy ex M).2.2.2.2.1 = plY (b * sQ (wgt kd ex) M) (blS kd tn sx sy ex M) := Int.add_comm _ _
          have eD : ((b : Int) * sQ (wgt kd ex) M - (blS kd tn sx sy ex M).1) * ((b : Int) * sQ (wgt kd ex) M - (blS kd tn sx sy ex M).2.2.2.1) - -(blS kd tn sx sy ex M).2.1 * -(blS kd tn sx sy ex M).2.2.1 = plD (b * sQ (wgt kd ex) M) (blS kd tn sx sy ex M) := by unfold plD; rw [Int.neg_mul_neg]
          have fS3 : Fq Sc (sL (sL h2 0 17 (jv U / lN (gdN U (plD (b * sQ (wgt kd ex) M) (blS kd tn sx sy ex M))))) 0 18 (jv (plD (b * sQ (wgt kd ex) M) (blS kd tn sx sy ex M)) / lN (gdN U (plD (b * sQ (wgt kd ex) M) (blS kd tn sx sy ex M))))) h3 := by rw [← hh3]; exact Fq.rf
          simp only [x_236_233, x_236_234, x_236_235, x_236_238, x_236_240, x_236_242, x_236_243, x_236_245, x_236_247, x_236_248, x_236_249, x_236_252, x_236_254, x_236_256, x_236_257, x_236_259, x_236_261, x_236_262, x_236_263, x_236_265, x_236_267, x_236_268, x_236_270, x_236_272, x_236_273, x_236_274, o_124 hw3, cl2_i, cl2_r, cl2_n, cl2_l, tl_s, tl_n, true_and, and_true, Option.some.injEq, exists_eq_left', Bool.and_self, Bool.true_and, Bool.and_true, Bool.or_true, Bool.true_or, i_10, i_00, if_true, if_false, not_true_eq_false, not_false_eq_true, and_false, false_and, okp_sI, okp_sL, okp_aI, okp_aL, hR_sI, hR_sL, hR_aI, hR_aL, jv_mul, jv_sub, eD, z3, eX, eY]
          by_cases ew : y = 0
          · rw [if_pos ew] at eU ⊢
            rw [← eU, m_share hw3 hU hU2 okL okL2]
            simp only [x_236_277, cl2_i, cl2_r, cl2_n, cl2_l, tl_s, tl_n, true_and, and_true, Option.some.injEq, exists_eq_left', Bool.and_self, Bool.true_and, Bool.and_true, Bool.or_true, Bool.true_or, i_10, i_00, if_true, if_false, not_true_eq_false, not_false_eq_true, and_false, false_and, okp_sI, okp_sL, okp_aI, okp_aL, hR_sI, hR_sL, hR_aI, hR_aL]
            first | exact cm_eF hc fS fS3 | exact ⟨rfl, cm_eF hc fS fS3⟩ | exact ⟨⟨_, rfl, rfl⟩, cm_eF hc fS fS3⟩
          · rw [if_neg ew] at eU ⊢
            rw [← eU, m_share hw3 hU hU2 okL okL2]
            simp only [x_236_277, cl2_i, cl2_r, cl2_n, cl2_l, tl_s, tl_n, true_and, and_true, Option.some.injEq, exists_eq_left', Bool.and_self, Bool.true_and, Bool.and_true, Bool.or_true, Bool.true_or, i_10, i_00, if_true, if_false, not_true_eq_false, not_false_eq_true, and_false, false_and, okp_sI, okp_sL, okp_aI, okp_aL, hR_sI, hR_sL, hR_aI, hR_aL]
            first | exact cm_eF hc fS fS3 | exact ⟨rfl, cm_eF hc fS fS3⟩ | exact ⟨⟨_, rfl, rfl⟩, cm_eF hc fS fS3⟩
      simp only [x_128_45, x_128_46, x_128_47, x_128_50, x_128_51, x_128_54, x_128_57, x_128_60, x_128_61, x_128_64, x_128_67, o_0 hw2, w_0_6 hw2, o_15 hw2, cl2_i, cl2_r, cl2_n, cl2_l, tl_s, tl_n, true_and, and_true, Option.some.injEq, exists_eq_left', Bool.and_self, Bool.true_and, Bool.and_true, Bool.or_true, Bool.true_or, i_10, i_00, if_true, if_false, not_true_eq_false, not_false_eq_true, and_false, false_and, okp_sI, okp_sL, okp_aI, okp_aL, hR_sI, hR_sL, hR_aI, hR_aL, o_15 hw2, c_fixedX (o_15 hw2) A2, c_fixedY (o_15 hw2) A2]
      by_cases ew : y = 0
      · rw [if_pos ew]
        simp only [x_128_68, x_128_71, x_128_74, o_0 hw2, w_0_6 hw2, o_15 hw2, cl2_i, cl2_r, cl2_n, cl2_l, tl_s, tl_n, true_and, and_true, Option.some.injEq, exists_eq_left', Bool.and_self, Bool.true_and, Bool.and_true, Bool.or_true, Bool.true_or, i_10, i_00, if_true, if_false, not_true_eq_false, not_false_eq_true, and_false, false_and, okp_sI, okp_sL, okp_aI, okp_aL, hR_sI, hR_sL, hR_aI, hR_aL, o_15 hw2, c_divisor (o_15 hw2) A2]
        change Tr sc 18 154 (ent0 154 [.ref 0, .long (jv (plX (b * sQ (wgt kd ex) M) (blS kd tn sx sy ex M))), .long (jv (plD (b * sQ (wgt kd ex) M) (blS kd tn sx sy ex M)))] h2) _
        rw [c_tell hw2 okX.1 okX.2 okL okL2]
        simp only [x_128_77, x_128_78, cl2_i, cl2_r, cl2_n, cl2_l, tl_s, tl_n, true_and, and_true, Option.some.injEq, exists_eq_left', Bool.and_self, Bool.true_and, Bool.and_true, Bool.or_true, Bool.true_or, i_10, i_00, if_true, if_false, not_true_eq_false, not_false_eq_true, and_false, false_and, okp_sI, okp_sL, okp_aI, okp_aL, hR_sI, hR_sL, hR_aI, hR_aL]
        exact key _ okX.1 okX.2 (by rw [if_pos ew]) _ rfl
      · rw [if_neg ew]
        simp only [x_128_68, x_128_71, x_128_74, o_0 hw2, w_0_6 hw2, o_15 hw2, cl2_i, cl2_r, cl2_n, cl2_l, tl_s, tl_n, true_and, and_true, Option.some.injEq, exists_eq_left', Bool.and_self, Bool.true_and, Bool.and_true, Bool.or_true, Bool.true_or, i_10, i_00, if_true, if_false, not_true_eq_false, not_false_eq_true, and_false, false_and, okp_sI, okp_sL, okp_aI, okp_aL, hR_sI, hR_sL, hR_aI, hR_aL, o_15 hw2, c_divisor (o_15 hw2) A2]
        change Tr sc 18 154 (ent0 154 [.ref 0, .long (jv (plY (b * sQ (wgt kd ex) M) (blS kd tn sx sy ex M))), .long (jv (plD (b * sQ (wgt kd ex) M) (blS kd tn sx sy ex M)))] h2) _
        rw [c_tell hw2 okY.1 okY.2 okL okL2]
        simp only [x_128_77, x_128_78, cl2_i, cl2_r, cl2_n, cl2_l, tl_s, tl_n, true_and, and_true, Option.some.injEq, exists_eq_left', Bool.and_self, Bool.true_and, Bool.and_true, Bool.or_true, Bool.true_or, i_10, i_00, if_true, if_false, not_true_eq_false, not_false_eq_true, and_false, false_and, okp_sI, okp_sL, okp_aI, okp_aL, hR_sI, hR_sL, hR_aI, hR_aL]
        exact key _ okY.1 okY.2 (by rw [if_neg ew]) _ rfl
end ME
