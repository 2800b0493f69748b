/-! ===== fractions in lowest terms; place ===== -/
def gdN (U L : Int) : Nat := Nat.gcd U.natAbs L.natAbs
section FR2
variable {sc : Nat × (Nat → Int32)} {d : Nat} {Q : PRes → Prop} {h h' H : PH} {k s r b M i j t n : Nat} {kd x y z w : Int32} {tn : Nat → Nat} {sx sy ex : Nat → Int}
theorem lN_jv (n : Nat) : lN n = jv n := Int64.ofInt_eq_ofNat.symm
theorem lcmp_ge {a b : Int64} : (0 ≤ lg_cmp a b) = (b.toInt ≤ a.toInt) := by
  apply propext
  have e1 := (Int64.lt_iff_toInt_lt (x := b) (y := a))
  unfold lg_cmp
  by_cases q : a > b
  · rw [if_pos q]
    have := e1.mp q
    exact ⟨fun _ => by omega, fun _ => by decide⟩
  · rw [if_neg q]
    by_cases q2 : a = b
    · rw [if_pos q2, q2]; exact ⟨fun _ => Int.le_refl _, fun _ => by decide⟩
    · rw [if_neg q2]
      refine ⟨fun z => absurd z (by decide), fun z => ?_⟩
      have h3 : ¬ b.toInt < a.toInt := fun z => q (e1.mpr z)
      exact absurd (Int64.toInt_inj.mp (show a.toInt = b.toInt by omega)) q2
theorem lcmp_0 {a b : Int64} : (lg_cmp a b = 0) = (a = b) := by
  apply propext
  unfold lg_cmp
  by_cases q : a > b
  · rw [if_pos q]
    refine ⟨fun z => absurd z (by decide), fun z => ?_⟩
    rw [z] at q
    exact absurd (Int64.lt_iff_toInt_lt.mp q) (by omega)
  · rw [if_neg q]
    by_cases q2 : a = b
    · rw [if_pos q2]; exact ⟨fun _ => q2, fun _ => rfl⟩
    · rw [if_neg q2]; exact ⟨fun z => absurd z (by decide), fun z => absurd z q2⟩
theorem c_gcd_s {a b i : Nat} {l5 l6 : Option Value} (hb : 0 < b) (ha : a < 2 ^ 63) (hb2 : b < 2 ^ 63) (hi : i < 1000000) : Tr sc d 155 (3, [some (.long (lN a)), none, some (.long (lN b)), none, some (.int (nI i)), l5, l6], [], h) Q = Tr sc d 155 (3, [some (.long (lN b)), none, some (.long (lN (a % b))), none, some (.int (nI (i + 1))), some (.long (lN (a % b))), none], [], h) Q := by
  have e0 : ¬ lN b = 0 := fun q => by have := (pk_lEQ (a := b) (b := 0) hb2 (by decide)).mp q; omega
  have e1 : ¬ (1000000 : Int32) ≤ nI i := nI_ge (a := i) (b := 1000000) hi (by decide)
  rw [x_155_3]
  simp only [x_155_5, x_155_8, x_155_11, x_155_12, x_155_13, x_155_14, x_155_17, x_155_18, x_155_19, x_155_20, x_155_22, x_155_23, x_155_24, x_155_26, x_155_27, x_155_30, cl2_i, cl2_r, cl2_n, cl2_l, tl_s, tl_n, true_and, and_true, Option.some.injEq, exists_eq_left', Bool.and_self, Bool.true_and, Bool.and_true, Bool.or_true, Bool.true_or, i_10, i_00, if_true, if_false, not_true_eq_false, not_false_eq_true, and_false, false_and, okp_sI, okp_sL, okp_aI, okp_aL, hR_sI, hR_sL, hR_aI, hR_aL, lcmp_0, e0, e1, pk_lRem ha hb hb2, nI_1]
theorem c_gcd_0 {a i : Nat} {l5 l6 : Option Value} (hi : i < 1000000) : Tr sc d 155 (3, [some (.long (lN a)), none, some (.long (lN 0)), none, some (.int (nI i)), l5, l6], [], h) Q = Q (some (.long (lN a)), h) := by
  have e0 : lN 0 = 0 := rfl
  have e1 : ¬ (1000000 : Int32) ≤ nI i := nI_ge (a := i) (b := 1000000) hi (by decide)
  rw [x_155_3]
  simp only [x_155_5, x_155_8, x_155_11, x_155_12, x_155_13, x_155_14, x_155_17, x_155_18, x_155_19, x_155_20, x_155_22, x_155_23, x_155_24, x_155_26, x_155_27, x_155_30, x_155_33, x_155_34, cl2_i, cl2_r, cl2_n, cl2_l, tl_s, tl_n, true_and, and_true, Option.some.injEq, exists_eq_left', Bool.and_self, Bool.true_and, Bool.and_true, Bool.or_true, Bool.true_or, i_10, i_00, if_true, if_false, not_true_eq_false, not_false_eq_true, and_false, false_and, okp_sI, okp_sL, okp_aI, okp_aL, hR_sI, hR_sL, hR_aI, hR_aL, lcmp_0, e0, e1]
theorem c_gcd_l : ∀ (m a b i : Nat) (l5 l6 : Option Value), b < 2 ^ m → m ≤ 63 → a < 2 ^ 63 → i + 2 * m < 1000000 → Tr sc d 155 (3, [some (.long (lN a)), none, some (.long (lN b)), none, some (.int (nI i)), l5, l6], [], h) Q = Q (some (.long (lN (Nat.gcd a b))), h) := by
  intro m
  induction m with
  | zero =>
    intro a b i l5 l6 hb hm ha hi
    have e : b = 0 := by omega
    subst e
    rw [c_gcd_0 (by omega), Nat.gcd_zero_right]
  | succ m ih =>
    intro a b i l5 l6 hb hm ha hi
    have hb63 : b < 2 ^ 63 := Nat.lt_of_lt_of_le hb (Nat.pow_le_pow_right (by decide) hm)
    by_cases e : b = 0
    · subst e
      rw [c_gcd_0 (by omega), Nat.gcd_zero_right]
    · have hlt : a % b < b := Nat.mod_lt _ (by omega)
      rw [c_gcd_s (by omega) ha hb63 (by omega)]
      have g1 : Nat.gcd a b = Nat.gcd b (a % b) := by
        rw [Nat.gcd_comm a b, Nat.gcd_rec b a, Nat.gcd_comm]
      by_cases e2 : a % b = 0
      · rw [g1, e2, c_gcd_0 (by omega), Nat.gcd_zero_right]
      · rw [c_gcd_s (by omega) hb63 (by omega) (by omega), g1]
        generalize a % b = c at *
        have hl2 : b % c < c := Nat.mod_lt _ (by omega)
        have hl3 : b % c + c ≤ b := by
          have h1 := Nat.div_add_mod b c
          have h2 : 1 ≤ b / c := Nat.div_pos (by omega) (by omega)
          have h3 : c * 1 ≤ c * (b / c) := Nat.mul_le_mul_left c h2
          omega
        have g2 : Nat.gcd b c = Nat.gcd c (b % c) := by
          rw [Nat.gcd_comm b c, Nat.gcd_rec c b, Nat.gcd_comm]
        rw [g2]
        exact ih c (b % c) (i + 1 + 1) _ _ (by rw [Nat.pow_succ] at hb; omega) (by omega) (by omega) (by omega)
theorem c_gcd {a b : Nat} (ha : a < 2 ^ 63) (hb : b < 2 ^ 63) : Tr sc d 155 (ent0 155 [.long (lN a), .long (lN b)] h) Q = Q (some (.long (lN (Nat.gcd a b))), h) := by
  rw [e_155]
  simp only [x_155_0, x_155_1, cl2_i, cl2_r, cl2_n, cl2_l, tl_s, tl_n, true_and, and_true, Option.some.injEq, exists_eq_left', Bool.and_self, Bool.true_and, Bool.and_true, Bool.or_true, Bool.true_or, i_10, i_00, if_true, if_false, not_true_eq_false, not_false_eq_true, and_false, false_and, okp_sI, okp_sL, okp_aI, okp_aL, hR_sI, hR_sL, hR_aI, hR_aL]
  exact c_gcd_l 63 a b 0 none none hb (by decide) ha (by decide)
theorem j_abs {U : Int} (hU : R6 U) (hU2 : U ≠ -9223372036854775808) : (if 0 < jv U then jv U else -jv U) = lN U.natAbs ∧ (if 0 ≤ U then jv U else -jv U) = lN U.natAbs := by
  have e0 : (0 : Int64) = jv 0 := rfl
  have e1 : (0 < jv U) = (0 < U) := by
    rw [e0]
    apply propext
    rw [Int64.lt_iff_toInt_lt, jv_t hU, jv_t ⟨by decide, by decide⟩]
  rw [lN_jv]
  refine ⟨?_, ?_⟩
  · by_cases q : 0 < U
    · rw [if_pos (by rw [e1]; exact q)]; congr 1; omega
    · rw [if_neg (by rw [e1]; exact q), jv_neg]; congr 1; omega
  · by_cases q : 0 ≤ U
    · rw [if_pos q]; congr 1; omega
    · rw [if_neg q, jv_neg]; congr 1; omega
theorem gd_pos {U L : Int} (hL : 0 < L) : 0 < gdN U L := Nat.gcd_pos_of_pos_right _ (by omega)
theorem gd_lt {U L : Int} (hL : 0 < L) (hL2 : R6 L) : gdN U L < 2 ^ 63 := by
  have h1 : gdN U L ≤ L.natAbs := Nat.le_of_dvd (by omega) (Nat.gcd_dvd_right _ _)
  have := hL2.2
  omega
theorem c_tell {U L : Int} (hw : WF h) (hU : R6 U) (hU2 : U ≠ -9223372036854775808) (hL : 0 < L) (hL2 : R6 L) : Tr sc (d + 1) 154 (ent0 154 [.ref 0, .long (jv U), .long (jv L)] h) Q = Q (none, sL (sL h 0 17 (jv U / lN (gdN U L))) 0 18 (jv L / lN (gdN U L))) := by
  have hg := gd_pos (U := U) hL
  have hg2 := gd_lt (U := U) hL hL2
  have eL : jv L = lN L.natAbs := by rw [lN_jv]; congr 1; omega
  have hU3 : U.natAbs < 2 ^ 63 := by have := hU.1; have := hU.2; omega
  have hL3 : L.natAbs < 2 ^ 63 := by have := hL2.2; omega
  have n0 : ¬ lN (gdN U L) = 0 := fun q => by have := (pk_lEQ (a := gdN U L) (b := 0) hg2 (by decide)).mp q; omega
  have n1 : ¬ (lN (gdN U L)).toInt ≤ (0 : Int64).toInt := by
    rw [pk_lT hg2, show (0 : Int64).toInt = 0 from rfl]; omega
  rw [e_154]
  simp only [x_154_0, x_154_1, x_154_4, o_0 hw, cl2_i, cl2_r, cl2_n, cl2_l, tl_s, tl_n, true_and, and_true, Option.some.injEq, exists_eq_left', Bool.and_self, Bool.true_and, Bool.and_true, Bool.or_true, Bool.true_or, i_10, i_00, if_true, if_false, not_true_eq_false, not_false_eq_true, and_false, false_and, okp_sI, okp_sL, okp_aI, okp_aL, hR_sI, hR_sL, hR_aI, hR_aL, (j_abs hU hU2).1]
  simp only [x_154_5, o_0 hw, cl2_i, cl2_r, cl2_n, cl2_l, tl_s, tl_n, true_and, and_true, Option.some.injEq, exists_eq_left', Bool.and_self, Bool.true_and, Bool.and_true, Bool.or_true, Bool.true_or, i_10, i_00, if_true, if_false, not_true_eq_false, not_false_eq_true, and_false, false_and, okp_sI, okp_sL, okp_aI, okp_aL, hR_sI, hR_sL, hR_aI, hR_aL]
  rw [show jv L = lN L.natAbs from eL, c_gcd hU3 hL3]
  simp only [x_154_8, x_154_10, x_154_12, x_154_13, x_154_14, x_154_17, x_154_18, x_154_19, x_154_21, x_154_22, x_154_25, x_154_26, x_154_27, x_154_29, x_154_30, x_154_33, o_0 hw, cl2_i, cl2_r, cl2_n, cl2_l, tl_s, tl_n, true_and, and_true, Option.some.injEq, exists_eq_left', Bool.and_self, Bool.true_and, Bool.and_true, Bool.or_true, Bool.true_or, i_10, i_00, if_true, if_false, not_true_eq_false, not_false_eq_true, and_false, false_and, okp_sI, okp_sL, okp_aI, okp_aL, hR_sI, hR_sL, hR_aI, hR_aL, lcmp_le, show Nat.gcd U.natAbs L.natAbs = gdN U L from rfl, n0, n1]
theorem m_sh_loop {Uv Lv : Int64} : ∀ (n a b : Nat) (l9 l10 : Option Value), b < n → a < 2 ^ 63 → b < 2 ^ 63 → ∃ l9' l10', Tr sc d 160 (28, [some (.ref 124), some (.long Uv), none, some (.long Lv), none, some (.long (lN a)), none, some (.long (lN b)), none, l9, l10], [], h) Q = Tr sc d 160 (53, [some (.ref 124), some (.long Uv), none, some (.long Lv), none, some (.long (lN (Nat.gcd a b))), none, some (.long (lN 0)), none, l9', l10'], [], h) Q := by
  intro n
  induction n with
  | zero => intro a b l9 l10 h1; omega
  | succ n ih =>
    intro a b l9 l10 h1 ha hb
    by_cases e : b = 0
    · subst e
      refine ⟨l9, l10, ?_⟩
      rw [x_160_28]
      simp only [x_160_30, x_160_31, x_160_32, x_160_35, x_160_37, x_160_39, x_160_40, x_160_42, x_160_44, x_160_46, x_160_48, x_160_50, cl2_i, cl2_r, cl2_n, cl2_l, tl_s, tl_n, true_and, and_true, Option.some.injEq, exists_eq_left', Bool.and_self, Bool.true_and, Bool.and_true, Bool.or_true, Bool.true_or, i_10, i_00, if_true, if_false, not_true_eq_false, not_false_eq_true, and_false, false_and, okp_sI, okp_sL, okp_aI, okp_aL, hR_sI, hR_sL, hR_aI, hR_aL, lcmp_0, show lN 0 = 0 from rfl, Nat.gcd_zero_right]
    · have e0 : ¬ lN b = 0 := fun q => by have := (pk_lEQ (a := b) (b := 0) hb (by decide)).mp q; omega
      have hlt : a % b < b := Nat.mod_lt _ (by omega)
      obtain ⟨l9', l10', st⟩ := ih b (a % b) (some (.long (lN (a % b)))) none (by omega) hb (by omega)
      refine ⟨l9', l10', ?_⟩
      rw [x_160_28]
      simp only [x_160_30, x_160_31, x_160_32, x_160_35, x_160_37, x_160_39, x_160_40, x_160_42, x_160_44, x_160_46, x_160_48, x_160_50, cl2_i, cl2_r, cl2_n, cl2_l, tl_s, tl_n, true_and, and_true, Option.some.injEq, exists_eq_left', Bool.and_self, Bool.true_and, Bool.and_true, Bool.or_true, Bool.true_or, i_10, i_00, if_true, if_false, not_true_eq_false, not_false_eq_true, and_false, false_and, okp_sI, okp_sL, okp_aI, okp_aL, hR_sI, hR_sL, hR_aI, hR_aL, lcmp_0, e0, pk_lRem ha (show 0 < b by omega) hb]
      rw [st]
      have g1 : Nat.gcd a b = Nat.gcd b (a % b) := by
        rw [Nat.gcd_comm a b, Nat.gcd_rec b a, Nat.gcd_comm]
      rw [g1]
theorem m_share {U L : Int} (hw : WF h) (hU : R6 U) (hU2 : U ≠ -9223372036854775808) (hL : 0 < L) (hL2 : R6 L) : Tr sc d 160 (ent0 160 [.ref 124, .long (jv U), .long (jv L)] h) Q = Q (some (.int 1), sL (sL h 124 4 (jv U / lN (gdN U L))) 124 5 (jv L / lN (gdN U L))) := by
  have hg := gd_pos (U := U) hL
  have hg2 := gd_lt (U := U) hL hL2
  have hU3 : U.natAbs < 2 ^ 63 := by have := hU.1; have := hU.2; omega
  have hL3 : L.natAbs < 2 ^ 63 := by have := hL2.2; omega
  have n0 : ¬ lN (gdN U L) = 0 := fun q => by have := (pk_lEQ (a := gdN U L) (b := 0) hg2 (by decide)).mp q; omega
  have z0 : (0 : Int64).toInt = 0 := rfl
  have zU : (jv U).toInt = U := jv_t hU
  have zL : (jv L).toInt = L := jv_t hL2
  have zLt : (0 ≤ L) = True := eq_true (by omega)
  have eL : jv L = lN L.natAbs := by rw [lN_jv]; congr 1; omega
  rw [e_160]
  simp only [x_160_0, x_160_1, x_160_2, x_160_3, x_160_6, x_160_7, x_160_8, x_160_11, x_160_12, x_160_14, x_160_15, x_160_16, x_160_17, x_160_20, x_160_21, x_160_22, x_160_25, x_160_26, o_124 hw, cl2_i, cl2_r, cl2_n, cl2_l, tl_s, tl_n, true_and, and_true, Option.some.injEq, exists_eq_left', Bool.and_self, Bool.true_and, Bool.and_true, Bool.or_true, Bool.true_or, i_10, i_00, if_true, if_false, not_true_eq_false, not_false_eq_true, and_false, false_and, okp_sI, okp_sL, okp_aI, okp_aL, hR_sI, hR_sL, hR_aI, hR_aL, lcmp_ge, z0, zU, zL, zLt]
  have st : ∀ v : Int64, v = lN U.natAbs → Tr sc d 160 (28, [some (.ref 124), some (.long (jv U)), none, some (.long (jv L)), none, some (.long v), none, some (.long (jv L)), none, none, none], [], h) Q = Q (some (.int 1), sL (sL h 124 4 (jv U / lN (gdN U L))) 124 5 (jv L / lN (gdN U L))) := by
    intro v hv
    obtain ⟨l9', l10', e1⟩ := m_sh_loop (sc := sc) (d := d) (Q := Q) (h := h) (Uv := jv U) (Lv := jv L) (L.natAbs + 1) U.natAbs L.natAbs none none (by omega) hU3 hL3
    rw [hv, show (some (Value.long (jv L)) : Option Value) = some (.long (lN L.natAbs)) by rw [eL]]
    rw [eL] at e1
    rw [e1, ← eL]
    simp only [x_160_53, x_160_54, x_160_55, x_160_56, x_160_59, x_160_61, x_160_62, x_160_65, x_160_67, x_160_69, x_160_70, x_160_71, x_160_73, x_160_74, x_160_77, x_160_78, x_160_79, x_160_81, x_160_82, x_160_85, x_160_86, o_124 hw, cl2_i, cl2_r, cl2_n, cl2_l, tl_s, tl_n, true_and, and_true, Option.some.injEq, exists_eq_left', Bool.and_self, Bool.true_and, Bool.and_true, Bool.or_true, Bool.true_or, i_10, i_00, if_true, if_false, not_true_eq_false, not_false_eq_true, and_false, false_and, okp_sI, okp_sL, okp_aI, okp_aL, hR_sI, hR_sL, hR_aI, hR_aL, lcmp_ge, z0, zL, zLt, show Nat.gcd U.natAbs L.natAbs = gdN U L from rfl, n0]
  have ja := (j_abs hU hU2).2
  by_cases q : 0 ≤ U
  · rw [if_pos q] at ja
    rw [if_pos q]
    exact st _ ja
  · rw [if_neg q] at ja
    rw [if_neg q]
    exact st _ ja
theorem mulB {a b A B : Int} (ha : -A ≤ a ∧ a ≤ A) (hb : -B ≤ b ∧ b ≤ B) : -(A * B) ≤ a * b ∧ a * b ≤ A * B := by
  have hA : 0 ≤ A := by omega
  have hB : 0 ≤ B := by omega
  have h1 : a.natAbs ≤ A.toNat := by omega
  have h2 : b.natAbs ≤ B.toNat := by omega
  have h3 := Nat.mul_le_mul h1 h2
  rw [← Int.natAbs_mul] at h3
  have h4 : ((A.toNat * B.toNat : Nat) : Int) = A * B := by rw [Int.natCast_mul, Int.toNat_of_nonneg hA, Int.toNat_of_nonneg hB]
  generalize a * b = p at *
  generalize A * B = q at *
  generalize A.toNat * B.toNat = r at *
  omega
theorem tX_b {X Y B : Int} (ht : t ≤ 7) (hX : -B ≤ X ∧ X ≤ B) (hY : -B ≤ Y ∧ Y ≤ B) : (-B ≤ tX t X Y ∧ tX t X Y ≤ B) ∧ (-B ≤ tY t X Y ∧ tY t X Y ≤ B) := by
  match t, ht with
  | 0, _ => simp only [tX, tY, xxT, xyT, yxT, yyT]; omega
  | 1, _ => simp only [tX, tY, xxT, xyT, yxT, yyT]; omega
  | 2, _ => simp only [tX, tY, xxT, xyT, yxT, yyT]; omega
  | 3, _ => simp only [tX, tY, xxT, xyT, yxT, yyT]; omega
  | 4, _ => simp only [tX, tY, xxT, xyT, yxT, yyT]; omega
  | 5, _ => simp only [tX, tY, xxT, xyT, yxT, yyT]; omega
  | 6, _ => simp only [tX, tY, xxT, xyT, yxT, yyT]; omega
  | 7, _ => simp only [tX, tY, xxT, xyT, yxT, yyT]; omega
  | n + 8, hn => omega
theorem t_comp0 : ∀ t0, t0 < 8 → ∀ t, t < 8 → (List.range 8).any (fun r => decide (tX t0 (xxT t) (yxT t) = xxT r ∧ tX t0 (xyT t) (yyT t) = xyT r ∧ tY t0 (xxT t) (yxT t) = yxT r ∧ tY t0 (xyT t) (yyT t) = yyT r)) = true := by decide +kernel
theorem t_comp {t0 t : Nat} (h0 : t0 ≤ 7) (h1 : t ≤ 7) : ∃ r, r ≤ 7 ∧ tX t0 (xxT t) (yxT t) = xxT r ∧ tX t0 (xyT t) (yyT t) = xyT r ∧ tY t0 (xxT t) (yxT t) = yxT r ∧ tY t0 (xyT t) (yyT t) = yyT r := by
  obtain ⟨r, hr, e⟩ := List.any_eq_true.mp (t_comp0 t0 (by omega) t (by omega))
  exact ⟨r, by have := List.mem_range.mp hr; omega, of_decide_eq_true e⟩
/-- what a word's map looks like: a turn, and a shift that is not far -/
theorem afs_ok {u : Nat → Nat} {N : Nat} (hb : b ≤ 4) (hu : ∀ m, m < N → tn (u m) ≤ 7 ∧ (-9 ≤ sx (u m) ∧ sx (u m) ≤ 9) ∧ (-9 ≤ sy (u m) ∧ sy (u m) ≤ 9)) : ∀ m, m ≤ N → (∃ t, t ≤ 7 ∧ (afs b tn sx sy u m).1 = xxT t ∧ (afs b tn sx sy u m).2.1 = xyT t ∧ (afs b tn sx sy u m).2.2.1 = yxT t ∧ (afs b tn sx sy u m).2.2.2.1 = yyT t) ∧ (-(3 * 4 ^ m) ≤ (afs b tn sx sy u m).2.2.2.2.1 ∧ (afs b tn sx sy u m).2.2.2.2.1 ≤ 3 * 4 ^ m) ∧ (-(3 * 4 ^ m) ≤ (afs b tn sx sy u m).2.2.2.2.2 ∧ (afs b tn sx sy u m).2.2.2.2.2 ≤ 3 * 4 ^ m) := by
  intro m
  induction m with
  | zero =>
    intro _
    refine ⟨⟨0, by decide, rfl, rfl, rfl, rfl⟩, ?_, ?_⟩
    · show -(3 * 4 ^ 0) ≤ (0 : Int) ∧ (0 : Int) ≤ 3 * 4 ^ 0
      decide
    · show -(3 * 4 ^ 0) ≤ (0 : Int) ∧ (0 : Int) ≤ 3 * 4 ^ 0
      decide
  | succ m ih =>
    intro hm
    obtain ⟨⟨t, ht, e1, e2, e3, e4⟩, p1, p2⟩ := ih (by omega)
    obtain ⟨t7, hx, hy⟩ := hu m (by omega)
    rw [afs_s]
    generalize afs b tn sx sy u m = zz at *
    generalize tn (u m) = t0 at *
    have hp : -(4 ^ m : Int) ≤ (b : Int) ^ m ∧ (b : Int) ^ m ≤ 4 ^ m := by
      have q := Nat.pow_le_pow_left hb m
      have q2 : ((b ^ m : Nat) : Int) = (b : Int) ^ m := by norm_cast
      have q3 : ((4 ^ m : Nat) : Int) = (4 : Int) ^ m := by norm_cast
      omega
    have b1 := mulB hp (B := 9) hx
    have b2 := mulB hp (B := 9) hy
    obtain ⟨c1, c2⟩ := tX_b t7 p1 p2
    refine ⟨?_, ?_, ?_⟩
    · show ∃ r, r ≤ 7 ∧ tX t0 zz.1 zz.2.2.1 = xxT r ∧ tX t0 zz.2.1 zz.2.2.2.1 = xyT r ∧ tY t0 zz.1 zz.2.2.1 = yxT r ∧ tY t0 zz.2.1 zz.2.2.2.1 = yyT r
      rw [e1, e2, e3, e4]
      exact t_comp t7 ht
    · show -(3 * 4 ^ (m + 1)) ≤ tX t0 zz.2.2.2.2.1 zz.2.2.2.2.2 + (b : Int) ^ m * sx (u m) ∧ tX t0 zz.2.2.2.2.1 zz.2.2.2.2.2 + (b : Int) ^ m * sx (u m) ≤ 3 * 4 ^ (m + 1)
      rw [Int.pow_succ]
      generalize (b : Int) ^ m * sx (u m) = g1 at *
      generalize (4 : Int) ^ m = g2 at *
      omega
    · show -(3 * 4 ^ (m + 1)) ≤ tY t0 zz.2.2.2.2.1 zz.2.2.2.2.2 + (b : Int) ^ m * sy (u m) ∧ tY t0 zz.2.2.2.2.1 zz.2.2.2.2.2 + (b : Int) ^ m * sy (u m) ≤ 3 * 4 ^ (m + 1)
      rw [Int.pow_succ]
      generalize (b : Int) ^ m * sy (u m) = g1 at *
      generalize (4 : Int) ^ m = g2 at *
      omega
/-- the divisor is above 0 -/
theorem dv_pos {S : Int} (hS : 2 ≤ S) (hS2 : S ≤ 4096) (ht : t ≤ 7) : 0 < (S - xxT t) * (S - yyT t) - xyT t * yxT t ∧ (S - xxT t) * (S - yyT t) - xyT t * yxT t ≤ 20000000 := by
  have hub : ∀ p q : Int, (-4097 ≤ p ∧ p ≤ 4097) → (-4097 ≤ q ∧ q ≤ 4097) → p * q ≤ 4097 * 4097 := fun p q a b => (mulB a b).2
  match t, ht with
  | 0, _ => simp only [xxT, xyT, yxT, yyT]; have := Int.mul_pos (show 0 < S - 1 by omega) (show 0 < S - 1 by omega); have := hub (S - 1) (S - 1) (by omega) (by omega); omega
  | 1, _ => simp only [xxT, xyT, yxT, yyT]; have := Int.mul_pos (show 0 < S - 0 by omega) (show 0 < S - 0 by omega); have := hub (S - 0) (S - 0) (by omega) (by omega); omega
  | 2, _ => simp only [xxT, xyT, yxT, yyT]; have := Int.mul_pos (show 0 < S - -1 by omega) (show 0 < S - -1 by omega); have := hub (S - -1) (S - -1) (by omega) (by omega); omega
  | 3, _ => simp only [xxT, xyT, yxT, yyT]; have := Int.mul_pos (show 0 < S - 0 by omega) (show 0 < S - 0 by omega); have := hub (S - 0) (S - 0) (by omega) (by omega); omega
  | 4, _ => simp only [xxT, xyT, yxT, yyT]; have := Int.mul_le_mul (show (2 : Int) ≤ S - 0 by omega) (show (2 : Int) ≤ S - 0 by omega) (by decide) (by omega); have := hub (S - 0) (S - 0) (by omega) (by omega); omega
  | 5, _ => simp only [xxT, xyT, yxT, yyT]; have := Int.mul_pos (show 0 < S - -1 by omega) (show 0 < S - 1 by omega); have := hub (S - -1) (S - 1) (by omega) (by omega); omega
  | 6, _ => simp only [xxT, xyT, yxT, yyT]; have := Int.mul_le_mul (show (2 : Int) ≤ S - 0 by omega) (show (2 : Int) ≤ S - 0 by omega) (by decide) (by omega); have := hub (S - 0) (S - 0) (by omega) (by omega); omega
  | 7, _ => simp only [xxT, xyT, yxT, yyT]; have := Int.mul_pos (show 0 < S - 1 by omega) (show 0 < S - -1 by omega); have := hub (S - 1) (S - -1) (by omega) (by omega); omega
  | n + 8, hn => omega
end FR2
