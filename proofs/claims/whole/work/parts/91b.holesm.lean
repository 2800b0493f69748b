/-! ===== holes: the model's filling ===== -/
def MSt (h : PH) (A : Nat) (s : Fst) : Prop := FA h 160 s.1 A ∧ QA h 161 s.2 ∧ SIv A s
def PPm (a _b : Nat) : Prop := a = 160 ∨ a = 161
section HM
variable {sc : Nat × (Nat → Int32)} {d : Nat} {Q : PRes → Prop} {h h' h1 H G : PH} {c k e i j n t u M N A W Hh w : Nat} {s : Fst} {ok : Bool} {z : Int} {F : Nat → Bool} {q : List Nat} {l1 : Option Value}
theorem m_fl_t (hw : WF h) (hA : A ≤ 1600) (S : MSt h A s) (hw3 : w ≤ 3) (hok : ok = true → 0 ≤ z ∧ z < A) : ∃ H, Fq PPm h H ∧ MSt H A (opn ok z.toNat s) ∧ ∀ d Q l1 l2 l3 l5 l6, cl2 l3 = l3 → cl2 l6 = l6 → Tr sc d 239 (170, [some (.ref 124), l1, l2, l3, some (.int (nI s.2.length)), l5, l6, some (.int (nI w)), some (.int (bo ok)), some (.int (iv z))], [], h) Q = Tr sc d 239 (39, [some (.ref 124), l1, l2, l3, some (.int (nI (opn ok z.toNat s).2.length)), l5, l6, some (.int (nI (w + 1))), some (.int (bo ok)), some (.int (iv z))], [], H) Q := by
  obtain ⟨s1, s2, s4⟩ := id S
  cases ho : ok
  · refine ⟨h, Fq.rf, by rw [opn_f (fun w => by cases w.1)]; exact S, fun d Q l1 l2 l3 l5 l6 g3 g6 => ?_⟩
    rw [opn_f (fun w => by cases w.1)]
    simp only [x_239_170, x_239_172, x_239_205, x_239_208, cl2_i, cl2_r, cl2_n, cl2_l, tl_s, tl_n, true_and, and_true, Option.some.injEq, exists_eq_left', Bool.and_self, Bool.true_and, Bool.and_true, Bool.or_true, Bool.true_or, i_10, i_00, if_true, if_false, not_true_eq_false, not_false_eq_true, and_false, false_and, okp_sI, okp_sL, okp_aI, okp_aL, hR_sI, hR_sL, hR_aI, hR_aL, g6, show bo false = 0 from rfl, nI_1]
  · obtain ⟨z0, z1⟩ := hok ho
    have hz : z.toNat < A := by omega
    have ez : iv z = nI z.toNat := iv_nn z0
    have i6 := inb_nI (n := 1600) (show z.toNat < 1600 by omega) (by decide)
    have c6 := nI_clamp (n := z.toNat) (by omega)
    have sz := s1 z.toNat hz
    cases q2 : s.1 z.toNat
    · have ll := iv_lt' s4 hz q2
      have lw : (s.2 ++ [z.toNat]).length = s.2.length + 1 := by rw [List.length_append]; rfl
      refine ⟨sI (sI h 160 z.toNat 1) 161 s.2.length (nI z.toNat), (Fq.rf.sI (by unfold PPm; omega)).sI (by unfold PPm; omega), ?_, fun d Q l1 l2 l3 l5 l6 g3 g6 => ?_⟩
      · have iv' := opn_iv (ok := true) (c := z.toNat) s4 (fun _ => hz)
        rw [opn_t rfl q2] at iv' ⊢
        refine ⟨fun x hx => ?_, fun j hj => ?_, iv'⟩
        · show _ = bo (if x = z.toNat then true else s.1 x)
          by_cases e : x = z.toNat
          · rw [if_pos e, e, rd_ne (by omega), rd_eq]; rfl
          · rw [if_neg e, rd_ne (by omega), rd_ne (by omega)]; exact s1 x hx
        · change j < (s.2 ++ [z.toNat]).length at hj
          show _ = nI ((s.2 ++ [z.toNat]).getD j 0)
          rw [lw] at hj
          by_cases e : j = s.2.length
          · rw [e, gN_2, rd_eq]
          · rw [gN_1 (by omega), rd_ne (by omega), rd_ne (by omega)]; exact s2 j (by omega)
      · rw [q2] at sz
        rw [opn_t rfl q2, ez]
        simp only [x_239_170, x_239_172, x_239_175, x_239_176, x_239_179, x_239_181, x_239_182, x_239_185, x_239_186, x_239_189, x_239_191, x_239_192, x_239_193, x_239_194, x_239_197, x_239_199, x_239_201, x_239_202, x_239_205, x_239_208, o_124 hw, w_124_58 hw, w_124_59 hw, o_160 hw, iOk_lt (k := 160) (by decide), iRd_lt (k := 160) (by decide), show LN 160 = 1600 from rfl, o_161 hw, iOk_lt (k := 161) (by decide), iRd_lt (k := 161) (by decide), show LN 161 = 1600 from rfl, cl2_i, cl2_r, cl2_n, cl2_l, tl_s, tl_n, true_and, and_true, Option.some.injEq, exists_eq_left', Bool.and_self, Bool.true_and, Bool.and_true, Bool.or_true, Bool.true_or, i_10, i_00, if_true, if_false, not_true_eq_false, not_false_eq_true, and_false, false_and, okp_sI, okp_sL, okp_aI, okp_aL, hR_sI, hR_sL, hR_aI, hR_aL, g3, g6, show bo true = 1 from rfl, show bo false = 0 from rfl, i6, c6, sz, inb_nI (n := 1600) (show s.2.length < 1600 by omega) (by decide), nI_clamp (n := s.2.length) (by omega), nI_1, lw]
    · refine ⟨h, Fq.rf, by rw [opn_f (fun w => by rw [q2] at w; cases w.2)]; exact S, fun d Q l1 l2 l3 l5 l6 g3 g6 => ?_⟩
      rw [opn_f (fun w => by rw [q2] at w; cases w.2)]
      rw [q2] at sz
      rw [ez]
      simp only [x_239_170, x_239_172, x_239_175, x_239_176, x_239_179, x_239_181, x_239_182, o_124 hw, w_124_58 hw, o_160 hw, iOk_lt (k := 160) (by decide), iRd_lt (k := 160) (by decide), show LN 160 = 1600 from rfl, x_239_205, x_239_208, cl2_i, cl2_r, cl2_n, cl2_l, tl_s, tl_n, true_and, and_true, Option.some.injEq, exists_eq_left', Bool.and_self, Bool.true_and, Bool.and_true, Bool.or_true, Bool.true_or, i_10, i_00, if_true, if_false, not_true_eq_false, not_false_eq_true, and_false, false_and, okp_sI, okp_sL, okp_aI, okp_aL, hR_sI, hR_sL, hR_aI, hR_aL, g6, show bo true = 1 from rfl, i6, c6, sz, nI_1]
theorem bo_d {p : Prop} [Decidable p] : bo (decide p) = if p then 1 else 0 := by
  by_cases q : p
  · rw [decide_eq_true q, if_pos q]; rfl
  · rw [decide_eq_false q, if_neg q]; rfl
theorem m_fl_s (hw : WF h) (hA : A ≤ 1600) (hWH : A = W * Hh) (hW : 3 ≤ W) (hH : 3 ≤ Hh) (hWA : W ≤ A) (S : MSt h A s) (hc : c < A) : ∃ H, Fq PPm h H ∧ MSt H A (stp4 W A c s) ∧ ∀ d Q l1 l5 l8 l9, cl2 l8 = l8 → Tr sc d 239 (39, [some (.ref 124), l1, some (.int (nI W)), some (.int (nI Hh)), some (.int (nI s.2.length)), some (.int (nI l5)), some (.int (nI c)), some (.int 0), l8, l9], [], h) Q = Tr sc d 239 (20, [some (.ref 124), l1, some (.int (nI W)), some (.int (nI Hh)), some (.int (nI (stp4 W A c s).2.length)), some (.int (nI (l5 + 1))), some (.int (nI c)), some (.int 4), some (.int (bo (decide (c + W < A)))), some (.int (iv ((c : Int) + W)))], [], H) Q := by
  have hm : c % W < W := Nat.mod_lt _ (by omega)
  have er := pk_rem (a := c) (d := W) (by omega) (by omega) (by omega)
  have w0 : ¬ nI W = 0 := nI_ne0 (by omega) (by omega)
  have eW : nI W - 1 = nI (W - 1) := by rw [show (1 : Int32) = nI 1 from rfl, pk_sub (by omega)]
  have eH : nI Hh - 1 = nI (Hh - 1) := by rw [show (1 : Int32) = nI 1 from rfl, pk_sub (by omega)]
  have hHA : Hh ≤ A := by rw [hWH]; exact Nat.le_mul_of_pos_left Hh (by omega)
  have eA : W * (Hh - 1) = A - W := by rw [Nat.mul_sub, Nat.mul_one, hWH]
  have ec1 : nI c - 1 = iv ((c : Int) - 1) := by rw [iv_n, show (1 : Int32) = iv 1 from rfl, iv_sub]
  have ec2 : nI c + 1 = iv ((c : Int) + 1) := by rw [iv_n, show (1 : Int32) = iv 1 from rfl, iv_add]
  have ec3 : nI c - nI W = iv ((c : Int) - W) := by rw [iv_n, iv_n, iv_sub]
  have ec4 : nI c + nI W = iv ((c : Int) + W) := by rw [iv_n, iv_n, iv_add]
  obtain ⟨H1, f1, S1, eq1⟩ := m_fl_t (sc := sc) (w := 0) (z := (c : Int) - 1) (ok := decide (0 < c % W)) hw hA S (by omega) (fun z => by
    have := of_decide_eq_true z
    have c0 : 0 < c := by
      rcases Nat.eq_zero_or_pos c with z | z
      · rw [z, Nat.zero_mod] at this; omega
      · exact z
    omega)
  rw [show ((c : Int) - 1).toNat = c - 1 by omega] at S1 eq1
  have hw1 := f1.WF hw
  obtain ⟨H2, f2, S2, eq2⟩ := m_fl_t (sc := sc) (w := 1) (z := (c : Int) + 1) (ok := decide (c % W + 1 < W)) hw1 hA S1 (by omega) (fun z => by
    have := row_b hWH hc (of_decide_eq_true z)
    omega)
  rw [show ((c : Int) + 1).toNat = c + 1 by omega] at S2 eq2
  have hw2 := f2.WF hw1
  obtain ⟨H3, f3, S3, eq3⟩ := m_fl_t (sc := sc) (w := 2) (z := (c : Int) - W) (ok := decide (W ≤ c)) hw2 hA S2 (by omega) (fun z => by
    have := of_decide_eq_true z
    omega)
  rw [show ((c : Int) - W).toNat = c - W by omega] at S3 eq3
  have hw3 := f3.WF hw2
  obtain ⟨H4, f4, S4, eq4⟩ := m_fl_t (sc := sc) (w := 3) (z := (c : Int) + W) (ok := decide (c + W < A)) hw3 hA S3 (by omega) (fun z => by
    have := of_decide_eq_true z
    omega)
  rw [show ((c : Int) + W).toNat = c + W by omega] at S4 eq4
  refine ⟨H4, f1.tr (f2.tr (f3.tr f4)), S4, fun d Q l1 l5 l8 l9 h8 => ?_⟩
  have n0 : nI (0 + 1) = 1 := rfl
  have n1 : nI (1 + 1) = 2 := rfl
  have n2 : nI (2 + 1) = 3 := rfl
  have n3 : nI (3 + 1) = 4 := rfl
  rw [n0] at eq1
  rw [n1] at eq2
  rw [n2] at eq3
  rw [n3] at eq4
  have t1 : Tr sc d 239 (39, [some (.ref 124), l1, some (.int (nI W)), some (.int (nI Hh)), some (.int (nI s.2.length)), some (.int (nI l5)), some (.int (nI c)), some (.int 0), l8, l9], [], h) Q = Tr sc d 239 (170, [some (.ref 124), l1, some (.int (nI W)), some (.int (nI Hh)), some (.int (nI s.2.length)), some (.int (nI l5)), some (.int (nI c)), some (.int 0), some (.int (bo (decide (0 < c % W)))), some (.int (iv ((c : Int) - 1)))], [], h) Q := by
    rw [x_239_39, bo_d]
    simp only [x_239_41, x_239_42, x_239_45, x_239_47, x_239_50, x_239_52, x_239_53, x_239_54, x_239_57, x_239_58, x_239_61, x_239_62, x_239_65, x_239_67, x_239_68, x_239_71, x_239_73, x_239_74, x_239_75, x_239_76, x_239_77, x_239_78, x_239_81, x_239_82, x_239_85, x_239_86, x_239_89, x_239_91, x_239_92, x_239_95, x_239_97, x_239_98, x_239_101, x_239_102, x_239_105, x_239_106, x_239_109, x_239_111, x_239_112, x_239_113, x_239_114, x_239_115, x_239_116, x_239_119, x_239_120, x_239_123, x_239_124, x_239_126, x_239_128, x_239_131, x_239_133, x_239_134, x_239_135, x_239_138, x_239_140, x_239_141, x_239_144, x_239_146, x_239_147, x_239_148, x_239_151, x_239_153, x_239_154, x_239_157, x_239_159, x_239_160, x_239_161, x_239_164, x_239_166, x_239_167, x_239_168, cl2_i, cl2_r, cl2_n, cl2_l, tl_s, tl_n, true_and, and_true, Option.some.injEq, exists_eq_left', Bool.and_self, Bool.true_and, Bool.and_true, Bool.or_true, Bool.true_or, i_10, i_00, if_true, if_false, not_true_eq_false, not_false_eq_true, and_false, false_and, okp_sI, okp_sL, okp_aI, okp_aL, hR_sI, hR_sL, hR_aI, hR_aL, show ((4 : Int32) ≤ 0) = False from eq_false (by decide), er, w0, ec1]
    by_cases q : 0 < c % W
    · rw [if_neg (nI_nle q (by omega)), if_pos q]
    · rw [if_pos (show nI (c % W) ≤ 0 from nI_le (show c % W ≤ 0 by omega) (by decide)), if_neg q]
  refine t1.trans ((eq1 d Q l1 (some (.int (nI W))) (some (.int (nI Hh))) (some (.int (nI l5))) (some (.int (nI c))) rfl rfl).trans ?_)
  generalize e1 : opn (decide (0 < c % W)) (c - 1) s = t1 at *
  have t2 : ∀ l8 l9, Tr sc d 239 (39, [some (.ref 124), l1, some (.int (nI W)), some (.int (nI Hh)), some (.int (nI t1.2.length)), some (.int (nI l5)), some (.int (nI c)), some (.int 1), some (.int l8), l9], [], H1) Q = Tr sc d 239 (170, [some (.ref 124), l1, some (.int (nI W)), some (.int (nI Hh)), some (.int (nI t1.2.length)), some (.int (nI l5)), some (.int (nI c)), some (.int 1), some (.int (bo (decide (c % W + 1 < W)))), some (.int (iv ((c : Int) + 1)))], [], H1) Q := by
    intro l8 l9
    rw [x_239_39, bo_d]
    simp only [x_239_41, x_239_42, x_239_45, x_239_47, x_239_50, x_239_52, x_239_53, x_239_54, x_239_57, x_239_58, x_239_61, x_239_62, x_239_65, x_239_67, x_239_68, x_239_71, x_239_73, x_239_74, x_239_75, x_239_76, x_239_77, x_239_78, x_239_81, x_239_82, x_239_85, x_239_86, x_239_89, x_239_91, x_239_92, x_239_95, x_239_97, x_239_98, x_239_101, x_239_102, x_239_105, x_239_106, x_239_109, x_239_111, x_239_112, x_239_113, x_239_114, x_239_115, x_239_116, x_239_119, x_239_120, x_239_123, x_239_124, x_239_126, x_239_128, x_239_131, x_239_133, x_239_134, x_239_135, x_239_138, x_239_140, x_239_141, x_239_144, x_239_146, x_239_147, x_239_148, x_239_151, x_239_153, x_239_154, x_239_157, x_239_159, x_239_160, x_239_161, x_239_164, x_239_166, x_239_167, x_239_168, cl2_i, cl2_r, cl2_n, cl2_l, tl_s, tl_n, true_and, and_true, Option.some.injEq, exists_eq_left', Bool.and_self, Bool.true_and, Bool.and_true, Bool.or_true, Bool.true_or, i_10, i_00, if_true, if_false, not_true_eq_false, not_false_eq_true, and_false, false_and, okp_sI, okp_sL, okp_aI, okp_aL, hR_sI, hR_sL, hR_aI, hR_aL, show ((4 : Int32) ≤ 1) = False from eq_false (by decide), er, w0, eW, ec2]
    by_cases q : c % W + 1 < W
    · rw [if_neg (nI_ge (show c % W < W - 1 by omega) (by omega)), if_pos q]
    · rw [if_pos (nI_le (show W - 1 ≤ c % W by omega) (by omega)), if_neg q]
  refine (t2 _ _).trans ((eq2 d Q l1 (some (.int (nI W))) (some (.int (nI Hh))) (some (.int (nI l5))) (some (.int (nI c))) rfl rfl).trans ?_)
  generalize e2 : opn (decide (c % W + 1 < W)) (c + 1) t1 = t2 at *
  have t3 : ∀ l8 l9, Tr sc d 239 (39, [some (.ref 124), l1, some (.int (nI W)), some (.int (nI Hh)), some (.int (nI t2.2.length)), some (.int (nI l5)), some (.int (nI c)), some (.int 2), some (.int l8), l9], [], H2) Q = Tr sc d 239 (170, [some (.ref 124), l1, some (.int (nI W)), some (.int (nI Hh)), some (.int (nI t2.2.length)), some (.int (nI l5)), some (.int (nI c)), some (.int 2), some (.int (bo (decide (W ≤ c)))), some (.int (iv ((c : Int) - W)))], [], H2) Q := by
    intro l8 l9
    rw [x_239_39, bo_d]
    simp only [x_239_41, x_239_42, x_239_45, x_239_47, x_239_50, x_239_52, x_239_53, x_239_54, x_239_57, x_239_58, x_239_61, x_239_62, x_239_65, x_239_67, x_239_68, x_239_71, x_239_73, x_239_74, x_239_75, x_239_76, x_239_77, x_239_78, x_239_81, x_239_82, x_239_85, x_239_86, x_239_89, x_239_91, x_239_92, x_239_95, x_239_97, x_239_98, x_239_101, x_239_102, x_239_105, x_239_106, x_239_109, x_239_111, x_239_112, x_239_113, x_239_114, x_239_115, x_239_116, x_239_119, x_239_120, x_239_123, x_239_124, x_239_126, x_239_128, x_239_131, x_239_133, x_239_134, x_239_135, x_239_138, x_239_140, x_239_141, x_239_144, x_239_146, x_239_147, x_239_148, x_239_151, x_239_153, x_239_154, x_239_157, x_239_159, x_239_160, x_239_161, x_239_164, x_239_166, x_239_167, x_239_168, cl2_i, cl2_r, cl2_n, cl2_l, tl_s, tl_n, true_and, and_true, Option.some.injEq, exists_eq_left', Bool.and_self, Bool.true_and, Bool.and_true, Bool.or_true, Bool.true_or, i_10, i_00, if_true, if_false, not_true_eq_false, not_false_eq_true, and_false, false_and, okp_sI, okp_sL, okp_aI, okp_aL, hR_sI, hR_sL, hR_aI, hR_aL, show ((4 : Int32) ≤ 2) = False from eq_false (by decide), show ((2 : Int32) = 0) = False from eq_false (by decide), show ((2 : Int32) = 1) = False from eq_false (by decide), ec3]
    by_cases q : W ≤ c
    · rw [if_neg (nI_nlt q (by omega)), if_pos q]
    · rw [if_pos (nI_lt (show c < W by omega) (by omega)), if_neg q]
  refine (t3 _ _).trans ((eq3 d Q l1 (some (.int (nI W))) (some (.int (nI Hh))) (some (.int (nI l5))) (some (.int (nI c))) rfl rfl).trans ?_)
  generalize e3 : opn (decide (W ≤ c)) (c - W) t2 = t3 at *
  have t4 : ∀ l8 l9, Tr sc d 239 (39, [some (.ref 124), l1, some (.int (nI W)), some (.int (nI Hh)), some (.int (nI t3.2.length)), some (.int (nI l5)), some (.int (nI c)), some (.int 3), some (.int l8), l9], [], H3) Q = Tr sc d 239 (170, [some (.ref 124), l1, some (.int (nI W)), some (.int (nI Hh)), some (.int (nI t3.2.length)), some (.int (nI l5)), some (.int (nI c)), some (.int 3), some (.int (bo (decide (c + W < A)))), some (.int (iv ((c : Int) + W)))], [], H3) Q := by
    intro l8 l9
    rw [x_239_39, bo_d]
    simp only [x_239_41, x_239_42, x_239_45, x_239_47, x_239_50, x_239_52, x_239_53, x_239_54, x_239_57, x_239_58, x_239_61, x_239_62, x_239_65, x_239_67, x_239_68, x_239_71, x_239_73, x_239_74, x_239_75, x_239_76, x_239_77, x_239_78, x_239_81, x_239_82, x_239_85, x_239_86, x_239_89, x_239_91, x_239_92, x_239_95, x_239_97, x_239_98, x_239_101, x_239_102, x_239_105, x_239_106, x_239_109, x_239_111, x_239_112, x_239_113, x_239_114, x_239_115, x_239_116, x_239_119, x_239_120, x_239_123, x_239_124, x_239_126, x_239_128, x_239_131, x_239_133, x_239_134, x_239_135, x_239_138, x_239_140, x_239_141, x_239_144, x_239_146, x_239_147, x_239_148, x_239_151, x_239_153, x_239_154, x_239_157, x_239_159, x_239_160, x_239_161, x_239_164, x_239_166, x_239_167, x_239_168, cl2_i, cl2_r, cl2_n, cl2_l, tl_s, tl_n, true_and, and_true, Option.some.injEq, exists_eq_left', Bool.and_self, Bool.true_and, Bool.and_true, Bool.or_true, Bool.true_or, i_10, i_00, if_true, if_false, not_true_eq_false, not_false_eq_true, and_false, false_and, okp_sI, okp_sL, okp_aI, okp_aL, hR_sI, hR_sL, hR_aI, hR_aL, show ((4 : Int32) ≤ 3) = False from eq_false (by decide), show ((3 : Int32) = 0) = False from eq_false (by decide), show ((3 : Int32) = 1) = False from eq_false (by decide), show ((3 : Int32) = 2) = False from eq_false (by decide), eH, pk_mul, eA, ec4]
    by_cases q : c + W < A
    · rw [if_neg (nI_ge (show c < A - W by omega) (by omega)), if_pos q]
    · rw [if_pos (nI_le (show A - W ≤ c by omega) (by omega)), if_neg q]
  refine (t4 _ _).trans ((eq4 d Q l1 (some (.int (nI W))) (some (.int (nI Hh))) (some (.int (nI l5))) (some (.int (nI c))) rfl rfl).trans ?_)
  rw [x_239_39]
  simp only [x_239_41, x_239_42, x_239_211, x_239_214, cl2_i, cl2_r, cl2_n, cl2_l, tl_s, tl_n, true_and, and_true, Option.some.injEq, exists_eq_left', Bool.and_self, Bool.true_and, Bool.and_true, Bool.or_true, Bool.true_or, i_10, i_00, if_true, if_false, not_true_eq_false, not_false_eq_true, and_false, false_and, okp_sI, okp_sL, okp_aI, okp_aL, hR_sI, hR_sL, hR_aI, hR_aL, show ((4 : Int32) ≤ 4) = True from eq_true (by decide), nI_1]
  rw [show stp4 W A c s = opn (decide (c + W < A)) (c + W) t3 by first | (rw [← e3, ← e2, ← e1]; done) | (rw [← e3, ← e2, ← e1]; rfl)]
theorem m_fl_l (hw : WF h) (hA : A ≤ 1600) (hWH : A = W * Hh) (hW : 3 ≤ W) (hH : 3 ≤ Hh) (hWA : W ≤ A) : ∀ (f i : Nat) (s : Fst) (H : PH), A < i + f → i ≤ A → Fq PPm h H → MSt H A s → ∃ H', Fq PPm h H' ∧ MSt H' A (bfs W A f i s) ∧ ∀ d Q l1 l6 l7 l8 l9, cl2 l6 = l6 → cl2 l7 = l7 → cl2 l8 = l8 → Tr sc d 239 (20, [some (.ref 124), l1, some (.int (nI W)), some (.int (nI Hh)), some (.int (nI s.2.length)), some (.int (nI i)), l6, l7, l8, l9], [], H) Q = Q (none, H') := by
  intro f
  induction f with
  | zero =>
    intro i s H hf hi F S
    omega
  | succ f ih =>
    intro i s H hf hi F S
    have hwH := F.WF hw
    have ll := iv_len S.2.2
    by_cases q : i < s.2.length
    · obtain ⟨H1, f1, S1, eq1⟩ := m_fl_s (sc := sc) (c := s.2.getD i 0) hwH hA hWH hW hH hWA S (S.2.2.2 _ (gN_m q)).1
      obtain ⟨H', F', S', eq'⟩ := ih (i + 1) (stp4 W A (s.2.getD i 0) s) H1 (by omega) (by omega) (F.tr f1) S1
      refine ⟨H', F', ?_, fun d Q l1 l6 l7 l8 l9 h6 h7 h8 => ?_⟩
      · rw [show bfs W A (f + 1) i s = bfs W A f (i + 1) (stp4 W A (s.2.getD i 0) s) from if_pos q]; exact S'
      · rw [x_239_20]
        simp only [x_239_22, x_239_24, x_239_27, x_239_28, x_239_31, x_239_33, x_239_34, x_239_36, x_239_37, o_124 hwH, w_124_59 hwH, o_161 hwH, iOk_lt (k := 161) (by decide), iRd_lt (k := 161) (by decide), show LN 161 = 1600 from rfl, cl2_i, cl2_r, cl2_n, cl2_l, tl_s, tl_n, true_and, and_true, Option.some.injEq, exists_eq_left', Bool.and_self, Bool.true_and, Bool.and_true, Bool.or_true, Bool.true_or, i_10, i_00, if_true, if_false, not_true_eq_false, not_false_eq_true, and_false, false_and, okp_sI, okp_sL, okp_aI, okp_aL, hR_sI, hR_sL, hR_aI, hR_aL, h6, h7, h8, S.2.1 i q, inb_nI (n := 1600) (show i < 1600 by omega) (by decide), nI_clamp (n := i) (by omega)]
        rw [if_neg (nI_ge q (by omega))]
        exact (eq1 d Q l1 i l8 l9 h8).trans (eq' d Q _ _ _ _ _ rfl rfl rfl)
    · refine ⟨H, F, ?_, fun d Q l1 l6 l7 l8 l9 h6 h7 h8 => ?_⟩
      · rw [show bfs W A (f + 1) i s = s from if_neg q]; exact S
      · rw [x_239_20]
        simp only [x_239_22, x_239_24, x_239_217, cl2_i, cl2_r, cl2_n, cl2_l, tl_s, tl_n, true_and, and_true, Option.some.injEq, exists_eq_left', Bool.and_self, Bool.true_and, Bool.and_true, Bool.or_true, Bool.true_or, i_10, i_00, if_true, if_false, not_true_eq_false, not_false_eq_true, and_false, false_and, okp_sI, okp_sL, okp_aI, okp_aL, hR_sI, hR_sL, hR_aI, hR_aL]
        rw [if_pos (nI_le (by omega) (by omega))]
theorem m_fill (hw : WF h) (hA : A ≤ 1600) (hWH : A = W * Hh) (hW : 3 ≤ W) (hH : 3 ≤ Hh) (hWA : W ≤ A) (B : FA h 160 F A) (hc : c < A) (hF : F c = false) : ∃ H, Fq PPm h H ∧ FA H 160 (bfs W A (A + 1) 0 (opn true c (F, []))).1 A ∧ ∀ d Q, Tr sc d 239 (ent0 239 [.ref 124, .int (nI c), .int (nI W), .int (nI Hh)] h) Q = Q (none, H) := by
  have f0 : Fq PPm h (sI (sI h 161 0 (nI c)) 160 c 1) := (Fq.rf.sI (by unfold PPm; omega)).sI (by unfold PPm; omega)
  have hw0 := f0.WF hw
  have S0 : MSt (sI (sI h 161 0 (nI c)) 160 c 1) A (opn true c (F, [])) := by
    have iv' := opn_iv (A := A) (ok := true) (c := c) (s := (F, [])) ⟨List.nodup_nil, fun x hx => by cases hx⟩ (fun _ => hc)
    rw [opn_t rfl hF] at iv' ⊢
    refine ⟨fun x hx => ?_, fun j hj => ?_, iv'⟩
    · show _ = bo (if x = c then true else F x)
      by_cases e : x = c
      · rw [if_pos e, e, rd_eq]; rfl
      · rw [if_neg e, rd_ne (by omega), rd_ne (by omega)]; exact B x hx
    · have ej : j = 0 := Nat.lt_one_iff.mp hj
      subst ej
      rw [rd_ne (by omega), rd_eq]; rfl
  have l0 : (opn true c (F, [])).2.length = 1 := by rw [opn_t rfl hF]; rfl
  obtain ⟨H2, f2, S2, eq2⟩ := m_fl_l (sc := sc) hw0 hA hWH hW hH hWA (A + 1) 0 (opn true c (F, [])) _ (by omega) (Nat.zero_le _) Fq.rf S0
  rw [l0] at eq2
  refine ⟨H2, f0.tr f2, S2.1, fun d Q => ?_⟩
  rw [e_239]
  simp only [x_239_0, x_239_1, x_239_3, x_239_4, x_239_7, x_239_8, x_239_9, x_239_10, x_239_11, x_239_14, x_239_15, x_239_16, x_239_17, x_239_18, o_124 hw, w_124_58 hw, w_124_59 hw, o_161 hw, iOk_lt (k := 161) (by decide), iRd_lt (k := 161) (by decide), show LN 161 = 1600 from rfl, o_160 hw, iOk_lt (k := 160) (by decide), iRd_lt (k := 160) (by decide), show LN 160 = 1600 from rfl, cl2_i, cl2_r, cl2_n, cl2_l, tl_s, tl_n, true_and, and_true, Option.some.injEq, exists_eq_left', Bool.and_self, Bool.true_and, Bool.and_true, Bool.or_true, Bool.true_or, i_10, i_00, if_true, if_false, not_true_eq_false, not_false_eq_true, and_false, false_and, okp_sI, okp_sL, okp_aI, okp_aL, hR_sI, hR_sL, hR_aI, hR_aL, show inb 0 1600 = true from rfl, cl_0, inb_nI (n := 1600) (show c < 1600 by omega) (by decide), nI_clamp (n := c) (by omega)]
  exact eq2 d Q _ _ _ _ _ rfl rfl rfl
theorem m_ch_l {x y : Int32} (hw : WF h) (hA : A ≤ 1600) (hWH : A = W * Hh) (hW : 3 ≤ W) (hH : 3 ≤ Hh) (hWA : W ≤ A) : ∀ (m c : Nat) (F : Nat → Bool) (p : Nat) (H : PH), c + m = A → Fq PPm h H → FA H 160 F A → ∃ H', Fq PPm h H' ∧ ∀ d Q, Tr sc (d + 1) 238 (161, [some (.ref 124), some (.int x), some (.int y), some (.int 0), some (.int (nI W)), some (.int (nI Hh)), some (.int (nI p)), some (.int (nI c))], [], H) Q = Q (some (.int (nI (hol W A m c F p) - 1)), H') := by
  intro m
  induction m with
  | zero =>
    intro c F p H hc f B
    have e : c = A := by omega
    subst e
    have hwH := f.WF hw
    refine ⟨H, f, fun d Q => ?_⟩
    rw [x_238_161]
    simp only [x_238_163, x_238_165, x_238_167, x_238_168, x_238_200, x_238_202, x_238_203, x_238_204, cl2_i, cl2_r, cl2_n, cl2_l, tl_s, tl_n, true_and, and_true, Option.some.injEq, exists_eq_left', Bool.and_self, Bool.true_and, Bool.and_true, Bool.or_true, Bool.true_or, i_10, i_00, if_true, if_false, not_true_eq_false, not_false_eq_true, and_false, false_and, okp_sI, okp_sL, okp_aI, okp_aL, hR_sI, hR_sL, hR_aI, hR_aL, pk_mul, ← hWH]
    rw [if_pos (Int32.le_refl _)]
    rfl
  | succ m ih =>
    intro c F p H hc f B
    have hlt : c < A := by omega
    have hwH := f.WF hw
    have Bc := B c hlt
    cases q : F c
    · obtain ⟨H1, f1, B1, eq1⟩ := m_fill (sc := sc) hwH hA hWH hW hH hWA B hlt q
      obtain ⟨H', F', eq'⟩ := ih (c + 1) _ (p + 1) H1 (by omega) (f.tr f1) B1
      refine ⟨H', F', fun d Q => ?_⟩
      rw [q] at Bc
      rw [x_238_161]
      simp only [x_238_163, x_238_165, x_238_167, x_238_168, x_238_171, x_238_172, x_238_175, x_238_177, x_238_178, x_238_181, x_238_184, x_238_185, x_238_187, x_238_189, x_238_191, x_238_194, x_238_197, o_124 hwH, w_124_58 hwH, o_160 hwH, iOk_lt (k := 160) (by decide), iRd_lt (k := 160) (by decide), show LN 160 = 1600 from rfl, cl2_i, cl2_r, cl2_n, cl2_l, tl_s, tl_n, true_and, and_true, Option.some.injEq, exists_eq_left', Bool.and_self, Bool.true_and, Bool.and_true, Bool.or_true, Bool.true_or, i_10, i_00, if_true, if_false, not_true_eq_false, not_false_eq_true, and_false, false_and, okp_sI, okp_sL, okp_aI, okp_aL, hR_sI, hR_sL, hR_aI, hR_aL, pk_mul, ← hWH, inb_nI (n := 1600) (show c < 1600 by omega) (by decide), nI_clamp (n := c) (by omega), Bc, show bo false = 0 from rfl, nI_1, eq1]
      rw [if_neg (nI_ge hlt (by omega)), show hol W A (m + 1) c F p = hol W A m (c + 1) (bfs W A (A + 1) 0 (opn true c (F, []))).1 (p + 1) from if_neg (by rw [q]; decide)]
      exact eq' d Q
    · obtain ⟨H', F', eq'⟩ := ih (c + 1) F p H (by omega) f B
      refine ⟨H', F', fun d Q => ?_⟩
      rw [q] at Bc
      rw [x_238_161]
      simp only [x_238_163, x_238_165, x_238_167, x_238_168, x_238_171, x_238_172, x_238_175, x_238_177, x_238_178, o_124 hwH, w_124_58 hwH, o_160 hwH, iOk_lt (k := 160) (by decide), iRd_lt (k := 160) (by decide), show LN 160 = 1600 from rfl, x_238_194, x_238_197, cl2_i, cl2_r, cl2_n, cl2_l, tl_s, tl_n, true_and, and_true, Option.some.injEq, exists_eq_left', Bool.and_self, Bool.true_and, Bool.and_true, Bool.or_true, Bool.true_or, i_10, i_00, if_true, if_false, not_true_eq_false, not_false_eq_true, and_false, false_and, okp_sI, okp_sL, okp_aI, okp_aL, hR_sI, hR_sL, hR_aI, hR_aL, pk_mul, ← hWH, inb_nI (n := 1600) (show c < 1600 by omega) (by decide), nI_clamp (n := c) (by omega), Bc, show bo true = 1 from rfl, nI_1]
      rw [if_neg (nI_ge hlt (by omega)), show hol W A (m + 1) c F p = hol W A m (c + 1) F p from if_pos q]
      exact eq' d Q
end HM
