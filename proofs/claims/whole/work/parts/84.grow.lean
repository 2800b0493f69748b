/-! ===== the class's cells: all words of a step ===== -/
def fJ (f : Nat) : Int32 := if f < 6 then nI f else -1
def ptW (u : Wrd) : Pnt := (u.1, u.2.1)
section CG
variable {sc : Nat × (Nat → Int32)} {d : Nat} {Q : PRes → Prop} {h h' h1 H G : PH} {c k e i j l n t u b M N s E : Nat} {L : List Pnt} {p : Pnt} {kd x y : Int32} {tn : Nat → Nat} {sx sy ex : Nat → Int} {w : Wrd}
theorem fm_len {B : Nat} {g : Wrd → List Wrd} (hg : ∀ w, (g w).length ≤ B) : ∀ K : List Wrd, (K.flatMap g).length ≤ K.length * B
  | [] => Nat.zero_le _
  | w :: K => by
    have ih := fm_len hg K
    have := hg w
    rw [List.flatMap_cons, List.length_append, List.length_cons, Nat.add_mul, Nat.one_mul]
    omega
theorem kids_len : (kids b M tn sx sy kd ex n w).length ≤ M := by
  unfold kids
  rw [List.length_map]
  refine Nat.le_trans (List.length_filter_le ..) ?_
  rw [List.length_range]; exact Nat.le_refl _
theorem Gs_len : ∀ l n w, (Gs b M tn sx sy kd ex l n w).length ≤ M ^ l
  | 0, _, _ => Nat.le_refl _
  | l + 1, n, w => by
    show ((kids b M tn sx sy kd ex n w).flatMap (Gs b M tn sx sy kd ex l (n + 1))).length ≤ M ^ (l + 1)
    refine Nat.le_trans (fm_len (fun w => Gs_len l (n + 1) w) _) ?_
    rw [Nat.pow_succ, Nat.mul_comm]
    exact Nat.mul_le_mul_left _ kids_len
theorem kids_s (g : Wrd → List Wrd) : (((List.range (i + 1)).filter (okK kd ex w)).map (kid b tn sx sy kd ex n w)).flatMap g = (((List.range i).filter (okK kd ex w)).map (kid b tn sx sy kd ex n w)).flatMap g ++ (if okK kd ex w i = true then g (kid b tn sx sy kd ex n w i) else []) := by
  rw [List.range_succ, List.filter_append, List.map_append, List.flatMap_append]
  congr 1
  by_cases q : okK kd ex w i = true
  · rw [if_pos q, List.filter_cons_of_pos q]; simp
  · rw [if_neg q, List.filter_cons_of_neg q]; simp
theorem c_bar_eq (C : ShC h k kd b M tn sx sy ex) (hi : i < M) : bI (hI h k 6 = 4 ∧ bit1 (hI h (k + 4) i) j = true) = bI (bF kd ex i j = true) := by
  refine bI_cg ?_
  rw [C.1, (C.2.2.2 i hi).2.2.2]
  unfold bF
  rw [decide_eq_true_eq]
theorem c_grow (hcl : IsCl c) (hk : IsSh k) (W : ShW kd b M tn sx sy ex) (hE1 : E ≤ 2 ^ e) (hE2 : E ≤ rmC c) : ∀ (l n : Nat) (w : Wrd) (h : PH) (L : List Pnt), l < 10 → WF h → ShC h k kd b M tn sx sy ex → ClI h c e L → L.length + M ^ l ≤ E → (∀ u, u ∈ Gs b M tn sx sy kd ex l n w → Rg (ptW u)) → ∃ H, Fq (Pcl c) h H ∧ ClI H c e (L ++ (Gs b M tn sx sy kd ex l n w).map ptW) ∧ ∀ d Q, Tr sc (d + l + 2) 11 (ent0 11 [.ref c, .ref k, .int (nI l), .int (iv w.1), .int (iv w.2.1), .int (fJ w.2.2.1), .int (iv ((b : Int) ^ n))] h) Q = Q (none, H) := by
  have hM := W.2.2.1
  have hrm := rm_b hcl
  intro l
  induction l with
  | zero =>
    intro n w h L hl hw C I hLE hR
    obtain ⟨ho, -⟩ := cl_ref hw hcl
    have hdl := dd_len (L := L)
    rw [Nat.pow_zero] at hLE
    obtain ⟨H, f, I', eq⟩ := c_add (sc := sc) (p := ptW w) hw hcl I (hR w (List.mem_singleton.mpr rfl)) (by omega) (by omega) (by omega)
    have eq' : ∀ d Q, Tr sc (d + 1) 18 (ent0 18 [.ref c, .int (iv w.1), .int (iv w.2.1)] h) Q = Q (none, H) := eq
    refine ⟨H, f, I', fun d Q => ?_⟩
    rw [e_11]
    simp only [x_11_0, x_11_1, x_11_4, x_11_5, x_11_6, x_11_8, x_11_11, cl2_i, cl2_r, cl2_n, cl2_l, tl_s, tl_n, true_and, and_true, Option.some.injEq, exists_eq_left', Bool.and_self, Bool.true_and, Bool.and_true, Bool.or_true, Bool.true_or, i_10, i_00, if_true, if_false, not_true_eq_false, not_false_eq_true, and_false, false_and, okp_sI, okp_sL, okp_aI, okp_aL, hR_sI, hR_sL, hR_aI, hR_aL, nI_0, i_nn0, ho, eq']
  | succ l ih =>
    intro n w h L hl hw C I hLE hR
    have lp : ∀ (m i : Nat) (h1 : PH), i + m = M → Fq (Pcl c) h h1 → ClI h1 c e (L ++ ((((List.range i).filter (okK kd ex w)).map (kid b tn sx sy kd ex n w)).flatMap (Gs b M tn sx sy kd ex l (n + 1))).map ptW) → (L ++ ((((List.range i).filter (okK kd ex w)).map (kid b tn sx sy kd ex n w)).flatMap (Gs b M tn sx sy kd ex l (n + 1))).map ptW).length + m * M ^ l ≤ E → ∃ H, Fq (Pcl c) h H ∧ ClI H c e (L ++ (Gs b M tn sx sy kd ex (l + 1) n w).map ptW) ∧ ∀ d Q l8 l9, cl2 l8 = l8 → cl2 l9 = l9 → Tr sc (d + (l + 1) + 2) 11 (15, [some (.ref c), some (.ref k), some (.int (nI (l + 1))), some (.int (iv w.1)), some (.int (iv w.2.1)), some (.int (fJ w.2.2.1)), some (.int (iv ((b : Int) ^ n))), some (.int (nI i)), l8, l9], [], h1) Q = Q (none, H) := by
      intro m
      induction m with
      | zero =>
        intro i h1 hi f1 I1 hb
        have ei : i = M := by omega
        subst ei
        have hw1 := f1.WF hw
        obtain ⟨ho, -⟩ := sh_ref hw1 hk
        have C1 := C.fr f1 (fun a j q1 q2 q3 => by unfold Pcl at q3; unfold IsSh at hk; unfold IsCl at hcl; omega)
        refine ⟨h1, f1, I1, fun d Q l8 l9 _ _ => ?_⟩
        rw [x_11_15]
        simp only [x_11_17, x_11_18, x_11_21, x_11_94, cl2_i, cl2_r, cl2_n, cl2_l, tl_s, tl_n, true_and, and_true, Option.some.injEq, exists_eq_left', Bool.and_self, Bool.true_and, Bool.and_true, Bool.or_true, Bool.true_or, i_10, i_00, if_true, if_false, not_true_eq_false, not_false_eq_true, and_false, false_and, okp_sI, okp_sL, okp_aI, okp_aL, hR_sI, hR_sL, hR_aI, hR_aL, ho, C1.2.2.1]
        rw [if_pos (Int32.le_refl _)]
      | succ m ihm =>
        intro i h1 hi f1 I1 hb
        have hlt : i < M := by omega
        have hw1 := f1.WF hw
        obtain ⟨ho, -⟩ := sh_ref hw1 hk
        obtain ⟨hoc, -⟩ := cl_ref hw1 hcl
        have C1 := C.fr f1 (fun a j q1 q2 q3 => by unfold Pcl at q3; unfold IsSh at hk; unfold IsCl at hcl; omega)
        have ks := kids_s (b := b) (tn := tn) (sx := sx) (sy := sy) (kd := kd) (ex := ex) (n := n) (w := w) (i := i) (Gs b M tn sx sy kd ex l (n + 1))
        rw [Nat.add_mul, Nat.one_mul] at hb
        by_cases q : okK kd ex w i = true
        · rw [if_pos q] at ks
          have gl := Gs_len (b := b) (M := M) (tn := tn) (sx := sx) (sy := sy) (kd := kd) (ex := ex) l (n + 1) (kid b tn sx sy kd ex n w i)
          obtain ⟨H2, f2, I2, eq2⟩ := ih (n + 1) (kid b tn sx sy kd ex n w i) h1 _ (by omega) hw1 C1 I1 (by omega) (fun u hu => hR u (List.mem_flatMap.mpr ⟨kid b tn sx sy kd ex n w i, List.mem_map.mpr ⟨i, List.mem_filter.mpr ⟨List.mem_range.mpr hlt, q⟩, rfl⟩, hu⟩))
          rw [List.append_assoc, ← List.map_append, ← ks] at I2
          obtain ⟨H, f3, I3, eq3⟩ := ihm (i + 1) H2 (by omega) (f1.tr f2) I2 (by
            rw [ks, List.map_append, ← List.append_assoc, List.length_append, List.length_map]
            omega)
          have e1 : nI (l + 1) - 1 = nI l := nI_pred l
          have e2 : iv ((b : Int) ^ n) * nI b = iv ((b : Int) ^ (n + 1)) := by rw [iv_n b, iv_mul, Int.pow_succ]
          have eq2' : ∀ d Q, Tr sc (d + l + 2) 11 (ent0 11 [.ref c, .ref k, .int (nI l), .int (iv (tX (tn i) w.1 w.2.1 + (b : Int) ^ n * sx i)), .int (iv (tY (tn i) w.1 w.2.1 + (b : Int) ^ n * sy i)), .int (nI i), .int (iv ((b : Int) ^ (n + 1)))] h1) Q = Q (none, H2) := by
            intro d Q
            have := eq2 d Q
            rw [show fJ (kid b tn sx sy kd ex n w i).2.2.1 = nI i from if_pos (show i < 6 by omega)] at this
            exact this
          refine ⟨H, f3, I3, fun d Q l8 l9 h8 h9 => ?_⟩
          have tail : Tr sc (d + (l + 1) + 2) 11 (41, [some (.ref c), some (.ref k), some (.int (nI (l + 1))), some (.int (iv w.1)), some (.int (iv w.2.1)), some (.int (fJ w.2.2.1)), some (.int (iv ((b : Int) ^ n))), some (.int (nI i)), l8, l9], [], h1) Q = Q (none, H) := by
            rw [show d + (l + 1) + 2 = (d + l + 2) + 1 by omega]
            simp only [x_11_41, x_11_42, x_11_44, x_11_45, x_11_47, x_11_49, x_11_52, x_11_54, x_11_55, x_11_57, x_11_58, x_11_60, x_11_62, x_11_65, x_11_67, x_11_68, x_11_69, x_11_70, x_11_71, x_11_72, x_11_74, x_11_76, x_11_78, x_11_80, x_11_81, x_11_84, x_11_85, x_11_88, x_11_91, cl2_i, cl2_r, cl2_n, cl2_l, tl_s, tl_n, true_and, and_true, Option.some.injEq, exists_eq_left', Bool.and_self, Bool.true_and, Bool.and_true, Bool.or_true, Bool.true_or, i_10, i_00, if_true, if_false, not_true_eq_false, not_false_eq_true, and_false, false_and, okp_sI, okp_sL, okp_aI, okp_aL, hR_sI, hR_sL, hR_aI, hR_aL, h8, h9, ho, hoc, C1.2.1, c_aheadX hw1 hk C1 W hlt, c_aheadY hw1 hk C1 W hlt, e1, e2, eq2', nI_1]
            exact eq3 d Q _ _ rfl rfl
          rw [x_11_15]
          simp only [x_11_17, x_11_18, x_11_21, x_11_24, x_11_26, x_11_27, cl2_i, cl2_r, cl2_n, cl2_l, tl_s, tl_n, true_and, and_true, Option.some.injEq, exists_eq_left', Bool.and_self, Bool.true_and, Bool.and_true, Bool.or_true, Bool.true_or, i_10, i_00, if_true, if_false, not_true_eq_false, not_false_eq_true, and_false, false_and, okp_sI, okp_sL, okp_aI, okp_aL, hR_sI, hR_sL, hR_aI, hR_aL, h8, h9, ho, C1.2.2.1]
          rw [if_neg (nI_ge hlt (by omega))]
          by_cases q6 : w.2.2.1 < 6
          · have ef : fJ w.2.2.1 = nI w.2.2.1 := if_pos q6
            rw [ef] at tail ⊢
            rw [if_neg (fun z => absurd (congrArg Int32.toInt z) (by rw [nI_toInt (by omega)]; show ¬ ((w.2.2.1 : Int) = -1); omega))]
            have nb : ¬ bF kd ex i w.2.2.1 = true := fun z => by
              unfold okK at q
              rw [z, decide_eq_true q6] at q
              cases q
            simp only [x_11_30, x_11_31, x_11_33, x_11_35, x_11_38, cl2_i, cl2_r, cl2_n, cl2_l, tl_s, tl_n, true_and, and_true, Option.some.injEq, exists_eq_left', Bool.and_self, Bool.true_and, Bool.and_true, Bool.or_true, Bool.true_or, i_10, i_00, if_true, if_false, not_true_eq_false, not_false_eq_true, and_false, false_and, okp_sI, okp_sL, okp_aI, okp_aL, hR_sI, hR_sL, hR_aI, hR_aL, h8, h9, ho, c_isBarred hw1 hk (show i < 6 by omega), c_bar_eq C1 hlt, bI_f nb]
            exact tail
          · have ef : fJ w.2.2.1 = -1 := if_neg q6
            rw [ef] at tail ⊢
            rw [if_pos rfl]
            exact tail
        · rw [if_neg q, List.append_nil] at ks
          obtain ⟨H, f3, I3, eq3⟩ := ihm (i + 1) h1 (by omega) f1 (by rw [ks]; exact I1) (by rw [ks]; omega)
          refine ⟨H, f3, I3, fun d Q l8 l9 h8 h9 => ?_⟩
          have q6 : w.2.2.1 < 6 := by
            apply Classical.byContradiction
            intro z
            exact q (by unfold okK; rw [decide_eq_false z]; rfl)
          have nb : bF kd ex i w.2.2.1 = true := by
            cases z : bF kd ex i w.2.2.1
            · exact absurd (by unfold okK; rw [z]; simp) q
            · rfl
          have ef : fJ w.2.2.1 = nI w.2.2.1 := if_pos q6
          have eq3' := eq3 d Q _ _ h8 h9
          rw [ef] at eq3' ⊢
          rw [x_11_15]
          simp only [x_11_17, x_11_18, x_11_21, x_11_24, x_11_26, x_11_27, cl2_i, cl2_r, cl2_n, cl2_l, tl_s, tl_n, true_and, and_true, Option.some.injEq, exists_eq_left', Bool.and_self, Bool.true_and, Bool.and_true, Bool.or_true, Bool.true_or, i_10, i_00, if_true, if_false, not_true_eq_false, not_false_eq_true, and_false, false_and, okp_sI, okp_sL, okp_aI, okp_aL, hR_sI, hR_sL, hR_aI, hR_aL, h8, h9, ho, C1.2.2.1]
          rw [if_neg (nI_ge hlt (by omega)), if_neg (fun z => absurd (congrArg Int32.toInt z) (by rw [nI_toInt (by omega)]; show ¬ ((w.2.2.1 : Int) = -1); omega))]
          simp only [x_11_30, x_11_31, x_11_33, x_11_35, x_11_38, x_11_88, x_11_91, cl2_i, cl2_r, cl2_n, cl2_l, tl_s, tl_n, true_and, and_true, Option.some.injEq, exists_eq_left', Bool.and_self, Bool.true_and, Bool.and_true, Bool.or_true, Bool.true_or, i_10, i_00, if_true, if_false, not_true_eq_false, not_false_eq_true, and_false, false_and, okp_sI, okp_sL, okp_aI, okp_aL, hR_sI, hR_sL, hR_aI, hR_aL, h8, h9, ho, c_isBarred hw1 hk (show i < 6 by omega), c_bar_eq C1 hlt, bI_t nb, nI_1]
          exact eq3'
    obtain ⟨H, f3, I3, eq3⟩ := lp M 0 h (by omega) Fq.rf (by
      rw [List.range_zero]
      show ClI h c e (L ++ [])
      rw [List.append_nil]; exact I) (by
      rw [List.range_zero]
      show (L ++ []).length + M * M ^ l ≤ E
      rw [List.append_nil, Nat.mul_comm, ← Nat.pow_succ]; exact hLE)
    refine ⟨H, f3, I3, fun d Q => ?_⟩
    rw [e_11]
    simp only [x_11_0, x_11_1, x_11_12, x_11_13, cl2_i, cl2_r, cl2_n, cl2_l, tl_s, tl_n, true_and, and_true, Option.some.injEq, exists_eq_left', Bool.and_self, Bool.true_and, Bool.and_true, Bool.or_true, Bool.true_or, i_10, i_00, if_true, if_false, not_true_eq_false, not_false_eq_true, and_false, false_and, okp_sI, okp_sL, okp_aI, okp_aL, hR_sI, hR_sL, hR_aI, hR_aL]
    rw [if_pos (show 0 < nI (l + 1) from nI_lt (a := 0) (by omega) (by omega))]
    exact eq3 d Q none none rfl rfl
theorem c_ga_l (hw : WF h) (hk : IsSh k) (C : ShC h k kd b M tn sx sy ex) (hN : N < 100) : ∀ (m i : Nat), i + m = N → Tr sc d 10 (5, [some (.ref c), some (.ref k), some (.int (nI N)), some (.int (nI (M ^ i))), some (.int (nI i))], [], h) Q = Tr sc d 10 (24, [some (.ref c), some (.ref k), some (.int (nI N)), some (.int (nI (M ^ N))), some (.int (nI N))], [], h) Q := by
  obtain ⟨ho, -⟩ := sh_ref hw hk
  intro m
  induction m with
  | zero =>
    intro i hi
    have e : i = N := by omega
    subst e
    rw [x_10_5]
    simp only [x_10_7, x_10_8, cl2_i, cl2_r, cl2_n, cl2_l, tl_s, tl_n, true_and, and_true, Option.some.injEq, exists_eq_left', Bool.and_self, Bool.true_and, Bool.and_true, Bool.or_true, Bool.true_or, i_10, i_00, if_true, if_false, not_true_eq_false, not_false_eq_true, and_false, false_and, okp_sI, okp_sL, okp_aI, okp_aL, hR_sI, hR_sL, hR_aI, hR_aL]
    rw [if_pos (Int32.le_refl _)]
  | succ m ih =>
    intro i hi
    rw [x_10_5]
    simp only [x_10_7, x_10_8, x_10_11, x_10_12, x_10_13, x_10_16, x_10_17, x_10_18, x_10_21, cl2_i, cl2_r, cl2_n, cl2_l, tl_s, tl_n, true_and, and_true, Option.some.injEq, exists_eq_left', Bool.and_self, Bool.true_and, Bool.and_true, Bool.or_true, Bool.true_or, i_10, i_00, if_true, if_false, not_true_eq_false, not_false_eq_true, and_false, false_and, okp_sI, okp_sL, okp_aI, okp_aL, hR_sI, hR_sL, hR_aI, hR_aL, ho, C.2.2.1, pk_mul, nI_1]
    rw [if_neg (nI_ge (show i < N by omega) (by omega)), ← Nat.pow_succ]
    exact ih (i + 1) (by omega)
theorem sw_b (W : ShW kd b M tn sx sy ex) : ∀ i, i < M → (-9 ≤ sx i ∧ sx i ≤ 9) ∧ (-9 ≤ sy i ∧ sy i ≤ 9) := fun i hi => ⟨(W.2.2.2 i hi).2.1, (W.2.2.2 i hi).2.2.1⟩
theorem c_gather (hw : WF h) (hcl : IsCl c) (hk : IsSh k) (C : ShC h k kd b M tn sx sy ex) (W : ShW kd b M tn sx sy ex) (hN : N ≤ 5) (hE : M ^ N ≤ rmC c) : ∃ H e, Fq (Pcl c) h H ∧ ClI H c e ((Ws b M tn sx sy kd ex N).map ptW) ∧ M ^ N < 2 ^ e ∧ ∀ d Q, Tr sc (d + N + 3) 10 (ent0 10 [.ref c, .ref k, .int (nI N)] h) Q = Q (none, H) := by
  obtain ⟨H1, e, f1, I1, ⟨g1, -⟩, eq1⟩ := c_clear (sc := sc) hw hcl hE
  have hw1 := f1.WF hw
  have C1 := C.fr f1 (fun a j q1 q2 q3 => by unfold Pcl at q3; unfold IsSh at hk; unfold IsCl at hcl; omega)
  obtain ⟨H2, f2, I2, eq2⟩ := c_grow (sc := sc) (E := M ^ N) hcl hk W (by omega) hE N 0 w0 H1 [] (by omega) hw1 C1 I1 (by rw [List.length_nil]; omega) (fun u hu => by
    rw [Ws_G0] at hu
    exact Ws_rg W.2.1 (sw_b W) hN u hu)
  rw [Ws_G0, List.nil_append] at I2
  have eq2' : ∀ d Q, Tr sc (d + N + 2) 11 (ent0 11 [.ref c, .ref k, .int (nI N), .int 0, .int 0, .int (-1), .int 1] H1) Q = Q (none, H2) := eq2
  obtain ⟨ho, -⟩ := cl_ref hw hcl
  obtain ⟨ho1, -⟩ := cl_ref hw1 hcl
  refine ⟨H2, e, f1.tr f2, I2, g1, fun d Q => ?_⟩
  have eq1' : ∀ Q, Tr sc (d + N + 2) 9 (ent0 9 [.ref c, .int (nI (M ^ N))] h) Q = Q (none, H1) := fun Q => eq1 (d + N) Q
  rw [e_10, show d + N + 3 = (d + N + 2) + 1 by omega]
  simp only [x_10_0, x_10_1, x_10_2, x_10_3, cl2_i, cl2_r, cl2_n, cl2_l, tl_s, tl_n, true_and, and_true, Option.some.injEq, exists_eq_left', Bool.and_self, Bool.true_and, Bool.and_true, Bool.or_true, Bool.true_or, i_10, i_00, if_true, if_false, not_true_eq_false, not_false_eq_true, and_false, false_and, okp_sI, okp_sL, okp_aI, okp_aL, hR_sI, hR_sL, hR_aI, hR_aL]
  refine (c_ga_l (c := c) (N := N) hw hk C (by omega) N 0 (by omega)).trans ?_
  simp only [x_10_24, x_10_25, x_10_26, x_10_29, x_10_30, x_10_31, x_10_32, x_10_33, x_10_34, x_10_35, x_10_36, x_10_39, cl2_i, cl2_r, cl2_n, cl2_l, tl_s, tl_n, true_and, and_true, Option.some.injEq, exists_eq_left', Bool.and_self, Bool.true_and, Bool.and_true, Bool.or_true, Bool.true_or, i_10, i_00, if_true, if_false, not_true_eq_false, not_false_eq_true, and_false, false_and, okp_sI, okp_sL, okp_aI, okp_aL, hR_sI, hR_sL, hR_aI, hR_aL, ho, ho1, eq1', eq2']
end CG
