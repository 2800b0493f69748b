/-! ===== ledBack ===== -/
def lb (v : Nat → Int32) (y : Nat) : Nat → Mv3
  | 0 => []
  | x + 1 => lb v y x ++ (if bit1 (v y) x = true then [(0, nI x, nI y)] else [])
def ldb (v : Nat → Int32) (N : Nat) : Nat → Mv3
  | 0 => []
  | y + 1 => ldb v N y ++ lb v y N
section LB
variable {sc : Nat × (Nat → Int32)} {d : Nat} {Q : PRes → Prop} {h h' h1 h2 H : PH} {k s r b M R i j N n t c e : Nat} {kd x y z w bs : Int32} {ms : Mv3} {v : Nat → Int32}
theorem lb_len : ∀ x, nI (lb v e x).length = cnP 0 (bit1 (v e)) x
  | 0 => rfl
  | x + 1 => by
    show nI (lb v e x ++ (if bit1 (v e) x = true then [(0, nI x, nI e)] else [])).length = _
    rw [List.length_append]
    by_cases q : bit1 (v e) x = true
    · rw [if_pos q, cnP_t q, ← lb_len x, nI_1, List.length_singleton]
    · rw [if_neg q, cnP_f q, ← lb_len x]; rfl
theorem ldb_len (hN : N ≤ 4) (g : ∀ j, j < N → gB N (v j) = true) : ∀ y, y ≤ N → nI (ldb v N y).length = wtS (fun j => bcF (v j)) y
  | 0, _ => rfl
  | y + 1, hy => by
    show nI (ldb v N y ++ lb v y N).length = wtS (fun j => bcF (v j)) y + bcF (v y)
    rw [List.length_append, ← nI_add, ldb_len hN g y (by omega), lb_len]
    obtain ⟨a, ha, ea⟩ := gB_nat (M := N) (by omega) (g y (by omega))
    rw [ea, bc_all N (by omega) a ha]
theorem lb_mono : ∀ m x, (lb v e x).length ≤ (lb v e (x + m)).length
  | 0, x => Nat.le_refl _
  | m + 1, x => by
    have := lb_mono m x
    show _ ≤ (lb v e (x + m) ++ _).length
    rw [List.length_append]; omega
theorem ldb_mono : ∀ m y, (ldb v N y).length ≤ (ldb v N (y + m)).length
  | 0, x => Nat.le_refl _
  | m + 1, y => by
    have := ldb_mono m y
    show _ ≤ (ldb v N (y + m) ++ _).length
    rw [List.length_append]; omega
theorem pre_le (he : e < N) (hx : i ≤ N) : (ldb v N e).length + (lb v e i).length ≤ (ldb v N N).length := by
  have h1 := lb_mono (v := v) (e := e) (N - i) i
  rw [show i + (N - i) = N by omega] at h1
  have h2 := ldb_mono (v := v) (N := N) (N - (e + 1)) (e + 1)
  rw [show e + 1 + (N - (e + 1)) = N by omega] at h2
  have h3 : (ldb v N (e + 1)).length = (ldb v N e).length + (lb v e N).length := List.length_append
  omega
theorem lb_g : ∀ x, x ≤ 4 → e < 4 → ∀ m, m ∈ lb v e x → gdM m
  | 0, _, _, m, hm => by cases hm
  | x + 1, hx, he, m, hm => by
    rcases List.mem_append.mp hm with q | q
    · exact lb_g x (by omega) he m q
    · by_cases z : bit1 (v e) x = true
      · rw [if_pos z] at q
        rw [List.mem_singleton.mp q]
        exact ⟨⟨0, by omega, rfl⟩, by show -9 ≤ (nI x).toInt ∧ (nI x).toInt ≤ 9; rw [nI_toInt (by omega)]; omega, by show -9 ≤ (nI e).toInt ∧ (nI e).toInt ≤ 9; rw [nI_toInt (by omega)]; omega⟩
      · rw [if_neg z] at q; cases q
theorem ldb_g (hN : N ≤ 4) : ∀ y, y ≤ N → ∀ m, m ∈ ldb v N y → gdM m
  | 0, _, m, hm => by cases hm
  | y + 1, hy, m, hm => by
    rcases List.mem_append.mp hm with q | q
    · exact ldb_g hN y (by omega) m q
    · exact lb_g N hN (by omega) m q
theorem bit_v (a : Int32) (j : Nat) : (a >>> (nI j &&& 31)) &&& 1 = if bit1 a j = true then 1 else 0 := by
  unfold bit1
  rcases and1 (a >>> (nI j &&& 31)) with q | q
  · rw [q]; rfl
  · rw [q]; rfl
theorem c_addMove {tt xx yy : Int32} (hw : WF h) (D : DV h bs ms) (hm : ms.length < 6) (ht : tt &&& 7 = tt) (hK : ∀ h', Fq (fun a _ => 4 ≤ a ∧ a ≤ 7) h h' → DV h' bs (ms ++ [(tt, xx, yy)]) → Q (none, h')) : Tr sc d 52 (ent0 52 [.ref 4, .int tt, .int xx, .int yy] h) Q := by
  obtain ⟨g1, g2, g3⟩ := D
  rw [e_52]
  simp only [x_52_0, x_52_1, x_52_4, x_52_6, x_52_9, x_52_10, x_52_13, x_52_14, x_52_17, x_52_18, x_52_20, x_52_21, x_52_22, x_52_23, x_52_26, x_52_27, x_52_30, x_52_31, x_52_32, x_52_33, x_52_36, x_52_37, x_52_40, x_52_41, x_52_42, x_52_43, x_52_44, x_52_47, x_52_48, x_52_49, x_52_52, o_4 hw, w_4_0 hw, w_4_1 hw, w_4_2 hw, w_4_3 hw, w_4_4 hw, w_4_5 hw, o_5 hw, iOk_lt (k := 5) (by decide), iRd_lt (k := 5) (by decide), show LN 5 = 6 from rfl, o_6 hw, iOk_lt (k := 6) (by decide), iRd_lt (k := 6) (by decide), show LN 6 = 6 from rfl, o_7 hw, iOk_lt (k := 7) (by decide), iRd_lt (k := 7) (by decide), show LN 7 = 6 from rfl, cl2_i, cl2_r, cl2_n, cl2_l, tl_s, tl_n, true_and, and_true, Option.some.injEq, exists_eq_left', Bool.and_self, Bool.true_and, Bool.and_true, Bool.or_true, Bool.true_or, i_10, i_00, if_true, if_false, not_true_eq_false, not_false_eq_true, and_false, false_and, okp_sI, okp_sL, okp_aI, okp_aL, hR_sI, hR_sL, hR_aI, hR_aL, hI_sI, Nat.reduceEqDiff, g2, inb_nI (i := ms.length) (n := 6) (by omega) (by decide), nI_clamp (n := ms.length) (by omega), ht, nI_1]
  rw [if_neg (show ¬ (6 : Int32) ≤ nI ms.length from nI_ge (a := ms.length) (b := 6) (by omega) (by decide))]
  refine hK _ ((((Fq.rf.sI (by omega)).sI (by omega)).sI (by omega)).sI (by omega)) ⟨?_, ?_, fun i m e => ?_⟩
  · simp only [hI_sI, Nat.reduceEqDiff, if_false, if_true]; exact g1
  · simp only [hI_sI, Nat.reduceEqDiff, if_false, if_true]
    rw [List.length_append]; rfl
  · rcases ap_get e with ⟨q1, q2⟩ | ⟨q1, q2⟩
    · obtain ⟨r1, r2, r3⟩ := g3 i m q2
      simp only [hI_sI, Nat.reduceEqDiff, if_false, if_true, if_neg (show ¬ i = ms.length by omega)]
      exact ⟨r1, r2, r3⟩
    · rw [q2, q1]
      simp only [hI_sI, Nat.reduceEqDiff, if_false, if_true, and_self]
/-- a row's first N lines, in class and model -/
def RwC (h : PH) (kr pr N : Nat) (v : Nat → Int32) : Prop := okp h kr 5 = true ∧ hR h kr 0 = some pr ∧ okp h pr 11 = true ∧ LN pr = 40 ∧ hI h kr 1 = nI N ∧ (2 ≤ N ∧ N ≤ 4) ∧ (∀ j, j < N → hI h pr j = v j) ∧ 48 ≤ kr ∧ 48 ≤ pr
theorem RwC.fr {P : Nat → Nat → Prop} {kr pr : Nat} (T : RwC h kr pr N v) (fr : Fq P h h') (hP : ∀ a j, 48 ≤ a → ¬ P a j) : RwC h' kr pr N v := by
  obtain ⟨t1, t2, t3, t4, t5, t6, t7, t8, t9⟩ := T
  exact ⟨by rw [fr.ok]; exact t1, by rw [fr.2.1]; exact t2, by rw [fr.ok]; exact t3, t4, by rw [fr.i (hP _ _ t8)]; exact t5, t6, fun j hj => by rw [fr.i (hP _ _ t9)]; exact t7 j hj, t8, t9⟩
theorem c_lb_x {kr pr : Nat} (hw : WF h) (T : RwC h kr pr N v) (he : e < N) (hl : (ldb v N N).length ≤ 6) (hK : ∀ H, Fq (fun a _ => 4 ≤ a ∧ a ≤ 7) h H → DV H bs (ldb v N (e + 1)) → Tr sc (d + 1) 55 (54, [some (.ref 4), some (.ref kr), some (.int (nI e)), some (.int (nI N))], [], H) Q) : ∀ (m i : Nat) (H : PH), i + m = N → Fq (fun a _ => 4 ≤ a ∧ a ≤ 7) h H → DV H bs (ldb v N e ++ lb v e i) → Tr sc (d + 1) 55 (20, [some (.ref 4), some (.ref kr), some (.int (nI e)), some (.int (nI i))], [], H) Q := by
  intro m
  induction m with
  | zero =>
    intro i H hi f D
    have e1 : i = N := by omega
    subst e1
    obtain ⟨t1, t2, t3, t4, t5, t6, t7, t8, t9⟩ := T.fr f (fun a j h1 q => by omega)
    rw [x_55_20]
    simp only [x_55_21, x_55_22, x_55_25, cl2_i, cl2_r, cl2_n, cl2_l, tl_s, tl_n, true_and, and_true, Option.some.injEq, exists_eq_left', Bool.and_self, Bool.true_and, Bool.and_true, Bool.or_true, Bool.true_or, i_10, i_00, if_true, if_false, not_true_eq_false, not_false_eq_true, and_false, false_and, okp_sI, okp_sL, okp_aI, okp_aL, hR_sI, hR_sL, hR_aI, hR_aL, t1, t5]
    rw [if_pos (Int32.le_refl _)]
    exact hK H f D
  | succ m ih =>
    intro i H hi f D
    have hlt : i < N := by omega
    have hwH := f.WF hw
    have T' := T.fr f (fun a j h1 q => by omega)
    obtain ⟨t1, t2, t3, t4, t5, t6, t7, t8, t9⟩ := id T'
    have es : lb v e (i + 1) = lb v e i ++ (if bit1 (v e) i = true then [(0, nI i, nI e)] else []) := rfl
    rw [x_55_20]
    simp only [x_55_21, x_55_22, x_55_25, x_55_28, x_55_29, x_55_32, x_55_33, x_55_34, x_55_35, x_55_36, x_55_37, x_55_38, x_55_41, x_55_42, x_55_43, x_55_44, x_55_45, cl2_i, cl2_r, cl2_n, cl2_l, tl_s, tl_n, true_and, and_true, Option.some.injEq, exists_eq_left', Bool.and_self, Bool.true_and, Bool.and_true, Bool.or_true, Bool.true_or, i_10, i_00, if_true, if_false, not_true_eq_false, not_false_eq_true, and_false, false_and, okp_sI, okp_sL, okp_aI, okp_aL, hR_sI, hR_sL, hR_aI, hR_aL, t1, t2, t5, iOk_ok t3, iRd_ok t3, t4, inb_nI (n := 40) (show e < 40 by omega) (by decide), nI_clamp (n := e) (by omega), t7 e he, bit_v, o_4 hwH]
    rw [if_neg (nI_ge hlt (by omega))]
    by_cases q : bit1 (v e) i = true
    · have pl := pre_le (v := v) (N := N) he (show i + 1 ≤ N by omega)
      rw [es, if_pos q, List.length_append, List.length_singleton] at pl
      rw [if_pos q, if_neg (by decide)]
      refine c_addMove (tt := 0) hwH D (by rw [List.length_append]; omega) rfl (fun H2 f2 D2 => ?_)
      simp only [x_55_48, x_55_51, cl2_i, cl2_r, cl2_n, cl2_l, tl_s, tl_n, true_and, and_true, Option.some.injEq, exists_eq_left', Bool.and_self, Bool.true_and, Bool.and_true, Bool.or_true, Bool.true_or, i_10, i_00, if_true, if_false, not_true_eq_false, not_false_eq_true, and_false, false_and, okp_sI, okp_sL, okp_aI, okp_aL, hR_sI, hR_sL, hR_aI, hR_aL, nI_1]
      refine ih (i + 1) H2 (by omega) (f.tr f2) ?_
      rw [es, if_pos q, ← List.append_assoc]
      exact D2
    · rw [if_neg q, if_pos rfl]
      simp only [x_55_48, x_55_51, cl2_i, cl2_r, cl2_n, cl2_l, tl_s, tl_n, true_and, and_true, Option.some.injEq, exists_eq_left', Bool.and_self, Bool.true_and, Bool.and_true, Bool.or_true, Bool.true_or, i_10, i_00, if_true, if_false, not_true_eq_false, not_false_eq_true, and_false, false_and, okp_sI, okp_sL, okp_aI, okp_aL, hR_sI, hR_sL, hR_aI, hR_aL, nI_1]
      refine ih (i + 1) H (by omega) f ?_
      rw [es, if_neg q, List.append_nil]
      exact D
theorem c_lb_y {kr pr : Nat} (hw : WF h) (T : RwC h kr pr N v) (hl : (ldb v N N).length ≤ 6) (hK : ∀ H, Fq (fun a _ => 4 ≤ a ∧ a ≤ 7) h H → DV H bs (ldb v N N) → Q (none, H)) : ∀ (m e : Nat) (H : PH) (l3 : Option Value), e + m = N → Fq (fun a _ => 4 ≤ a ∧ a ≤ 7) h H → DV H bs (ldb v N e) → Tr sc (d + 1) 55 (10, [some (.ref 4), some (.ref kr), some (.int (nI e)), l3], [], H) Q := by
  intro m
  induction m with
  | zero =>
    intro e H l3 he f D
    have e1 : e = N := by omega
    subst e1
    obtain ⟨t1, t2, t3, t4, t5, t6, t7, t8, t9⟩ := T.fr f (fun a j h1 q => by omega)
    rw [x_55_10]
    simp only [x_55_11, x_55_12, x_55_15, x_55_60, cl2_i, cl2_r, cl2_n, cl2_l, tl_s, tl_n, true_and, and_true, Option.some.injEq, exists_eq_left', Bool.and_self, Bool.true_and, Bool.and_true, Bool.or_true, Bool.true_or, i_10, i_00, if_true, if_false, not_true_eq_false, not_false_eq_true, and_false, false_and, okp_sI, okp_sL, okp_aI, okp_aL, hR_sI, hR_sL, hR_aI, hR_aL, t1, t5]
    rw [if_pos (Int32.le_refl _)]
    exact hK H f D
  | succ m ih =>
    intro e H l3 he f D
    have hlt : e < N := by omega
    have hwH := f.WF hw
    have T' := T.fr f (fun a j h1 q => by omega)
    obtain ⟨t1, t2, t3, t4, t5, t6, t7, t8, t9⟩ := id T'
    rw [x_55_10]
    simp only [x_55_11, x_55_12, x_55_15, x_55_18, x_55_19, cl2_i, cl2_r, cl2_n, cl2_l, tl_s, tl_n, true_and, and_true, Option.some.injEq, exists_eq_left', Bool.and_self, Bool.true_and, Bool.and_true, Bool.or_true, Bool.true_or, i_10, i_00, if_true, if_false, not_true_eq_false, not_false_eq_true, and_false, false_and, okp_sI, okp_sL, okp_aI, okp_aL, hR_sI, hR_sL, hR_aI, hR_aL, t1, t5]
    rw [if_neg (nI_ge hlt (by omega))]
    refine c_lb_x (bs := bs) hwH T' hlt hl (fun H2 f2 D2 => ?_) N 0 H (by omega) Fq.rf (by show DV H bs (ldb v N e ++ []); rw [List.append_nil]; exact D)
    simp only [x_55_54, x_55_57, cl2_i, cl2_r, cl2_n, cl2_l, tl_s, tl_n, true_and, and_true, Option.some.injEq, exists_eq_left', Bool.and_self, Bool.true_and, Bool.and_true, Bool.or_true, Bool.true_or, i_10, i_00, if_true, if_false, not_true_eq_false, not_false_eq_true, and_false, false_and, okp_sI, okp_sL, okp_aI, okp_aL, hR_sI, hR_sL, hR_aI, hR_aL, nI_1]
    exact ih (e + 1) H2 _ (by omega) (f.tr f2) D2
theorem c_leadBack {kr pr : Nat} (hw : WF h) (T : RwC h kr pr N v) (hl : (ldb v N N).length ≤ 6) (hK : ∀ H, Fq (fun a _ => 4 ≤ a ∧ a ≤ 7) h H → DV H (nI N) (ldb v N N) → Q (none, H)) : Tr sc (d + 1) 55 (ent0 55 [.ref 4, .ref kr] h) Q := by
  obtain ⟨t1, t2, t3, t4, t5, t6, t7, t8, t9⟩ := id T
  rw [e_55]
  simp only [x_55_0, x_55_1, x_55_2, x_55_5, cl2_i, cl2_r, cl2_n, cl2_l, tl_s, tl_n, true_and, and_true, Option.some.injEq, exists_eq_left', Bool.and_self, Bool.true_and, Bool.and_true, Bool.or_true, Bool.true_or, i_10, i_00, if_true, if_false, not_true_eq_false, not_false_eq_true, and_false, false_and, okp_sI, okp_sL, okp_aI, okp_aL, hR_sI, hR_sL, hR_aI, hR_aL, t1, t5, o_4 hw]
  rw [e_51]
  simp only [x_51_0, x_51_1, x_51_2, x_51_5, x_51_6, x_51_7, x_51_10, o_4 hw, w_4_0 hw, w_4_1 hw, w_4_2 hw, w_4_3 hw, w_4_4 hw, w_4_5 hw, cl2_i, cl2_r, cl2_n, cl2_l, tl_s, tl_n, true_and, and_true, Option.some.injEq, exists_eq_left', Bool.and_self, Bool.true_and, Bool.and_true, Bool.or_true, Bool.true_or, i_10, i_00, if_true, if_false, not_true_eq_false, not_false_eq_true, and_false, false_and, okp_sI, okp_sL, okp_aI, okp_aL, hR_sI, hR_sL, hR_aI, hR_aL]
  simp only [x_55_8, x_55_9, cl2_i, cl2_r, cl2_n, cl2_l, tl_s, tl_n, true_and, and_true, Option.some.injEq, exists_eq_left', Bool.and_self, Bool.true_and, Bool.and_true, Bool.or_true, Bool.true_or, i_10, i_00, if_true, if_false, not_true_eq_false, not_false_eq_true, and_false, false_and, okp_sI, okp_sL, okp_aI, okp_aL, hR_sI, hR_sL, hR_aI, hR_aL]
  have f1 : Fq (fun a _ => 4 ≤ a ∧ a ≤ 7) h (sI (sI h 4 7 (nI N)) 4 8 0) := (Fq.rf.sI (by omega)).sI (by omega)
  exact c_lb_y (bs := nI N) hw T hl hK N 0 _ none (by omega) f1 ⟨rfl, rfl, fun i m e => by simp [ldb] at e⟩
/-- the class counts the bits, or finds a line that is unlike -/
theorem c_ct {r : Nat} {l6 : Option Value} (hw : WF h) (hs : r < 6) (hN : 2 ≤ N ∧ N ≤ 4) (Qt : (∀ j, j < N → gB N (hI h (49 + 2 * r) j) = true) → ∀ l6, cl2 l6 = l6 → Tr sc (d + 1) 108 (121, [some (.ref 0), some (.int x), some (.int (nI r)), some (.int (nI N)), some (.int (wtS (fun j => bcF (hI h (49 + 2 * r) j)) N)), some (.int (nI N)), l6], [], h) Q) (Qf : ¬ (∀ j, j < N → gB N (hI h (49 + 2 * r) j) = true) → Q (some (.int (-3)), refu h 3)) : ∀ (m e : Nat) (l6 : Option Value), cl2 l6 = l6 → e + m = N → (∀ j, j < e → gB N (hI h (49 + 2 * r) j) = true) → Tr sc (d + 1) 108 (66, [some (.ref 0), some (.int x), some (.int (nI r)), some (.int (nI N)), some (.int (wtS (fun j => bcF (hI h (49 + 2 * r) j)) e)), some (.int (nI e)), l6], [], h) Q := by
  obtain ⟨v1, v2, v3, v4, v5⟩ := hw.row hs
  intro m
  induction m with
  | zero =>
    intro e l6 h6 he a1
    have e1 : e = N := by omega
    subst e1
    rw [x_108_66]
    simp only [x_108_68, x_108_69, cl2_i, cl2_r, cl2_n, cl2_l, tl_s, tl_n, true_and, and_true, Option.some.injEq, exists_eq_left', Bool.and_self, Bool.true_and, Bool.and_true, Bool.or_true, Bool.true_or, i_10, i_00, if_true, if_false, not_true_eq_false, not_false_eq_true, and_false, false_and, okp_sI, okp_sL, okp_aI, okp_aL, hR_sI, hR_sL, hR_aI, hR_aL]
    rw [if_pos (Int32.le_refl _)]
    exact Qt a1 l6 h6
  | succ m ih =>
    intro e l6 h6 he a1
    have hlt : e < N := by omega
    rw [x_108_66]
    simp only [x_108_68, x_108_69, x_108_72, x_108_73, x_108_76, x_108_77, x_108_78, x_108_81, x_108_83, x_108_84, x_108_86, x_108_88, x_108_91, x_108_93, x_108_94, x_108_95, x_108_96, x_108_99, x_108_100, x_108_101, x_108_104, x_108_105, x_108_107, x_108_109, x_108_112, x_108_113, x_108_115, x_108_118, o_0 hw, w_0_0 hw, o_1 hw, show LN 1 = 6 from rfl, cl2_i, cl2_r, cl2_n, cl2_l, tl_s, tl_n, true_and, and_true, Option.some.injEq, exists_eq_left', Bool.and_self, Bool.true_and, Bool.and_true, Bool.or_true, Bool.true_or, i_10, i_00, if_true, if_false, not_true_eq_false, not_false_eq_true, and_false, false_and, okp_sI, okp_sL, okp_aI, okp_aL, hR_sI, hR_sL, hR_aI, hR_aL, h6, inb_nI (n := 6) hs (by decide), nI_clamp (n := r) (by omega), v1, v2, v3, iOk_ok v4, iRd_ok v4, v5, inb_nI (n := 40) (show e < 40 by omega) (by decide), nI_clamp (n := e) (by omega), c_refuse_3 hw, c_bitCount, nI_1]
    rw [if_neg (nI_ge hlt (by omega))]
    by_cases q1 : hI h (49 + 2 * r) e < 0
    · rw [if_pos q1]
      exact Qf (fun z => Int32.not_lt.mpr (of_decide_eq_true (z e hlt)).1 q1)
    · rw [if_neg q1]
      by_cases q2 : hI h (49 + 2 * r) e < 1 <<< (nI N &&& 31)
      · rw [if_pos q2]
        exact ih (e + 1) _ rfl (by omega) (fun j hj => by
          by_cases z : j = e
          · rw [z]; exact decide_eq_true ⟨Int32.not_lt.mp q1, q2⟩
          · exact a1 j (by omega))
      · rw [if_neg q2]
        exact Qf (fun z => q2 (of_decide_eq_true (z e hlt)).2)
theorem m_ct_x {l8 : Option Value} (hw : WF h) (hN : 2 ≤ N ∧ N ≤ 4) (hl : (ldb v N e).length ≤ 100) (hK : Tr sc d 190 (140, [some (.ref 124), some (.int x), some (.int y), some (.int (nI N)), some (.int 1), some (.int (nI (ldb v N (e + 1)).length)), some (.int (nI e)), some (.int (v e)), some (.int (nI N))], [], h) Q) : ∀ (m i : Nat), i + m = N → Tr sc d 190 (111, [some (.ref 124), some (.int x), some (.int y), some (.int (nI N)), some (.int 1), some (.int (nI ((ldb v N e).length + (lb v e i).length))), some (.int (nI e)), some (.int (v e)), some (.int (nI i))], [], h) Q := by
  intro m
  induction m with
  | zero =>
    intro i hi
    have e1 : i = N := by omega
    subst e1
    rw [x_190_111]
    simp only [x_190_113, x_190_114, x_190_117, x_190_119, cl2_i, cl2_r, cl2_n, cl2_l, tl_s, tl_n, true_and, and_true, Option.some.injEq, exists_eq_left', Bool.and_self, Bool.true_and, Bool.and_true, Bool.or_true, Bool.true_or, i_10, i_00, if_true, if_false, not_true_eq_false, not_false_eq_true, and_false, false_and, okp_sI, okp_sL, okp_aI, okp_aL, hR_sI, hR_sL, hR_aI, hR_aL]
    rw [if_pos (Int32.le_refl _)]
    rw [show (ldb v i (e + 1)).length = (ldb v i e).length + (lb v e i).length from List.length_append] at hK
    exact hK
  | succ m ih =>
    intro i hi
    have hlt : i < N := by omega
    have ih' := ih (i + 1) (by omega)
    have es : lb v e (i + 1) = lb v e i ++ (if bit1 (v e) i = true then [(0, nI i, nI e)] else []) := rfl
    rw [es, List.length_append] at ih'
    rw [x_190_111]
    simp only [x_190_113, x_190_114, x_190_117, x_190_119, x_190_122, x_190_124, x_190_126, x_190_128, x_190_129, x_190_130, x_190_131, x_190_132, x_190_134, x_190_137, cl2_i, cl2_r, cl2_n, cl2_l, tl_s, tl_n, true_and, and_true, Option.some.injEq, exists_eq_left', Bool.and_self, Bool.true_and, Bool.and_true, Bool.or_true, Bool.true_or, i_10, i_00, if_true, if_false, not_true_eq_false, not_false_eq_true, and_false, false_and, okp_sI, okp_sL, okp_aI, okp_aL, hR_sI, hR_sL, hR_aI, hR_aL, bit_v, nI_1]
    rw [if_neg (nI_ge hlt (by omega))]
    by_cases q : bit1 (v e) i = true
    · rw [if_pos q] at ih' ⊢
      rw [nI_1]
      exact ih'
    · rw [if_neg q] at ih' ⊢
      rw [Int32.add_zero]
      exact ih'
theorem ldb_big : ∀ y, (ldb v N y).length ≤ y * N
  | 0 => Nat.zero_le _
  | y + 1 => by
    have h1 := ldb_big y
    have h2 : ∀ x, (lb v y x).length ≤ x := fun x => by
      induction x with
      | zero => exact Nat.le_refl _
      | succ x ih =>
        show (lb v y x ++ (if bit1 (v y) x = true then [(0, nI x, nI y)] else [])).length ≤ x + 1
        rw [List.length_append]
        split
        · rw [List.length_singleton]; omega
        · rw [List.length_nil]; omega
    have h3 := h2 N
    show (ldb v N y ++ lb v y N).length ≤ (y + 1) * N
    rw [List.length_append, Nat.add_mul, Nat.one_mul]
    omega
theorem m_ct (hw : WF h) (hr : r < 6) (hN : 2 ≤ N ∧ N ≤ 4) (hv : ∀ j, j < N → hI h 127 (40 * r + j) = v j) (Qt : (∀ j, j < N → gB N (v j) = true) → ∀ l7 l8, cl2 l7 = l7 → Tr sc (d + 1) 190 (146, [some (.ref 124), some (.int x), some (.int (nI r)), some (.int (nI N)), some (.int 1), some (.int (nI (ldb v N N).length)), some (.int (nI N)), l7, l8], [], h) Q) (Qf : ¬ (∀ j, j < N → gB N (v j) = true) → ∀ nn l7 l8, Tr sc (d + 1) 190 (146, [some (.ref 124), some (.int x), some (.int (nI r)), some (.int (nI N)), some (.int 0), some (.int nn), some (.int (nI N)), l7, l8], [], h) Q) : ∀ (m e : Nat) (fl nn : Int32) (l7 l8 : Option Value), cl2 l7 = l7 → e + m = N → ((fl = 1 ∧ (∀ j, j < e → gB N (v j) = true) ∧ nn = nI (ldb v N e).length) ∨ (fl = 0 ∧ ¬ (∀ j, j < N → gB N (v j) = true))) → Tr sc (d + 1) 190 (62, [some (.ref 124), some (.int x), some (.int (nI r)), some (.int (nI N)), some (.int fl), some (.int nn), some (.int (nI e)), l7, l8], [], h) Q := by
  intro m
  induction m with
  | zero =>
    intro e fl nn l7 l8 h7 he inv
    have e1 : e = N := by omega
    subst e1
    rw [x_190_62]
    simp only [x_190_64, x_190_65, cl2_i, cl2_r, cl2_n, cl2_l, tl_s, tl_n, true_and, and_true, Option.some.injEq, exists_eq_left', Bool.and_self, Bool.true_and, Bool.and_true, Bool.or_true, Bool.true_or, i_10, i_00, if_true, if_false, not_true_eq_false, not_false_eq_true, and_false, false_and, okp_sI, okp_sL, okp_aI, okp_aL, hR_sI, hR_sL, hR_aI, hR_aL]
    rw [if_pos (Int32.le_refl _)]
    rcases inv with ⟨i1, i2, i3⟩ | ⟨i1, i2⟩
    · rw [i1, i3]; exact Qt i2 l7 l8 h7
    · rw [i1]; exact Qf i2 nn l7 l8
  | succ m ih =>
    intro e fl nn l7 l8 h7 he inv
    have hlt : e < N := by omega
    rw [x_190_62]
    simp only [x_190_64, x_190_65, x_190_68, x_190_69, x_190_72, x_190_74, x_190_75, x_190_76, x_190_78, x_190_79, x_190_80, x_190_82, x_190_84, x_190_87, x_190_89, x_190_90, x_190_91, x_190_92, x_190_93, x_190_94, x_190_95, x_190_98, x_190_101, x_190_102, x_190_105, o_124 hw, w_124_7 hw, o_127 hw, iOk_lt (k := 127) (by decide), iRd_lt (k := 127) (by decide), show LN 127 = 240 from rfl, cl2_i, cl2_r, cl2_n, cl2_l, tl_s, tl_n, true_and, and_true, Option.some.injEq, exists_eq_left', Bool.and_self, Bool.true_and, Bool.and_true, Bool.or_true, Bool.true_or, i_10, i_00, if_true, if_false, not_true_eq_false, not_false_eq_true, and_false, false_and, okp_sI, okp_sL, okp_aI, okp_aL, hR_sI, hR_sL, hR_aI, hR_aL, h7, lay_ix hr (show e < 40 by omega), inb_nI (n := 240) (show 40 * r + e < 240 by omega) (by decide), nI_clamp (n := 40 * r + e) (by omega), hv e hlt, m_in, bI_0]
    rw [if_neg (nI_ge hlt (by omega))]
    have bad : ¬ (∀ j, j < N → gB N (v j) = true) → Tr sc (d + 1) 190 (106, [some (.ref 124), some (.int x), some (.int (nI r)), some (.int (nI N)), some (.int fl), some (.int nn), some (.int (nI e)), some (.int (v e)), l8], [.int 0], h) Q := by
      intro q
      simp only [x_190_106, x_190_108, x_190_109, cl2_i, cl2_r, cl2_n, cl2_l, tl_s, tl_n, true_and, and_true, Option.some.injEq, exists_eq_left', Bool.and_self, Bool.true_and, Bool.and_true, Bool.or_true, Bool.true_or, i_10, i_00, if_true, if_false, not_true_eq_false, not_false_eq_true, and_false, false_and, okp_sI, okp_sL, okp_aI, okp_aL, hR_sI, hR_sL, hR_aI, hR_aL]
      rw [x_190_111]
      have n0 : (nI N ≤ 0) = False := eq_false (nI_nle (by omega) (by omega))
      simp only [x_190_113, x_190_114, x_190_117, x_190_119, x_190_140, x_190_143, cl2_i, cl2_r, cl2_n, cl2_l, tl_s, tl_n, true_and, and_true, Option.some.injEq, exists_eq_left', Bool.and_self, Bool.true_and, Bool.and_true, Bool.or_true, Bool.true_or, i_10, i_00, if_true, if_false, not_true_eq_false, not_false_eq_true, and_false, false_and, okp_sI, okp_sL, okp_aI, okp_aL, hR_sI, hR_sL, hR_aI, hR_aL, n0, nI_1]
      exact ih (e + 1) 0 nn _ _ rfl (by omega) (Or.inr ⟨rfl, q⟩)
    rcases inv with ⟨i1, i2, i3⟩ | ⟨i1, i2⟩
    · rw [if_neg (by rw [i1]; decide)]
      by_cases q : gB N (v e) = true
      · rw [if_neg (show ¬ ¬ (0 ≤ v e ∧ v e ≤ 1 <<< (nI N &&& 31) - 1) from fun z => z (by rw [gB_hi (by omega)]; exact q))]
        simp only [x_190_106, x_190_108, x_190_109, cl2_i, cl2_r, cl2_n, cl2_l, tl_s, tl_n, true_and, and_true, Option.some.injEq, exists_eq_left', Bool.and_self, Bool.true_and, Bool.and_true, Bool.or_true, Bool.true_or, i_10, i_00, if_true, if_false, not_true_eq_false, not_false_eq_true, and_false, false_and, okp_sI, okp_sL, okp_aI, okp_aL, hR_sI, hR_sL, hR_aI, hR_aL]
        have big := ldb_big (v := v) (N := N) e
        have b16 : e * N ≤ 4 * 4 := Nat.mul_le_mul (by omega) (by omega)
        rw [i3]
        refine m_ct_x (v := v) (e := e) (l8 := none) hw hN (by omega) ?_ N 0 (by omega)
        simp only [x_190_140, x_190_143, cl2_i, cl2_r, cl2_n, cl2_l, tl_s, tl_n, true_and, and_true, Option.some.injEq, exists_eq_left', Bool.and_self, Bool.true_and, Bool.and_true, Bool.or_true, Bool.true_or, i_10, i_00, if_true, if_false, not_true_eq_false, not_false_eq_true, and_false, false_and, okp_sI, okp_sL, okp_aI, okp_aL, hR_sI, hR_sL, hR_aI, hR_aL, nI_1]
        exact ih (e + 1) 1 _ _ _ rfl (by omega) (Or.inl ⟨rfl, fun j hj => by
          by_cases z : j = e
          · rw [z]; exact q
          · exact i2 j (by omega), rfl⟩)
      · rw [if_pos (show ¬ (0 ≤ v e ∧ v e ≤ 1 <<< (nI N &&& 31) - 1) from fun z => q (by rw [gB_hi (by omega)] at z; exact z))]
        exact bad (fun z => q (z e hlt))
    · rw [if_pos i1]
      exact bad i2
theorem m_lb_x (hw : WF h) (hr : r < 6) (hN : 2 ≤ N ∧ N ≤ 4) (hv : ∀ j, j < N → hI h 127 (40 * r + j) = v j) (he : e < N) (hl : (ldb v N N).length ≤ 6) (hK : ∀ H l8, Fq Pz h H → DM H bs (ldb v N (e + 1)) → Tr sc d 190 (275, [some (.ref 124), some (.int x), some (.int (nI r)), some (.int (nI N)), some (.int y), some (.int z), some (.int (nI e)), some (.int (nI N)), l8], [], H) Q) : ∀ (m i : Nat) (H : PH) (l8 : Option Value), i + m = N → Fq Pz h H → DM H bs (ldb v N e ++ lb v e i) → Tr sc d 190 (190, [some (.ref 124), some (.int x), some (.int (nI r)), some (.int (nI N)), some (.int y), some (.int z), some (.int (nI e)), some (.int (nI i)), l8], [], H) Q := by
  intro m
  induction m with
  | zero =>
    intro i H l8 hi f D
    have e1 : i = N := by omega
    subst e1
    rw [x_190_190]
    simp only [x_190_192, x_190_193, cl2_i, cl2_r, cl2_n, cl2_l, tl_s, tl_n, true_and, and_true, Option.some.injEq, exists_eq_left', Bool.and_self, Bool.true_and, Bool.and_true, Bool.or_true, Bool.true_or, i_10, i_00, if_true, if_false, not_true_eq_false, not_false_eq_true, and_false, false_and, okp_sI, okp_sL, okp_aI, okp_aL, hR_sI, hR_sL, hR_aI, hR_aL]
    rw [if_pos (Int32.le_refl _)]
    exact hK H l8 f D
  | succ m ih =>
    intro i H l8 hi f D
    have hlt : i < N := by omega
    have hwH := f.WF hw
    have ve : hI H 127 (40 * r + e) = v e := by rw [f.i (by unfold Pz; omega)]; exact hv e he
    have es : lb v e (i + 1) = lb v e i ++ (if bit1 (v e) i = true then [(0, nI i, nI e)] else []) := rfl
    rw [x_190_190]
    simp only [x_190_192, x_190_193, x_190_196, x_190_197, x_190_200, x_190_202, x_190_203, x_190_204, x_190_206, x_190_207, x_190_208, x_190_210, x_190_211, x_190_212, x_190_213, x_190_214, o_124 hwH, w_124_7 hwH, o_127 hwH, iOk_lt (k := 127) (by decide), iRd_lt (k := 127) (by decide), show LN 127 = 240 from rfl, cl2_i, cl2_r, cl2_n, cl2_l, tl_s, tl_n, true_and, and_true, Option.some.injEq, exists_eq_left', Bool.and_self, Bool.true_and, Bool.and_true, Bool.or_true, Bool.true_or, i_10, i_00, if_true, if_false, not_true_eq_false, not_false_eq_true, and_false, false_and, okp_sI, okp_sL, okp_aI, okp_aL, hR_sI, hR_sL, hR_aI, hR_aL, lay_ix hr (show e < 40 by omega), inb_nI (n := 240) (show 40 * r + e < 240 by omega) (by decide), nI_clamp (n := 40 * r + e) (by omega), ve, bit_v]
    rw [if_neg (nI_ge hlt (by omega))]
    by_cases q : bit1 (v e) i = true
    · have pl := pre_le (v := v) (N := N) he (show i + 1 ≤ N by omega)
      rw [es, if_pos q, List.length_append, List.length_singleton] at pl
      rw [if_pos q, if_pos rfl]
      obtain ⟨g1, g2, g3⟩ := D
      have hml : (ldb v N e ++ lb v e i).length < 6 := by rw [List.length_append]; omega
      generalize hms : ldb v N e ++ lb v e i = ms at *
      have k0 : (3 : Int32) * nI ms.length = nI (3 * ms.length) := by rw [show (3 : Int32) = nI 3 from rfl, pk_mul]
      have k1 : nI (3 * ms.length) + 1 = nI (3 * ms.length + 1) := nI_1 _
      have k2 : nI (3 * ms.length) + 2 = nI (3 * ms.length + 2) := by rw [show (2 : Int32) = nI 2 from rfl, nI_add]
      simp only [x_190_217, x_190_218, x_190_221, x_190_222, x_190_223, x_190_226, x_190_227, x_190_228, x_190_229, x_190_230, x_190_233, x_190_234, x_190_235, x_190_238, x_190_239, x_190_240, x_190_241, x_190_243, x_190_244, x_190_245, x_190_248, x_190_249, x_190_250, x_190_253, x_190_254, x_190_255, x_190_256, x_190_258, x_190_259, x_190_260, x_190_261, x_190_264, x_190_265, x_190_266, o_124 hwH, w_124_13 hwH, o_131 hwH, iOk_lt (k := 131) (by decide), iRd_lt (k := 131) (by decide), show LN 131 = 18 from rfl, cl2_i, cl2_r, cl2_n, cl2_l, tl_s, tl_n, true_and, and_true, Option.some.injEq, exists_eq_left', Bool.and_self, Bool.true_and, Bool.and_true, Bool.or_true, Bool.true_or, i_10, i_00, if_true, if_false, not_true_eq_false, not_false_eq_true, and_false, false_and, okp_sI, okp_sL, okp_aI, okp_aL, hR_sI, hR_sL, hR_aI, hR_aL, hI_sI, Nat.reduceEqDiff, g2, k0, k1, k2, inb_nI (n := 18) (show 3 * ms.length < 18 by omega) (by decide), inb_nI (n := 18) (show 3 * ms.length + 1 < 18 by omega) (by decide), inb_nI (n := 18) (show 3 * ms.length + 2 < 18 by omega) (by decide), nI_clamp (n := 3 * ms.length) (by omega), nI_clamp (n := 3 * ms.length + 1) (by omega), nI_clamp (n := 3 * ms.length + 2) (by omega), nI_1]
      simp only [x_190_269, x_190_272, cl2_i, cl2_r, cl2_n, cl2_l, tl_s, tl_n, true_and, and_true, Option.some.injEq, exists_eq_left', Bool.and_self, Bool.true_and, Bool.and_true, Bool.or_true, Bool.true_or, i_10, i_00, if_true, if_false, not_true_eq_false, not_false_eq_true, and_false, false_and, okp_sI, okp_sL, okp_aI, okp_aL, hR_sI, hR_sL, hR_aI, hR_aL, nI_1]
      refine ih (i + 1) _ _ (by omega) ((((f.sI (by unfold Pz; omega)).sI (by unfold Pz; omega)).sI (by unfold Pz; omega)).sI (by unfold Pz; omega)) ?_
      rw [es, if_pos q, ← List.append_assoc, hms]
      refine ⟨?_, ?_, fun j m e2 => ?_⟩
      · rw [rd_ne (by omega), rd_ne (by omega), rd_ne (by omega), rd_ne (by omega)]; exact g1
      · rw [rd_eq, List.length_append]; rfl
      · rcases ap_get e2 with ⟨q1, q2⟩ | ⟨q1, q2⟩
        · obtain ⟨r1, r2, r3⟩ := g3 j m q2
          refine ⟨?_, ?_, ?_⟩
          · rw [rd_ne (by omega), rd_ne (by omega), rd_ne (by omega), rd_ne (by omega)]; exact r1
          · rw [rd_ne (by omega), rd_ne (by omega), rd_ne (by omega), rd_ne (by omega)]; exact r2
          · rw [rd_ne (by omega), rd_ne (by omega), rd_ne (by omega), rd_ne (by omega)]; exact r3
        · rw [q2, q1]
          refine ⟨?_, ?_, ?_⟩
          · rw [rd_ne (by omega), rd_ne (by omega), rd_ne (by omega), rd_eq]
          · rw [rd_ne (by omega), rd_ne (by omega), rd_eq]
          · rw [rd_ne (by omega), rd_eq]
    · rw [if_neg q, if_neg (by decide)]
      simp only [x_190_269, x_190_272, cl2_i, cl2_r, cl2_n, cl2_l, tl_s, tl_n, true_and, and_true, Option.some.injEq, exists_eq_left', Bool.and_self, Bool.true_and, Bool.and_true, Bool.or_true, Bool.true_or, i_10, i_00, if_true, if_false, not_true_eq_false, not_false_eq_true, and_false, false_and, okp_sI, okp_sL, okp_aI, okp_aL, hR_sI, hR_sL, hR_aI, hR_aL, nI_1]
      refine ih (i + 1) H _ (by omega) f ?_
      rw [es, if_neg q, List.append_nil]
      exact D
theorem m_lb_y (hw : WF h) (hr : r < 6) (hN : 2 ≤ N ∧ N ≤ 4) (hv : ∀ j, j < N → hI h 127 (40 * r + j) = v j) (hl : (ldb v N N).length ≤ 6) (hK : ∀ H l7 l8, Fq Pz h H → DM H bs (ldb v N N) → Tr sc d 190 (281, [some (.ref 124), some (.int x), some (.int (nI r)), some (.int (nI N)), some (.int y), some (.int z), some (.int (nI N)), l7, l8], [], H) Q) : ∀ (m e : Nat) (H : PH) (l7 l8 : Option Value), e + m = N → Fq Pz h H → DM H bs (ldb v N e) → Tr sc d 190 (181, [some (.ref 124), some (.int x), some (.int (nI r)), some (.int (nI N)), some (.int y), some (.int z), some (.int (nI e)), l7, l8], [], H) Q := by
  intro m
  induction m with
  | zero =>
    intro e H l7 l8 he f D
    have e1 : e = N := by omega
    subst e1
    rw [x_190_181]
    simp only [x_190_183, x_190_184, cl2_i, cl2_r, cl2_n, cl2_l, tl_s, tl_n, true_and, and_true, Option.some.injEq, exists_eq_left', Bool.and_self, Bool.true_and, Bool.and_true, Bool.or_true, Bool.true_or, i_10, i_00, if_true, if_false, not_true_eq_false, not_false_eq_true, and_false, false_and, okp_sI, okp_sL, okp_aI, okp_aL, hR_sI, hR_sL, hR_aI, hR_aL]
    rw [if_pos (Int32.le_refl _)]
    exact hK H l7 l8 f D
  | succ m ih =>
    intro e H l7 l8 he f D
    have hlt : e < N := by omega
    rw [x_190_181]
    simp only [x_190_183, x_190_184, x_190_187, x_190_188, cl2_i, cl2_r, cl2_n, cl2_l, tl_s, tl_n, true_and, and_true, Option.some.injEq, exists_eq_left', Bool.and_self, Bool.true_and, Bool.and_true, Bool.or_true, Bool.true_or, i_10, i_00, if_true, if_false, not_true_eq_false, not_false_eq_true, and_false, false_and, okp_sI, okp_sL, okp_aI, okp_aL, hR_sI, hR_sL, hR_aI, hR_aL]
    rw [if_neg (nI_ge hlt (by omega))]
    refine m_lb_x (h := h) (bs := bs) hw hr hN hv hlt hl (fun H2 l8 f2 D2 => ?_) N 0 H l8 (by omega) f (by show DM H bs (ldb v N e ++ []); rw [List.append_nil]; exact D)
    simp only [x_190_275, x_190_278, cl2_i, cl2_r, cl2_n, cl2_l, tl_s, tl_n, true_and, and_true, Option.some.injEq, exists_eq_left', Bool.and_self, Bool.true_and, Bool.and_true, Bool.or_true, Bool.true_or, i_10, i_00, if_true, if_false, not_true_eq_false, not_false_eq_true, and_false, false_and, okp_sI, okp_sL, okp_aI, okp_aL, hR_sI, hR_sL, hR_aI, hR_aL, nI_1]
    exact ih (e + 1) H2 _ _ (by omega) f2 D2
end LB
