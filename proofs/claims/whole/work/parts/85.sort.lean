/-! ===== the model's setPoints: keys, heap, order, runs ===== -/
def RK (f : Nat → Int) (N : Nat) : Prop := ∀ j, j < N → 0 ≤ f j ∧ f j < 8000000000000
def KA (h : PH) (f : Nat → Int) (N : Nat) : Prop := ∀ j, j < N → hL h 145 j = jv (f j)
def P45 (a _b : Nat) : Prop := a = 145
section SK
variable {sc : Nat × (Nat → Int32)} {d : Nat} {Q : PRes → Prop} {h h' h1 H G : PH} {c k e i j l n t u b M N s a : Nat} {L : List Wrd} {p : Pnt} {kd x y : Int32} {tn : Nat → Nat} {sx sy ex : Nat → Int} {w : Wrd} {f g : Nat → Int}
theorem rk_r (r : RK f N) (hj : j < N) : R6 (f j) := ⟨by have := (r j hj).1; omega, by have := (r j hj).2; omega⟩
theorem rdL_ne {H : PH} {q a i j : Nat} {v : Int64} (e : a ≠ q ∨ j ≠ i) : hL (sL H q i v) a j = hL H a j := by
  rw [hL_sL]
  by_cases e1 : a = q
  · rw [if_pos e1, if_neg (by omega)]
  · rw [if_neg e1]
theorem rdL_eq {H : PH} {q i : Nat} {v : Int64} : hL (sL H q i v) q i = v := by
  rw [hL_sL, if_pos rfl, if_pos rfl]
theorem snk_rk (hn : n ≤ N) (q : Nat) (r : RK f N) : RK (snk n q f a) N := by
  intro j hj
  by_cases z : j < n
  · exact snk_all (P := fun v => 0 ≤ v ∧ v < 8000000000000) q f a (fun x hx => r x (by omega)) j z
  · rw [snk_ge (by omega)]; exact r j hj
theorem swp_rk (hi : i < N) (hj : j < N) (r : RK f N) : RK (swp f i j) N := by
  intro x hx
  show 0 ≤ (if x = i then f j else if x = j then f i else f x) ∧ _
  unfold swp
  split
  · exact r j hj
  · split
    · exact r i hi
    · exact r x hx
/-- two keys change places -/
theorem KA_swp (hi : i < N) (hj : j < N) (A : KA H f N) : KA (sL (sL H 145 i (jv (f j))) 145 j (jv (f i))) (swp f i j) N := by
  intro x hx
  unfold swp
  by_cases e1 : x = j
  · subst e1
    rw [rdL_eq]
    by_cases e2 : x = i
    · rw [if_pos e2, e2]
    · rw [if_neg e2, if_pos rfl]
  · rw [rdL_ne (by omega)]
    by_cases e2 : x = i
    · subst e2
      rw [rdL_eq, if_pos rfl]
    · rw [rdL_ne (by omega), if_neg e2, if_neg e1]
      exact A x hx
theorem m_sk (hw : WF h) (hN : N ≤ 7776) (hn : n ≤ N) : ∀ (q : Nat) (f : Nat → Int) (a : Nat) (H : PH), Fq P45 h H → a ≤ 7776 → n ≤ a + q → RK f N → KA H f N → ∃ H', Fq P45 h H' ∧ KA H' (snk n q f a) N ∧ ∀ d Q l1 l5 l6 l7, Tr sc d 203 (5, [some (.ref 124), l1, some (.int (nI n)), some (.int (nI a)), some (.int 1), l5, l6, l7], [], H) Q = Q (none, H') := by
  intro q
  induction q with
  | zero =>
    intro f a H F ha hq R A
    refine ⟨H, F, A, fun d Q l1 l5 l6 l7 => ?_⟩
    have hwH := F.WF hw
    rw [x_203_5]
    simp only [x_203_7, x_203_10, x_203_11, x_203_12, x_203_13, x_203_14, x_203_15, x_203_16, o_124 hwH, x_203_130, cl2_i, cl2_r, cl2_n, cl2_l, tl_s, tl_n, true_and, and_true, Option.some.injEq, exists_eq_left', Bool.and_self, Bool.true_and, Bool.and_true, Bool.or_true, Bool.true_or, i_10, i_00, if_true, if_false, not_true_eq_false, not_false_eq_true, and_false, false_and, okp_sI, okp_sL, okp_aI, okp_aL, hR_sI, hR_sL, hR_aI, hR_aL, show (2 : Int32) * nI a = nI (2 * a) from pk_mul 2 a, nI_1]
    rw [if_pos (nI_le (by omega) (by omega))]
  | succ q ih =>
    intro f a H F ha hq R A
    have hwH := F.WF hw
    by_cases r : 2 * a + 1 < n
    · obtain ⟨b1, b2, -⟩ := big_b (f := f) r
      have e2 : (2 : Int32) * nI a = nI (2 * a) := pk_mul 2 a
      have rb := rk_r R (show bigc f n a < N by omega)
      have ra := rk_r R (show a < N by omega)
      have Ab := A (bigc f n a) (by omega)
      have Aa := A a (by omega)
      have r1 := rk_r R (show 2 * a + 1 < N by omega)
      have A1 := A (2 * a + 1) (by omega)
      have i7 : ∀ v, v < 7776 → inb (nI v) 7776 = true := fun v hv => inb_nI hv (by decide)
      have c7 : ∀ v, v < 7776 → (nI v).toNatClampNeg = v := fun v hv => nI_clamp (by omega)
      -- the lead to 65
      have lead : ∀ d Q l1 l5 l6 l7, Tr sc d 203 (5, [some (.ref 124), l1, some (.int (nI n)), some (.int (nI a)), some (.int 1), l5, l6, l7], [], H) Q = Tr sc d 203 (65, [some (.ref 124), l1, some (.int (nI n)), some (.int (nI a)), some (.int 1), some (.int (nI (bigc f n a))), l6, l7], [], H) Q := by
        intro d Q l1 l5 l6 l7
        rw [x_203_5]
        simp only [x_203_7, x_203_10, x_203_11, x_203_12, x_203_13, x_203_14, x_203_15, x_203_16, x_203_19, x_203_20, x_203_21, x_203_22, x_203_23, x_203_24, x_203_26, x_203_28, x_203_29, x_203_30, x_203_31, o_124 hwH, cl2_i, cl2_r, cl2_n, cl2_l, tl_s, tl_n, true_and, and_true, Option.some.injEq, exists_eq_left', Bool.and_self, Bool.true_and, Bool.and_true, Bool.or_true, Bool.true_or, i_10, i_00, if_true, if_false, not_true_eq_false, not_false_eq_true, and_false, false_and, okp_sI, okp_sL, okp_aI, okp_aL, hR_sI, hR_sL, hR_aI, hR_aL, e2, nI_1]
        rw [if_neg (nI_ge r (by omega))]
        by_cases r2 : 2 * a + 2 < n
        · have r3 := rk_r R (show 2 * a + 2 < N by omega)
          have A2 := A (2 * a + 2) (by omega)
          rw [if_neg (nI_ge (show 2 * a + 1 + 1 < n by omega) (by omega))]
          simp only [x_203_34, x_203_35, x_203_38, x_203_40, x_203_41, x_203_42, x_203_43, x_203_44, x_203_47, x_203_49, x_203_50, x_203_51, o_124 hwH, w_124_38 hwH, o_145 hwH, show LN 145 = 7776 from rfl, cl2_i, cl2_r, cl2_n, cl2_l, tl_s, tl_n, true_and, and_true, Option.some.injEq, exists_eq_left', Bool.and_self, Bool.true_and, Bool.and_true, Bool.or_true, Bool.true_or, i_10, i_00, if_true, if_false, not_true_eq_false, not_false_eq_true, and_false, false_and, okp_sI, okp_sL, okp_aI, okp_aL, hR_sI, hR_sL, hR_aI, hR_aL, nI_1, i7 (2 * a + 1) (by omega), c7 (2 * a + 1) (by omega), i7 (2 * a + 1 + 1) (by omega), c7 (2 * a + 1 + 1) (by omega), A1, show 2 * a + 1 + 1 = 2 * a + 2 from rfl, A2, lcmp_le, jv_t r1, jv_t r3]
          by_cases r4 : f (2 * a + 1) < f (2 * a + 2)
          · rw [if_neg (by omega)]
            simp only [x_203_54, x_203_56, x_203_57, x_203_58, x_203_61, x_203_63, cl2_i, cl2_r, cl2_n, cl2_l, tl_s, tl_n, true_and, and_true, Option.some.injEq, exists_eq_left', Bool.and_self, Bool.true_and, Bool.and_true, Bool.or_true, Bool.true_or, i_10, i_00, if_true, if_false, not_true_eq_false, not_false_eq_true, and_false, false_and, okp_sI, okp_sL, okp_aI, okp_aL, hR_sI, hR_sL, hR_aI, hR_aL, nI_1]
            rw [show bigc f n a = 2 * a + 2 from if_pos ⟨r2, r4⟩]
          · rw [if_pos (by omega)]
            simp only [x_203_61, x_203_63, cl2_i, cl2_r, cl2_n, cl2_l, tl_s, tl_n, true_and, and_true, Option.some.injEq, exists_eq_left', Bool.and_self, Bool.true_and, Bool.and_true, Bool.or_true, Bool.true_or, i_10, i_00, if_true, if_false, not_true_eq_false, not_false_eq_true, and_false, false_and, okp_sI, okp_sL, okp_aI, okp_aL, hR_sI, hR_sL, hR_aI, hR_aL]
            rw [show bigc f n a = 2 * a + 1 from if_neg (fun z => r4 z.2)]
        · rw [if_pos (nI_le (show n ≤ 2 * a + 1 + 1 by omega) (by omega))]
          simp only [x_203_61, x_203_63, cl2_i, cl2_r, cl2_n, cl2_l, tl_s, tl_n, true_and, and_true, Option.some.injEq, exists_eq_left', Bool.and_self, Bool.true_and, Bool.and_true, Bool.or_true, Bool.true_or, i_10, i_00, if_true, if_false, not_true_eq_false, not_false_eq_true, and_false, false_and, okp_sI, okp_sL, okp_aI, okp_aL, hR_sI, hR_sL, hR_aI, hR_aL]
          rw [show bigc f n a = 2 * a + 1 from if_neg (fun z => r2 z.1)]
      by_cases g : f a < f (bigc f n a)
      · obtain ⟨H', F', A', eq⟩ := ih (swp f a (bigc f n a)) (bigc f n a) (sL (sL H 145 a (jv (f (bigc f n a)))) 145 (bigc f n a) (jv (f a))) ((F.sL rfl).sL rfl) (by omega) (by omega) (swp_rk (by omega) (by omega) R) (KA_swp (by omega) (by omega) A)
        refine ⟨H', F', ?_, fun d Q l1 l5 l6 l7 => ?_⟩
        · rw [show snk n (q + 1) f a = snk n q (swp f a (bigc f n a)) (bigc f n a) from if_pos ⟨r, g⟩]
          exact A'
        · rw [lead]
          simp only [x_203_65, x_203_66, x_203_69, x_203_71, x_203_72, x_203_73, x_203_76, x_203_77, x_203_78, x_203_79, o_124 hwH, w_124_38 hwH, o_145 hwH, show LN 145 = 7776 from rfl, cl2_i, cl2_r, cl2_n, cl2_l, tl_s, tl_n, true_and, and_true, Option.some.injEq, exists_eq_left', Bool.and_self, Bool.true_and, Bool.and_true, Bool.or_true, Bool.true_or, i_10, i_00, if_true, if_false, not_true_eq_false, not_false_eq_true, and_false, false_and, okp_sI, okp_sL, okp_aI, okp_aL, hR_sI, hR_sL, hR_aI, hR_aL, i7 (bigc f n a) (by omega), c7 (bigc f n a) (by omega), i7 a (by omega), c7 a (by omega), Ab, Aa, lcmp_le, jv_t rb, jv_t ra]
          rw [if_neg (by omega)]
          simp only [x_203_82, x_203_83, x_203_86, x_203_87, x_203_89, x_203_91, x_203_94, x_203_95, x_203_98, x_203_99, x_203_100, x_203_102, x_203_103, x_203_106, x_203_107, x_203_108, x_203_111, x_203_113, x_203_114, x_203_115, x_203_116, x_203_119, x_203_121, x_203_123, x_203_124, x_203_126, x_203_127, o_124 hwH, w_124_38 hwH, o_145 hwH, show LN 145 = 7776 from rfl, cl2_i, cl2_r, cl2_n, cl2_l, tl_s, tl_n, true_and, and_true, Option.some.injEq, exists_eq_left', Bool.and_self, Bool.true_and, Bool.and_true, Bool.or_true, Bool.true_or, i_10, i_00, if_true, if_false, not_true_eq_false, not_false_eq_true, and_false, false_and, okp_sI, okp_sL, okp_aI, okp_aL, hR_sI, hR_sL, hR_aI, hR_aL, i7 (bigc f n a) (by omega), c7 (bigc f n a) (by omega), i7 a (by omega), c7 a (by omega), Ab, Aa]
          exact eq d Q _ _ _ _
      · refine ⟨H, F, ?_, fun d Q l1 l5 l6 l7 => ?_⟩
        · rw [show snk n (q + 1) f a = f from if_neg (fun z => g z.2)]
          exact A
        · rw [lead]
          simp only [x_203_65, x_203_66, x_203_69, x_203_71, x_203_72, x_203_73, x_203_76, x_203_77, x_203_78, x_203_79, o_124 hwH, w_124_38 hwH, o_145 hwH, show LN 145 = 7776 from rfl, cl2_i, cl2_r, cl2_n, cl2_l, tl_s, tl_n, true_and, and_true, Option.some.injEq, exists_eq_left', Bool.and_self, Bool.true_and, Bool.and_true, Bool.or_true, Bool.true_or, i_10, i_00, if_true, if_false, not_true_eq_false, not_false_eq_true, and_false, false_and, okp_sI, okp_sL, okp_aI, okp_aL, hR_sI, hR_sL, hR_aI, hR_aL, i7 (bigc f n a) (by omega), c7 (bigc f n a) (by omega), i7 a (by omega), c7 a (by omega), Ab, Aa, lcmp_le, jv_t rb, jv_t ra]
          rw [if_pos (by omega)]
          simp only [x_203_86, x_203_87, x_203_89, x_203_91, x_203_94, x_203_95, x_203_98, x_203_99, x_203_100, x_203_102, x_203_103, x_203_106, x_203_107, x_203_108, x_203_111, x_203_113, x_203_114, x_203_115, x_203_116, x_203_119, x_203_121, x_203_123, x_203_124, x_203_126, x_203_127, cl2_i, cl2_r, cl2_n, cl2_l, tl_s, tl_n, true_and, and_true, Option.some.injEq, exists_eq_left', Bool.and_self, Bool.true_and, Bool.and_true, Bool.or_true, Bool.true_or, i_10, i_00, if_true, if_false, not_true_eq_false, not_false_eq_true, and_false, false_and, okp_sI, okp_sL, okp_aI, okp_aL, hR_sI, hR_sL, hR_aI, hR_aL]
          rw [x_203_5]
          simp only [x_203_7, x_203_130, cl2_i, cl2_r, cl2_n, cl2_l, tl_s, tl_n, true_and, and_true, Option.some.injEq, exists_eq_left', Bool.and_self, Bool.true_and, Bool.and_true, Bool.or_true, Bool.true_or, i_10, i_00, if_true, if_false, not_true_eq_false, not_false_eq_true, and_false, false_and, okp_sI, okp_sL, okp_aI, okp_aL, hR_sI, hR_sL, hR_aI, hR_aL]
    · refine ⟨H, F, ?_, fun d Q l1 l5 l6 l7 => ?_⟩
      · rw [show snk n (q + 1) f a = f from if_neg (fun z => r z.1)]
        exact A
      · rw [x_203_5]
        simp only [x_203_7, x_203_10, x_203_11, x_203_12, x_203_13, x_203_14, x_203_15, x_203_16, o_124 hwH, x_203_130, cl2_i, cl2_r, cl2_n, cl2_l, tl_s, tl_n, true_and, and_true, Option.some.injEq, exists_eq_left', Bool.and_self, Bool.true_and, Bool.and_true, Bool.or_true, Bool.true_or, i_10, i_00, if_true, if_false, not_true_eq_false, not_false_eq_true, and_false, false_and, okp_sI, okp_sL, okp_aI, okp_aL, hR_sI, hR_sL, hR_aI, hR_aL, show (2 : Int32) * nI a = nI (2 * a) from pk_mul 2 a, nI_1]
        rw [if_pos (nI_le (by omega) (by omega))]
theorem m_sink (hw : WF h) (hN : N ≤ 7776) (hn : n ≤ N) (q : Nat) (ha : a ≤ 7776) (hq : n ≤ a + q) (R : RK f N) (A : KA h f N) : ∃ H', Fq P45 h H' ∧ KA H' (snk n q f a) N ∧ ∀ d Q, Tr sc d 203 (ent0 203 [.ref 124, .int (nI a), .int (nI n)] h) Q = Q (none, H') := by
  obtain ⟨H', F, A', eq⟩ := m_sk (sc := sc) hw hN hn q f a h Fq.rf ha hq R A
  refine ⟨H', F, A', fun d Q => ?_⟩
  rw [e_203]
  simp only [x_203_0, x_203_1, x_203_2, x_203_3, cl2_i, cl2_r, cl2_n, cl2_l, tl_s, tl_n, true_and, and_true, Option.some.injEq, exists_eq_left', Bool.and_self, Bool.true_and, Bool.and_true, Bool.or_true, Bool.true_or, i_10, i_00, if_true, if_false, not_true_eq_false, not_false_eq_true, and_false, false_and, okp_sI, okp_sL, okp_aI, okp_aL, hR_sI, hR_sL, hR_aI, hR_aL]
  exact eq d Q _ _ _ _
/-- the keys are written -/
theorem gd_map (j : Nat) : (L.map ptW).getD j pt0 = ptW (L.getD j w0) := by
  rw [List.getD_eq_getElem?_getD, List.getD_eq_getElem?_getD, List.getElem?_map]
  cases L[j]? with
  | none => rfl
  | some v => rfl
theorem m_kl (hw : WF h) (hl : L.length ≤ 7776) (hA : ∀ j, j < L.length → WA h j (L.getD j w0)) (hR : ∀ u, u ∈ L → Rg (ptW u)) (hc : hI h 124 31 = nI L.length) : ∀ (m j : Nat) (H : PH), j + m = L.length → Fq P45 h H → KA H (kf (L.map ptW)) j → ∃ H', Fq P45 h H' ∧ KA H' (kf (L.map ptW)) L.length ∧ ∀ d Q l4 l5, Tr sc d 204 (8, [some (.ref 124), some (.int x), some (.int y), some (.int (nI j)), l4, l5], [], H) Q = Tr sc d 204 (55, [some (.ref 124), some (.int x), some (.int y), some (.int (nI L.length)), l4, l5], [], H') Q := by
  intro m
  induction m with
  | zero =>
    intro j H hj F A
    have e : j = L.length := by omega
    subst e
    have hwH := F.WF hw
    refine ⟨H, F, A, fun d Q l4 l5 => ?_⟩
    rw [x_204_8]
    simp only [x_204_9, x_204_10, x_204_13, o_124 hwH, cl2_i, cl2_r, cl2_n, cl2_l, tl_s, tl_n, true_and, and_true, Option.some.injEq, exists_eq_left', Bool.and_self, Bool.true_and, Bool.and_true, Bool.or_true, Bool.true_or, i_10, i_00, if_true, if_false, not_true_eq_false, not_false_eq_true, and_false, false_and, okp_sI, okp_sL, okp_aI, okp_aL, hR_sI, hR_sL, hR_aI, hR_aL, F.i (a := 124) (b := 31) (by unfold P45; omega), hc]
    rw [if_pos (Int32.le_refl _)]
  | succ m ih =>
    intro j H hj F A
    have hlt : j < L.length := by omega
    have hwH := F.WF hw
    obtain ⟨b1, b2, -, -⟩ := (hA j hlt).kp F (fun a h1 h2 q => by unfold P45 at q; omega)
    have hm : L.getD j w0 ∈ L := by
      rw [show L.getD j w0 = L[j] by rw [List.getD_eq_getElem?_getD, List.getElem?_eq_getElem hlt]; rfl]
      exact List.getElem_mem _
    have rg := hR _ hm
    obtain ⟨g1, g2⟩ := Rg_r rg
    have ek : kf (L.map ptW) j = ((L.getD j w0).2.1 + 1000000) * 4000000 + (L.getD j w0).1 + 1000000 := by
      unfold kf
      rw [gd_map]; rfl
    obtain ⟨H', F', A', eq⟩ := ih (j + 1) (sL H 145 j (jv (kf (L.map ptW) j))) (by omega) (F.sL rfl) (fun i hi => by
      by_cases e : i = j
      · rw [e, rdL_eq]
      · rw [rdL_ne (by omega)]; exact A i (by omega))
    refine ⟨H', F', A', fun d Q l4 l5 => ?_⟩
    rw [x_204_8]
    simp only [x_204_9, x_204_10, x_204_13, x_204_16, x_204_17, x_204_20, x_204_21, x_204_22, x_204_25, x_204_26, x_204_27, x_204_28, x_204_31, x_204_32, x_204_35, x_204_36, x_204_37, x_204_40, x_204_41, x_204_42, x_204_43, x_204_44, x_204_47, x_204_48, x_204_49, x_204_52, o_124 hwH, w_124_32 hwH, w_124_33 hwH, w_124_38 hwH, o_145 hwH, show LN 145 = 7776 from rfl, o_142 hwH, iOk_lt (k := 142) (by decide), iRd_lt (k := 142) (by decide), show LN 142 = 7776 from rfl, o_141 hwH, iOk_lt (k := 141) (by decide), iRd_lt (k := 141) (by decide), show LN 141 = 7776 from rfl, cl2_i, cl2_r, cl2_n, cl2_l, tl_s, tl_n, true_and, and_true, Option.some.injEq, exists_eq_left', Bool.and_self, Bool.true_and, Bool.and_true, Bool.or_true, Bool.true_or, i_10, i_00, if_true, if_false, not_true_eq_false, not_false_eq_true, and_false, false_and, okp_sI, okp_sL, okp_aI, okp_aL, hR_sI, hR_sL, hR_aI, hR_aL, F.i (a := 124) (b := 31) (by unfold P45; omega), hc, inb_nI (n := 7776) (show j < 7776 by omega) (by decide), nI_clamp (n := j) (by omega), b1, b2, iv_l (z := (L.getD j w0).1) g1, iv_l (z := (L.getD j w0).2.1) g2, show (1000000 : Int64) = jv 1000000 from rfl, show (4000000 : Int64) = jv 4000000 from rfl, jv_add, jv_mul, nI_1, ← ek]
    rw [if_neg (nI_ge hlt (by omega))]
    exact eq d Q _ _
/-- what the first half of the sorting does: a heap -/
theorem m_hl (hw : WF h) (hN : N ≤ 7776) (hc : hI h 124 31 = nI N) : ∀ (w : Nat) (f : Nat → Int) (H : PH), w ≤ 7777 → Fq P45 h H → RK f N → KA H f N → Hp f w N → ∃ H' g, Fq P45 h H' ∧ RK g N ∧ KA H' g N ∧ Hp g 0 N ∧ (∀ v, cnF g v N = cnF f v N) ∧ ∀ d Q l4 l5, Tr sc (d + 1) 204 (62, [some (.ref 124), some (.int x), some (.int y), some (.int (iv ((w : Int) - 1))), l4, l5], [], H) Q = Tr sc (d + 1) 204 (81, [some (.ref 124), some (.int x), some (.int y), some (.int (-1)), l4, l5], [], H') Q := by
  intro w
  induction w with
  | zero =>
    intro f H hw' F R A P
    refine ⟨H, f, F, R, A, P, fun v => rfl, fun d Q l4 l5 => ?_⟩
    rw [show iv (((0 : Nat) : Int) - 1) = -1 from rfl, x_204_62]
    simp only [x_204_63, cl2_i, cl2_r, cl2_n, cl2_l, tl_s, tl_n, true_and, and_true, Option.some.injEq, exists_eq_left', Bool.and_self, Bool.true_and, Bool.and_true, Bool.or_true, Bool.true_or, i_10, i_00, if_true, if_false, not_true_eq_false, not_false_eq_true, and_false, false_and, okp_sI, okp_sL, okp_aI, okp_aL, hR_sI, hR_sL, hR_aI, hR_aL, show ((-1 : Int32) < 0) = True from eq_true (by decide)]
  | succ w ih =>
    intro f H hw' F R A P
    have hwH := F.WF hw
    obtain ⟨H1, F1, A1, eq1⟩ := m_sink (sc := sc) (a := w) hwH hN (Nat.le_refl N) N (by omega) (by omega) R A
    obtain ⟨H', g, F', R', A', P', C', eq⟩ := ih (snk N N f w) H1 (by omega) (F.tr F1) (snk_rk (Nat.le_refl _) N R) A1 (hp_s P N (by omega))
    refine ⟨H', g, F', R', A', P', fun v => by rw [C', snk_cn (Nat.le_refl _)], fun d Q l4 l5 => ?_⟩
    have ei : iv (((w + 1 : Nat) : Int) - 1) = nI w := by rw [iv_n]; congr 1; omega
    have em : nI w + -1 = iv ((w : Int) - 1) := by rw [iv_n, show (-1 : Int32) = iv (-1) from rfl, iv_add]; rfl
    have n0 : (nI w < 0) = False := eq_false (nI_pos (by omega))
    rw [ei, x_204_62]
    simp only [x_204_63, x_204_66, x_204_67, x_204_68, x_204_69, x_204_72, x_204_75, x_204_78, o_124 hwH, cl2_i, cl2_r, cl2_n, cl2_l, tl_s, tl_n, true_and, and_true, Option.some.injEq, exists_eq_left', Bool.and_self, Bool.true_and, Bool.and_true, Bool.or_true, Bool.true_or, i_10, i_00, if_true, if_false, not_true_eq_false, not_false_eq_true, and_false, false_and, okp_sI, okp_sL, okp_aI, okp_aL, hR_sI, hR_sL, hR_aI, hR_aL, n0, F.i (a := 124) (b := 31) (by unfold P45; omega), hc, eq1, em]
    exact eq d Q _ _
/-- the second half: in order -/
theorem m_ol (hw : WF h) (hN : N ≤ 7776) (hc : hI h 124 31 = nI N) : ∀ (i : Nat) (f : Nat → Int) (H : PH) (l4 l5 : Option Value), i < N → Fq P45 h H → RK f N → KA H f N → Hso f (i + 1) N → ∃ H' g, Fq P45 h H' ∧ RK g N ∧ KA H' g N ∧ Hso g 1 N ∧ (∀ v, cnF g v N = cnF f v N) ∧ ∀ d Q, ∃ l4' l5', Tr sc (d + 1) 204 (88, [some (.ref 124), some (.int x), some (.int y), some (.int (nI i)), l4, l5], [], H) Q = Tr sc (d + 1) 204 (132, [some (.ref 124), some (.int x), some (.int y), some (.int 0), l4', l5'], [], H') Q := by
  intro i
  induction i with
  | zero =>
    intro f H l4 l5 hi F R A P
    refine ⟨H, f, F, R, A, P, fun v => rfl, fun d Q => ⟨l4, l5, ?_⟩⟩
    rw [x_204_88]
    simp only [x_204_89, cl2_i, cl2_r, cl2_n, cl2_l, tl_s, tl_n, true_and, and_true, Option.some.injEq, exists_eq_left', Bool.and_self, Bool.true_and, Bool.and_true, Bool.or_true, Bool.true_or, i_10, i_00, if_true, if_false, not_true_eq_false, not_false_eq_true, and_false, false_and, okp_sI, okp_sL, okp_aI, okp_aL, hR_sI, hR_sL, hR_aI, hR_aL, nI_0, show ((0 : Int32) ≤ 0) = True from eq_true (by decide)]
  | succ i ih =>
    intro f H l4 l5 hi F R A P
    have hwH := F.WF hw
    have hso := hso_s P (show i + 1 < N by omega)
    have A1 := KA_swp (i := 0) (j := i + 1) (N := N) (by omega) hi A
    have R1 := swp_rk (i := 0) (j := i + 1) (N := N) (by omega) hi R
    have F1 : Fq P45 h (sL (sL H 145 0 (jv (f (i + 1)))) 145 (i + 1) (jv (f 0))) := (F.sL rfl).sL rfl
    obtain ⟨H2, F2, A2, eq2⟩ := m_sink (sc := sc) (a := 0) (n := i + 1) (F1.WF hw) hN (by omega) (i + 1) (by omega) (by omega) R1 A1
    obtain ⟨H', g, F', R', A', P', C', eq⟩ := ih (snk (i + 1) (i + 1) (swp f 0 (i + 1)) 0) H2 (some (.long (jv (f 0)))) none (by omega) (F1.tr F2) (snk_rk (by omega) _ R1) A2 hso
    refine ⟨H', g, F', R', A', P', fun v => by rw [C', snk_cn (by omega), cn_swp (by omega) hi], fun d Q => ?_⟩
    obtain ⟨l4', l5', eq'⟩ := eq d Q
    refine ⟨l4', l5', ?_⟩
    rw [← eq', x_204_88]
    simp only [x_204_89, x_204_92, x_204_93, x_204_96, x_204_97, x_204_98, x_204_100, x_204_101, x_204_104, x_204_105, x_204_106, x_204_109, x_204_110, x_204_111, x_204_112, x_204_113, x_204_116, x_204_117, x_204_119, x_204_120, x_204_121, x_204_122, x_204_123, x_204_126, x_204_129, o_124 hwH, w_124_38 hwH, o_145 hwH, show LN 145 = 7776 from rfl, cl2_i, cl2_r, cl2_n, cl2_l, tl_s, tl_n, true_and, and_true, Option.some.injEq, exists_eq_left', Bool.and_self, Bool.true_and, Bool.and_true, Bool.or_true, Bool.true_or, i_10, i_00, if_true, if_false, not_true_eq_false, not_false_eq_true, and_false, false_and, okp_sI, okp_sL, okp_aI, okp_aL, hR_sI, hR_sL, hR_aI, hR_aL, show inb 0 7776 = true from rfl, cl_0, A 0 (by omega), A (i + 1) hi, inb_nI (n := 7776) (show i + 1 < 7776 by omega) (by decide), nI_clamp (n := i + 1) (by omega), pk_m1, show ∀ Q, Tr sc d 203 (ent0 203 [.ref 124, .int 0, .int (nI (i + 1))] (sL (sL H 145 0 (jv (f (i + 1)))) 145 (i + 1) (jv (f 0)))) Q = Q (none, H2) from fun Q => eq2 d Q]
    rw [if_neg (nI_nle (by omega) (by omega))]
end SK
