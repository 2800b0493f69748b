/-! ===== net, rings: class and model ===== -/
section N2
variable {sc : Nat × (Nat → Int32)} {d : Nat} {Q : PRes → Prop} {h h' h0 h1 H G : PH} {i j k n t u v w a b r p R M N s : Nat} {eC eM : Nat → Nat → Bool} {P P' L : List Pnt} {sx sy ex : Nat → Int} {tn : Nat → Nat} {kd x y : Int32} {X Y : Int}
/-- a vector that lives turned round lives too -/
theorem alv_n1 (hM : 1 ≤ M) (h : Alv b M R sx sy X Y) : Alv b M R sx sy (-X) (-Y) := by
  obtain ⟨S, h1, h2⟩ := h
  refine ⟨fun p => S (-p.1, -p.2), by show S (- -X, - -Y); rw [Int.neg_neg, Int.neg_neg]; exact h1, fun p hp => ?_⟩
  obtain ⟨⟨⟨g1, g2⟩, g3, g4⟩, q, ⟨c, c1, c2, c3⟩, c4⟩ := h2 _ hp
  dsimp only at g1 g2 g3 g4 c2 c3
  refine ⟨⟨⟨by omega, by omega⟩, by omega, by omega⟩, (-q.1, -q.2), ⟨c % M * M + c / M, ?_, ?_, ?_⟩, by show S (- -q.1, - -q.2); rw [Int.neg_neg, Int.neg_neg]; exact c4⟩
  · have m1 : c % M < M := Nat.mod_lt _ (by omega)
    have m2 : c / M < M := Nat.div_lt_of_lt_mul c1
    have m3 : (c % M + 1) * M ≤ M * M := Nat.mul_le_mul_right M m1
    rw [Nat.add_mul, Nat.one_mul] at m3
    omega
  · have m2 : c / M < M := Nat.div_lt_of_lt_mul c1
    have e1 : (c % M * M + c / M) % M = c / M := by rw [Nat.add_comm, Nat.add_mul_mod_self_right, Nat.mod_eq_of_lt m2]
    have e2 : (c % M * M + c / M) / M = c % M := by rw [Nat.add_comm, Nat.add_mul_div_right _ _ (by omega), Nat.div_eq_of_lt m2, Nat.zero_add]
    show -q.1 = b * p.1 + dX M sx _
    unfold dX at *
    rw [e1, e2, c2, Int.mul_neg]
    omega
  · have m2 : c / M < M := Nat.div_lt_of_lt_mul c1
    have e1 : (c % M * M + c / M) % M = c / M := by rw [Nat.add_comm, Nat.add_mul_mod_self_right, Nat.mod_eq_of_lt m2]
    have e2 : (c % M * M + c / M) / M = c % M := by rw [Nat.add_comm, Nat.add_mul_div_right _ _ (by omega), Nat.div_eq_of_lt m2, Nat.zero_add]
    show -q.2 = b * p.2 + dX M sy _
    unfold dX at *
    rw [e1, e2, c3, Int.mul_neg]
    omega
theorem eb_sy (hM : 1 ≤ M) (he : ∀ a b', eC a b' = true ↔ a ≠ b' ∧ Alv b M R sx sy (dfX P a b') (dfY P a b')) : ∀ x y, EB eC x y → EB eC y x := by
  intro x y h
  obtain ⟨h1, h2⟩ := (he x y).mp h
  refine (he y x).mpr ⟨fun e => h1 e.symm, ?_⟩
  have := alv_n1 hM h2
  unfold dfX dfY at *
  rw [Int.neg_sub, Int.neg_sub] at this
  exact this
theorem en_sy (sy' : ∀ x y, EB eC x y → EB eC y x) : ∀ x y, en eC x y = en eC y x := by
  intro x y
  unfold en
  by_cases q : eC x y = true
  · rw [if_pos q, if_pos (show eC y x = true from sy' x y q)]
  · rw [if_neg q, if_neg (show ¬ eC y x = true from fun z => q (sy' y x z))]
theorem c_wv_0 {e : Nat} (hw : WF h) (C : ClI h 16 e L) (hn : (dd L).length ≤ 216) (h9 : hI h 32 9 = nI (dd L).length) : ∀ (m i : Nat) (H : PH), i + m = (dd L).length → Fq (fun a _ => a = 33 ∨ a = 34 ∨ a = 35 ∨ a = 39) h H → (∀ j, j < i → (hI H 33 j = iv ((dd L).getD j pt0).1 ∧ hI H 34 j = iv ((dd L).getD j pt0).2) ∧ hI H 35 j = 0 ∧ hI H 39 j = 0) → ∃ H', Fq (fun a _ => a = 33 ∨ a = 34 ∨ a = 35 ∨ a = 39) h H' ∧ (∀ j, j < (dd L).length → (hI H' 33 j = iv ((dd L).getD j pt0).1 ∧ hI H' 34 j = iv ((dd L).getD j pt0).2) ∧ hI H' 35 j = 0 ∧ hI H' 39 j = 0) ∧ ∀ d Q, Tr sc (d + 1) 23 (34, [some (.ref 32), some (.int (nI i))], [], H) Q = Tr sc (d + 1) 23 (90, [some (.ref 32), some (.int (nI (dd L).length))], [], H') Q := by
  intro m
  induction m with
  | zero =>
    intro i H hi F A
    have e : i = (dd L).length := by omega
    subst e
    have hwH := F.WF hw
    refine ⟨H, F, A, fun d Q => ?_⟩
    rw [x_23_34]
    simp only [x_23_35, x_23_36, x_23_39, o_32 hwH, cl2_i, cl2_r, cl2_n, cl2_l, tl_s, tl_n, true_and, and_true, Option.some.injEq, exists_eq_left', Bool.and_self, Bool.true_and, Bool.and_true, Bool.or_true, Bool.true_or, i_10, i_00, if_true, if_false, not_true_eq_false, not_false_eq_true, and_false, false_and, okp_sI, okp_sL, okp_aI, okp_aL, hR_sI, hR_sL, hR_aI, hR_aL, F.i (a := 32) (b := 9) (by omega), h9]
    rw [if_pos (Int32.le_refl _)]
  | succ m ih =>
    intro i H hi F A
    have hlt : i < (dd L).length := by omega
    have hwH := F.WF hw
    have ho := o_16 hwH
    have CH := C.fr F (fun a b q1 q2 q3 => by omega)
    have i2 := inb_nI (n := 216) (show i < 216 by omega) (by decide)
    have cl := nI_clamp (n := i) (by omega)
    generalize hG : sI (sI (sI (sI H 33 i (iv ((dd L).getD i pt0).1)) 34 i (iv ((dd L).getD i pt0).2)) 35 i 0) 39 i 0 = G
    have FG : Fq (fun a b => (a = 33 ∨ a = 34 ∨ a = 35 ∨ a = 39) ∧ b = i) H G := by
      rw [← hG]
      exact (((Fq.rf.sI ⟨by omega, rfl⟩).sI ⟨by omega, rfl⟩).sI ⟨by omega, rfl⟩).sI ⟨by omega, rfl⟩
    have f1 : Fq (fun a _ => a = 33) H (sI H 33 i (iv ((dd L).getD i pt0).1)) := Fq.rf.sI rfl
    have C1 := CH.fr f1 (fun a b q1 q2 q3 => by omega)
    have hw1 := f1.WF hwH
    obtain ⟨H', F', A', eq'⟩ := ih (i + 1) G (by omega) (F.tr (FG.wk (fun a b q => q.1))) (fun j hj => by
      by_cases e : j = i
      · rw [e, ← hG]
        refine ⟨⟨?_, ?_⟩, ?_, ?_⟩
        · rw [rd_ne (by omega), rd_ne (by omega), rd_ne (by omega), rd_eq]
        · rw [rd_ne (by omega), rd_ne (by omega), rd_eq]
        · rw [rd_ne (by omega), rd_eq]
        · rw [rd_eq]
      · rw [FG.i (by omega), FG.i (by omega), FG.i (by omega), FG.i (by omega)]
        exact A j (by omega))
    refine ⟨H', F', A', fun d Q => ?_⟩
    have cx : ∀ d Q, Tr sc d 14 (ent0 14 [.ref 16, .int (nI i)] H) Q = Q (some (.int (iv ((dd L).getD i pt0).1)), H) := fun d Q => (c_cxy (sc := sc) (d := d) hwH (Or.inl rfl : IsCl 16) CH hlt).1 Q
    have cy : ∀ d Q, Tr sc d 15 (ent0 15 [.ref 16, .int (nI i)] (sI H 33 i (iv ((dd L).getD i pt0).1))) Q = Q (some (.int (iv ((dd L).getD i pt0).2)), sI H 33 i (iv ((dd L).getD i pt0).1)) := fun d Q => (c_cxy (sc := sc) (d := d) hw1 (Or.inl rfl : IsCl 16) C1 hlt).2 Q
    rw [x_23_34]
    simp only [x_23_35, x_23_36, x_23_39, x_23_42, x_23_43, x_23_46, x_23_47, x_23_48, x_23_51, x_23_52, x_23_55, x_23_56, x_23_57, x_23_60, x_23_61, x_23_62, x_23_65, x_23_66, x_23_69, x_23_70, x_23_71, x_23_74, x_23_75, x_23_76, x_23_77, x_23_78, x_23_81, x_23_82, x_23_83, x_23_84, x_23_87, o_32 hwH, w_32_0 hwH, w_32_1 hwH, w_32_2 hwH, w_32_6 hwH, w_32_7 hwH, o_33 hwH, iOk_lt (k := 33) (by decide), iRd_lt (k := 33) (by decide), show LN 33 = 216 from rfl, o_16 hwH, o_34 hwH, iOk_lt (k := 34) (by decide), iRd_lt (k := 34) (by decide), show LN 34 = 216 from rfl, o_35 hwH, iOk_lt (k := 35) (by decide), iRd_lt (k := 35) (by decide), show LN 35 = 216 from rfl, o_39 hwH, show LN 39 = 216 from rfl, cl2_i, cl2_r, cl2_n, cl2_l, tl_s, tl_n, true_and, and_true, Option.some.injEq, exists_eq_left', Bool.and_self, Bool.true_and, Bool.and_true, Bool.or_true, Bool.true_or, i_10, i_00, if_true, if_false, not_true_eq_false, not_false_eq_true, and_false, false_and, okp_sI, okp_sL, okp_aI, okp_aL, hR_sI, hR_sL, hR_aI, hR_aL, F.i (a := 32) (b := 9) (by omega), h9, ho, cx, cy, i2, cl, vp_b0, nI_1, hG]
    rw [if_neg (nI_ge hlt (by omega))]
    exact eq' d Q
theorem sN_z {f : Nat → Nat} : ∀ n, (∀ u, u < n → f u = 0) → sN f n = 0
  | 0, _ => rfl
  | n + 1, h => by
    show sN f n + f n = 0
    rw [sN_z n (fun u hu => h u (by omega)), h n (by omega)]
def NetR (eC : Nat → Nat → Bool) (n S p c : Nat) : Prop := sN (fun v => sN (fun w => en eC v w) n) n = 2 * S ∧ (∃ rs, Reps (EB eC) (fun x => x < n) rs ∧ p = rs.length) ∧ ∃ cb : Nat → Bool, (∀ q, q < n → (cb q = true ↔ CutP (EB eC) (fun x => x < n) q)) ∧ c = sN (fun q => if cb q = true then 1 else 0) n
theorem c_weave {e : Nat} (hw : WF h) (hM : 1 ≤ M) (V : VcS h b M R sx sy) (al : ∀ X Y, Lv h R X Y ↔ Alv b M R sx sy X Y) (hR : R ≤ 18) (C : ClI h 16 e L) (hn : (dd L).length ≤ 216) (he : ∀ a b', eC a b' = true ↔ a ≠ b' ∧ Alv b M R sx sy (dfX (dd L) a b') (dfY (dd L) a b')) : ∃ H S p c, Fq (fun a _ => 32 ≤ a ∧ a ≤ 39) h H ∧ (hI H 32 12 = nI S ∧ hI H 32 13 = nI p ∧ hI H 32 14 = nI c) ∧ (S ≤ 50000 ∧ p ≤ 216 ∧ c ≤ 216) ∧ NetR eC (dd L).length S p c ∧ ∀ d Q, Tr sc (d + 4) 23 (ent0 23 [.ref 32] h) Q = Q (none, H) := by
  have rg : ∀ p, p ∈ dd L → Rg p := fun p hp => C.2.2.2.2.2.2.1 p (dd_mem.mp hp)
  have ho := o_16 hw
  have sye := eb_sy hM he
  have mn := nI_min (a := 216) (b := (dd L).length) (by decide) (by omega)
  rw [Nat.min_eq_right hn, show nI 216 = 216 from rfl] at mn
  generalize hG : sI (sI (sI (sI h 32 9 (nI (dd L).length)) 32 10 0) 32 11 0) 32 13 0 = G
  have FG : Fq (fun a b => a = 32 ∧ 9 ≤ b) h G := by
    rw [← hG]
    exact (((Fq.rf.sI (by omega)).sI (by omega)).sI (by omega)).sI (by omega)
  have hwG := FG.WF hw
  have g9 : hI G 32 9 = nI (dd L).length := by rw [← hG, rd_ne (by omega), rd_ne (by omega), rd_ne (by omega), rd_eq]
  have g10 : hI G 32 10 = 0 := by rw [← hG, rd_ne (by omega), rd_ne (by omega), rd_eq]
  have g11 : hI G 32 11 = 0 := by rw [← hG, rd_ne (by omega), rd_eq]
  have g13 : hI G 32 13 = 0 := by rw [← hG, rd_eq]
  have CG := C.fr FG (fun a b q1 q2 q3 => by omega)
  obtain ⟨H1, F1, A1, eq1⟩ := c_wv_0 (sc := sc) hwG CG hn g9 (dd L).length 0 G (by omega) Fq.rf (fun j hj => absurd hj (Nat.not_lt_zero _))
  have hw1 := F1.WF hwG
  have V1 := (V.fr FG (fun a j q1 q2 => by omega)).fr F1 (fun a j q1 q2 => by omega)
  have FF : Fq (fun a _ => a = 32 ∨ a = 33 ∨ a = 34 ∨ a = 35 ∨ a = 39) h H1 := (FG.wk (fun a b q => by omega)).tr (F1.wk (fun a b q => by omega))
  have NW1 : NW H1 (dd L) eC := by
    refine ⟨hw1, fun j hj => (A1 j hj).1, hn, fun v w hv hw' sc' G' FG' d Q => ?_⟩
    have hwG' := FG'.WF hw1
    refine c_joined hwG' (V1.fr FG' (fun a j q1 q2 => by unfold PNw at q2; omega)) hR (fun j hj => by rw [FG'.i (by unfold PNw; omega), FG'.i (by unfold PNw; omega)]; exact (A1 j hj).1) hn rg (fun a b' => ?_) hv hw' d Q
    rw [he a b']
    have lv : ∀ X Y, Lv G' R X Y ↔ Alv b M R sx sy X Y := fun X Y => by
      rw [← al X Y]
      unfold Lv
      rw [FG'.i (by unfold PNw; omega), FF.i (by omega)]
    rw [lv]
  have X0 : BI H1 eC (dd L).length (fun _ => False) (fun _ => 0) (fun _ => 0) (fun _ => 0) (fun _ => 0) (fun _ => 0) (fun _ => false) 0 0 := by
    refine ⟨⟨by rw [F1.i (by omega)]; exact g9, by rw [F1.i (by omega)]; exact g10, by rw [F1.i (by omega)]; exact g11, fun u hu => (A1 u hu).2.1, fun u hu h0 => absurd rfl h0, fun u hu => (A1 u hu).2.2⟩, jv_0, fun u hu h0 => absurd rfl h0, ?_, ?_, fun q hq _ => ⟨fun z => (by cases z), fun ⟨c, _, c2, _⟩ => absurd rfl c2⟩, fun r' h => h.elim⟩
    · unfold jeS
      exact (sN_z _ (fun u _ => if_pos rfl)).symm
    · exact sN_z _ (fun u _ => if_pos rfl)
  obtain ⟨H2, Rt, N, fr, low, nx, last, cb, k, je, rs, F2, X2, A2, rr, hp, eq2⟩ := c_wv_l (sc := sc) NW1 rfl sye (dd L).length 0 H1 (fun _ => False) _ _ _ _ _ _ _ _ [] (by omega) Fq.rf X0 (fun u hu => absurd hu (Nat.not_lt_zero _)) ⟨List.nodup_nil, fun r => ⟨fun q => (by cases q), fun q => q.2.elim⟩⟩ (by rw [F1.i (by omega)]; exact g13)
  obtain ⟨I2, J2, B2, je2, kk2, cu2, oth2⟩ := X2
  have hw2 := F2.WF hw1
  have T := jv_end J2 A2
  have rp := reps_roots T sye rr.1 rr.2
  have rl : rs.length ≤ (dd L).length := nd_lt rr.1 (fun a ha => ((rr.2 a).mp ha).1)
  have jeq : je = sN (fun v => sN (fun w => en eC v w) (dd L).length) (dd L).length := by
    rw [je2]
    unfold jeS
    refine sN_cg _ (fun u hu => ?_)
    rw [if_neg (A2 u hu), (B2 u hu (A2 u hu)).2.2]
  have two := sN_two (e := en eC) (en_sy sye) (fun x => by
    unfold en
    rw [if_neg (fun z => ((he x x).mp z).1 rfl)]) (dd L).length
  generalize hS : sN (fun v => sN (fun w => if v < w then en eC v w else 0) (dd L).length) (dd L).length = S at two
  have jb := je_b (eC := eC) (N := N) (nx := nx) hn (fun u hu h0 => (B2 u hu h0).1)
  have f3 : Fq (fun a b => a = 32 ∧ (b = 12 ∨ b = 14)) H2 (sI (sI H2 32 12 (nI S)) 32 14 0) := (Fq.rf.sI (by omega)).sI (by omega)
  have hw3 := f3.WF hw2
  obtain ⟨H4, F4, c4, eq4⟩ := c_cuts (sc := sc) (cb := cb) hw3 hn (by rw [f3.i (by omega)]; exact I2.1) (fun u hu => by rw [f3.i (by omega)]; exact I2.2.2.2.2.2 u hu) (dd L).length 0 _ (by omega) Fq.rf rd_eq
  have cl : sN (fun q => if cb q = true then 1 else 0) (dd L).length ≤ (dd L).length := sN_1 _ (fun u _ => by (try dsimp only); split <;> omega)
  refine ⟨H4, S, rs.length, _, (FG.wk (fun a b q => by omega)).tr ((F1.wk (fun a b q => by omega)).tr ((F2.wk (fun a b q => by unfold PNw at q; omega)).tr ((f3.wk (fun a b q => by omega)).tr (F4.wk (fun a b q => by omega))))), ⟨?_, ?_, c4⟩, ⟨by omega, by omega, by omega⟩, ⟨by rw [← jeq]; omega, ⟨rs, rp, rfl⟩, cb, fun q hq => ?_, rfl⟩, fun d Q => ?_⟩
  · rw [F4.i (by omega), rd_ne (by omega), rd_eq]
  · rw [F4.i (by omega), f3.i (by omega)]; exact hp
  · by_cases z : Rt q
    · obtain ⟨ch', ⟨q1, q2⟩, q3⟩ := oth2 q z
      rw [q3, two_of q1, tj_cutr T sye hq z]
      constructor
      · rintro ⟨c, c', h1, h2, h3⟩
        obtain ⟨g1, g2, g3, g4⟩ := (q2 c).mp h1
        obtain ⟨g5, g6, g7, g8⟩ := (q2 c').mp h2
        exact ⟨c, c', g1, g5, g3, g7, g4, g8, h3⟩
      · rintro ⟨c, c', g1, g5, g3, g7, g4, g8, h3⟩
        exact ⟨c, c', (q2 c).mpr ⟨g1, A2 c g1, g3, g4⟩, (q2 c').mpr ⟨g5, A2 c' g5, g7, g8⟩, h3⟩
    · rw [cut_end sye J2 A2 hq z]
      exact cu2 q hq z
  · have ej : nI je / 2 = nI S := by
      have := pk_div (a := je) (d := 2) (by omega) (by decide) (by decide)
      rw [show nI 2 = 2 from rfl] at this
      rw [this]
      congr 1
      omega
    have ct : ∀ d Q, Tr sc d 25 (ent0 25 [.ref 32] (sI H2 32 12 (nI S))) Q = Q (none, H4) := fun d Q => by
      rw [e_25]
      simp only [x_25_0, x_25_1, x_25_2, x_25_5, x_25_6, o_32 hw2, cl2_i, cl2_r, cl2_n, cl2_l, tl_s, tl_n, true_and, and_true, Option.some.injEq, exists_eq_left', Bool.and_self, Bool.true_and, Bool.and_true, Bool.or_true, Bool.true_or, i_10, i_00, if_true, if_false, not_true_eq_false, not_false_eq_true, and_false, false_and, okp_sI, okp_sL, okp_aI, okp_aL, hR_sI, hR_sL, hR_aI, hR_aL]
      exact eq4 d Q
    rw [e_23]
    simp only [x_23_0, x_23_1, x_23_4, x_23_5, x_23_8, x_23_11, x_23_14, x_23_17, x_23_18, x_23_19, x_23_22, x_23_23, x_23_24, x_23_27, x_23_28, x_23_29, x_23_32, x_23_33, o_32 hw, w_32_7 hw, o_16 hw, cl2_i, cl2_r, cl2_n, cl2_l, tl_s, tl_n, true_and, and_true, Option.some.injEq, exists_eq_left', Bool.and_self, Bool.true_and, Bool.and_true, Bool.or_true, Bool.true_or, i_10, i_00, if_true, if_false, not_true_eq_false, not_false_eq_true, and_false, false_and, okp_sI, okp_sL, okp_aI, okp_aL, hR_sI, hR_sL, hR_aI, hR_aL, ho, C.2.2.1, mn, hG]
    refine (eq1 (d + 3) Q).trans ?_
    simp only [x_23_90, x_23_91, cl2_i, cl2_r, cl2_n, cl2_l, tl_s, tl_n, true_and, and_true, Option.some.injEq, exists_eq_left', Bool.and_self, Bool.true_and, Bool.and_true, Bool.or_true, Bool.true_or, i_10, i_00, if_true, if_false, not_true_eq_false, not_false_eq_true, and_false, false_and, okp_sI, okp_sL, okp_aI, okp_aL, hR_sI, hR_sL, hR_aI, hR_aL]
    refine (eq2 d Q).trans ?_
    simp only [x_23_130, x_23_131, x_23_132, x_23_135, x_23_136, x_23_137, x_23_140, x_23_141, x_23_144, o_32 hw2, cl2_i, cl2_r, cl2_n, cl2_l, tl_s, tl_n, true_and, and_true, Option.some.injEq, exists_eq_left', Bool.and_self, Bool.true_and, Bool.and_true, Bool.or_true, Bool.true_or, i_10, i_00, if_true, if_false, not_true_eq_false, not_false_eq_true, and_false, false_and, okp_sI, okp_sL, okp_aI, okp_aL, hR_sI, hR_sL, hR_aI, hR_aL, I2.2.2.1, ej, ct, show ¬ ((2 : Int32) = 0) by decide]
/-- the same net under both numberings -/
theorem net_two (hn : P.length = n) (hn' : P'.length = n) (nd : P.Nodup) (nd' : P'.Nodup) (mm : ∀ p, p ∈ P ↔ p ∈ P') (he : ∀ a b', eC a b' = true ↔ a ≠ b' ∧ Alv b M R sx sy (dfX P a b') (dfY P a b')) (he' : ∀ a b', eM a b' = true ↔ a ≠ b' ∧ Alv b M R sx sy (dfX P' a b') (dfY P' a b')) : ∃ f g : Nat → Nat, (∀ x, x < n → f x < n ∧ g (f x) = x) ∧ (∀ x, x < n → g x < n ∧ f (g x) = x) ∧ ∀ x y, x < n → y < n → eM (f x) (f y) = eC x y := by
  obtain ⟨f, hf⟩ := Classical.axiomOfChoice (r := fun x y => x < n → y < n ∧ P'.getD y pt0 = P.getD x pt0) (fun x => by
    by_cases z : x < n
    · obtain ⟨y, h1, h2⟩ := mem_gd ((mm _).mp (gd_mem (L := P) (i := x) (by omega)))
      exact ⟨y, fun _ => ⟨by omega, h2⟩⟩
    · exact ⟨0, fun q => absurd q z⟩)
  obtain ⟨g, hg⟩ := Classical.axiomOfChoice (r := fun x y => x < n → y < n ∧ P.getD y pt0 = P'.getD x pt0) (fun x => by
    by_cases z : x < n
    · obtain ⟨y, h1, h2⟩ := mem_gd ((mm _).mpr (gd_mem (L := P') (i := x) (by omega)))
      exact ⟨y, fun _ => ⟨by omega, h2⟩⟩
    · exact ⟨0, fun q => absurd q z⟩)
  refine ⟨f, g, fun x hx => ⟨(hf x hx).1, ?_⟩, fun x hx => ⟨(hg x hx).1, ?_⟩, fun x y hx hy => ?_⟩
  · obtain ⟨h1, h2⟩ := hf x hx
    obtain ⟨h3, h4⟩ := hg (f x) h1
    exact gd_inj nd (by omega) (by omega) (by rw [h4, h2])
  · obtain ⟨h1, h2⟩ := hg x hx
    obtain ⟨h3, h4⟩ := hf (g x) h1
    exact gd_inj nd' (by omega) (by omega) (by rw [h4, h2])
  · obtain ⟨h1, h2⟩ := hf x hx
    obtain ⟨h3, h4⟩ := hf y hy
    have ed : dfX P' (f x) (f y) = dfX P x y ∧ dfY P' (f x) (f y) = dfY P x y := by
      unfold dfX dfY
      rw [h2, h4]
      exact ⟨rfl, rfl⟩
    have ne : f x ≠ f y ↔ x ≠ y := by
      constructor
      · exact fun q e => q (by rw [e])
      · exact fun q e => q (gd_inj nd (by omega) (by omega) (by rw [← h2, ← h4, e]))
    have i1 : eM (f x) (f y) = true ↔ eC x y = true := by rw [he', he, ed.1, ed.2, ne]
    cases e1 : eM (f x) (f y) <;> cases e2 : eC x y
    · rfl
    · have := i1.mpr e2; rw [e1] at this; cases this
    · have := i1.mp e1; rw [e2] at this; cases this
    · rfl
theorem pow3 (hM : M ≤ 6) (hN : N ≤ 3) : M ^ N ≤ 216 := by
  have h2 := Nat.pow_le_pow_left hM N
  have h3 := Nat.pow_le_pow_right (show 0 < 6 by decide) hN
  have h4 : (6 : Nat) ^ 3 = 216 := by decide
  omega
/-- weave, in the class -/
theorem g_weave (hw : WF h) (hs : s < 8) (C : ShC h (68 + 7 * s) kd b M tn sx sy ex) (W : ShW kd b M tn sx sy ex) (hN : N ≤ 3) (he : ∀ a b', eC a b' = true ↔ a ≠ b' ∧ Alv b M (rch b M sx sy) sx sy (dfX (dd ((Ws b M tn sx sy kd ex N).map ptW)) a b') (dfY (dd ((Ws b M tn sx sy kd ex N).map ptW)) a b')) : ∃ H S p c, Fq Sc h H ∧ (hI H 32 12 = nI S ∧ hI H 32 13 = nI p ∧ hI H 32 14 = nI c ∧ hI H 16 4 = nI (dd ((Ws b M tn sx sy kd ex N).map ptW)).length) ∧ (S ≤ 50000 ∧ p ≤ 216 ∧ c ≤ 216) ∧ NetR eC (dd ((Ws b M tn sx sy kd ex N).map ptW)).length S p c ∧ ∀ Q, Tr sc 18 152 (ent0 152 [.ref 0, .int (nI s), .int (nI N)] h) Q = Q (none, H) := by
  have hM := W.2.2.1
  have W' := shv_of W
  obtain ⟨-, hR⟩ := rch_ok W'
  obtain ⟨⟨r1, H1⟩, ⟨e1, f1, V1, a1⟩, eq1⟩ := Tr_ex (c_look (sc := sc) (d := 14) (Q := fun r => r.1 = none ∧ Fq Pv h r.2 ∧ VcS r.2 b M (rch b M sx sy) sx sy ∧ ∀ X Y, Lv r.2 (rch b M sx sy) X Y ↔ Alv b M (rch b M sx sy) sx sy X Y) hw (is_sh hs) C W' (fun H f V a => ⟨rfl, f, V, a⟩))
  dsimp only at e1 f1 V1 a1
  subst e1
  have hw1 := f1.WF hw
  have C1 := C.fr f1 (fun a j q1 q2 q3 => by unfold Pv at q3; omega)
  obtain ⟨H2, e, f2, I2, he2, eq2'⟩ := c_gather (sc := sc) (c := 16) (N := N) hw1 (Or.inl rfl) (is_sh hs) C1 W (by omega) (pow_rm hM.2 (by omega))
  have eq2 : ∀ Q, Tr sc 17 10 (ent0 10 [.ref 16, .ref (68 + 7 * s), .int (nI N)] H1) Q = Q (none, H2) := fun Q => by
    have := eq2' (14 - N) Q
    rw [show 14 - N + N + 3 = 17 by omega] at this
    exact this
  have hw2 := f2.WF hw1
  have V2 := V1.fr f2 (fun a j q1 q2 => by unfold Pcl at q2; omega)
  have a2 : ∀ X Y, Lv H2 (rch b M sx sy) X Y ↔ Alv b M (rch b M sx sy) sx sy X Y := fun X Y => by
    rw [← a1 X Y]
    unfold Lv
    rw [f2.i (by unfold Pcl; omega)]
  have wl := Ws_len (b := b) (tn := tn) (sx := sx) (sy := sy) (kd := kd) (ex := ex) hM.1 N
  have p3 := pow3 hM.2 hN
  have nb : (dd ((Ws b M tn sx sy kd ex N).map ptW)).length ≤ 216 := by
    have := dd_len (L := (Ws b M tn sx sy kd ex N).map ptW)
    rw [List.length_map] at this
    omega
  obtain ⟨H3, S, p, c, f3, hh, bb, nr, eq3⟩ := c_weave (sc := sc) hw2 hM.1 V2 a2 hR I2 nb he
  obtain ⟨w1, w2, -⟩ := hw.shape hs
  obtain ⟨w3, w4, -⟩ := hw1.shape hs
  refine ⟨H3, S, p, c, (f1.wk (fun a b q => by unfold Pv at q; unfold Sc; omega)).tr ((f2.wk (fun a b q => Pcl_Sc q)).tr (f3.wk (fun a b q => by unfold Sc; omega))), ⟨hh.1, hh.2.1, hh.2.2, by rw [f3.i (by omega)]; exact I2.2.2.1⟩, bb, nr, fun Q => ?_⟩
  have eq3' : ∀ Q, Tr sc 17 23 (ent0 23 [.ref 32] H2) Q = Q (none, H3) := fun Q => eq3 13 Q
  rw [e_152]
  simp only [x_152_0, x_152_1, x_152_4, x_152_5, x_152_8, x_152_9, x_152_10, o_0 hw, w_0_2 hw, w_0_9 hw, o_24 hw, o_3 hw, show LN 3 = 8 from rfl, x_152_13, x_152_14, x_152_17, x_152_18, x_152_21, x_152_22, x_152_23, x_152_24, o_0 hw1, w_0_2 hw1, w_0_7 hw1, o_16 hw1, o_3 hw1, show LN 3 = 8 from rfl, x_152_27, x_152_28, x_152_31, x_152_34, o_0 hw2, w_0_10 hw2, o_32 hw2, cl2_i, cl2_r, cl2_n, cl2_l, tl_s, tl_n, true_and, and_true, Option.some.injEq, exists_eq_left', Bool.and_self, Bool.true_and, Bool.and_true, Bool.or_true, Bool.true_or, i_10, i_00, if_true, if_false, not_true_eq_false, not_false_eq_true, and_false, false_and, okp_sI, okp_sL, okp_aI, okp_aL, hR_sI, hR_sL, hR_aI, hR_aL, inb_nI (n := 8) hs (by decide), nI_clamp (n := s) (by omega), w1, w2, w3, w4, eq1, eq2, eq3']
end N2
