/-! ===== net, rings ===== -/
section N4
variable {sc : Nat × (Nat → Int32)} {d : Nat} {Q : PRes → Prop} {h h' H G : PH} {n R M b S p c s N : Nat} {eC eM : Nat → Nat → Bool} {P L : List Pnt} {sx sy ex : Nat → Int} {tn f g : Nat → Nat} {x y kd : Int32}
theorem net_same (hf : ∀ x, x < n → f x < n ∧ g (f x) = x) (hg : ∀ x, x < n → g x < n ∧ f (g x) = x) (hE : ∀ x y, x < n → y < n → eM (f x) (f y) = eC x y) (syC : ∀ x y, EB eC x y → EB eC y x) (syM : ∀ x y, EB eM x y → EB eM y x) (ir : ∀ x, en eM x x = 0) (NR : NetR eC n S p c) : halfS eM n = S ∧ prtS eM n = p ∧ cutS eM n n = c := by
  obtain ⟨n1, ⟨rs, r1, r2⟩, cb, b1, b2⟩ := NR
  have hE' : ∀ x y, x < n → y < n → (EB eM (f x) (f y) ↔ EB eC x y) := fun x y hx hy => by unfold EB; rw [hE x y hx hy]
  have ra := rts_all (eM := eM) (n := n) syM
  refine ⟨?_, ?_, ?_⟩
  · have t := sN_two (e := en eM) (en_sy syM) ir n
    have m := sN_map (e := en eC) (e' := en eM) (n := n) (f := f) (g := g) (fun x y hx hy => by unfold en; rw [hE x y hx hy]) hf hg
    unfold halfS
    omega
  · have := reps_map (n := n) (f := f) (g := g) syM hE' hf hg r1 ra
    unfold prtS
    rw [r2]; exact this.symm
  · have ci : ∀ a, a < n → (prtS eM n < outS eM n a ↔ CutP (EB eM) (fun x => x < n) a) := fun a ha => cut_iff syM ra (rts_out syM ha)
    have e1 : sN (fun q => if cb q = true then 1 else 0) n = sN (fun q => (fun a => if prtS eM n < outS eM n a then 1 else 0) (f q)) n := by
      refine sN_cg n (fun q hq => ?_)
      have z : cb q = true ↔ prtS eM n < outS eM n (f q) := by
        rw [b1 q hq, ci _ (hf q hq).1, cut_map hE' hf hg hq]
      by_cases y : cb q = true
      · rw [if_pos y]
        exact (if_pos (z.mp y)).symm
      · rw [if_neg y]
        exact (if_neg (fun w => y (z.mpr w))).symm
    have e2 := sN_perm (h := fun a => if prtS eM n < outS eM n a then 1 else 0) hf hg
    rw [b2, e1]
    first | exact e2 | exact e2.symm
theorem m_aNet_0 (hw : WF h) (hb : ¬ ((0 ≤ x ∧ x < 8) ∧ (0 ≤ y ∧ y ≤ 3))) : Tr sc 18 227 (ent0 227 [.ref 124, .int x, .int y] h) Q = Q (some (.int (-1)), h) := by
  rw [e_227]
  by_cases z : 0 ≤ y ∧ y ≤ 3
  · have zx : ¬ (0 ≤ x ∧ x < 8) := fun q => hb ⟨q, z⟩
    simp only [x_227_0, x_227_1, x_227_2, x_227_3, x_227_6, x_227_9, x_227_10, x_227_11, x_227_12, x_227_13, x_227_16, x_227_17, x_227_18, x_227_21, x_227_22, x_227_23, x_227_24, x_227_27, x_227_28, o_124 hw, cl2_i, cl2_r, cl2_n, cl2_l, tl_s, tl_n, true_and, and_true, Option.some.injEq, exists_eq_left', Bool.and_self, Bool.true_and, Bool.and_true, Bool.or_true, Bool.true_or, i_10, i_00, if_true, if_false, not_true_eq_false, not_false_eq_true, and_false, false_and, okp_sI, okp_sL, okp_aI, okp_aL, hR_sI, hR_sL, hR_aI, hR_aL, m_in, bI_0, z, m_stR (d := 14) hw, zx, i_1m1]
  · simp only [x_227_0, x_227_1, x_227_2, x_227_3, x_227_6, x_227_9, x_227_10, o_124 hw, cl2_i, cl2_r, cl2_n, cl2_l, tl_s, tl_n, true_and, and_true, Option.some.injEq, exists_eq_left', Bool.and_self, Bool.true_and, Bool.and_true, Bool.or_true, Bool.true_or, i_10, i_00, if_true, if_false, not_true_eq_false, not_false_eq_true, and_false, false_and, okp_sI, okp_sL, okp_aI, okp_aL, hR_sI, hR_sL, hR_aI, hR_aL, m_in, bI_0, z]
theorem m_aNet_1 (hw : WF h) (hs : s < 8) (hy : 0 ≤ y ∧ y ≤ 3) (h0 : hI h 134 s = 0) : Tr sc 18 227 (ent0 227 [.ref 124, .int (nI s), .int y] h) Q = Q (some (.int (-3)), refm h 1) := by
  have zx : (0 ≤ nI s ∧ nI s < 8) := ir_in (n := 8) (by decide) hs
  rw [e_227]
  simp only [x_227_0, x_227_1, x_227_2, x_227_3, x_227_6, x_227_9, x_227_10, x_227_11, x_227_12, x_227_13, x_227_16, x_227_17, x_227_18, x_227_21, x_227_22, x_227_23, x_227_24, x_227_27, x_227_28, o_124 hw, cl2_i, cl2_r, cl2_n, cl2_l, tl_s, tl_n, true_and, and_true, Option.some.injEq, exists_eq_left', Bool.and_self, Bool.true_and, Bool.and_true, Bool.or_true, Bool.true_or, i_10, i_00, if_true, if_false, not_true_eq_false, not_false_eq_true, and_false, false_and, okp_sI, okp_sL, okp_aI, okp_aL, hR_sI, hR_sL, hR_aI, hR_aL, m_in, bI_0, hy, m_stR (d := 14) hw, zx, nI_clamp (n := s) (by omega), h0, i_3m1]
theorem m_aNet_2 (hw : WF h) (hs : s < 8) (hy : 0 ≤ y ∧ y ≤ 3) (h0 : ¬ hI h 134 s = 0) (h1 : ¬ (hI h 132 s = 1 ∨ hI h 132 s = 2)) : Tr sc 18 227 (ent0 227 [.ref 124, .int (nI s), .int y] h) Q = Q (some (.int (-3)), refm h 3) := by
  have zx : (0 ≤ nI s ∧ nI s < 8) := ir_in (n := 8) (by decide) hs
  rw [e_227]
  simp only [x_227_0, x_227_1, x_227_2, x_227_3, x_227_6, x_227_9, x_227_10, x_227_11, x_227_12, x_227_13, x_227_16, x_227_17, x_227_18, x_227_21, x_227_22, x_227_23, x_227_24, x_227_27, x_227_28, o_124 hw, cl2_i, cl2_r, cl2_n, cl2_l, tl_s, tl_n, true_and, and_true, Option.some.injEq, exists_eq_left', Bool.and_self, Bool.true_and, Bool.and_true, Bool.or_true, Bool.true_or, i_10, i_00, if_true, if_false, not_true_eq_false, not_false_eq_true, and_false, false_and, okp_sI, okp_sL, okp_aI, okp_aL, hR_sI, hR_sL, hR_aI, hR_aL, m_in, bI_0, hy, m_stR (d := 14) hw, zx, nI_clamp (n := s) (by omega), h0, h1, i_3m1]
theorem m_aNet (hw : WF h) (hs : s < 8) (D : ShM h s kd b M tn sx sy ex) (W : ShW kd b M tn sx sy ex) (h0 : ¬ hI h 134 s = 0) (h1 : hI h 132 s = 1 ∨ hI h 132 s = 2) (hN : N ≤ 3) : ∃ H P, Fq (fun a b => a = 148 ∨ P47 a b) h H ∧ PtM H ((Ws b M tn sx sy kd ex N).map ptW) P ∧ (∀ X Y, Lm H X Y ↔ Alv b M (rch b M sx sy) sx sy X Y) ∧ ∀ Q, Tr sc 18 227 (ent0 227 [.ref 124, .int (nI s), .int (nI N)] h) Q = Q (some (.int 0), H) := by
  have W' := shv_of W
  obtain ⟨⟨r1, H1⟩, ⟨e1, f1, a1⟩, eq1⟩ := Tr_ex (m_setAlive (sc := sc) (d := 13) (Q := fun r => r.1 = none ∧ Fq Pa h r.2 ∧ ∀ X Y, Lm r.2 X Y ↔ Alv b M (rch b M sx sy) sx sy X Y) hw hs D W' (fun H f a => ⟨rfl, f, a⟩))
  dsimp only at e1 f1 a1
  subst e1
  have hw1 := f1.WF hw
  have D1 := D.fr f1 (fun a j q1 q2 q3 => by unfold Pa at q3; omega)
  obtain ⟨H2, P, f2, PM, eq2⟩ := m_setPoints (sc := sc) (d := 15) (N := N) hw1 hs D1 W (by omega)
  refine ⟨H2, P, (f1.wk (fun a b q => Or.inl q)).tr (f2.wk (fun a b q => Or.inr q)), PM, fun X Y => by
    rw [← a1 X Y]
    exact Lm_fr f2 (fun j q => by unfold P47 at q; omega), fun Q => ?_⟩
  have zx : (0 ≤ nI s ∧ nI s < 8) := ir_in (n := 8) (by decide) hs
  have zy : (0 ≤ nI N ∧ nI N ≤ 3) := ⟨nI_pos' (by omega), nI_le (b := 3) hN (by decide)⟩
  rw [e_227]
  simp only [x_227_0, x_227_1, x_227_2, x_227_3, x_227_6, x_227_9, x_227_10, x_227_11, x_227_12, x_227_13, o_124 hw, cl2_i, cl2_r, cl2_n, cl2_l, tl_s, tl_n, true_and, and_true, Option.some.injEq, exists_eq_left', Bool.and_self, Bool.true_and, Bool.and_true, Bool.or_true, Bool.true_or, i_10, i_00, if_true, if_false, not_true_eq_false, not_false_eq_true, and_false, false_and, okp_sI, okp_sL, okp_aI, okp_aL, hR_sI, hR_sL, hR_aI, hR_aL, m_in, bI_0, zy, m_stR (d := 14) hw, zx, nI_clamp (n := s) (by omega), h0, h1, eq1]
  simp only [x_218_31, x_218_32, o_124 hw1, x_227_16, x_227_17, x_227_18, x_227_21, x_227_22, x_227_23, x_227_24, x_227_27, x_227_28, o_124 hw1, cl2_i, cl2_r, cl2_n, cl2_l, tl_s, tl_n, true_and, and_true, Option.some.injEq, exists_eq_left', Bool.and_self, Bool.true_and, Bool.and_true, Bool.or_true, Bool.true_or, i_10, i_00, if_true, if_false, not_true_eq_false, not_false_eq_true, and_false, false_and, okp_sI, okp_sL, okp_aI, okp_aL, hR_sI, hR_sL, hR_aI, hR_aL, eq2]
theorem dd_nb (W : ShW kd b M tn sx sy ex) (hN : N ≤ 3) : (dd ((Ws b M tn sx sy kd ex N).map ptW)).length ≤ 216 := by
  have wl := Ws_len (b := b) (tn := tn) (sx := sx) (sy := sy) (kd := kd) (ex := ex) W.2.2.1.1 N
  have p3 := pow3 W.2.2.1.2 hN
  have := dd_len (L := (Ws b M tn sx sy kd ex N).map ptW)
  rw [List.length_map] at this
  omega
/-- the model's joints from the class's: the same numbers -/
theorem net_all (hs : s < 8) (W : ShW kd b M tn sx sy ex) (hN : N ≤ 3) (hw : WF G) (D : ShM G s kd b M tn sx sy ex) (h0 : ¬ hI G 134 s = 0) (h1 : hI G 132 s = 1 ∨ hI G 132 s = 2) (he : ∀ a b', eC a b' = true ↔ a ≠ b' ∧ Alv b M (rch b M sx sy) sx sy (dfX (dd ((Ws b M tn sx sy kd ex N).map ptW)) a b') (dfY (dd ((Ws b M tn sx sy kd ex N).map ptW)) a b')) (NR : NetR eC (dd ((Ws b M tn sx sy kd ex N).map ptW)).length S p c) : ∃ H eM P, Fq (fun a b => a = 148 ∨ P47 a b) G H ∧ PtM H ((Ws b M tn sx sy kd ex N).map ptW) P ∧ (∀ a b', eM a b' = true ↔ a ≠ b' ∧ Lm H (dfX P a b') (dfY P a b')) ∧ (P.length ≤ 216 ∧ ∀ p, p ∈ P → Rg p) ∧ P.length = (dd ((Ws b M tn sx sy kd ex N).map ptW)).length ∧ (halfS eM P.length = S ∧ prtS eM P.length = p ∧ cutS eM P.length P.length = c) ∧ ∀ Q, Tr sc 18 227 (ent0 227 [.ref 124, .int (nI s), .int (nI N)] G) Q = Q (some (.int 0), H) := by
  obtain ⟨H, P, F, PM, al, eq⟩ := m_aNet (sc := sc) hw hs D W h0 h1 hN
  obtain ⟨eM, heM⟩ : ∃ eM : Nat → Nat → Bool, ∀ a b', eM a b' = true ↔ a ≠ b' ∧ Lm H (dfX P a b') (dfY P a b') := ⟨fun a b' => @decide (a ≠ b' ∧ Lm H (dfX P a b') (dfY P a b')) (Classical.propDecidable _), fun a b' => by rw [@decide_eq_true_eq _ (Classical.propDecidable _)]⟩
  have nb := dd_nb (tn := tn) (N := N) W hN
  have p6 := PM.2.2.2.2.1
  have p7 := PM.2.2.2.2.2.1
  have p9 := PM.2.2.2.2.2.2.2
  have heM' : ∀ a b', eM a b' = true ↔ a ≠ b' ∧ Alv b M (rch b M sx sy) sx sy (dfX P a b') (dfY P a b') := fun a b' => by rw [heM, al]
  have rg : ∀ p, p ∈ P → Rg p := fun p hp => by
    obtain ⟨v, v1, v2⟩ := List.mem_map.mp ((p7 p).mp hp)
    rw [← v2]; exact Ws_rg W.2.1 (sw_b W) (by omega) v v1
  obtain ⟨f, g, hf, hg, hE⟩ := net_two (P := dd ((Ws b M tn sx sy kd ex N).map ptW)) (P' := P) rfl p9 dd_nd p6 (fun p => by rw [dd_mem, p7]) he heM'
  refine ⟨H, eM, P, F, PM, heM, ⟨by omega, rg⟩, p9, ?_, eq⟩
  rw [p9]
  exact net_same hf hg hE (eb_sy W.2.2.1.1 he) (eb_sy W.2.2.1.1 heM') (fun x => by
    unfold en
    rw [if_neg (fun z => ((heM x x).mp z).1 rfl)]) NR
theorem PNm_Sc {a b : Nat} (q : PNm a b) : Sc a b := by unfold PNm at q; unfold Sc; omega
theorem PA_Sc {a b : Nat} (q : a = 148 ∨ P47 a b) : Sc a b := by unfold P47 at q; unfold Sc; omega
theorem i_le3 (hT : 0 ≤ y ∧ y ≤ 3) : ∃ N, N ≤ 3 ∧ y = nI N := nI_of2 (M := 3) (n := 3) rfl (Int32.not_lt.mpr hT.1) hT.2
theorem both_net (hc : CM h) : Both sc 124 228 [.int x, .int y] h := by
  have hw := hc.1
  refine glue_st (x := x) (T := 0 ≤ y ∧ y ≤ 3) (CC := fun Q => Tr sc 19 124 (17, [some (.ref 0), some (.int x), some (.int y), some (.int 0)], [], h) Q) (MC := fun h1 Q => Tr sc 19 228 (ent0 228 [.ref 124, .int x, .int y] h1) Q) hc (fun Q => ?_) (fun h1 Q hw1 => ?_) (fun s hs hx hT hA hk => ?_) (fun A B hAB q => Tr_mono q hAB)
  · rw [e_124]
    simp only [x_124_0, x_124_1, x_124_2, x_124_3, x_124_4, x_124_7, x_124_10, x_124_11, x_124_12, x_124_15, x_124_16, o_0 hw, cl2_i, cl2_r, cl2_n, cl2_l, tl_s, tl_n, true_and, and_true, Option.some.injEq, exists_eq_left', Bool.and_self, Bool.true_and, Bool.and_true, Bool.or_true, Bool.true_or, i_10, i_00, if_true, if_false, not_true_eq_false, not_false_eq_true, and_false, false_and, okp_sI, okp_sL, okp_aI, okp_aL, hR_sI, hR_sL, hR_aI, hR_aL, c_isStep, c_stR (d := 16) hw, bI_0, Classical.not_not, i_1m1, i_3m1]
  · by_cases z : (0 ≤ x ∧ x < 8) ∧ (0 ≤ y ∧ y ≤ 3)
    · obtain ⟨s, hs, rfl⟩ := ir_of (n := 8) (by decide) z.1
      rw [if_pos z, nI_clamp (n := s) (by omega)]
      by_cases z1 : hI h1 134 s = 0
      · rw [if_pos z1, e_228]
        simp only [x_228_0, x_228_1, x_228_2, x_228_3, x_228_6, x_228_7, x_228_8, x_228_11, x_228_12, o_124 hw1, cl2_i, cl2_r, cl2_n, cl2_l, tl_s, tl_n, true_and, and_true, Option.some.injEq, exists_eq_left', Bool.and_self, Bool.true_and, Bool.and_true, Bool.or_true, Bool.true_or, i_10, i_00, if_true, if_false, not_true_eq_false, not_false_eq_true, and_false, false_and, okp_sI, okp_sL, okp_aI, okp_aL, hR_sI, hR_sL, hR_aI, hR_aL, m_aNet_1 hw1 hs z.2 z1, i_m3]
      · rw [if_neg z1]
        by_cases z2 : hI h1 132 s = 1 ∨ hI h1 132 s = 2
        · rw [if_pos z2]
        · rw [if_neg z2, e_228]
          simp only [x_228_0, x_228_1, x_228_2, x_228_3, x_228_6, x_228_7, x_228_8, x_228_11, x_228_12, o_124 hw1, cl2_i, cl2_r, cl2_n, cl2_l, tl_s, tl_n, true_and, and_true, Option.some.injEq, exists_eq_left', Bool.and_self, Bool.true_and, Bool.and_true, Bool.or_true, Bool.true_or, i_10, i_00, if_true, if_false, not_true_eq_false, not_false_eq_true, and_false, false_and, okp_sI, okp_sL, okp_aI, okp_aL, hR_sI, hR_sL, hR_aI, hR_aL, m_aNet_2 hw1 hs z.2 z1 z2, i_m3]
    · rw [if_neg z, e_228]
      simp only [x_228_0, x_228_1, x_228_2, x_228_3, x_228_6, x_228_7, x_228_8, x_228_11, x_228_12, o_124 hw1, cl2_i, cl2_r, cl2_n, cl2_l, tl_s, tl_n, true_and, and_true, Option.some.injEq, exists_eq_left', Bool.and_self, Bool.true_and, Bool.and_true, Bool.or_true, Bool.true_or, i_10, i_00, if_true, if_false, not_true_eq_false, not_false_eq_true, and_false, false_and, okp_sI, okp_sL, okp_aI, okp_aL, hR_sI, hR_sL, hR_aI, hR_aL, m_aNet_0 hw1 z, i_m1]
  · subst hx
    obtain ⟨N, hN, rfl⟩ := i_le3 hT
    obtain ⟨kd, b, M, tn, sx, sy, ex, W, C, D⟩ := sh_ab hA
    obtain ⟨eC, he⟩ : ∃ eC : Nat → Nat → Bool, ∀ a b', eC a b' = true ↔ a ≠ b' ∧ Alv b M (rch b M sx sy) sx sy (dfX (dd ((Ws b M tn sx sy kd ex N).map ptW)) a b') (dfY (dd ((Ws b M tn sx sy kd ex N).map ptW)) a b') := ⟨fun a b' => @decide (a ≠ b' ∧ Alv b M (rch b M sx sy) sx sy (dfX (dd ((Ws b M tn sx sy kd ex N).map ptW)) a b') (dfY (dd ((Ws b M tn sx sy kd ex N).map ptW)) a b')) (Classical.propDecidable _), fun a b' => by rw [@decide_eq_true_eq _ (Classical.propDecidable _)]⟩
    obtain ⟨H1, S, p, c, f1, ⟨g1, g2, g3, g4⟩, ⟨b1, b2, b3⟩, NR, eq1⟩ := g_weave (sc := sc) hw hs C W hN he
    have hw1 := f1.WF hw
    have ep : (nI p).toInt64 = jv p := nI_j (by omega)
    simp only [x_124_17, x_124_18, x_124_19, x_124_20, o_0 hw, x_124_23, x_124_24, x_124_25, x_124_28, x_124_31, x_124_32, x_124_35, x_124_36, x_124_39, x_124_42, o_0 hw1, w_0_10 hw1, o_32 hw1, o_32 hw1, w_32_0 hw1, w_32_1 hw1, w_32_2 hw1, w_32_3 hw1, w_32_4 hw1, w_32_5 hw1, w_32_6 hw1, w_32_7 hw1, w_32_8 hw1, cl2_i, cl2_r, cl2_n, cl2_l, tl_s, tl_n, true_and, and_true, Option.some.injEq, exists_eq_left', Bool.and_self, Bool.true_and, Bool.and_true, Bool.or_true, Bool.true_or, i_10, i_00, if_true, if_false, not_true_eq_false, not_false_eq_true, and_false, false_and, okp_sI, okp_sL, okp_aI, okp_aL, hR_sI, hR_sL, hR_aI, hR_aL, eq1, g1, g2, ep, hI_sL]
    have hw3 : WF (sL H1 0 16 (jv p)) := hw1
    have D1 := D.fr f1 (fun a j h1 h2 => by unfold Sc; omega)
    have D3 : ShM (sL H1 0 16 (jv p)) s kd b M tn sx sy ex := D1.fr (Fq.rf.sL (P := fun a b => a = 0) rfl) (fun a j h1 h2 q => by omega)
    have q1 : hI (sL H1 0 16 (jv p)) 134 s = hI h 134 s := f1.i (by unfold Sc; omega)
    have q2 : hI (sL H1 0 16 (jv p)) 132 s = hI h 132 s := f1.i (by unfold Sc; omega)
    refine ⟨hw3, q1, q2, ?_⟩
    have nz : ¬ hI (sL H1 0 16 (jv p)) 134 s = 0 := by rw [D3.2.2.1]; exact nI_ne0 (by have := W.2.2.1; omega) (by have := W.2.2.1; omega)
    have kz : hI (sL H1 0 16 (jv p)) 132 s = 1 ∨ hI (sL H1 0 16 (jv p)) 132 s = 2 := by rw [q2, hA.2.1]; exact hk
    obtain ⟨H4, eM, P, f4, PM, heM, ⟨pl, rg⟩, p9, ⟨e1, e2, e3⟩, eq4⟩ := net_all (sc := sc) hs W hN hw3 D3 nz kz he NR
    have hw4 := f4.WF hw3
    obtain ⟨H5, f5, eq5⟩ := m_net_r (sc := sc) (x := nI s) (y := nI N) hw4 PM pl rg heM
    rw [e1, e2] at eq5
    rw [e_228]
    simp only [x_228_0, x_228_1, x_228_2, x_228_3, x_228_6, x_228_7, x_228_8, o_124 hw3, cl2_i, cl2_r, cl2_n, cl2_l, tl_s, tl_n, true_and, and_true, Option.some.injEq, exists_eq_left', Bool.and_self, Bool.true_and, Bool.and_true, Bool.or_true, Bool.true_or, i_10, i_00, if_true, if_false, not_true_eq_false, not_false_eq_true, and_false, false_and, okp_sI, okp_sL, okp_aI, okp_aL, hR_sI, hR_sL, hR_aI, hR_aL, eq4, i_0, eq5]
    first | exact cm_eM hc f1 ((f4.wk (fun a b q => PA_Sc q)).tr (f5.wk (fun a b q => PNm_Sc q))) | exact ⟨rfl, cm_eM hc f1 ((f4.wk (fun a b q => PA_Sc q)).tr (f5.wk (fun a b q => PNm_Sc q)))⟩ | exact ⟨⟨_, rfl, rfl⟩, cm_eM hc f1 ((f4.wk (fun a b q => PA_Sc q)).tr (f5.wk (fun a b q => PNm_Sc q)))⟩
theorem both_rings (hc : CM h) : Both sc 125 229 [.int x, .int y] h := by
  have hw := hc.1
  refine glue_st (x := x) (T := 0 ≤ y ∧ y ≤ 3) (CC := fun Q => Tr sc 19 125 (17, [some (.ref 0), some (.int x), some (.int y), some (.int 0)], [], h) Q) (MC := fun h1 Q => Tr sc 19 229 (ent0 229 [.ref 124, .int x, .int y] h1) Q) hc (fun Q => ?_) (fun h1 Q hw1 => ?_) (fun s hs hx hT hA hk => ?_) (fun A B hAB q => Tr_mono q hAB)
  · rw [e_125]
    simp only [x_125_0, x_125_1, x_125_2, x_125_3, x_125_4, x_125_7, x_125_10, x_125_11, x_125_12, x_125_15, x_125_16, o_0 hw, cl2_i, cl2_r, cl2_n, cl2_l, tl_s, tl_n, true_and, and_true, Option.some.injEq, exists_eq_left', Bool.and_self, Bool.true_and, Bool.and_true, Bool.or_true, Bool.true_or, i_10, i_00, if_true, if_false, not_true_eq_false, not_false_eq_true, and_false, false_and, okp_sI, okp_sL, okp_aI, okp_aL, hR_sI, hR_sL, hR_aI, hR_aL, c_isStep, c_stR (d := 16) hw, bI_0, Classical.not_not, i_1m1, i_3m1]
  · by_cases z : (0 ≤ x ∧ x < 8) ∧ (0 ≤ y ∧ y ≤ 3)
    · obtain ⟨s, hs, rfl⟩ := ir_of (n := 8) (by decide) z.1
      rw [if_pos z, nI_clamp (n := s) (by omega)]
      by_cases z1 : hI h1 134 s = 0
      · rw [if_pos z1, e_229]
        simp only [x_229_0, x_229_1, x_229_2, x_229_3, x_229_6, x_229_7, x_229_8, x_229_11, x_229_12, o_124 hw1, cl2_i, cl2_r, cl2_n, cl2_l, tl_s, tl_n, true_and, and_true, Option.some.injEq, exists_eq_left', Bool.and_self, Bool.true_and, Bool.and_true, Bool.or_true, Bool.true_or, i_10, i_00, if_true, if_false, not_true_eq_false, not_false_eq_true, and_false, false_and, okp_sI, okp_sL, okp_aI, okp_aL, hR_sI, hR_sL, hR_aI, hR_aL, m_aNet_1 hw1 hs z.2 z1, i_m3]
      · rw [if_neg z1]
        by_cases z2 : hI h1 132 s = 1 ∨ hI h1 132 s = 2
        · rw [if_pos z2]
        · rw [if_neg z2, e_229]
          simp only [x_229_0, x_229_1, x_229_2, x_229_3, x_229_6, x_229_7, x_229_8, x_229_11, x_229_12, o_124 hw1, cl2_i, cl2_r, cl2_n, cl2_l, tl_s, tl_n, true_and, and_true, Option.some.injEq, exists_eq_left', Bool.and_self, Bool.true_and, Bool.and_true, Bool.or_true, Bool.true_or, i_10, i_00, if_true, if_false, not_true_eq_false, not_false_eq_true, and_false, false_and, okp_sI, okp_sL, okp_aI, okp_aL, hR_sI, hR_sL, hR_aI, hR_aL, m_aNet_2 hw1 hs z.2 z1 z2, i_m3]
    · rw [if_neg z, e_229]
      simp only [x_229_0, x_229_1, x_229_2, x_229_3, x_229_6, x_229_7, x_229_8, x_229_11, x_229_12, o_124 hw1, cl2_i, cl2_r, cl2_n, cl2_l, tl_s, tl_n, true_and, and_true, Option.some.injEq, exists_eq_left', Bool.and_self, Bool.true_and, Bool.and_true, Bool.or_true, Bool.true_or, i_10, i_00, if_true, if_false, not_true_eq_false, not_false_eq_true, and_false, false_and, okp_sI, okp_sL, okp_aI, okp_aL, hR_sI, hR_sL, hR_aI, hR_aL, m_aNet_0 hw1 z, i_m1]
  · subst hx
    obtain ⟨N, hN, rfl⟩ := i_le3 hT
    obtain ⟨kd, b, M, tn, sx, sy, ex, W, C, D⟩ := sh_ab hA
    obtain ⟨eC, he⟩ : ∃ eC : Nat → Nat → Bool, ∀ a b', eC a b' = true ↔ a ≠ b' ∧ Alv b M (rch b M sx sy) sx sy (dfX (dd ((Ws b M tn sx sy kd ex N).map ptW)) a b') (dfY (dd ((Ws b M tn sx sy kd ex N).map ptW)) a b') := ⟨fun a b' => @decide (a ≠ b' ∧ Alv b M (rch b M sx sy) sx sy (dfX (dd ((Ws b M tn sx sy kd ex N).map ptW)) a b') (dfY (dd ((Ws b M tn sx sy kd ex N).map ptW)) a b')) (Classical.propDecidable _), fun a b' => by rw [@decide_eq_true_eq _ (Classical.propDecidable _)]⟩
    obtain ⟨H1, S, p, c, f1, ⟨g1, g2, g3, g4⟩, ⟨b1, b2, b3⟩, NR, eq1⟩ := g_weave (sc := sc) hw hs C W hN he
    have hw1 := f1.WF hw
    have ep : (nI c).toInt64 = jv c := nI_j (by omega)
    simp only [x_125_17, x_125_18, x_125_19, x_125_20, o_0 hw, x_125_23, x_125_24, x_125_25, x_125_28, x_125_31, x_125_32, x_125_35, x_125_36, x_125_39, x_125_42, x_125_43, x_125_46, x_125_49, x_125_50, x_125_51, x_125_54, x_125_57, x_125_58, o_0 hw1, w_0_7 hw1, w_0_10 hw1, o_32 hw1, o_16 hw1, o_32 hw1, w_32_0 hw1, w_32_1 hw1, w_32_2 hw1, w_32_3 hw1, w_32_4 hw1, w_32_5 hw1, w_32_6 hw1, w_32_7 hw1, w_32_8 hw1, cl2_i, cl2_r, cl2_n, cl2_l, tl_s, tl_n, true_and, and_true, Option.some.injEq, exists_eq_left', Bool.and_self, Bool.true_and, Bool.and_true, Bool.or_true, Bool.true_or, i_10, i_00, if_true, if_false, not_true_eq_false, not_false_eq_true, and_false, false_and, okp_sI, okp_sL, okp_aI, okp_aL, hR_sI, hR_sL, hR_aI, hR_aL, eq1, g1, g2, g3, g4, ep, hI_sL]
    have hw3 : WF (sL H1 0 16 (jv c)) := hw1
    have D1 := D.fr f1 (fun a j h1 h2 => by unfold Sc; omega)
    have D3 : ShM (sL H1 0 16 (jv c)) s kd b M tn sx sy ex := D1.fr (Fq.rf.sL (P := fun a b => a = 0) rfl) (fun a j h1 h2 q => by omega)
    have q1 : hI (sL H1 0 16 (jv c)) 134 s = hI h 134 s := f1.i (by unfold Sc; omega)
    have q2 : hI (sL H1 0 16 (jv c)) 132 s = hI h 132 s := f1.i (by unfold Sc; omega)
    refine ⟨hw3, q1, q2, ?_⟩
    have nz : ¬ hI (sL H1 0 16 (jv c)) 134 s = 0 := by rw [D3.2.2.1]; exact nI_ne0 (by have := W.2.2.1; omega) (by have := W.2.2.1; omega)
    have kz : hI (sL H1 0 16 (jv c)) 132 s = 1 ∨ hI (sL H1 0 16 (jv c)) 132 s = 2 := by rw [q2, hA.2.1]; exact hk
    obtain ⟨H4, eM, P, f4, PM, heM, ⟨pl, rg⟩, p9, ⟨e1, e2, e3⟩, eq4⟩ := net_all (sc := sc) hs W hN hw3 D3 nz kz he NR
    have hw4 := f4.WF hw3
    obtain ⟨H5, f5, eq5⟩ := m_rings_r (sc := sc) (x := nI s) (y := nI N) hw4 PM pl rg heM
    rw [e1, e2, e3, p9] at eq5
    rw [e_229]
    simp only [x_229_0, x_229_1, x_229_2, x_229_3, x_229_6, x_229_7, x_229_8, o_124 hw3, cl2_i, cl2_r, cl2_n, cl2_l, tl_s, tl_n, true_and, and_true, Option.some.injEq, exists_eq_left', Bool.and_self, Bool.true_and, Bool.and_true, Bool.or_true, Bool.true_or, i_10, i_00, if_true, if_false, not_true_eq_false, not_false_eq_true, and_false, false_and, okp_sI, okp_sL, okp_aI, okp_aL, hR_sI, hR_sL, hR_aI, hR_aL, eq4, i_0, eq5]
    first | exact cm_eM hc f1 ((f4.wk (fun a b q => PA_Sc q)).tr (f5.wk (fun a b q => PNm_Sc q))) | exact ⟨rfl, cm_eM hc f1 ((f4.wk (fun a b q => PA_Sc q)).tr (f5.wk (fun a b q => PNm_Sc q)))⟩ | exact ⟨⟨_, rfl, rfl⟩, cm_eM hc f1 ((f4.wk (fun a b q => PA_Sc q)).tr (f5.wk (fun a b q => PNm_Sc q)))⟩
end N4
