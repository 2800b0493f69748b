/-! ===== the class's net: explore ===== -/
section NX
variable {sc : Nat × (Nat → Int32)} {d : Nat} {Q : PRes → Prop} {h h' h0 h1 H G : PH} {i j k n t u v w a b r p je step R M x : Nat} {eC : Nat → Nat → Bool} {N fr low nx last low' nx' : Nat → Nat} {Rt : Nat → Prop} {cb : Nat → Bool} {st ch l m : List Nat} {P : List Pnt} {sx sy : Nat → Int}
theorem nt_nx (hv : v < n) (I : NtI h n N fr low nx Rt cb k je) : NtI (sI h 38 v (nI x)) n N fr low (upN nx v x) Rt cb k je := by
  obtain ⟨i1, i2, i3, i4, i5, i6⟩ := I
  refine ⟨by rw [rd_ne (by omega)]; exact i1, by rw [rd_ne (by omega)]; exact i2, by rw [rd_ne (by omega)]; exact i3, fun u hu => by rw [rd_ne (by omega)]; exact i4 u hu, fun u hu h0 => ?_, fun u hu => by rw [rd_ne (by omega)]; exact i6 u hu⟩
  obtain ⟨c1, c2, c3, c4⟩ := i5 u hu h0
  refine ⟨by rw [rd_ne (by omega)]; exact c1, ?_, fun q => by rw [rd_ne (by omega)]; exact c3 q, fun q => by rw [rd_ne (by omega)]; exact c4 q⟩
  by_cases e : u = v
  · rw [e, rd_eq, upN_e]
  · rw [rd_ne (by omega), upN_n e]; exact c2
theorem nt_low (hv : v < n) (I : NtI h n N fr low nx Rt cb k je) : NtI (sI h 36 v (nI x)) n N fr (upN low v x) nx Rt cb k je := by
  obtain ⟨i1, i2, i3, i4, i5, i6⟩ := I
  refine ⟨by rw [rd_ne (by omega)]; exact i1, by rw [rd_ne (by omega)]; exact i2, by rw [rd_ne (by omega)]; exact i3, fun u hu => by rw [rd_ne (by omega)]; exact i4 u hu, fun u hu h0 => ?_, fun u hu => by rw [rd_ne (by omega)]; exact i6 u hu⟩
  obtain ⟨c1, c2, c3, c4⟩ := i5 u hu h0
  refine ⟨?_, by rw [rd_ne (by omega)]; exact c2, fun q => by rw [rd_ne (by omega)]; exact c3 q, fun q => by rw [rd_ne (by omega)]; exact c4 q⟩
  by_cases e : u = v
  · rw [e, rd_eq, upN_e]
  · rw [rd_ne (by omega), upN_n e]; exact c1
theorem nt_je (I : NtI h n N fr low nx Rt cb k je) : NtI (sI h 32 11 (nI x)) n N fr low nx Rt cb k x := by
  obtain ⟨i1, i2, i3, i4, i5, i6⟩ := I
  refine ⟨by rw [rd_ne (by omega)]; exact i1, by rw [rd_ne (by omega)]; exact i2, rd_eq, fun u hu => by rw [rd_ne (by omega)]; exact i4 u hu, fun u hu h0 => ?_, fun u hu => by rw [rd_ne (by omega)]; exact i6 u hu⟩
  obtain ⟨c1, c2, c3, c4⟩ := i5 u hu h0
  exact ⟨by rw [rd_ne (by omega)]; exact c1, by rw [rd_ne (by omega)]; exact c2, fun q => by rw [rd_ne (by omega)]; exact c3 q, fun q => by rw [rd_ne (by omega)]; exact c4 q⟩
theorem nt_cut {bb : Bool} (I : NtI h n N fr low nx Rt cb k je) : NtI (sI h 39 p (bo bb)) n N fr low nx Rt (fun x => if x = p then bb else cb x) k je := by
  obtain ⟨i1, i2, i3, i4, i5, i6⟩ := I
  refine ⟨by rw [rd_ne (by omega)]; exact i1, by rw [rd_ne (by omega)]; exact i2, by rw [rd_ne (by omega)]; exact i3, fun u hu => by rw [rd_ne (by omega)]; exact i4 u hu, fun u hu h0 => ?_, fun u hu => ?_⟩
  · obtain ⟨c1, c2, c3, c4⟩ := i5 u hu h0
    exact ⟨by rw [rd_ne (by omega)]; exact c1, by rw [rd_ne (by omega)]; exact c2, fun q => by rw [rd_ne (by omega)]; exact c3 q, fun q => by rw [rd_ne (by omega)]; exact c4 q⟩
  · by_cases e : u = p
    · rw [e, rd_eq]; show bo bb = bo (if p = p then bb else cb p); rw [if_pos rfl]
    · rw [rd_ne (by omega)]; show _ = bo (if u = p then bb else cb u); rw [if_neg e]; exact i6 u hu
theorem nI_min {a b : Nat} (ha : a < 2 ^ 31) (hb : b < 2 ^ 31) : (if nI b < nI a then nI b else nI a) = nI (min a b) := by
  by_cases q : b < a
  · rw [if_pos (nI_lt q ha), Nat.min_eq_right (by omega)]
  · rw [if_neg (nI_nlt (by omega) hb), Nat.min_eq_left (by omega)]
theorem upN_id {f : Nat → Nat} : upN f v (f v) = f := by
  funext x
  unfold upN
  split
  · rename_i e; rw [e]
  · rfl
/-- what explore needs of the world: who is joined -/
def NW (h : PH) (P : List Pnt) (eC : Nat → Nat → Bool) : Prop := WF h ∧ PtC h P ∧ P.length ≤ 216 ∧ ∀ v w, v < P.length → w < P.length → ∀ (sc : Nat × (Nat → Int32)) (G : PH), Fq PNw h G → ∀ d Q, Tr sc (d + 1) 24 (ent0 24 [.ref 32, .int (nI v), .int (nI w)] G) Q = Q (some (.int (bo (eC v w))), G)
theorem c_ex_1 (NWh : NW h0 P eC) (hn : n = P.length) (sye : ∀ x y, EB eC x y → EB eC y x) (X : XI H eC n r Rt N fr low nx last cb k je (v :: l) ch) (F : Fq PNw h0 H) (hst : step < 1000000) (hje : je < 100000) : ∃ H' N' fr' low' nx' last' cb' k' je' st' ch', Fq PNt H H' ∧ XI H' eC n r Rt N' fr' low' nx' last' cb' k' je' st' ch' ∧ muS n N' nx' st' < muS n N nx (v :: l) ∧ (∀ u, N u ≠ 0 → N' u ≠ 0) ∧ ∀ d Q, Tr sc (d + 3) 26 (13, [some (.ref 32), some (.int (nI r)), some (.int (nI ch.length)), some (.int (nI v)), some (.int (nI step))], [], H) Q = Tr sc (d + 3) 26 (13, [some (.ref 32), some (.int (nI r)), some (.int (nI ch'.length)), some (.int (topV st')), some (.int (nI (step + 1)))], [], H') Q := by
  obtain ⟨hw0, pc, pl, jn⟩ := NWh
  have hwH := F.WF hw0
  obtain ⟨I, J, L, B, je', kk, cu, rt, rr, cc, oth⟩ := id X
  obtain ⟨vn, v0⟩ := J.2.2.2.1 v (List.mem_cons_self ..)
  obtain ⟨b1, b2, b3, b4⟩ := B v vn v0
  obtain ⟨i1, i2, i3, i4, i5, i6⟩ := id I
  obtain ⟨c1, c2, c3, c4⟩ := i5 v vn v0
  have kn : k ≤ n := by rw [← kk]; exact sN_1 n (fun u _ => by (try dsimp only); split <;> omega)
  have in2 : ∀ v, v < n → inb (nI v) 216 = true := fun v hv => inb_nI (by omega) (by decide)
  have cl : ∀ v, v < n → (nI v).toNatClampNeg = v := fun v hv => nI_clamp (by omega)
  have p6 : (1000000 : Int32) ≤ nI step ↔ False := ⟨fun q => absurd q (nI_ge (a := step) (b := 1000000) hst (by decide)), fun q => q.elim⟩
  have vp : (nI v < 0) = False := eq_false (nI_pos (by omega))
  have chl : ch.length ≤ n := nd_lt cc.1 (fun c hc => ((cc.2 c).mp hc).1)
  by_cases z : nx v < n
  · -- a joint is tried
    generalize hw : nx v = w at *
    have f1 : Fq PNt H (sI H 38 v (nI (w + 1))) := Fq.rf.sI (by unfold PNt; omega)
    have hw1 := f1.WF hwH
    have I1 : NtI (sI H 38 v (nI (w + 1))) n N fr low (upN nx v (w + 1)) Rt cb k je := nt_nx vn I
    have jn1 : ∀ d Q, Tr sc (d + 1) 24 (ent0 24 [.ref 32, .int (nI v), .int (nI w)] (sI H 38 v (nI (w + 1)))) Q = Q (some (.int (bo (eC v w))), sI H 38 v (nI (w + 1))) := jn v w (by omega) (by omega) sc _ (F.tr (f1.wk (fun a b q => PNt_w q)))
    have lead : ∀ d Q, Tr sc (d + 3) 26 (13, [some (.ref 32), some (.int (nI r)), some (.int (nI ch.length)), some (.int (nI v)), some (.int (nI step))], [], H) Q = Tr sc (d + 2) 28 (ent0 28 [.ref 32, .int (nI v), .int (nI w)] (sI H 38 v (nI (w + 1)))) (fun zz => Tr sc (d + 3) 26 (53, [some (.ref 32), some (.int (nI r)), some (.int (nI ch.length)), some (.int (nI v)), some (.int (nI step))], zz.1.toList ++ [], zz.2) Q) := by
      intro d Q
      rw [x_26_13]
      simp only [x_26_15, x_26_17, x_26_20, x_26_21, x_26_24, x_26_25, x_26_28, x_26_29, x_26_30, x_26_31, x_26_34, x_26_37, x_26_38, x_26_39, x_26_40, x_26_43, x_26_44, x_26_45, x_26_46, x_26_47, x_26_48, x_26_49, x_26_50, o_32 hwH, w_32_5 hwH, o_38 hwH, iOk_lt (k := 38) (by decide), iRd_lt (k := 38) (by decide), show LN 38 = 216 from rfl, cl2_i, cl2_r, cl2_n, cl2_l, tl_s, tl_n, true_and, and_true, Option.some.injEq, exists_eq_left', Bool.and_self, Bool.true_and, Bool.and_true, Bool.or_true, Bool.true_or, i_10, i_00, if_true, if_false, not_true_eq_false, not_false_eq_true, and_false, false_and, okp_sI, okp_sL, okp_aI, okp_aL, hR_sI, hR_sL, hR_aI, hR_aL, p6, vp, in2 v vn, cl v vn, c2, i1, nI_1]
      rw [if_neg (nI_ge z (by omega))]
    cases ee : eC v w
    · -- not joined
      refine ⟨sI H 38 v (nI (w + 1)), N, fr, low, upN nx v (w + 1), last, cb, k, je + 0, v :: l, ch, f1, ?_⟩
      have xt := x_try (H := sI H 38 v (nI (w + 1))) (e1 := 0) (low' := low) X hw z (fun q => by rw [ee] at q; cases q) upN_id.symm (fun q => by rw [ee] at q; cases q) (fun _ => rfl) (by unfold en; rw [ee]; rfl) I1
      refine ⟨xt.1, xt.2, fun u hu => hu, fun d Q => ?_⟩
      rw [lead, e_28]
      rw [ee] at jn1
      simp only [x_28_0, x_28_1, x_28_2, x_28_3, x_28_6, x_28_9, x_28_10, o_32 hw1, cl2_i, cl2_r, cl2_n, cl2_l, tl_s, tl_n, true_and, and_true, Option.some.injEq, exists_eq_left', Bool.and_self, Bool.true_and, Bool.and_true, Bool.or_true, Bool.true_or, i_10, i_00, if_true, if_false, not_true_eq_false, not_false_eq_true, and_false, false_and, okp_sI, okp_sL, okp_aI, okp_aL, hR_sI, hR_sL, hR_aI, hR_aL, jn1, show bo false = 0 from rfl]
      simp only [x_26_53, x_26_54, x_26_57, x_26_58, x_26_61, x_26_62, x_26_63, x_26_64, x_26_67, x_26_70, x_26_71, x_26_72, x_26_73, x_26_76, x_26_77, x_26_80, cl2_i, cl2_r, cl2_n, cl2_l, tl_s, tl_n, true_and, and_true, Option.some.injEq, exists_eq_left', Bool.and_self, Bool.true_and, Bool.and_true, Bool.or_true, Bool.true_or, i_10, i_00, if_true, if_false, not_true_eq_false, not_false_eq_true, and_false, false_and, okp_sI, okp_sL, okp_aI, okp_aL, hR_sI, hR_sL, hR_aI, hR_aL, nI_1]
      rfl
    · rw [ee] at jn1
      have I2 : NtI (sI (sI H 38 v (nI (w + 1))) 32 11 (nI (je + 1))) n N fr low (upN nx v (w + 1)) Rt cb k (je + 1) := nt_je I1
      have f2 : Fq PNt H (sI (sI H 38 v (nI (w + 1))) 32 11 (nI (je + 1))) := f1.sI (by unfold PNt; omega)
      have hw2 := f2.WF hwH
      have Nw := I2.2.2.2.1 w z
      obtain ⟨d1, d2, d3, d4⟩ := I2.2.2.2.2.1 v vn v0
      by_cases n0 : N w = 0
      · have xe := x_ent (H := entH (sI (sI H 38 v (nI (w + 1))) 32 11 (nI (je + 1))) k w (nI v)) X hw z ee n0 (entr_I (v := v) I2 (fun _ _ => Iff.rfl) (fun q => absurd n0 (J.2.2.2.2.2.2.2.2 w q).2) (fun _ => rfl))
        refine ⟨_, _, _, _, _, _, _, _, _, _, _, f2.tr ent_fr, xe.1, xe.2, fun u hu => by
          by_cases eu : u = w
          · rw [eu, upN_e]; omega
          · rw [upN_n eu]; exact hu, fun d Q => ?_⟩
        have en1 : ∀ d Q, Tr sc d 27 (ent0 27 [.ref 32, .int (nI w), .int (nI v)] (sI (sI H 38 v (nI (w + 1))) 32 11 (nI (je + 1)))) Q = Q (none, entH (sI (sI H 38 v (nI (w + 1))) 32 11 (nI (je + 1))) k w (nI v)) := c_enter hw2 I2.2.1 (by omega)
        rw [n0, nI_0] at Nw
        rw [lead, e_28]
        simp only [x_28_0, x_28_1, x_28_2, x_28_3, x_28_6, x_28_9, x_28_10, x_28_11, x_28_12, x_28_13, x_28_16, x_28_17, x_28_18, o_32 hw1, x_28_21, x_28_22, x_28_25, x_28_26, x_28_27, x_28_30, x_28_31, x_28_32, x_28_33, x_28_36, x_28_37, o_32 hw2, w_32_2 hw2, o_35 hw2, iOk_lt (k := 35) (by decide), iRd_lt (k := 35) (by decide), show LN 35 = 216 from rfl, cl2_i, cl2_r, cl2_n, cl2_l, tl_s, tl_n, true_and, and_true, Option.some.injEq, exists_eq_left', Bool.and_self, Bool.true_and, Bool.and_true, Bool.or_true, Bool.true_or, i_10, i_00, if_true, if_false, not_true_eq_false, not_false_eq_true, and_false, false_and, okp_sI, okp_sL, okp_aI, okp_aL, hR_sI, hR_sL, hR_aI, hR_aL, jn1, show bo true = 1 from rfl, rd_ne (q := 38) (a := 32) (Or.inl (by decide)), i3, nI_1, in2 w z, cl w z, Nw, en1]
        simp only [x_26_53, x_26_54, x_26_57, x_26_58, x_26_61, x_26_62, x_26_63, x_26_64, x_26_67, x_26_70, x_26_71, x_26_72, x_26_73, x_26_76, x_26_77, x_26_80, cl2_i, cl2_r, cl2_n, cl2_l, tl_s, tl_n, true_and, and_true, Option.some.injEq, exists_eq_left', Bool.and_self, Bool.true_and, Bool.and_true, Bool.or_true, Bool.true_or, i_10, i_00, if_true, if_false, not_true_eq_false, not_false_eq_true, and_false, false_and, okp_sI, okp_sL, okp_aI, okp_aL, hR_sI, hR_sL, hR_aI, hR_aL, nI_1]
        rfl
      · have nw0 : (nI (N w) = 0) = False := eq_false (nI_ne0 (by omega) (by have := J.1 w z; omega))
        have Nb := J.1 w z
        by_cases q : Rt v ∨ w ≠ fr v
        · have frn : ¬ nI w = hI (sI (sI H 38 v (nI (w + 1))) 32 11 (nI (je + 1))) 37 v := by
            by_cases rv : Rt v
            · rw [d3 rv]
              exact fun z => absurd (congrArg Int32.toInt z) (by rw [nI_toInt (by omega)]; show ¬ ((w : Int) = -1); omega)
            · rw [d4 rv]
              have hf := (J.2.2.1 v vn v0 rv).1
              exact fun z => (q.elim (fun y => absurd y rv) id) ((nI_eq (by omega) (by omega)).mp z)
          have xt := x_try (H := sI (sI (sI H 38 v (nI (w + 1))) 32 11 (nI (je + 1))) 36 v (nI (min (low v) (N w)))) (e1 := 1) (low' := upN low v (min (low v) (N w))) X hw z (fun _ => n0) rfl (fun _ _ => rfl) (fun y => absurd ⟨ee, q⟩ y) (by unfold en; rw [ee]; rfl) (nt_low vn I2)
          refine ⟨_, _, _, _, _, _, _, _, _, _, _, f2.sI (by unfold PNt; omega), xt.1, xt.2, fun u hu => hu, fun d Q => ?_⟩
          rw [lead, e_28]
          simp only [x_28_0, x_28_1, x_28_2, x_28_3, x_28_6, x_28_9, x_28_10, x_28_11, x_28_12, x_28_13, x_28_16, x_28_17, x_28_18, o_32 hw1, x_28_21, x_28_22, x_28_25, x_28_26, x_28_27, o_32 hw2, w_32_2 hw2, o_35 hw2, iOk_lt (k := 35) (by decide), iRd_lt (k := 35) (by decide), show LN 35 = 216 from rfl, x_28_38, x_28_39, x_28_40, x_28_43, x_28_44, x_28_45, x_28_48, x_28_49, x_28_52, x_28_53, x_28_54, x_28_57, x_28_58, x_28_59, x_28_60, x_28_63, x_28_64, x_28_65, x_28_68, x_28_69, x_28_70, o_32 hw2, w_32_2 hw2, w_32_3 hw2, w_32_4 hw2, o_37 hw2, iOk_lt (k := 37) (by decide), iRd_lt (k := 37) (by decide), show LN 37 = 216 from rfl, o_36 hw2, iOk_lt (k := 36) (by decide), iRd_lt (k := 36) (by decide), show LN 36 = 216 from rfl, o_35 hw2, iOk_lt (k := 35) (by decide), iRd_lt (k := 35) (by decide), show LN 35 = 216 from rfl, x_28_0, x_28_1, x_28_2, x_28_3, x_28_6, x_28_9, x_28_10, x_28_11, x_28_12, x_28_13, x_28_16, x_28_17, x_28_18, x_28_21, x_28_22, x_28_25, x_28_26, x_28_27, x_28_30, x_28_31, x_28_32, x_28_33, x_28_36, x_28_37, x_28_38, x_28_39, x_28_40, x_28_43, x_28_44, x_28_45, x_28_48, x_28_49, x_28_52, x_28_53, x_28_54, x_28_57, x_28_58, x_28_59, x_28_60, x_28_63, x_28_64, x_28_65, x_28_68, x_28_69, x_28_70, o_32 hwH, w_32_2 hwH, w_32_3 hwH, w_32_4 hwH, o_35 hwH, iOk_lt (k := 35) (by decide), iRd_lt (k := 35) (by decide), show LN 35 = 216 from rfl, o_37 hwH, iOk_lt (k := 37) (by decide), iRd_lt (k := 37) (by decide), show LN 37 = 216 from rfl, o_36 hwH, iOk_lt (k := 36) (by decide), iRd_lt (k := 36) (by decide), show LN 36 = 216 from rfl, cl2_i, cl2_r, cl2_n, cl2_l, tl_s, tl_n, true_and, and_true, Option.some.injEq, exists_eq_left', Bool.and_self, Bool.true_and, Bool.and_true, Bool.or_true, Bool.true_or, i_10, i_00, if_true, if_false, not_true_eq_false, not_false_eq_true, and_false, false_and, okp_sI, okp_sL, okp_aI, okp_aL, hR_sI, hR_sL, hR_aI, hR_aL, jn1, show bo true = 1 from rfl, rd_ne (q := 38) (a := 32) (Or.inl (by decide)), i3, nI_1, in2 w z, cl w z, in2 v vn, cl v vn, Nw, nw0, frn, d1, nI_min (a := low v) (b := N w) (by omega) (by omega)]
          simp only [x_26_53, x_26_54, x_26_57, x_26_58, x_26_61, x_26_62, x_26_63, x_26_64, x_26_67, x_26_70, x_26_71, x_26_72, x_26_73, x_26_76, x_26_77, x_26_80, cl2_i, cl2_r, cl2_n, cl2_l, tl_s, tl_n, true_and, and_true, Option.some.injEq, exists_eq_left', Bool.and_self, Bool.true_and, Bool.and_true, Bool.or_true, Bool.true_or, i_10, i_00, if_true, if_false, not_true_eq_false, not_false_eq_true, and_false, false_and, okp_sI, okp_sL, okp_aI, okp_aL, hR_sI, hR_sL, hR_aI, hR_aL, nI_1]
          rfl
        · have rv : ¬ Rt v := fun y => q (Or.inl y)
          have wf : w = fr v := by
            apply Classical.byContradiction
            exact fun y => q (Or.inr y)
          have frn : nI w = hI (sI (sI H 38 v (nI (w + 1))) 32 11 (nI (je + 1))) 37 v := by rw [d4 rv, wf]
          have xt := x_try (H := sI (sI H 38 v (nI (w + 1))) 32 11 (nI (je + 1))) (e1 := 1) (low' := low) X hw z (fun _ => n0) upN_id.symm (fun _ y => absurd y q) (fun _ => rfl) (by unfold en; rw [ee]; rfl) I2
          refine ⟨_, _, _, _, _, _, _, _, _, _, _, f2, xt.1, xt.2, fun u hu => hu, fun d Q => ?_⟩
          rw [lead, e_28]
          simp only [x_28_0, x_28_1, x_28_2, x_28_3, x_28_6, x_28_9, x_28_10, x_28_11, x_28_12, x_28_13, x_28_16, x_28_17, x_28_18, o_32 hw1, x_28_21, x_28_22, x_28_25, x_28_26, x_28_27, o_32 hw2, w_32_2 hw2, o_35 hw2, iOk_lt (k := 35) (by decide), iRd_lt (k := 35) (by decide), show LN 35 = 216 from rfl, x_28_38, x_28_39, x_28_40, x_28_43, x_28_44, x_28_45, o_32 hw2, w_32_4 hw2, o_37 hw2, iOk_lt (k := 37) (by decide), iRd_lt (k := 37) (by decide), show LN 37 = 216 from rfl, x_28_0, x_28_1, x_28_2, x_28_3, x_28_6, x_28_9, x_28_10, x_28_11, x_28_12, x_28_13, x_28_16, x_28_17, x_28_18, x_28_21, x_28_22, x_28_25, x_28_26, x_28_27, x_28_30, x_28_31, x_28_32, x_28_33, x_28_36, x_28_37, x_28_38, x_28_39, x_28_40, x_28_43, x_28_44, x_28_45, o_32 hwH, w_32_2 hwH, w_32_4 hwH, o_35 hwH, iOk_lt (k := 35) (by decide), iRd_lt (k := 35) (by decide), show LN 35 = 216 from rfl, o_37 hwH, iOk_lt (k := 37) (by decide), iRd_lt (k := 37) (by decide), show LN 37 = 216 from rfl, x_28_69, x_28_70, cl2_i, cl2_r, cl2_n, cl2_l, tl_s, tl_n, true_and, and_true, Option.some.injEq, exists_eq_left', Bool.and_self, Bool.true_and, Bool.and_true, Bool.or_true, Bool.true_or, i_10, i_00, if_true, if_false, not_true_eq_false, not_false_eq_true, and_false, false_and, okp_sI, okp_sL, okp_aI, okp_aL, hR_sI, hR_sL, hR_aI, hR_aL, jn1, show bo true = 1 from rfl, rd_ne (q := 38) (a := 32) (Or.inl (by decide)), i3, nI_1, in2 w z, cl w z, in2 v vn, cl v vn, Nw, nw0]
          rw [if_pos frn]
          simp only [x_26_53, x_26_54, x_26_57, x_26_58, x_26_61, x_26_62, x_26_63, x_26_64, x_26_67, x_26_70, x_26_71, x_26_72, x_26_73, x_26_76, x_26_77, x_26_80, cl2_i, cl2_r, cl2_n, cl2_l, tl_s, tl_n, true_and, and_true, Option.some.injEq, exists_eq_left', Bool.and_self, Bool.true_and, Bool.and_true, Bool.or_true, Bool.true_or, i_10, i_00, if_true, if_false, not_true_eq_false, not_false_eq_true, and_false, false_and, okp_sI, okp_sL, okp_aI, okp_aL, hR_sI, hR_sL, hR_aI, hR_aL, nI_1]
          rfl
  · -- the point is left
    have hv : nx v = n := by omega
    have lead : ∀ d Q, Tr sc (d + 3) 26 (13, [some (.ref 32), some (.int (nI r)), some (.int (nI ch.length)), some (.int (nI v)), some (.int (nI step))], [], H) Q = Tr sc (d + 3) 26 (57, [some (.ref 32), some (.int (nI r)), some (.int (nI ch.length)), some (.int (nI v)), some (.int (nI step))], [], H) Q := by
      intro d Q
      rw [x_26_13]
      simp only [x_26_15, x_26_17, x_26_20, x_26_21, x_26_24, x_26_25, x_26_28, x_26_29, x_26_30, x_26_31, x_26_34, o_32 hwH, w_32_5 hwH, o_38 hwH, iOk_lt (k := 38) (by decide), iRd_lt (k := 38) (by decide), show LN 38 = 216 from rfl, cl2_i, cl2_r, cl2_n, cl2_l, tl_s, tl_n, true_and, and_true, Option.some.injEq, exists_eq_left', Bool.and_self, Bool.true_and, Bool.and_true, Bool.or_true, Bool.true_or, i_10, i_00, if_true, if_false, not_true_eq_false, not_false_eq_true, and_false, false_and, okp_sI, okp_sL, okp_aI, okp_aL, hR_sI, hR_sL, hR_aI, hR_aL, p6, vp, in2 v vn, cl v vn, c2, i1, hv]
      rw [if_pos (Int32.le_refl _)]
    rcases l with _ | ⟨p, m⟩
    · have hr : Rt v := J.2.2.2.2.2.1
      have fr' := c3 hr
      have nr : ¬ (-1 : Int32) = nI r := fun z => absurd (congrArg Int32.toInt z) (by rw [nI_toInt (by omega)]; show ¬ ((-1 : Int) = (r : Int)); omega)
      refine ⟨H, _, _, _, _, _, _, _, _, [], ch, Fq.rf, x_lv0 sye X hv, by unfold muS; rw [List.length_cons, List.length_nil]; omega, fun u hu => hu, fun d Q => ?_⟩
      have lv : ∀ d Q, Tr sc d 29 (ent0 29 [.ref 32, .int (nI v), .int (nI r)] H) Q = Q (some (.int (-1)), H) := fun d Q => by
        rw [e_29]
        simp only [x_29_0, x_29_1, x_29_4, x_29_5, x_29_6, x_29_7, x_29_8, o_32 hwH, w_32_4 hwH, o_37 hwH, iOk_lt (k := 37) (by decide), iRd_lt (k := 37) (by decide), show LN 37 = 216 from rfl, x_29_59, x_29_60, cl2_i, cl2_r, cl2_n, cl2_l, tl_s, tl_n, true_and, and_true, Option.some.injEq, exists_eq_left', Bool.and_self, Bool.true_and, Bool.and_true, Bool.or_true, Bool.true_or, i_10, i_00, if_true, if_false, not_true_eq_false, not_false_eq_true, and_false, false_and, okp_sI, okp_sL, okp_aI, okp_aL, hR_sI, hR_sL, hR_aI, hR_aL, in2 v vn, cl v vn, fr', show ((-1 : Int32) < 0) = True from eq_true (by decide)]
      rw [lead]
      simp only [x_26_57, x_26_58, x_26_61, x_26_62, x_26_63, x_26_64, x_26_67, x_26_70, x_26_71, x_26_72, x_26_73, x_26_76, x_26_77, x_26_80, o_32 hwH, w_32_4 hwH, o_37 hwH, iOk_lt (k := 37) (by decide), iRd_lt (k := 37) (by decide), show LN 37 = 216 from rfl, cl2_i, cl2_r, cl2_n, cl2_l, tl_s, tl_n, true_and, and_true, Option.some.injEq, exists_eq_left', Bool.and_self, Bool.true_and, Bool.and_true, Bool.or_true, Bool.true_or, i_10, i_00, if_true, if_false, not_true_eq_false, not_false_eq_true, and_false, false_and, okp_sI, okp_sL, okp_aI, okp_aL, hR_sI, hR_sL, hR_aI, hR_aL, in2 v vn, cl v vn, fr', nr, lv, nI_1]
      rfl
    · obtain ⟨nr, fv, -⟩ := J.2.2.2.2.2.1
      have fr' := c4 nr
      rw [fv] at fr'
      have pm : p ∈ v :: p :: m := List.mem_cons_of_mem _ (List.mem_cons_self ..)
      obtain ⟨pn, p0⟩ := J.2.2.2.1 p pm
      obtain ⟨e1, e2, e3, e4⟩ := i5 p pn p0
      have vpp : v ≠ p := fun e => st_ne J p (List.mem_cons_self ..) e.symm
      have lp := (B p pn p0).2.1
      have Np := J.1 p pn
      have f1 : Fq PNt H (sI H 36 p (nI (min (low p) (low v)))) := Fq.rf.sI (by unfold PNt; omega)
      have hw1 := f1.WF hwH
      have I1 : NtI (sI H 36 p (nI (min (low p) (low v)))) n N fr (upN low p (min (low p) (low v))) nx Rt cb k je := nt_low pn I
      have pp0 : (nI p < 0) = False := eq_false (nI_pos (by omega))
      have lv1 : hI (sI H 36 p (nI (min (low p) (low v)))) 36 v = nI (low v) := by rw [rd_ne (by omega)]; exact c1
      have lv2 : hI (sI H 36 p (nI (min (low p) (low v)))) 35 p = nI (N p) := by rw [rd_ne (by omega)]; exact i4 p pn
      have mn := nI_min (a := low p) (b := low v) (by omega) (by omega)
      -- what leave does
      have lvx : ∃ H2, Fq PNt H H2 ∧ NtI H2 n N fr (upN low p (min (low p) (low v))) nx Rt (fun x => if x = p ∧ p ≠ r ∧ N p ≤ low v then true else cb x) k je ∧ ∀ d Q, Tr sc d 29 (ent0 29 [.ref 32, .int (nI v), .int (nI r)] H) Q = Q (some (.int (nI p)), H2) := by
        by_cases q : p ≠ r ∧ N p ≤ low v
        · refine ⟨sI (sI H 36 p (nI (min (low p) (low v)))) 39 p (bo true), f1.sI (by unfold PNt; omega), ?_, fun d Q => ?_⟩
          · have := nt_cut (p := p) (bb := true) I1
            rw [show (fun x => if x = p ∧ p ≠ r ∧ N p ≤ low v then true else cb x) = fun x => if x = p then true else cb x from funext (fun x => by
              by_cases e : x = p
              · rw [if_pos ⟨e, q⟩, if_pos e]
              · rw [if_neg (fun y => e y.1), if_neg e])]
            exact this
          · rw [e_29]
            simp only [x_29_0, x_29_1, x_29_4, x_29_5, x_29_6, x_29_7, x_29_8, x_29_11, x_29_12, x_29_15, x_29_16, x_29_17, x_29_20, x_29_21, x_29_22, x_29_23, x_29_26, x_29_27, x_29_28, x_29_31, o_32 hwH, w_32_3 hwH, w_32_4 hwH, o_37 hwH, iOk_lt (k := 37) (by decide), iRd_lt (k := 37) (by decide), show LN 37 = 216 from rfl, o_36 hwH, iOk_lt (k := 36) (by decide), iRd_lt (k := 36) (by decide), show LN 36 = 216 from rfl, x_29_32, x_29_33, x_29_34, x_29_37, x_29_38, x_29_41, x_29_42, x_29_43, x_29_44, x_29_47, x_29_48, x_29_49, x_29_52, x_29_53, x_29_56, x_29_57, x_29_58, x_29_59, x_29_60, o_32 hw1, w_32_2 hw1, w_32_3 hw1, w_32_6 hw1, o_36 hw1, iOk_lt (k := 36) (by decide), iRd_lt (k := 36) (by decide), show LN 36 = 216 from rfl, o_35 hw1, iOk_lt (k := 35) (by decide), iRd_lt (k := 35) (by decide), show LN 35 = 216 from rfl, o_39 hw1, show LN 39 = 216 from rfl, x_29_32, x_29_33, x_29_34, x_29_37, x_29_38, x_29_41, x_29_42, x_29_43, x_29_44, x_29_47, x_29_48, x_29_49, x_29_52, x_29_53, x_29_56, x_29_57, x_29_58, x_29_59, x_29_60, o_32 hwH, w_32_2 hwH, w_32_3 hwH, w_32_6 hwH, o_36 hwH, iOk_lt (k := 36) (by decide), iRd_lt (k := 36) (by decide), show LN 36 = 216 from rfl, o_35 hwH, iOk_lt (k := 35) (by decide), iRd_lt (k := 35) (by decide), show LN 35 = 216 from rfl, o_39 hwH, show LN 39 = 216 from rfl, cl2_i, cl2_r, cl2_n, cl2_l, tl_s, tl_n, true_and, and_true, Option.some.injEq, exists_eq_left', Bool.and_self, Bool.true_and, Bool.and_true, Bool.or_true, Bool.true_or, i_10, i_00, if_true, if_false, not_true_eq_false, not_false_eq_true, and_false, false_and, okp_sI, okp_sL, okp_aI, okp_aL, hR_sI, hR_sL, hR_aI, hR_aL, in2 v vn, cl v vn, in2 p pn, cl p pn, fr', pp0, e1, c1, mn, lv1, lv2, show (nI p = nI r) = False from eq_false (fun y => q.1 ((nI_eq (by omega) (by omega)).mp y)), vp_b1]
            rw [if_neg (nI_nlt q.2 (by omega))]
            rfl
        · refine ⟨sI H 36 p (nI (min (low p) (low v))), f1, ?_, fun d Q => ?_⟩
          · rw [show (fun x => if x = p ∧ p ≠ r ∧ N p ≤ low v then true else cb x) = cb from funext (fun x => if_neg (fun y => q y.2))]
            exact I1
          · rw [e_29]
            by_cases q1 : p = r
            · subst q1
              simp only [x_29_0, x_29_1, x_29_4, x_29_5, x_29_6, x_29_7, x_29_8, x_29_11, x_29_12, x_29_15, x_29_16, x_29_17, x_29_20, x_29_21, x_29_22, x_29_23, x_29_26, x_29_27, x_29_28, x_29_31, o_32 hwH, w_32_3 hwH, w_32_4 hwH, o_37 hwH, iOk_lt (k := 37) (by decide), iRd_lt (k := 37) (by decide), show LN 37 = 216 from rfl, o_36 hwH, iOk_lt (k := 36) (by decide), iRd_lt (k := 36) (by decide), show LN 36 = 216 from rfl, x_29_32, x_29_33, x_29_34, o_32 hw1, x_29_32, x_29_33, x_29_34, o_32 hwH, x_29_59, x_29_60, cl2_i, cl2_r, cl2_n, cl2_l, tl_s, tl_n, true_and, and_true, Option.some.injEq, exists_eq_left', Bool.and_self, Bool.true_and, Bool.and_true, Bool.or_true, Bool.true_or, i_10, i_00, if_true, if_false, not_true_eq_false, not_false_eq_true, and_false, false_and, okp_sI, okp_sL, okp_aI, okp_aL, hR_sI, hR_sL, hR_aI, hR_aL, in2 v vn, cl v vn, in2 p pn, cl p pn, fr', pp0, e1, c1, mn, if_true]
            · simp only [x_29_0, x_29_1, x_29_4, x_29_5, x_29_6, x_29_7, x_29_8, x_29_11, x_29_12, x_29_15, x_29_16, x_29_17, x_29_20, x_29_21, x_29_22, x_29_23, x_29_26, x_29_27, x_29_28, x_29_31, o_32 hwH, w_32_3 hwH, w_32_4 hwH, o_37 hwH, iOk_lt (k := 37) (by decide), iRd_lt (k := 37) (by decide), show LN 37 = 216 from rfl, o_36 hwH, iOk_lt (k := 36) (by decide), iRd_lt (k := 36) (by decide), show LN 36 = 216 from rfl, x_29_32, x_29_33, x_29_34, x_29_37, x_29_38, x_29_41, x_29_42, x_29_43, x_29_44, x_29_47, x_29_48, x_29_49, o_32 hw1, w_32_2 hw1, w_32_3 hw1, o_36 hw1, iOk_lt (k := 36) (by decide), iRd_lt (k := 36) (by decide), show LN 36 = 216 from rfl, o_35 hw1, iOk_lt (k := 35) (by decide), iRd_lt (k := 35) (by decide), show LN 35 = 216 from rfl, x_29_32, x_29_33, x_29_34, x_29_37, x_29_38, x_29_41, x_29_42, x_29_43, x_29_44, x_29_47, x_29_48, x_29_49, o_32 hwH, w_32_2 hwH, w_32_3 hwH, o_36 hwH, iOk_lt (k := 36) (by decide), iRd_lt (k := 36) (by decide), show LN 36 = 216 from rfl, o_35 hwH, iOk_lt (k := 35) (by decide), iRd_lt (k := 35) (by decide), show LN 35 = 216 from rfl, x_29_59, x_29_60, cl2_i, cl2_r, cl2_n, cl2_l, tl_s, tl_n, true_and, and_true, Option.some.injEq, exists_eq_left', Bool.and_self, Bool.true_and, Bool.and_true, Bool.or_true, Bool.true_or, i_10, i_00, if_true, if_false, not_true_eq_false, not_false_eq_true, and_false, false_and, okp_sI, okp_sL, okp_aI, okp_aL, hR_sI, hR_sL, hR_aI, hR_aL, in2 v vn, cl v vn, in2 p pn, cl p pn, fr', pp0, e1, c1, mn, lv1, lv2, show (nI p = nI r) = False from eq_false (fun y => q1 ((nI_eq (by omega) (by omega)).mp y))]
              rw [if_pos (nI_lt (show low v < N p by have : ¬ N p ≤ low v := fun y => q ⟨q1, y⟩; omega) (by omega))]
      obtain ⟨H2, f2, I2, lv⟩ := lvx
      refine ⟨H2, _, _, _, _, _, _, _, _, p :: m, _, f2, x_lv1 sye X hv rfl rfl rfl I2, by unfold muS; rw [List.length_cons (a := v)]; omega, fun u hu => hu, fun d Q => ?_⟩
      rw [lead]
      by_cases q1 : p = r
      · rw [if_pos q1]
        have frr : hI H 37 v = nI r := by rw [fr', q1]
        simp only [x_26_57, x_26_58, x_26_61, x_26_62, x_26_63, x_26_64, x_26_67, x_26_70, x_26_71, x_26_72, x_26_73, x_26_76, x_26_77, x_26_80, o_32 hwH, w_32_4 hwH, o_37 hwH, iOk_lt (k := 37) (by decide), iRd_lt (k := 37) (by decide), show LN 37 = 216 from rfl, cl2_i, cl2_r, cl2_n, cl2_l, tl_s, tl_n, true_and, and_true, Option.some.injEq, exists_eq_left', Bool.and_self, Bool.true_and, Bool.and_true, Bool.or_true, Bool.true_or, i_10, i_00, if_true, if_false, not_true_eq_false, not_false_eq_true, and_false, false_and, okp_sI, okp_sL, okp_aI, okp_aL, hR_sI, hR_sL, hR_aI, hR_aL, in2 v vn, cl v vn, frr, if_true, lv, nI_1]
        rw [List.length_append, List.length_singleton]
        rfl
      · rw [if_neg q1]
        simp only [x_26_57, x_26_58, x_26_61, x_26_62, x_26_63, x_26_64, x_26_67, x_26_70, x_26_71, x_26_72, x_26_73, x_26_76, x_26_77, x_26_80, o_32 hwH, w_32_4 hwH, o_37 hwH, iOk_lt (k := 37) (by decide), iRd_lt (k := 37) (by decide), show LN 37 = 216 from rfl, cl2_i, cl2_r, cl2_n, cl2_l, tl_s, tl_n, true_and, and_true, Option.some.injEq, exists_eq_left', Bool.and_self, Bool.true_and, Bool.and_true, Bool.or_true, Bool.true_or, i_10, i_00, if_true, if_false, not_true_eq_false, not_false_eq_true, and_false, false_and, okp_sI, okp_sL, okp_aI, okp_aL, hR_sI, hR_sL, hR_aI, hR_aL, in2 v vn, cl v vn, fr', show (nI p = nI r) = False from eq_false (fun y => q1 ((nI_eq (by omega) (by omega)).mp y)), lv, nI_1]
        rfl
end NX
