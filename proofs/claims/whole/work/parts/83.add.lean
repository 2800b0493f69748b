/-! ===== the class's cells: adding a point, clearing, growing ===== -/
def Bd (h : PH) (k : Nat) (L : List Pnt) : Prop := ∃ a b c g, (Lo (·.1) L a ∧ hI h k 6 = iv a) ∧ (Hi (·.1) L b ∧ hI h k 7 = iv b) ∧ (Lo (·.2) L c ∧ hI h k 8 = iv c) ∧ (Hi (·.2) L g ∧ hI h k 9 = iv g)
section CA
variable {sc : Nat × (Nat → Int32)} {d : Nat} {Q : PRes → Prop} {h h' h1 H G : PH} {k e i j n t u : Nat} {L : List Pnt} {p : Pnt} {z : Int} {σ : Nat → Nat} {P : Nat → Nat → Prop} {x y : Int32} {f : Pnt → Int}
theorem lo_r {a : Int} (hr : ∀ q, q ∈ L → R3 (f q)) (q : Lo f L a) : R3 a := by
  obtain ⟨-, w, w1, w2⟩ := q
  rw [← w2]; exact hr w w1
theorem hi_r {a : Int} (hr : ∀ q, q ∈ L → R3 (f q)) (q : Hi f L a) : R3 a := by
  obtain ⟨-, w, w1, w2⟩ := q
  rw [← w2]; exact hr w w1
theorem c_widen (ho : okp G k 1 = true) (hn : n < 10000) (h4 : hI G k 4 = nI (n + 1)) (hl : L = [] ↔ n = 0) (hp : Rg p) (hr : ∀ q, q ∈ L → Rg q) (hB : L ≠ [] → Bd G k L) : ∃ W, Fq (fun a b => a = k ∧ 6 ≤ b) G W ∧ Bd W k (L ++ [p]) ∧ ∀ d Q, Tr sc d 19 (ent0 19 [.ref k, .int (iv p.1), .int (iv p.2)] G) Q = Q (none, W) := by
  by_cases q : n = 0
  · have hL := hl.mpr q
    refine ⟨_, (((Fq.rf.sI (by omega)).sI (by omega)).sI (by omega)).sI (by omega), ⟨p.1, p.1, p.2, p.2, ⟨Lo_1 hL, ?_⟩, ⟨Hi_1 hL, ?_⟩, ⟨Lo_1 hL, ?_⟩, Hi_1 hL, ?_⟩, fun d Q => c_widen_1 ho (by rw [h4, q]; rfl)⟩
    · rw [rd_ne (by omega), rd_ne (by omega), rd_ne (by omega), rd_eq]
    · rw [rd_ne (by omega), rd_ne (by omega), rd_eq]
    · rw [rd_ne (by omega), rd_eq]
    · rw [rd_eq]
  · have hL : L ≠ [] := fun z => q (hl.mp z)
    obtain ⟨a, b, c, g, ⟨a1, a2⟩, ⟨b1, b2⟩, ⟨c1, c2⟩, g1, g2⟩ := hB hL
    obtain ⟨rp1, rp2⟩ := Rg_r hp
    have ra := lo_r (fun q hq => (Rg_r (hr q hq)).1) a1
    have rb := hi_r (fun q hq => (Rg_r (hr q hq)).1) b1
    have rc := lo_r (fun q hq => (Rg_r (hr q hq)).2) c1
    have rg := hi_r (fun q hq => (Rg_r (hr q hq)).2) g1
    refine ⟨_, (((Fq.rf.sI (by omega)).sI (by omega)).sI (by omega)).sI (by omega), ⟨min a p.1, max b p.1, min c p.2, max g p.2, ⟨Lo_s a1, ?_⟩, ⟨Hi_s b1, ?_⟩, ⟨Lo_s c1, ?_⟩, Hi_s g1, ?_⟩, fun d Q => c_widen_n ho (by rw [h4]; exact fun z => absurd ((nI_eq (b := 1) (by omega) (by decide)).mp z) (by omega))⟩
    · rw [rd_ne (by omega), rd_ne (by omega), rd_ne (by omega), rd_eq, a2, iv_min ra rp1]
    · rw [rd_ne (by omega), rd_ne (by omega), rd_eq, b2, iv_max rb rp1]
    · rw [rd_ne (by omega), rd_eq, c2, iv_min rc rp2]
    · rw [rd_eq, g2, iv_max rg rp2]
theorem mc_le {v : Nat} (h : IsMc L v) : v ≤ L.length := by
  by_cases q : L = []
  · rw [h.2.2 q]; exact Nat.zero_le _
  · obtain ⟨p, _, e⟩ := h.2.1 q
    rw [← e]; exact List.count_le_length
theorem c_add (hw : WF h) (hk : IsCl k) (I : ClI h k e L) (hp : Rg p) (hb : L.length < 50000) (hl : (dd L).length < 2 ^ e) (hm' : (dd L).length < rmC k) : ∃ H, Fq (Pcl k) h H ∧ ClI H k e (L ++ [p]) ∧ ∀ d Q, Tr sc (d + 1) 18 (ent0 18 [.ref k, .int (iv p.1), .int (iv p.2)] h) Q = Q (none, H) := by
  obtain ⟨ho, r0, r1, r2, o1, o2, o3, n1, n2, n3⟩ := cl_ref hw hk
  obtain ⟨⟨i0, i0'⟩, i1, i2, ⟨v, v1, v2⟩, i4, ⟨σ, hs, S⟩, i6, i7⟩ := id I
  have he := sl_e hk i0
  have hrm := rm_b hk
  have hm : 0 < 2 ^ e := Nat.pow_pos (by decide)
  have hr : ∀ q, q ∈ dd L → Rg q := fun q hq => i6 q (dd_mem.mp hq)
  have hv := mc_le v1
  have cs : ∀ q, (L ++ [p]).count q = L.count q + (if p = q then 1 else 0) := by
    intro q
    rw [List.count_append, List.count_singleton]
    by_cases e : p = q
    · rw [if_pos e, if_pos (by simpa using e)]
    · rw [if_neg e, if_neg (by simpa using e)]
  have hr' : ∀ q, q ∈ L ++ [p] → Rg q := fun q hq => by
    rcases List.mem_append.mp hq with z | z
    · exact i6 q z
    · rw [List.mem_singleton.mp z]; exact hp
  by_cases q : p ∈ L
  · obtain ⟨i, hi, ei⟩ := mem_gd (dd_mem.mpr q)
    obtain ⟨t, t1, t2, t3⟩ := find_in hm S dd_nd hr hi
    rw [ei] at t2 t3
    have sl := slt_lt (m := 2 ^ e) (z := kyZ p) (t := t) hm
    have ed : dd (L ++ [p]) = dd L := by rw [dd_s]; exact if_pos (dd_mem.mpr q)
    have hc := (i4 i hi).2
    rw [ei] at hc
    have hcl : L.count p ≤ L.length := List.count_le_length
    refine ⟨sI (sI h (k + 2) i (nI (L.count p + 1))) k 5 (nI (max v (L.count p + 1))), (Fq.rf.sI (by unfold Pcl; omega)).sI (by unfold Pcl; omega), ?_, fun d Q => ?_⟩
    · unfold ClI
      rw [ed]
      refine ⟨⟨i0, i0'⟩, ?_, ?_, ⟨_, mc_s (p := p) v1 rfl, ?_⟩, fun j hj => ⟨?_, ?_⟩, ⟨σ, fun s hs' => ?_, S⟩, hr', fun _ => ?_⟩
      · rw [rd_ne (by omega), rd_ne (by omega)]; exact i1
      · rw [rd_ne (by omega), rd_ne (by omega)]; exact i2
      · rw [rd_eq, cs, if_pos rfl]
      · rw [rd_ne (by omega), rd_ne (by omega)]; exact (i4 j hj).1
      · rw [rd_ne (by omega), cs]
        by_cases ej : j = i
        · rw [ej, rd_eq, ei, if_pos rfl]
        · rw [rd_ne (by omega), if_neg (fun z => ej (gd_inj dd_nd hj hi (by rw [ei]; exact z.symm)))]
          exact (i4 j hj).2
      · rw [rd_ne (by omega), rd_ne (by omega)]; exact hs s hs'
      · obtain ⟨a, b, c, g, ⟨a1, a2⟩, ⟨b1, b2⟩, ⟨c1, c2⟩, g1, g2⟩ := i7 (fun z => by rw [z] at q; cases q)
        refine ⟨a, b, c, g, ⟨Lo_i a1 q, ?_⟩, ⟨Hi_i b1 q, ?_⟩, ⟨Lo_i c1 q, ?_⟩, Hi_i g1 q, ?_⟩
        · rw [rd_ne (by omega), rd_ne (by omega)]; exact a2
        · rw [rd_ne (by omega), rd_ne (by omega)]; exact b2
        · rw [rd_ne (by omega), rd_ne (by omega)]; exact c2
        · rw [rd_ne (by omega), rd_ne (by omega)]; exact g2
    · rw [e_18]
      simp only [x_18_0, x_18_1, x_18_2, x_18_5, x_18_8, x_18_9, x_18_10, x_18_11, x_18_12, x_18_15, x_18_18, x_18_19, x_18_20, x_18_23, x_18_24, x_18_25, cl2_i, cl2_r, cl2_n, cl2_l, tl_s, tl_n, true_and, and_true, Option.some.injEq, exists_eq_left', Bool.and_self, Bool.true_and, Bool.and_true, Bool.or_true, Bool.true_or, i_10, i_00, if_true, if_false, not_true_eq_false, not_false_eq_true, and_false, false_and, okp_sI, okp_sL, okp_aI, okp_aL, hR_sI, hR_sL, hR_aI, hR_aL, ho, r2, c_hasKey_t hp, c_keyOf, c_slotOf hw hk I hs S (kyZ_b hp) t1 (Or.inr (by rw [t2, Nat.add_sub_cancel, ei])) t3, iOk_ok o3, iRd_ok o3, n3, inb_nI (n := slC k) (show slt (2 ^ e) (kyZ p) t < slC k by omega) (by omega), nI_clamp (n := slt (2 ^ e) (kyZ p) t) (by omega), hs _ sl, t2]
      rw [if_neg (nI_ne0 (by omega) (by omega))]
      exact c_add_t ho r1 r2 o2 o3 ⟨rfl, rfl⟩ (by omega) (by omega) (by rw [hs _ sl, t2]) (by omega) (by omega) hc v2 (by omega) (by omega)
  · obtain ⟨t, t1, t2, t3⟩ := find_out (e := e) rfl (by omega) S hr hp (fun z => q (dd_mem.mp z)) hl
    have sl := slt_lt (m := 2 ^ e) (z := kyZ p) (t := t) hm
    have ed : dd (L ++ [p]) = dd L ++ [p] := by rw [dd_s]; exact if_neg (fun z => q (dd_mem.mp z))
    have ll : (dd L ++ [p]).length = (dd L).length + 1 := by rw [List.length_append]; rfl
    have c0 : L.count p = 0 := List.count_eq_zero.mpr q
    generalize hn : (dd L).length = n at *
    generalize hG : sI (sI (sI (sI h (k + 1) n (iv (kyZ p))) (k + 2) n 0) k 4 (nI (n + 1))) (k + 3) (slt (2 ^ e) (kyZ p) t) (nI (n + 1)) = G
    have fG : Fq (fun a b => (a = k + 1 ∧ b = n) ∨ (a = k + 2 ∧ b = n) ∨ (a = k ∧ b = 4) ∨ (a = k + 3 ∧ b = slt (2 ^ e) (kyZ p) t)) h G := by
      rw [← hG]
      exact (((Fq.rf.sI (by omega)).sI (by omega)).sI (by omega)).sI (by omega)
    have g4 : hI G k 4 = nI (n + 1) := by rw [← hG, rd_ne (by omega), rd_eq]
    have gk : hI G (k + 1) n = iv (kyZ p) := by rw [← hG, rd_ne (by omega), rd_ne (by omega), rd_ne (by omega), rd_eq]
    have gt : hI G (k + 2) n = 0 := by rw [← hG, rd_ne (by omega), rd_ne (by omega), rd_eq]
    have gs : hI G (k + 3) (slt (2 ^ e) (kyZ p) t) = nI (n + 1) := by rw [← hG, rd_eq]
    have oG : okp G k 1 = true := by rw [← hG]; exact ho
    obtain ⟨W, fW, bW, eW⟩ := c_widen (sc := sc) (L := L) (p := p) oG (show n < 10000 by omega) g4 (by rw [← hn, List.length_eq_zero_iff, dd_nil]) hp i6 (fun z => by
      obtain ⟨a, b, c, g, ⟨a1, a2⟩, ⟨b1, b2⟩, ⟨c1, c2⟩, g1, g2⟩ := i7 z
      refine ⟨a, b, c, g, ⟨a1, ?_⟩, ⟨b1, ?_⟩, ⟨c1, ?_⟩, g1, ?_⟩
      · rw [fG.i (by omega)]; exact a2
      · rw [fG.i (by omega)]; exact b2
      · rw [fG.i (by omega)]; exact c2
      · rw [fG.i (by omega)]; exact g2)
    have hwG := fG.WF hw
    have hwW := fW.WF hwG
    obtain ⟨ho', -, r1', r2', -, o2', o3', -⟩ := cl_ref hwW hk
    have fF : Fq (fun a b => (a = k + 2 ∧ b = n) ∨ (a = k ∧ b = 5)) W (sI (sI W (k + 2) n (nI (0 + 1))) k 5 (nI (max v (0 + 1)))) := (Fq.rf.sI (by omega)).sI (by omega)
    refine ⟨sI (sI W (k + 2) n (nI (0 + 1))) k 5 (nI (max v (0 + 1))), (fG.wk (fun a b z => by unfold Pcl; omega)).tr ((fW.wk (fun a b z => by unfold Pcl; omega)).tr (fF.wk (fun a b z => by unfold Pcl; omega))), ?_, fun d Q => ?_⟩
    · unfold ClI
      rw [ed, ll]
      refine ⟨⟨i0, by omega⟩, ?_, ?_, ⟨_, mc_s (p := p) v1 rfl, ?_⟩, fun j hj => ?_, ⟨_, fun s hs' => ?_, Hsp_add hm S t1 t2 t3⟩, hr', fun _ => ?_⟩
      · rw [fF.i (by omega), fW.i (by omega), fG.i (by omega)]; exact i1
      · rw [fF.i (by omega), fW.i (by omega)]; exact g4
      · rw [rd_eq, cs, if_pos rfl, c0]
      · by_cases ej : j = n
        · subst ej
          rw [← hn, gd_app2, hn]
          refine ⟨?_, ?_⟩
          · rw [fF.i (by omega), fW.i (by omega)]; exact gk
          · rw [rd_ne (by omega), rd_eq, cs, if_pos rfl, c0]
        · have hj' : j < (dd L).length := by omega
          rw [gd_app1 hj']
          refine ⟨?_, ?_⟩
          · rw [fF.i (by omega), fW.i (by omega), fG.i (by omega)]; exact (i4 j (by omega)).1
          · rw [fF.i (by omega), fW.i (by omega), fG.i (by omega), cs, if_neg (fun z => q (by rw [z]; exact dd_mem.mp (gd_mem hj')))]
            exact (i4 j (by omega)).2
      · rw [fF.i (by omega), fW.i (by omega)]
        show _ = nI (if s = slt (2 ^ e) (kyZ p) t then (dd L).length + 1 else σ s)
        by_cases es : s = slt (2 ^ e) (kyZ p) t
        · rw [if_pos es, es, hn]; exact gs
        · rw [if_neg es, fG.i (by omega)]; exact hs s hs'
      · obtain ⟨a, b, c, g, ⟨a1, a2⟩, ⟨b1, b2⟩, ⟨c1, c2⟩, g1, g2⟩ := bW
        refine ⟨a, b, c, g, ⟨a1, ?_⟩, ⟨b1, ?_⟩, ⟨c1, ?_⟩, g1, ?_⟩
        · rw [fF.i (by omega)]; exact a2
        · rw [fF.i (by omega)]; exact b2
        · rw [fF.i (by omega)]; exact c2
        · rw [fF.i (by omega)]; exact g2
    · have el : Int32.ofNat (rmC k) = nI (rmC k) := rfl
      rw [e_18]
      simp only [x_18_0, x_18_1, x_18_2, x_18_5, x_18_8, x_18_9, x_18_10, x_18_11, x_18_12, x_18_15, x_18_18, x_18_19, x_18_20, x_18_23, x_18_24, x_18_25, x_18_28, x_18_29, x_18_32, x_18_33, cl2_i, cl2_r, cl2_n, cl2_l, tl_s, tl_n, true_and, and_true, Option.some.injEq, exists_eq_left', Bool.and_self, Bool.true_and, Bool.and_true, Bool.or_true, Bool.true_or, i_10, i_00, if_true, if_false, not_true_eq_false, not_false_eq_true, and_false, false_and, okp_sI, okp_sL, okp_aI, okp_aL, hR_sI, hR_sL, hR_aI, hR_aL, ho, r0, r2, i2, c_hasKey_t hp, c_keyOf, c_slotOf hw hk I hs S (kyZ_b hp) t1 (Or.inl t2) t3, iOk_ok o3, iRd_ok o3, n3, inb_nI (n := slC k) (show slt (2 ^ e) (kyZ p) t < slC k by omega) (by omega), nI_clamp (n := slt (2 ^ e) (kyZ p) t) (by omega), hs _ sl, t2, nI_0]
      rw [x_18_36 (okp_lt o1)]
      simp only [x_18_37, x_18_40, x_18_41, x_18_42, x_18_45, x_18_46, x_18_49, x_18_50, x_18_51, x_18_54, x_18_55, x_18_56, x_18_59, x_18_60, x_18_63, x_18_64, x_18_65, x_18_66, x_18_67, x_18_70, x_18_71, x_18_72, x_18_75, x_18_76, x_18_79, x_18_80, x_18_81, x_18_84, x_18_85, x_18_86, x_18_87, x_18_88, cl2_i, cl2_r, cl2_n, cl2_l, tl_s, tl_n, true_and, and_true, Option.some.injEq, exists_eq_left', Bool.and_self, Bool.true_and, Bool.and_true, Bool.or_true, Bool.true_or, i_10, i_00, if_true, if_false, not_true_eq_false, not_false_eq_true, and_false, false_and, okp_sI, okp_sL, okp_aI, okp_aL, hR_sI, hR_sL, hR_aI, hR_aL, ho, o1, o2, o3, r0, r1, r2, el, i2, c_keyOf, n1, n2, n3, inb_nI (n := rmC k) (show n < rmC k by omega) (by omega), nI_clamp (n := n) (by omega), rd_ne (H := h) (q := k + 1) (i := n) (v := iv (kyZ p)) (a := k) (j := 4) (Or.inl (by omega)), rd_ne (H := sI h (k + 1) n (iv (kyZ p))) (q := k + 2) (i := n) (v := 0) (a := k) (j := 4) (Or.inl (by omega)), nI_1, rd_eq, inb_nI (n := slC k) (show slt (2 ^ e) (kyZ p) t < slC k by omega) (by omega), nI_clamp (n := slt (2 ^ e) (kyZ p) t) (by omega), hG, eW]
      rw [if_pos (nI_lt (by omega) (by omega))]
      exact c_add_t ho' r1' r2' o2' o3' ⟨rfl, rfl⟩ (by omega) (by omega) (by rw [fW.i (by omega)]; exact gs) (by omega) (by omega) (c := 0) (by rw [fW.i (by omega)]; exact gt) (by rw [fW.i (by omega), fG.i (by omega)]; exact v2) (by omega) (by omega)
theorem fillI_lp {v : Int32} (ho : okp h k 11 = true) (hn : n ≤ LN k) (hL : LN k < 2 ^ 31) : ∀ (m i : Nat), i + m = n → ∀ f : Nat → Int32, Tr sc d 258 (10, [some (.ref k), some (.int 0), some (.int (nI n)), some (.int v), some (.int (nI i))], [], aI h k f) Q = Q (none, aI h k (fun b => if i ≤ b ∧ b < n then v else f b)) := by
  intro m
  induction m with
  | zero =>
    intro i hi f
    have e : i = n := by omega
    subst e
    rw [x_258_10]
    simp only [x_258_12, x_258_13, x_258_16, x_258_17, x_258_19, x_258_20, x_258_21, x_258_24, x_258_27, cl2_i, cl2_r, cl2_n, cl2_l, tl_s, tl_n, true_and, and_true, Option.some.injEq, exists_eq_left', Bool.and_self, Bool.true_and, Bool.and_true, Bool.or_true, Bool.true_or, i_10, i_00, if_true, if_false, not_true_eq_false, not_false_eq_true, and_false, false_and, okp_sI, okp_sL, okp_aI, okp_aL, hR_sI, hR_sL, hR_aI, hR_aL]
    rw [if_pos (Int32.le_refl _)]
    congr 3
    funext b
    rw [if_neg (by omega)]
  | succ m ih =>
    intro i hi f
    have hlt : i < n := by omega
    rw [x_258_10]
    simp only [x_258_12, x_258_13, x_258_16, x_258_17, x_258_19, x_258_20, x_258_21, x_258_24, x_258_27, cl2_i, cl2_r, cl2_n, cl2_l, tl_s, tl_n, true_and, and_true, Option.some.injEq, exists_eq_left', Bool.and_self, Bool.true_and, Bool.and_true, Bool.or_true, Bool.true_or, i_10, i_00, if_true, if_false, not_true_eq_false, not_false_eq_true, and_false, false_and, okp_sI, okp_sL, okp_aI, okp_aL, hR_sI, hR_sL, hR_aI, hR_aL, ho, inb_nI (show i < LN k by omega) hL, nI_clamp (n := i) (by omega), nI_1, sI_aI]
    rw [if_neg (nI_ge hlt (by omega)), ih (i + 1) (by omega)]
    congr 3
    funext b
    by_cases e1 : b = i
    · rw [if_neg (by omega), if_pos e1, if_pos (by omega)]
    · by_cases e2 : i + 1 ≤ b ∧ b < n
      · rw [if_pos e2, if_pos (by omega)]
      · rw [if_neg e2, if_neg e1, if_neg (by omega)]
/-- Arrays.fill(int[], 0, n, v) -/
theorem c_fillN {v : Int32} (ho : okp h k 11 = true) (hn : n ≤ LN k) (hl : LN k < 2 ^ 31) : Tr sc (d + 1) 258 (ent0 258 [.ref k, .int 0, .int (nI n), .int v] h) Q = Q (none, aI h k (fun b => if b < n then v else hI h k b)) := by
  rw [e_258, x_258_0, x_258_1 (okp_lt ho)]
  have el : Int32.ofNat (LN k) = nI (LN k) := rfl
  simp only [ho, cl2_i, cl2_r, cl2_n, cl2_l, tl_s, tl_n, true_and, and_true, Option.some.injEq, exists_eq_left', Bool.and_self, Bool.true_and, Bool.and_true, Bool.or_true, Bool.true_or, i_10, i_00, if_true, if_false, not_true_eq_false, not_false_eq_true, and_false, false_and, okp_sI, okp_sL, okp_aI, okp_aL, hR_sI, hR_sL, hR_aI, hR_aL, el, x_258_2, x_258_3, x_258_4, x_258_7, x_258_8, c_rc hn hl]
  have h0 := fillI_lp (sc := sc) (d := d + 1) (Q := Q) (v := v) ho hn hl n 0 (by omega) (hI h k)
  rw [aI_id] at h0
  refine Eq.trans h0 ?_
  congr 3
  funext b
  simp
/-- clear: as many slots as a power of two, twice what is expected or all -/
theorem c_clear {E : Nat} (hw : WF h) (hk : IsCl k) (hE : E ≤ rmC k) : ∃ H e, Fq (Pcl k) h H ∧ ClI H k e [] ∧ (E < 2 ^ e ∧ (E = 2000 → k = 16 → e = 12)) ∧ ∀ d Q, Tr sc (d + 2) 9 (ent0 9 [.ref k, .int (nI E)] h) Q = Q (none, H) := by
  obtain ⟨ho, r0, r1, r2, o1, o2, o3, n1, n2, n3⟩ := cl_ref hw hk
  have hrm := rm_b hk
  have hks : slC k = 16384 ∨ slC k = 4096 := by rcases hk with rfl | rfl; exact Or.inl rfl; exact Or.inr rfl
  have key : ∀ (m e : Nat), 1 ≤ e → m + e = 15 → 2 ^ e ≤ slC k → (e = 1 ∨ 2 ^ e < 4 * E) → ∃ e', 2 ^ e' ≤ slC k ∧ (2 * E ≤ 2 ^ e' ∨ slC k ≤ 2 ^ e') ∧ (e' = 1 ∨ 2 ^ e' < 4 * E) ∧ ∀ d Q, Tr sc (d + 2) 9 (4, [some (.ref k), some (.int (nI E)), some (.int (nI (2 ^ e))), some (.int (nI e))], [], h) Q = Tr sc (d + 2) 9 (36, [some (.ref k), some (.int (nI E)), some (.int (nI (2 ^ e'))), some (.int (nI e'))], [], h) Q := by
    intro m
    induction m with
    | zero =>
      intro e h1 h2 h3 h4
      have : (2 : Nat) ^ e = 2 ^ 15 := by congr 1; omega
      rw [show (2 : Nat) ^ 15 = 32768 from rfl] at this
      omega
    | succ m ih =>
      intro e h1 h2 h3 h4
      have el : Int32.ofNat (LN (k + 3)) = nI (slC k) := by rw [n3]; rfl
      have c30 : ¬ (30 : Int32) ≤ nI e := nI_ge (a := e) (b := 30) (by omega) (by decide)
      have e2 : (2 : Int32) * nI E = nI (2 * E) := pk_mul 2 E
      have e2' : nI (2 ^ e) * 2 = nI (2 ^ (e + 1)) := by rw [show (2 : Int32) = nI 2 from rfl, pk_mul, Nat.pow_succ]
      have bE : ∀ a : Nat, a ≤ 32768 → a < 2 ^ 31 := fun a ha => by omega
      by_cases q1 : 2 * E ≤ 2 ^ e
      · refine ⟨e, h3, Or.inl q1, h4, fun d Q => ?_⟩
        rw [x_9_4]
        simp only [x_9_5, x_9_7, x_9_10, x_9_11, x_9_12, x_9_13, x_9_14, cl2_i, cl2_r, cl2_n, cl2_l, tl_s, tl_n, true_and, and_true, Option.some.injEq, exists_eq_left', Bool.and_self, Bool.true_and, Bool.and_true, Bool.or_true, Bool.true_or, i_10, i_00, if_true, if_false, not_true_eq_false, not_false_eq_true, and_false, false_and, okp_sI, okp_sL, okp_aI, okp_aL, hR_sI, hR_sL, hR_aI, hR_aL, e2, c30]
        rw [if_pos (nI_le q1 (by omega))]
      · by_cases q2 : slC k ≤ 2 ^ e
        · refine ⟨e, h3, Or.inr q2, h4, fun d Q => ?_⟩
          rw [x_9_4]
          simp only [x_9_5, x_9_7, x_9_10, x_9_11, x_9_12, x_9_13, x_9_14, x_9_17, x_9_18, x_9_19, cl2_i, cl2_r, cl2_n, cl2_l, tl_s, tl_n, true_and, and_true, Option.some.injEq, exists_eq_left', Bool.and_self, Bool.true_and, Bool.and_true, Bool.or_true, Bool.true_or, i_10, i_00, if_true, if_false, not_true_eq_false, not_false_eq_true, and_false, false_and, okp_sI, okp_sL, okp_aI, okp_aL, hR_sI, hR_sL, hR_aI, hR_aL, e2, c30, ho, r2]
          rw [if_neg (nI_ge (by omega) (by omega)), x_9_22 (okp_lt o3)]
          simp only [x_9_23, cl2_i, cl2_r, cl2_n, cl2_l, tl_s, tl_n, true_and, and_true, Option.some.injEq, exists_eq_left', Bool.and_self, Bool.true_and, Bool.and_true, Bool.or_true, Bool.true_or, i_10, i_00, if_true, if_false, not_true_eq_false, not_false_eq_true, and_false, false_and, okp_sI, okp_sL, okp_aI, okp_aL, hR_sI, hR_sL, hR_aI, hR_aL, o3, el]
          rw [if_pos (nI_le q2 (by omega))]
        · have h3' : 2 ^ (e + 1) ≤ slC k := by
            have h5 : e < 14 ∨ e = 14 := by omega
            rcases hks with z | z
            · rw [z] at q2 ⊢
              have := (Nat.pow_lt_pow_iff_right (a := 2) (n := e) (m := 14) (by decide)).mp (by show 2 ^ e < 16384; omega)
              exact (Nat.pow_le_pow_right (by decide) (show e + 1 ≤ 14 by omega) : 2 ^ (e + 1) ≤ 2 ^ 14)
            · rw [z] at q2 ⊢
              have := (Nat.pow_lt_pow_iff_right (a := 2) (n := e) (m := 12) (by decide)).mp (by show 2 ^ e < 4096; omega)
              exact (Nat.pow_le_pow_right (by decide) (show e + 1 ≤ 12 by omega) : 2 ^ (e + 1) ≤ 2 ^ 12)
          obtain ⟨e', g1, g2, g3, g4⟩ := ih (e + 1) (by omega) (by omega) h3' (Or.inr (by rw [Nat.pow_succ]; omega))
          refine ⟨e', g1, g2, g3, fun d Q => ?_⟩
          rw [x_9_4]
          simp only [x_9_5, x_9_7, x_9_10, x_9_11, x_9_12, x_9_13, x_9_14, x_9_17, x_9_18, x_9_19, cl2_i, cl2_r, cl2_n, cl2_l, tl_s, tl_n, true_and, and_true, Option.some.injEq, exists_eq_left', Bool.and_self, Bool.true_and, Bool.and_true, Bool.or_true, Bool.true_or, i_10, i_00, if_true, if_false, not_true_eq_false, not_false_eq_true, and_false, false_and, okp_sI, okp_sL, okp_aI, okp_aL, hR_sI, hR_sL, hR_aI, hR_aL, e2, c30, ho, r2]
          rw [if_neg (nI_ge (by omega) (by omega)), x_9_22 (okp_lt o3)]
          simp only [x_9_23, x_9_26, x_9_27, x_9_28, x_9_29, x_9_30, x_9_33, cl2_i, cl2_r, cl2_n, cl2_l, tl_s, tl_n, true_and, and_true, Option.some.injEq, exists_eq_left', Bool.and_self, Bool.true_and, Bool.and_true, Bool.or_true, Bool.true_or, i_10, i_00, if_true, if_false, not_true_eq_false, not_false_eq_true, and_false, false_and, okp_sI, okp_sL, okp_aI, okp_aL, hR_sI, hR_sL, hR_aI, hR_aL, o3, el, e2', nI_1]
          rw [if_neg (nI_ge (by omega) (by omega))]
          exact g4 d Q
  obtain ⟨e, g1, g2, g3, g4⟩ := key 14 1 (by omega) (by omega) (by rcases hks with z | z <;> rw [z] <;> decide) (Or.inl rfl)
  have hm : 0 < 2 ^ e := Nat.pow_pos (by decide)
  have he := sl_e hk g1
  have e1 : nI (2 ^ e) - 1 = nI (2 ^ e - 1) := by rw [show (1 : Int32) = nI 1 from rfl, pk_sub (by omega)]
  generalize hH : sI (sI (aI (sI h k 3 (nI (2 ^ e - 1))) (k + 3) (fun b => if b < 2 ^ e then 0 else hI (sI h k 3 (nI (2 ^ e - 1))) (k + 3) b)) k 4 0) k 5 0 = H
  have x3 : hI H k 3 = nI (2 ^ e - 1) := by rw [← hH, rd_ne (by omega), rd_ne (by omega), hI_aI, if_neg (by omega), rd_eq]
  have x4 : hI H k 4 = 0 := by rw [← hH, rd_ne (by omega), rd_eq]
  have x5 : hI H k 5 = 0 := by rw [← hH, rd_eq]
  have xs : ∀ s, s < 2 ^ e → hI H (k + 3) s = 0 := fun s hs => by rw [← hH, rd_ne (by omega), rd_ne (by omega), hI_aI, if_pos rfl, if_pos hs]
  refine ⟨H, e, ?_, ⟨⟨g1, Nat.zero_le _⟩, x3, x4, ⟨0, ⟨fun p hp => (by cases hp), fun z => absurd rfl z, fun _ => rfl⟩, x5⟩, fun i hi => absurd hi (Nat.not_lt_zero _), ⟨fun _ => 0, xs, Hsp_0⟩, fun p hp => (by cases hp), fun z => absurd rfl z⟩, ⟨?_, fun z1 z2 => ?_⟩, fun d Q => ?_⟩
  · rw [← hH]
    exact (((Fq.rf.sI (by unfold Pcl; omega)).aI (fun b => by unfold Pcl; omega)).sI (by unfold Pcl; omega)).sI (by unfold Pcl; omega)
  · rcases g2 with z | z
    · omega
    · rcases hk with rfl | rfl
      · have : slC 16 = 16384 := rfl
        have : rmC 16 = 7776 := rfl
        omega
      · have : slC 20 = 4096 := rfl
        have : rmC 20 = 1296 := rfl
        omega
  · subst z2
    have : slC 16 = 16384 := rfl
    have h1 : 2 ^ 11 < 2 ^ e := by rw [show (2 : Nat) ^ 11 = 2048 from rfl]; omega
    have h2 : 2 ^ e < 2 ^ 13 := by
      rcases g3 with q | q
      · rw [q]; decide
      · rw [show (2 : Nat) ^ 13 = 8192 from rfl]; omega
    have h3 := (Nat.pow_lt_pow_iff_right (a := 2) (by decide)).mp h1
    have h4 := (Nat.pow_lt_pow_iff_right (a := 2) (by decide)).mp h2
    omega
  · rw [e_9]
    simp only [x_9_0, x_9_1, x_9_2, x_9_3, cl2_i, cl2_r, cl2_n, cl2_l, tl_s, tl_n, true_and, and_true, Option.some.injEq, exists_eq_left', Bool.and_self, Bool.true_and, Bool.and_true, Bool.or_true, Bool.true_or, i_10, i_00, if_true, if_false, not_true_eq_false, not_false_eq_true, and_false, false_and, okp_sI, okp_sL, okp_aI, okp_aL, hR_sI, hR_sL, hR_aI, hR_aL]
    refine (g4 d Q).trans ?_
    simp only [x_9_36, x_9_37, x_9_38, x_9_39, x_9_40, x_9_43, x_9_44, x_9_47, x_9_48, x_9_49, x_9_50, x_9_53, x_9_54, x_9_55, x_9_58, x_9_59, x_9_60, x_9_63, cl2_i, cl2_r, cl2_n, cl2_l, tl_s, tl_n, true_and, and_true, Option.some.injEq, exists_eq_left', Bool.and_self, Bool.true_and, Bool.and_true, Bool.or_true, Bool.true_or, i_10, i_00, if_true, if_false, not_true_eq_false, not_false_eq_true, and_false, false_and, okp_sI, okp_sL, okp_aI, okp_aL, hR_sI, hR_sL, hR_aI, hR_aL, ho, r2, e1, c_fillN (h := sI h k 3 (nI (2 ^ e - 1))) (k := k + 3) (n := 2 ^ e) (v := 0) (d := d) o3 (by omega) (by omega), hH]
end CA
