/-! ===== line ===== -/
def lnK (a c0 y0 : Int) (l : List Pnt) : List Nat := (l.filter (fun p => decide (p.2 = c0 + y0))).map (fun p => (p.1 - a).toNat)
section LI
variable {sc : Nat × (Nat → Int32)} {d : Nat} {Q : PRes → Prop} {h h' h1 H G : PH} {e i j k n t u b M N s v : Nat} {a b' c0 g y0 : Int} {sx sy ex : Nat → Int} {L P l : List Pnt} {p : Pnt} {x y z kd : Int32} {tn : Nat → Nat}
theorem c_lbits (hv : v < 2 ^ 60) : Tr sc d 253 (ent0 253 [.long (lN v)] h) Q = Q (some (.int (nI (cb v 64))), h) := by
  have m1 : (6148914691236517205 : Int64) = lN (mk8 85 8) := by decide +kernel
  have m2 : (3689348814741910323 : Int64) = lN (mk8 51 8) := by decide +kernel
  have m3 : (1085102592571150095 : Int64) = lN (mk8 15 8) := by decide +kernel
  have k1 : mk8 85 8 = 6148914691236517205 := by decide +kernel
  have k2 : mk8 51 8 = 3689348814741910323 := by decide +kernel
  have k3 : mk8 15 8 = 1085102592571150095 := by decide +kernel
  have l1 : ∀ w, w &&& mk8 85 8 ≤ w := fun w => Nat.and_le_left
  have l2 : ∀ w, w &&& mk8 51 8 ≤ 3689348814741910323 := fun w => by rw [← k2]; exact Nat.and_le_right
  have h1 : ∀ w, w < 2 ^ 64 → ((lN w).toUInt64 >>> ((1 : Int32).toInt64.toUInt64 &&& Int64.toUInt64 63)).toInt64 = lN (w / 2) := fun w hw => wb_shr (k := 1) hw (by decide)
  have h2 : ∀ w, w < 2 ^ 64 → ((lN w).toUInt64 >>> ((2 : Int32).toInt64.toUInt64 &&& Int64.toUInt64 63)).toInt64 = lN (w / 4) := fun w hw => wb_shr (k := 2) hw (by decide)
  have h4 : ∀ w, w < 2 ^ 64 → ((lN w).toUInt64 >>> ((4 : Int32).toInt64.toUInt64 &&& Int64.toUInt64 63)).toInt64 = lN (w / 16) := fun w hw => wb_shr (k := 4) hw (by decide)
  have h8 : ∀ w, w < 2 ^ 64 → ((lN w).toUInt64 >>> ((8 : Int32).toInt64.toUInt64 &&& Int64.toUInt64 63)).toInt64 = lN (w / 256) := fun w hw => wb_shr (k := 8) hw (by decide)
  have h16 : ∀ w, w < 2 ^ 64 → ((lN w).toUInt64 >>> ((16 : Int32).toInt64.toUInt64 &&& Int64.toUInt64 63)).toInt64 = lN (w / 65536) := fun w hw => wb_shr (k := 16) hw (by decide)
  have h32 : ∀ w, w < 2 ^ 64 → ((lN w).toUInt64 >>> ((32 : Int32).toInt64.toUInt64 &&& Int64.toUInt64 63)).toInt64 = lN (w / 4294967296) := fun w hw => wb_shr (k := 32) hw (by decide)
  have s1 : lN v - (lN (v / 2) &&& lN (mk8 85 8)) = lN (s1F 8 v) := by
    rw [wb_and (by omega) (by rw [k1]; decide), lN_sub (Nat.le_trans (l1 _) (by omega))]; rfl
  have b1 : s1F 8 v < 2 ^ 64 := Nat.lt_of_le_of_lt (Nat.sub_le _ _) (by omega)
  have s2 : (lN (s1F 8 v) &&& lN (mk8 51 8)) + (lN (s1F 8 v / 4) &&& lN (mk8 51 8)) = lN (s2F 8 (s1F 8 v)) := by
    rw [wb_and b1 (by rw [k2]; decide), wb_and (by omega) (by rw [k2]; decide), lN_add]; rfl
  have b2 : s2F 8 (s1F 8 v) < 2 ^ 63 := by
    unfold s2F
    have := l2 (s1F 8 v)
    have := l2 (s1F 8 v / 4)
    omega
  have s3 : lN (s2F 8 (s1F 8 v) + s2F 8 (s1F 8 v) / 16) &&& lN (mk8 15 8) = lN (s3F 8 (s2F 8 (s1F 8 v))) := by
    rw [wb_and (by omega) (by rw [k3]; decide)]; rfl
  have e5 := h1 v (by omega)
  have e6 := h2 (s1F 8 v) b1
  have e7 := h4 (s2F 8 (s1F 8 v)) (by omega)
  obtain ⟨r1, r2, r3, r4⟩ := pop_n (x := v) (Nat.lt_trans hv (by decide))
  generalize s3F 8 (s2F 8 (s1F 8 v)) = u at *
  have e8 := h8 u (Nat.lt_trans r1 (by decide))
  have e9 := h16 (u + u / 256) (Nat.lt_trans r2 (by decide))
  have e10 := h32 ((u + u / 256) + (u + u / 256) / 65536) (Nat.lt_trans r3 (by decide))
  rw [e_253]
  simp only [x_253_0, x_253_1, x_253_2, x_253_3, x_253_4, x_253_7, x_253_8, x_253_9, x_253_10, x_253_11, x_253_14, x_253_15, x_253_16, x_253_17, x_253_18, x_253_21, x_253_22, x_253_23, x_253_24, x_253_25, x_253_26, x_253_27, x_253_28, x_253_29, x_253_32, x_253_33, x_253_34, x_253_35, x_253_36, x_253_38, x_253_39, x_253_40, x_253_41, x_253_42, x_253_43, x_253_45, x_253_46, x_253_47, x_253_48, x_253_49, x_253_50, x_253_52, x_253_53, x_253_54, x_253_55, x_253_56, x_253_57, x_253_59, x_253_60, cl2_i, cl2_r, cl2_n, cl2_l, tl_s, tl_n, true_and, and_true, Option.some.injEq, exists_eq_left', Bool.and_self, Bool.true_and, Bool.and_true, Bool.or_true, Bool.true_or, i_10, i_00, if_true, if_false, not_true_eq_false, not_false_eq_true, and_false, false_and, okp_sI, okp_sL, okp_aI, okp_aL, hR_sI, hR_sL, hR_aI, hR_aL, m1, m2, m3, e5, s1, e6, s2, e7, s3, e8, e9, e10, lN_add]
  generalize (u + u / 256) + (u + u / 256) / 65536 + ((u + u / 256) + (u + u / 256) / 65536) / 4294967296 = w at *
  have f1 : (lN w).toInt32 = nI w := by rw [lN_jv, jv_i, iv_n]
  have f2 := and_m (nI w) (e := 7) (by decide)
  rw [show nI (2 ^ 7 - 1) = 127 from rfl] at f2
  rw [f1, f2]
  have f3 : (nI w).toBitVec.toNat % 2 ^ 7 = cb v 64 := by
    show (BitVec.ofNat 32 w).toNat % 2 ^ 7 = _
    rw [BitVec.toNat_ofNat, ← r4]
    exact Nat.mod_mod_of_dvd w (by decide)
  rw [f3]
theorem lnK_s (hi : i < l.length) : lnK a c0 y0 (l.take (i + 1)) = if (l.getD i pt0).2 = c0 + y0 then lnK a c0 y0 (l.take i) ++ [((l.getD i pt0).1 - a).toNat] else lnK a c0 y0 (l.take i) := by
  unfold lnK
  rw [List.take_succ, List.filter_append, List.map_append, List.getElem?_eq_getElem hi, gd_ix hi]
  by_cases q : l[i].2 = c0 + y0
  · rw [if_pos q]
    congr 1
    show ([l[i]].filter _).map _ = _
    rw [List.filter_cons_of_pos (by rw [decide_eq_true q])]; rfl
  · rw [if_neg q]
    show _ ++ ([l[i]].filter _).map _ = _
    rw [List.filter_cons_of_neg (by rw [decide_eq_false q]; decide)]
    exact List.append_nil _
theorem lnK_m {k : Nat} : k ∈ lnK a c0 y0 l ↔ ∃ p, p ∈ l ∧ p.2 = c0 + y0 ∧ (p.1 - a).toNat = k := by
  unfold lnK
  rw [List.mem_map]
  constructor
  · rintro ⟨p, h1, h2⟩
    obtain ⟨h3, h4⟩ := List.mem_filter.mp h1
    exact ⟨p, h3, of_decide_eq_true h4, h2⟩
  · rintro ⟨p, h1, h2, h3⟩
    exact ⟨p, List.mem_filter.mpr ⟨h1, decide_eq_true h2⟩, h3⟩
theorem lnK_nd (hn : l.Nodup) (ha : ∀ p, p ∈ l → a ≤ p.1) : (lnK a c0 y0 l).Nodup := by
  induction l with
  | nil => exact List.nodup_nil
  | cons p l ih =>
    have hn' := List.nodup_cons.mp hn
    have ih' := ih hn'.2 (fun q hq => ha q (List.mem_cons_of_mem _ hq))
    by_cases q : p.2 = c0 + y0
    · have e : lnK a c0 y0 (p :: l) = (p.1 - a).toNat :: lnK a c0 y0 l := by
        unfold lnK
        rw [List.filter_cons_of_pos (by rw [decide_eq_true q])]; rfl
      rw [e]
      refine List.nodup_cons.mpr ⟨fun z => ?_, ih'⟩
      obtain ⟨r, r1, r2, r3⟩ := lnK_m.mp z
      have h1 := ha p (List.mem_cons_self ..)
      have h2 := ha r (List.mem_cons_of_mem _ r1)
      have er : r = p := Prod.ext (by omega) (by omega)
      exact hn'.1 (er ▸ r1)
    · have e : lnK a c0 y0 (p :: l) = lnK a c0 y0 l := by
        unfold lnK
        rw [List.filter_cons_of_neg (by rw [decide_eq_false q]; decide)]
      rw [e]; exact ih'
theorem or_s {k : Nat} (hv : v < 2 ^ 60) (hk : k < 60) : lN v ||| (1 : Int64) <<< ((nI k).toInt64 &&& 63) = lN (v ||| 2 ^ k) := by
  have h1 := wb_shl 1 (k := k) (by omega)
  rw [show lN 1 = (1 : Int64) from rfl, Nat.one_mul] at h1
  have h2 : 2 ^ k < 2 ^ 60 := Nat.pow_lt_pow_right (by decide) hk
  rw [h1, wb_or (by omega) (by omega)]
theorem lnK_lt (hb : ∀ p, p ∈ l → a ≤ p.1 ∧ p.1 - a < 60) : ∀ k, k ∈ lnK a c0 y0 l → k < 60 := by
  intro k hk
  obtain ⟨p, h1, h2, h3⟩ := lnK_m.mp hk
  have := hb p h1
  omega
theorem tk_b {f : Pnt → Prop} (hb : ∀ p, p ∈ l → f p) : ∀ p, p ∈ l.take i → f p := fun p hp => hb p (List.mem_of_mem_take hp)
theorem c_bol (hw : WF h) (I : ClI h 16 e L) (a6 : hI h 16 6 = iv a) (c8 : hI h 16 8 = iv c0) (ra : -4096 ≤ a ∧ a < 4096) (rc : -4096 ≤ c0 ∧ c0 < 4096) (ry : -20000 ≤ y0 ∧ y0 ≤ 20000) (hb : ∀ p, p ∈ L → a ≤ p.1 ∧ p.1 - a < 60) : ∀ (m i : Nat), i + m = (dd L).length → ∀ d Q, Tr sc (d + 1) 20 (5, [some (.ref 16), some (.int (iv y0)), some (.long (lN (orN (lnK a c0 y0 ((dd L).take i))))), none, some (.int (nI i))], [], h) Q = Q (some (.long (lN (orN (lnK a c0 y0 (dd L))))), h) := by
  have i0 := I.1.2
  have e7 : rmC 16 = 7776 := rfl
  have i2 := I.2.2.1
  have i6 := I.2.2.2.2.2.2.1
  have ho := o_16 hw
  intro m
  induction m with
  | zero =>
    intro i hi d Q
    have ei : i = (dd L).length := by omega
    subst ei
    rw [x_20_5]
    simp only [x_20_7, x_20_8, x_20_11, x_20_51, x_20_52, cl2_i, cl2_r, cl2_n, cl2_l, tl_s, tl_n, true_and, and_true, Option.some.injEq, exists_eq_left', Bool.and_self, Bool.true_and, Bool.and_true, Bool.or_true, Bool.true_or, i_10, i_00, if_true, if_false, not_true_eq_false, not_false_eq_true, and_false, false_and, okp_sI, okp_sL, okp_aI, okp_aL, hR_sI, hR_sL, hR_aI, hR_aL, ho, i2]
    rw [if_pos (Int32.le_refl _), List.take_length]
  | succ m ih =>
    intro i hi d Q
    have hlt : i < (dd L).length := by omega
    have hp := dd_mem.mp (gd_mem hlt)
    obtain ⟨⟨g1, g2⟩, g3, g4⟩ := i6 _ hp
    obtain ⟨b1, b2⟩ := hb _ hp
    have cx : ∀ d Q, Tr sc d 14 (ent0 14 [.ref 16, .int (nI i)] h) Q = Q (some (.int (iv ((dd L).getD i pt0).1)), h) := fun d Q => (c_cxy (sc := sc) (d := d) hw (Or.inl rfl : IsCl 16) I hlt).1 Q
    have cy : ∀ d Q, Tr sc d 15 (ent0 15 [.ref 16, .int (nI i)] h) Q = Q (some (.int (iv ((dd L).getD i pt0).2)), h) := fun d Q => (c_cxy (sc := sc) (d := d) hw (Or.inl rfl : IsCl 16) I hlt).2 Q
    have ih' := ih (i + 1) (by omega) d Q
    rw [lnK_s hlt] at ih'
    have bo : orN (lnK a c0 y0 ((dd L).take i)) < 2 ^ 60 := orN_lt _ 0 (by decide) (lnK_lt (tk_b (fun p hp => hb p (dd_mem.mp hp))))
    generalize (dd L).getD i pt0 = p at *
    have ex : iv p.1 - iv a = nI (p.1 - a).toNat := by rw [iv_sub, iv_n]; congr 1; omega
    have ey : (iv p.2 - iv c0 = iv y0) = (p.2 = c0 + y0) := by
      rw [iv_sub, iv_eq ⟨by omega, by omega⟩ ⟨by omega, by omega⟩]
      apply propext; omega
    rw [x_20_5]
    simp only [x_20_7, x_20_8, x_20_11, x_20_14, x_20_15, x_20_17, x_20_20, x_20_21, x_20_24, x_20_25, x_20_26, x_20_29, x_20_30, x_20_31, x_20_32, x_20_34, x_20_37, x_20_38, x_20_41, x_20_42, x_20_43, x_20_44, x_20_45, x_20_48, cl2_i, cl2_r, cl2_n, cl2_l, tl_s, tl_n, true_and, and_true, Option.some.injEq, exists_eq_left', Bool.and_self, Bool.true_and, Bool.and_true, Bool.or_true, Bool.true_or, i_10, i_00, if_true, if_false, not_true_eq_false, not_false_eq_true, and_false, false_and, okp_sI, okp_sL, okp_aI, okp_aL, hR_sI, hR_sL, hR_aI, hR_aL, ho, i2, cx, cy, a6, c8, ex, ey, or_s (k := (p.1 - a).toNat) bo (by omega), nI_1]
    rw [if_neg (nI_ge hlt (by omega))]
    by_cases q : p.2 = c0 + y0
    · rw [if_pos q, orN_s] at ih'
      rw [if_pos q]
      exact ih'
    · rw [if_neg q] at ih'
      rw [if_neg q]
      exact ih'
theorem m_ln_l (hw : WF h) (PM : PtM h L P) (hPl : P.length ≤ 7776) (hR : ∀ p, p ∈ L → Rg p) (a6 : hI h 124 41 = iv a) (c8 : hI h 124 43 = iv c0) (ra : -4096 ≤ a ∧ a < 4096) (rc : -4096 ≤ c0 ∧ c0 < 4096) (ry : -20000 ≤ y0 ∧ y0 ≤ 20000) (hb : ∀ p, p ∈ L → a ≤ p.1 ∧ p.1 - a < 60) : ∀ (m i : Nat) (H : PH), i + m = P.length → Fq (fun a b => a = 124 ∧ b = 3) h H → hL H 124 3 = lN (orN (lnK a c0 y0 (P.take i))) → ∃ H', Fq (fun a b => a = 124 ∧ b = 3) h H' ∧ hL H' 124 3 = lN (orN (lnK a c0 y0 P)) ∧ ∀ d Q, Tr sc d 240 (87, [some (.ref 124), some (.int x), some (.int y), some (.int (iv y0)), some (.int 0), some (.int (nI (lnK a c0 y0 (P.take i)).length)), some (.int (nI i))], [], H) Q = Q (some (.int (nI (lnK a c0 y0 P).length)), H') := by
  obtain ⟨p1, -, p4, -, -, p7, -, -⟩ := PM
  intro m
  induction m with
  | zero =>
    intro i H hi F B
    have ei : i = P.length := by omega
    subst ei
    have hwH := F.WF hw
    rw [List.take_length] at B
    refine ⟨H, F, B, fun d Q => ?_⟩
    rw [x_240_87]
    simp only [x_240_89, x_240_90, x_240_93, o_124 hwH, x_240_144, x_240_146, cl2_i, cl2_r, cl2_n, cl2_l, tl_s, tl_n, true_and, and_true, Option.some.injEq, exists_eq_left', Bool.and_self, Bool.true_and, Bool.and_true, Bool.or_true, Bool.true_or, i_10, i_00, if_true, if_false, not_true_eq_false, not_false_eq_true, and_false, false_and, okp_sI, okp_sL, okp_aI, okp_aL, hR_sI, hR_sL, hR_aI, hR_aL, F.i (a := 124) (b := 36) (by omega), p1]
    rw [if_pos (Int32.le_refl _), List.take_length]
  | succ m ih =>
    intro i H hi F B
    have hlt : i < P.length := by omega
    have hwH := F.WF hw
    have hp := (p7 _).mp (gd_mem hlt)
    obtain ⟨⟨g1, g2⟩, g3, g4⟩ := hR _ hp
    obtain ⟨b1, b2⟩ := hb _ hp
    obtain ⟨q1, q2⟩ := p4 i hlt
    have q1' : hI H 146 i = iv (P.getD i pt0).1 := by rw [F.i (by omega)]; exact q1
    have q2' : hI H 147 i = iv (P.getD i pt0).2 := by rw [F.i (by omega)]; exact q2
    have bo : orN (lnK a c0 y0 (P.take i)) < 2 ^ 60 := orN_lt _ 0 (by decide) (lnK_lt (tk_b (fun p hp => hb p ((p7 p).mp hp))))
    have ls := lnK_s (a := a) (c0 := c0) (y0 := y0) hlt
    have ih' := fun H => ih (i + 1) H (by omega)
    rw [ls] at ih'
    generalize hpp : P.getD i pt0 = p at *
    have ex : iv p.1 - iv a = nI (p.1 - a).toNat := by rw [iv_sub, iv_n]; congr 1; omega
    have ey : (iv p.2 = iv c0 + iv y0) = (p.2 = c0 + y0) := by rw [iv_add, iv_eq ⟨by omega, by omega⟩ ⟨by omega, by omega⟩]
    have lead : ∀ d Q, Tr sc d 240 (87, [some (.ref 124), some (.int x), some (.int y), some (.int (iv y0)), some (.int 0), some (.int (nI (lnK a c0 y0 (P.take i)).length)), some (.int (nI i))], [], H) Q = if p.2 = c0 + y0 then Tr sc d 240 (87, [some (.ref 124), some (.int x), some (.int y), some (.int (iv y0)), some (.int 0), some (.int (nI ((lnK a c0 y0 (P.take i)).length + 1))), some (.int (nI (i + 1)))], [], sL H 124 3 (lN (orN (lnK a c0 y0 (P.take i)) ||| 2 ^ (p.1 - a).toNat))) Q else Tr sc d 240 (87, [some (.ref 124), some (.int x), some (.int y), some (.int (iv y0)), some (.int 0), some (.int (nI (lnK a c0 y0 (P.take i)).length)), some (.int (nI (i + 1)))], [], H) Q := by
      intro d Q
      rw [x_240_87]
      simp only [x_240_89, x_240_90, x_240_93, x_240_96, x_240_97, x_240_100, x_240_102, x_240_103, x_240_104, x_240_107, x_240_108, x_240_109, x_240_112, x_240_113, x_240_114, x_240_117, x_240_118, x_240_119, x_240_122, x_240_124, x_240_125, x_240_126, x_240_129, x_240_130, x_240_131, x_240_132, x_240_135, x_240_138, x_240_141, o_124 hwH, w_124_39 hwH, w_124_40 hwH, o_147 hwH, iOk_lt (k := 147) (by decide), iRd_lt (k := 147) (by decide), show LN 147 = 7776 from rfl, o_146 hwH, iOk_lt (k := 146) (by decide), iRd_lt (k := 146) (by decide), show LN 146 = 7776 from rfl, cl2_i, cl2_r, cl2_n, cl2_l, tl_s, tl_n, true_and, and_true, Option.some.injEq, exists_eq_left', Bool.and_self, Bool.true_and, Bool.and_true, Bool.or_true, Bool.true_or, i_10, i_00, if_true, if_false, not_true_eq_false, not_false_eq_true, and_false, false_and, okp_sI, okp_sL, okp_aI, okp_aL, hR_sI, hR_sL, hR_aI, hR_aL, F.i (a := 124) (b := 36) (by omega), F.i (a := 124) (b := 41) (by omega), F.i (a := 124) (b := 43) (by omega), p1, a6, c8, inb_nI (n := 7776) (show i < 7776 by omega) (by decide), nI_clamp (n := i) (by omega), q1', q2', ex, ey, B, or_s (k := (p.1 - a).toNat) bo (by omega), nI_1]
      rw [if_neg (nI_ge hlt (by omega))]
    by_cases q : p.2 = c0 + y0
    · rw [if_pos q] at ih'
      obtain ⟨H', F', B', eq⟩ := ih' (sL H 124 3 (lN (orN (lnK a c0 y0 (P.take i)) ||| 2 ^ (p.1 - a).toNat))) (F.sL ⟨rfl, rfl⟩) (by rw [rdL_eq, orN_s])
      rw [List.length_append, List.length_singleton] at eq
      refine ⟨H', F', B', fun d Q => ?_⟩
      rw [lead, if_pos q]
      exact eq d Q
    · rw [if_neg q] at ih'
      obtain ⟨H', F', B', eq⟩ := ih' H F B
      refine ⟨H', F', B', fun d Q => ?_⟩
      rw [lead, if_neg q]
      exact eq d Q
theorem both_line (hc : CM h) : Both sc 131 240 [.int x, .int y, .int z] h := by
  have hw := hc.1
  refine glue_sh (x := x) (T := 0 ≤ y ∧ y ≤ 3) (CC := fun Q => Tr sc 19 131 (20, [some (.ref 0), some (.int x), some (.int y), some (.int z), some (.int 0)], [], h) Q) (MC := fun h1 Q => Tr sc 19 240 (17, [some (.ref 124), some (.int x), some (.int y), some (.int z), some (.int 0), none, none], [], h1) Q) hc (fun Q => ?_) (fun h1 Q hw1 => ?_) (fun s hs hx hT hA => ?_) (fun A B hAB q => Tr_mono q hAB)
  · rw [e_131]
    simp only [x_131_0, x_131_1, x_131_2, x_131_3, x_131_4, x_131_7, x_131_10, x_131_12, x_131_14, x_131_17, x_131_19, o_0 hw, cl2_i, cl2_r, cl2_n, cl2_l, tl_s, tl_n, true_and, and_true, Option.some.injEq, exists_eq_left', Bool.and_self, Bool.true_and, Bool.and_true, Bool.or_true, Bool.true_or, i_10, i_00, if_true, if_false, not_true_eq_false, not_false_eq_true, and_false, false_and, okp_sI, okp_sL, okp_aI, okp_aL, hR_sI, hR_sL, hR_aI, hR_aL, c_isStep, c_shR hw, bI_0, Classical.not_not, i_1m1, i_3m1]
  · rw [e_240]
    simp only [x_240_0, x_240_1, x_240_2, x_240_3, x_240_4, x_240_7, x_240_9, x_240_11, x_240_14, x_240_16, o_124 hw1, cl2_i, cl2_r, cl2_n, cl2_l, tl_s, tl_n, true_and, and_true, Option.some.injEq, exists_eq_left', Bool.and_self, Bool.true_and, Bool.and_true, Bool.or_true, Bool.true_or, i_10, i_00, if_true, if_false, not_true_eq_false, not_false_eq_true, and_false, false_and, okp_sI, okp_sL, okp_aI, okp_aL, hR_sI, hR_sL, hR_aI, hR_aL, m_aStep (d := 15) hw1, i_m1, i_m3, i_0]
  · subst hx
    obtain ⟨N, hN, rfl⟩ := nI_of2 (M := 3) (n := 3) rfl (Int32.not_lt.mpr hT.1) hT.2
    obtain ⟨kd, b, M, tn, sx, sy, ex, W, C, D⟩ := sh_ab hA
    obtain ⟨w1, w2, -⟩ := hw.shape hs
    obtain ⟨H1, e, f1, I1, he, eq1⟩ := g_gather (sc := sc) (N := N) hw hs C W (by omega)
    have hw1 := f1.WF hw
    have fS := f1.wk (fun a b q => Pcl_Sc q)
    have i2 := I1.2.2.1
    have i0 := I1.1.2
    have i6 := I1.2.2.2.2.2.2.1
    have e7 : rmC 16 = 7776 := rfl
    have D1 := D.fr fS (fun a j h1 h2 => by unfold Sc; omega)
    have fx : hI H1 134 s = hI h 134 s := fS.i (by unfold Sc; omega)
    by_cases q : (dd ((Ws b M tn sx sy kd ex N).map ptW)).length = 0
    · rw [q] at i2
      simp only [x_131_20, x_131_21, x_131_24, x_131_25, x_131_28, x_131_29, x_131_30, x_131_31, o_0 hw, w_0_2 hw, w_0_7 hw, o_16 hw, o_3 hw, show LN 3 = 8 from rfl, x_131_34, x_131_35, x_131_38, x_131_41, x_131_44, x_131_45, x_131_46, x_131_49, o_0 hw1, w_0_7 hw1, o_16 hw1, cl2_i, cl2_r, cl2_n, cl2_l, tl_s, tl_n, true_and, and_true, Option.some.injEq, exists_eq_left', Bool.and_self, Bool.true_and, Bool.and_true, Bool.or_true, Bool.true_or, i_10, i_00, if_true, if_false, not_true_eq_false, not_false_eq_true, and_false, false_and, okp_sI, okp_sL, okp_aI, okp_aL, hR_sI, hR_sL, hR_aI, hR_aL, inb_nI (n := 8) hs (by decide), nI_clamp (n := s) (by omega), w1, w2, eq1, i2, nI_0, c_refuse_4 hw1]
      have hwu := WF_refu (f := 4) hw1
      have D3 : ShM (refu H1 4) s kd b M tn sx sy ex := D1.fr (Fq_fr fr_refu) (fun a j h1 h2 q => by omega)
      obtain ⟨H2, P, f2, PM, eq2⟩ := m_setPoints (sc := sc) (d := 16) (N := N) hwu hs D3 W (by omega)
      have hw2 := f2.WF hwu
      have p1 := PM.1
      have p9 := PM.2.2.2.2.2.2.2
      rw [p9, q] at p1
      refine ⟨hwu, by rw [refu_I (by decide) (by decide)]; exact fx, ?_⟩
      simp only [x_240_17, x_240_18, x_240_19, x_240_20, o_124 hwu, x_240_23, x_240_24, x_240_27, x_240_30, x_240_31, x_240_32, x_240_35, o_124 hw2, cl2_i, cl2_r, cl2_n, cl2_l, tl_s, tl_n, true_and, and_true, Option.some.injEq, exists_eq_left', Bool.and_self, Bool.true_and, Bool.and_true, Bool.or_true, Bool.true_or, i_10, i_00, if_true, if_false, not_true_eq_false, not_false_eq_true, and_false, false_and, okp_sI, okp_sL, okp_aI, okp_aL, hR_sI, hR_sL, hR_aI, hR_aL, eq2, p1, nI_0, m_meets_4 hw2]
      first | exact cm_eR (by decide) hc fS (f2.wk (fun a b q => P47_Sc q)) | exact ⟨rfl, cm_eR (by decide) hc fS (f2.wk (fun a b q => P47_Sc q))⟩ | exact ⟨⟨_, rfl, rfl⟩, cm_eR (by decide) hc fS (f2.wk (fun a b q => P47_Sc q))⟩
    · have n0 : (nI (dd ((Ws b M tn sx sy kd ex N).map ptW)).length = 0) = False := eq_false (nI_ne0 (by omega) (by omega))
      have hLn : (Ws b M tn sx sy kd ex N).map ptW ≠ [] := fun z => q (by rw [z]; rfl)
      obtain ⟨a, b', c, g, ⟨la, a6⟩, ⟨hb, b7⟩, ⟨lc, c8⟩, hg, g9⟩ := I1.2.2.2.2.2.2.2 hLn
      have ra : -4096 ≤ a ∧ a < 4096 := by obtain ⟨u, hu, eu⟩ := la.2; have := (i6 u hu).1; dsimp only at eu; omega
      have rb : -4096 ≤ b' ∧ b' < 4096 := by obtain ⟨u, hu, eu⟩ := hb.2; have := (i6 u hu).1; dsimp only at eu; omega
      have rc : -4096 ≤ c ∧ c < 4096 := by obtain ⟨u, hu, eu⟩ := lc.2; have := (i6 u hu).2; dsimp only at eu; omega
      have rg : -4096 ≤ g ∧ g < 4096 := by obtain ⟨u, hu, eu⟩ := hg.2; have := (i6 u hu).2; dsimp only at eu; omega
      have rz := iv_r z
      obtain ⟨y0, hz, ry⟩ : ∃ y0 : Int, z = iv y0 ∧ R3 y0 := ⟨z.toInt, iv_of z, rz⟩
      subst hz
      -- what the model has before it asks for y
      have md : ∀ G, WF G → ShM G s kd b M tn sx sy ex → ∃ H2 P, Fq P47 G H2 ∧ PtM H2 ((Ws b M tn sx sy kd ex N).map ptW) P ∧ (hI H2 124 41 = iv a ∧ hI H2 124 42 = iv b' ∧ hI H2 124 43 = iv c ∧ hI H2 124 44 = iv g) ∧ ∀ Q, Tr sc 19 240 (17, [some (.ref 124), some (.int (nI s)), some (.int (nI N)), some (.int (iv y0)), some (.int 0), none, none], [], G) Q = Tr sc 19 240 (36, [some (.ref 124), some (.int (nI s)), some (.int (nI N)), some (.int (iv y0)), some (.int 0), none, none], [], H2) Q := by
        intro G hG DG
        obtain ⟨H2, P, f2, PM, eq2⟩ := m_setPoints (sc := sc) (d := 16) (N := N) hG hs DG W (by omega)
        have hw2 := f2.WF hG
        have p1 := PM.1
        have p9 := PM.2.2.2.2.2.2.2
        rw [p9] at p1
        obtain ⟨a', b'', c', g', ⟨q1, q2, q3, q4⟩, ⟨q5, q6, q7, q8⟩, -⟩ := bd_two I1 PM q
        refine ⟨H2, P, f2, PM, ⟨by rw [q5, ← q1, a6], by rw [q6, ← q2, b7], by rw [q7, ← q3, c8], by rw [q8, ← q4, g9]⟩, fun Q => ?_⟩
        simp only [x_240_17, x_240_18, x_240_19, x_240_20, o_124 hG, x_240_23, x_240_24, x_240_27, o_124 hw2, cl2_i, cl2_r, cl2_n, cl2_l, tl_s, tl_n, true_and, and_true, Option.some.injEq, exists_eq_left', Bool.and_self, Bool.true_and, Bool.and_true, Bool.or_true, Bool.true_or, i_10, i_00, if_true, if_false, not_true_eq_false, not_false_eq_true, and_false, false_and, okp_sI, okp_sL, okp_aI, okp_aL, hR_sI, hR_sL, hR_aI, hR_aL, eq2, p1, n0]
      have eG : iv g - iv c = iv (g - c) := iv_sub g c
      have eX : iv b' - iv a = iv (b' - a) := iv_sub b' a
      have l1 : (iv y0 < 0) = (y0 < 0) := by rw [show (0 : Int32) = iv 0 from rfl, iv_lt ry ⟨by decide, by decide⟩]
      have l1' : (0 ≤ iv y0) = (0 ≤ y0) := by rw [show (0 : Int32) = iv 0 from rfl, iv_le ⟨by decide, by decide⟩ ry]
      have l2 : (iv y0 ≤ iv (g - c)) = (y0 ≤ g - c) := iv_le ry ⟨by omega, by omega⟩
      have l3 : (iv (b' - a) < 60) = (b' - a < 60) := by rw [show (60 : Int32) = iv 60 from rfl, iv_lt ⟨by omega, by omega⟩ ⟨by decide, by decide⟩]
      have lead : ∀ Q, Tr sc 19 131 (20, [some (.ref 0), some (.int (nI s)), some (.int (nI N)), some (.int (iv y0)), some (.int 0)], [], h) Q = if y0 < 0 then Q (some (.int (-3)), refu H1 2) else if y0 ≤ g - c then Tr sc 19 131 (79, [some (.ref 0), some (.int (nI s)), some (.int (nI N)), some (.int (iv y0)), some (.int 0)], [], H1) Q else Q (some (.int (-3)), refu H1 2) := by
        intro Q
        simp only [x_131_20, x_131_21, x_131_24, x_131_25, x_131_28, x_131_29, x_131_30, x_131_31, o_0 hw, w_0_2 hw, w_0_7 hw, o_16 hw, o_3 hw, show LN 3 = 8 from rfl, x_131_34, x_131_35, x_131_38, x_131_41, o_0 hw1, w_0_7 hw1, o_16 hw1, x_131_50, x_131_51, x_131_54, x_131_55, x_131_56, x_131_59, x_131_62, x_131_63, x_131_66, x_131_69, x_131_70, x_131_73, x_131_74, x_131_75, x_131_78, o_0 hw1, w_0_7 hw1, o_16 hw1, cl2_i, cl2_r, cl2_n, cl2_l, tl_s, tl_n, true_and, and_true, Option.some.injEq, exists_eq_left', Bool.and_self, Bool.true_and, Bool.and_true, Bool.or_true, Bool.true_or, i_10, i_00, if_true, if_false, not_true_eq_false, not_false_eq_true, and_false, false_and, okp_sI, okp_sL, okp_aI, okp_aL, hR_sI, hR_sL, hR_aI, hR_aL, inb_nI (n := 8) hs (by decide), nI_clamp (n := s) (by omega), w1, w2, eq1, i2, n0, g9, c8, eG, l1, l2, c_refuse_2 hw1]
      have beyond : ¬ (0 ≤ y0 ∧ y0 ≤ g - c) → (WF (refu H1 2) ∧ hI (refu H1 2) 134 s = hI h 134 s ∧ Tr sc 19 240 (17, [some (.ref 124), some (.int (nI s)), some (.int (nI N)), some (.int (iv y0)), some (.int 0), none, none], [], refu H1 2) (fun r2 => (∃ u, some (Value.int (-3)) = some u ∧ r2.1 = some u) ∧ CM r2.2)) := by
        intro hn
        have hwu := WF_refu (f := 2) hw1
        have D3 : ShM (refu H1 2) s kd b M tn sx sy ex := D1.fr (Fq_fr fr_refu) (fun a j h1 h2 q => by omega)
        obtain ⟨H2, P, f2, PM, ⟨m1, m2, m3, m4⟩, eq2⟩ := md (refu H1 2) hwu D3
        have hw2 := f2.WF hwu
        refine ⟨hwu, by rw [refu_I (by decide) (by decide)]; exact fx, ?_⟩
        rw [eq2]
        simp only [x_240_36, x_240_37, x_240_38, x_240_39, x_240_42, x_240_43, x_240_46, x_240_47, x_240_50, x_240_53, x_240_54, x_240_55, x_240_58, o_124 hw2, cl2_i, cl2_r, cl2_n, cl2_l, tl_s, tl_n, true_and, and_true, Option.some.injEq, exists_eq_left', Bool.and_self, Bool.true_and, Bool.and_true, Bool.or_true, Bool.true_or, i_10, i_00, if_true, if_false, not_true_eq_false, not_false_eq_true, and_false, false_and, okp_sI, okp_sL, okp_aI, okp_aL, hR_sI, hR_sL, hR_aI, hR_aL, m3, m4, eG, m_in, bI_0, l1', l2, hn, m_meets_2 hw2]
        first | exact cm_eR (by decide) hc fS (f2.wk (fun a b q => P47_Sc q)) | exact ⟨rfl, cm_eR (by decide) hc fS (f2.wk (fun a b q => P47_Sc q))⟩ | exact ⟨⟨_, rfl, rfl⟩, cm_eR (by decide) hc fS (f2.wk (fun a b q => P47_Sc q))⟩
      rw [lead]
      by_cases z1 : y0 < 0
      · rw [if_pos z1]
        exact beyond (fun w => by omega)
      · rw [if_neg z1]
        by_cases z2 : y0 ≤ g - c
        · rw [if_pos z2]
          have yin : 0 ≤ y0 ∧ y0 ≤ g - c := ⟨by omega, z2⟩
          simp only [x_131_79, x_131_80, x_131_83, x_131_86, x_131_87, x_131_90, x_131_93, x_131_94, x_131_96, x_131_99, x_131_101, o_0 hw1, w_0_7 hw1, o_16 hw1, cl2_i, cl2_r, cl2_n, cl2_l, tl_s, tl_n, true_and, and_true, Option.some.injEq, exists_eq_left', Bool.and_self, Bool.true_and, Bool.and_true, Bool.or_true, Bool.true_or, i_10, i_00, if_true, if_false, not_true_eq_false, not_false_eq_true, and_false, false_and, okp_sI, okp_sL, okp_aI, okp_aL, hR_sI, hR_sL, hR_aI, hR_aL, b7, a6, eX, l3]
          by_cases z3 : b' - a < 60
          · rw [if_pos z3]
            have hb60 : ∀ p, p ∈ (Ws b M tn sx sy kd ex N).map ptW → a ≤ p.1 ∧ p.1 - a < 60 := fun p hp => by
              have h1 := la.1 p hp
              have h2 := hb.1 p hp
              dsimp only at h1 h2
              omega
            have bl := c_bol (sc := sc) (y0 := y0) hw1 I1 a6 c8 ra rc ⟨by omega, by omega⟩ hb60 (dd ((Ws b M tn sx sy kd ex N).map ptW)).length 0 (by omega)
            have bl' : ∀ Q, Tr sc 18 20 (ent0 20 [.ref 16, .int (iv y0)] H1) Q = Q (some (.long (lN (orN (lnK a c y0 (dd ((Ws b M tn sx sy kd ex N).map ptW)))))), H1) := fun Q => by
              rw [e_20]
              simp only [x_20_0, x_20_1, x_20_2, x_20_3, cl2_i, cl2_r, cl2_n, cl2_l, tl_s, tl_n, true_and, and_true, Option.some.injEq, exists_eq_left', Bool.and_self, Bool.true_and, Bool.and_true, Bool.or_true, Bool.true_or, i_10, i_00, if_true, if_false, not_true_eq_false, not_false_eq_true, and_false, false_and, okp_sI, okp_sL, okp_aI, okp_aL, hR_sI, hR_sL, hR_aI, hR_aL]
              exact bl 17 Q
            have ob : orN (lnK a c y0 (dd ((Ws b M tn sx sy kd ex N).map ptW))) < 2 ^ 60 := orN_lt _ 0 (by decide) (lnK_lt (fun p hp => hb60 p (dd_mem.mp hp)))
            have nd1 : (lnK a c y0 (dd ((Ws b M tn sx sy kd ex N).map ptW))).Nodup := lnK_nd dd_nd (fun p hp => (hb60 p (dd_mem.mp hp)).1)
            have ol := orN_len nd1 (fun k hk => by have := lnK_lt (fun p hp => hb60 p (dd_mem.mp hp)) k hk; omega)
            generalize hv : orN (lnK a c y0 (dd ((Ws b M tn sx sy kd ex N).map ptW))) = v at *
            have rl : hL (sL H1 0 16 (lN v)) 0 16 = lN v := rdL_eq
            simp only [x_131_102, x_131_103, x_131_104, x_131_107, x_131_108, x_131_111, x_131_114, x_131_115, x_131_118, x_131_121, o_0 hw1, w_0_7 hw1, o_16 hw1, cl2_i, cl2_r, cl2_n, cl2_l, tl_s, tl_n, true_and, and_true, Option.some.injEq, exists_eq_left', Bool.and_self, Bool.true_and, Bool.and_true, Bool.or_true, Bool.true_or, i_10, i_00, if_true, if_false, not_true_eq_false, not_false_eq_true, and_false, false_and, okp_sI, okp_sL, okp_aI, okp_aL, hR_sI, hR_sL, hR_aI, hR_aL, bl', rl, c_lbits ob, ol]
            have hw3 : WF (sL H1 0 16 (lN v)) := hw1
            have D3 : ShM (sL H1 0 16 (lN v)) s kd b M tn sx sy ex := D1.fr (Fq.rf.sL (P := fun a b => a = 0) rfl) (fun a j h1 h2 q => by omega)
            obtain ⟨H2, P, f2, PM, ⟨m1, m2, m3, m4⟩, eq2⟩ := md _ hw3 D3
            have hw2 := f2.WF hw3
            have f4 : Fq (fun a b => a = 124 ∧ b = 3) H2 (sL H2 124 3 0) := Fq.rf.sL ⟨rfl, rfl⟩
            obtain ⟨H5, f5, v5, eq5⟩ := m_ln_l (sc := sc) (x := nI s) (y := nI N) (y0 := y0) (H := sL H2 124 3 0) hw2 PM (by rw [PM.2.2.2.2.2.2.2]; omega) i6 m1 m3 ra rc ⟨by omega, by omega⟩ hb60 P.length 0 (by omega) f4 rdL_eq
            have p7 := PM.2.2.2.2.2.1
            have mm : ∀ k, k ∈ lnK a c y0 P ↔ k ∈ lnK a c y0 (dd ((Ws b M tn sx sy kd ex N).map ptW)) := fun k => by
              rw [lnK_m, lnK_m]
              exact ⟨fun ⟨p, h1, h2⟩ => ⟨p, dd_mem.mpr ((p7 p).mp h1), h2⟩, fun ⟨p, h1, h2⟩ => ⟨p, (p7 p).mpr (dd_mem.mp h1), h2⟩⟩
            have eo : orN (lnK a c y0 P) = v := by rw [← hv]; exact orN_cg mm
            have el : (lnK a c y0 P).length = (lnK a c y0 (dd ((Ws b M tn sx sy kd ex N).map ptW))).length := nd_len (lnK_nd PM.2.2.2.2.1 (fun p hp => (hb60 p ((p7 p).mp hp)).1)) nd1 mm
            rw [eo] at v5
            refine ⟨hw3, fx, ?_⟩
            rw [eq2]
            simp only [x_240_36, x_240_37, x_240_38, x_240_39, x_240_42, x_240_43, x_240_46, x_240_47, x_240_50, x_240_53, x_240_54, x_240_55, x_240_58, x_240_59, x_240_60, x_240_63, x_240_64, x_240_67, x_240_68, x_240_70, x_240_73, x_240_75, x_240_76, x_240_77, x_240_78, x_240_81, x_240_82, x_240_84, x_240_85, o_124 hw2, cl2_i, cl2_r, cl2_n, cl2_l, tl_s, tl_n, true_and, and_true, Option.some.injEq, exists_eq_left', Bool.and_self, Bool.true_and, Bool.and_true, Bool.or_true, Bool.true_or, i_10, i_00, if_true, if_false, not_true_eq_false, not_false_eq_true, and_false, false_and, okp_sI, okp_sL, okp_aI, okp_aL, hR_sI, hR_sL, hR_aI, hR_aL, m1, m2, m3, m4, eG, eX, m_in, bI_0, l1', l2, l3, yin, z3]
            refine (Eq.mpr (eq5 19 _) ?_ : _)
            rw [el]
            first | exact cm_eN hc fS ((f2.wk (fun a b q => Or.inl (P47_Sc q))).tr (f5.wk (fun a b q => Or.inr q))) v5 | exact ⟨rfl, cm_eN hc fS ((f2.wk (fun a b q => Or.inl (P47_Sc q))).tr (f5.wk (fun a b q => Or.inr q))) v5⟩ | exact ⟨⟨_, rfl, rfl⟩, cm_eN hc fS ((f2.wk (fun a b q => Or.inl (P47_Sc q))).tr (f5.wk (fun a b q => Or.inr q))) v5⟩
          · rw [if_neg z3]
            obtain ⟨H2, P, f2, PM, ⟨m1, m2, m3, m4⟩, eq2⟩ := md H1 hw1 D1
            have hw2 := f2.WF hw1
            refine ⟨hw1, fx, ?_⟩
            rw [eq2]
            simp only [x_240_36, x_240_37, x_240_38, x_240_39, x_240_42, x_240_43, x_240_46, x_240_47, x_240_50, x_240_53, x_240_54, x_240_55, x_240_58, x_240_59, x_240_60, x_240_63, x_240_64, x_240_67, x_240_68, x_240_70, x_240_73, x_240_75, o_124 hw2, cl2_i, cl2_r, cl2_n, cl2_l, tl_s, tl_n, true_and, and_true, Option.some.injEq, exists_eq_left', Bool.and_self, Bool.true_and, Bool.and_true, Bool.or_true, Bool.true_or, i_10, i_00, if_true, if_false, not_true_eq_false, not_false_eq_true, and_false, false_and, okp_sI, okp_sL, okp_aI, okp_aL, hR_sI, hR_sL, hR_aI, hR_aL, m1, m2, m3, m4, eG, eX, m_in, bI_0, l1', l2, l3, yin, z3]
            first | exact cm_e0 hc (fS.tr (f2.wk (fun a b q => P47_Sc q))) | exact ⟨rfl, cm_e0 hc (fS.tr (f2.wk (fun a b q => P47_Sc q)))⟩ | exact ⟨⟨_, rfl, rfl⟩, cm_e0 hc (fS.tr (f2.wk (fun a b q => P47_Sc q)))⟩
        · rw [if_neg z2]
          exact beyond (fun w => z2 w.2)
end LI
