/-! ===== holes: the picture is drawn; class and model ===== -/
def idx (a c0 : Int) (W : Nat) (p : Pnt) : Nat := ((p.2 - c0).toNat + 1) * W + ((p.1 - a).toNat + 1)
def FL (a c0 : Int) (W : Nat) (l : List Pnt) : Nat → Bool := fun x => decide (x ∈ l.map (idx a c0 W))
def PPd (a b : Nat) : Prop := a = 45 ∨ a = 46 ∨ (a = 44 ∧ 2 ≤ b ∧ b ≤ 4)
section HD
variable {sc : Nat × (Nat → Int32)} {d : Nat} {Q : PRes → Prop} {h h' h1 H G : PH} {k e i j n t u M N A W Hh x : Nat} {s : Fst} {ok : Bool} {z a b c0 g : Int} {F : Nat → Bool} {L P l : List Pnt} {p : Pnt}
theorem FL_s (hi : i < l.length) : FL a c0 W (l.take (i + 1)) x = if x = idx a c0 W (l.getD i pt0) then true else FL a c0 W (l.take i) x := by
  unfold FL
  rw [List.take_succ, List.map_append, List.getElem?_eq_getElem hi, gd_ix hi]
  by_cases q : x = idx a c0 W l[i]
  · rw [if_pos q]
    refine decide_eq_true ?_
    rw [List.mem_append]
    exact Or.inr (List.mem_singleton.mpr q)
  · rw [if_neg q]
    congr 1
    apply propext
    rw [List.mem_append]
    constructor
    · rintro (z | z)
      · exact z
      · exact absurd (List.mem_singleton.mp z) q
    · exact Or.inl
theorem FL_cg (e : ∀ p, p ∈ L ↔ p ∈ P) : FL a c0 W L = FL a c0 W P := by
  funext x
  unfold FL
  congr 1
  apply propext
  rw [List.mem_map, List.mem_map]
  exact ⟨fun ⟨q, h1, h2⟩ => ⟨q, (e q).mp h1, h2⟩, fun ⟨q, h1, h2⟩ => ⟨q, (e q).mpr h1, h2⟩⟩
theorem idx_lt (hW : W = (b - a).toNat + 3) (hH : Hh = (g - c0).toNat + 3) (hA : A = W * Hh) (h1 : a ≤ p.1 ∧ p.1 ≤ b) (h2 : c0 ≤ p.2 ∧ p.2 ≤ g) : idx a c0 W p < A := by
  unfold idx
  have h3 : (p.2 - c0).toNat + 2 ≤ Hh := by omega
  have h4 : ((p.2 - c0).toNat + 2) * W ≤ Hh * W := Nat.mul_le_mul_right W h3
  rw [show ((p.2 - c0).toNat + 2) * W = ((p.2 - c0).toNat + 1) * W + W by rw [show (p.2 - c0).toNat + 2 = ((p.2 - c0).toNat + 1) + 1 from rfl, Nat.add_mul _ 1 W, Nat.one_mul]] at h4
  rw [hA, Nat.mul_comm W Hh]
  omega
theorem c_dr_0 (hw : WF h) (hA : A ≤ 1600) (h4 : hI h 44 4 = nI A) : ∀ (m i : Nat) (H : PH), i + m = A → Fq (fun a _ => a = 45) h H → (∀ x, x < i → hI H 45 x = 0) → ∃ H', Fq (fun a _ => a = 45) h H' ∧ (∀ x, x < A → hI H' 45 x = 0) ∧ ∀ d Q l3 l4, cl2 l3 = l3 → Tr sc d 31 (49, [some (.ref 44), some (.ref 16), some (.int (nI i)), l3, l4], [], H) Q = Tr sc d 31 (70, [some (.ref 44), some (.ref 16), some (.int (nI A)), l3, l4], [], H') Q := by
  intro m
  induction m with
  | zero =>
    intro i H hi F B
    have e : i = A := by omega
    subst e
    have hwH := F.WF hw
    refine ⟨H, F, B, fun d Q l3 l4 h3 => ?_⟩
    rw [x_31_49]
    simp only [x_31_50, x_31_51, x_31_54, o_44 hwH, cl2_i, cl2_r, cl2_n, cl2_l, tl_s, tl_n, true_and, and_true, Option.some.injEq, exists_eq_left', Bool.and_self, Bool.true_and, Bool.and_true, Bool.or_true, Bool.true_or, i_10, i_00, if_true, if_false, not_true_eq_false, not_false_eq_true, and_false, false_and, okp_sI, okp_sL, okp_aI, okp_aL, hR_sI, hR_sL, hR_aI, hR_aL, F.i (a := 44) (b := 4) (by omega), h4]
    rw [if_pos (Int32.le_refl _)]
  | succ m ih =>
    intro i H hi F B
    have hlt : i < A := by omega
    have hwH := F.WF hw
    obtain ⟨H', F', B', eq⟩ := ih (i + 1) (sI H 45 i 0) (by omega) (F.sI rfl) (fun x hx => by
      by_cases ex : x = i
      · rw [ex, rd_eq]
      · rw [rd_ne (by omega)]; exact B x (by omega))
    refine ⟨H', F', B', fun d Q l3 l4 h3 => ?_⟩
    rw [x_31_49]
    simp only [x_31_50, x_31_51, x_31_54, x_31_57, x_31_58, x_31_61, x_31_62, x_31_63, x_31_64, x_31_67, o_44 hwH, w_44_0 hwH, o_45 hwH, show LN 45 = 1600 from rfl, cl2_i, cl2_r, cl2_n, cl2_l, tl_s, tl_n, true_and, and_true, Option.some.injEq, exists_eq_left', Bool.and_self, Bool.true_and, Bool.and_true, Bool.or_true, Bool.true_or, i_10, i_00, if_true, if_false, not_true_eq_false, not_false_eq_true, and_false, false_and, okp_sI, okp_sL, okp_aI, okp_aL, hR_sI, hR_sL, hR_aI, hR_aL, F.i (a := 44) (b := 4) (by omega), h4, inb_nI (n := 1600) (show i < 1600 by omega) (by decide), nI_clamp (n := i) (by omega), vp_b0, nI_1]
    rw [if_neg (nI_ge hlt (by omega))]
    exact eq d Q l3 l4 h3
theorem c_dr_p (hw : WF h) (I : ClI h 16 e L) (hA : A ≤ 1600) (hAe : A = W * Hh) (hW : W = (b - a).toNat + 3) (hH : Hh = (g - c0).toNat + 3) (h3 : hI h 44 3 = nI W) (a6 : hI h 16 6 = iv a) (c8 : hI h 16 8 = iv c0) (hb : ∀ p, p ∈ L → (a ≤ p.1 ∧ p.1 ≤ b) ∧ (c0 ≤ p.2 ∧ p.2 ≤ g)) : ∀ (m i : Nat) (H : PH), i + m = (dd L).length → Fq (fun a _ => a = 45) h H → FA H 45 (FL a c0 W ((dd L).take i)) A → ∃ H', Fq (fun a _ => a = 45) h H' ∧ FA H' 45 (FL a c0 W (dd L)) A ∧ ∀ d Q l3 l4, cl2 l3 = l3 → Tr sc (d + 1) 31 (72, [some (.ref 44), some (.ref 16), some (.int (nI i)), l3, l4], [], H) Q = Q (some (.int 1), H') := by
  have i0 := I.1.2
  have e7 : rmC 16 = 7776 := rfl
  have i2 := I.2.2.1
  have i6 := I.2.2.2.2.2.2.1
  have hWA : W ≤ A := by rw [hAe]; exact Nat.le_mul_of_pos_right W (by omega)
  intro m
  induction m with
  | zero =>
    intro i H hi F B
    have e : i = (dd L).length := by omega
    subst e
    have hwH := F.WF hw
    rw [List.take_length] at B
    refine ⟨H, F, B, fun d Q l3 l4 hl => ?_⟩
    rw [x_31_72]
    simp only [x_31_73, x_31_74, x_31_77, x_31_128, x_31_129, cl2_i, cl2_r, cl2_n, cl2_l, tl_s, tl_n, true_and, and_true, Option.some.injEq, exists_eq_left', Bool.and_self, Bool.true_and, Bool.and_true, Bool.or_true, Bool.true_or, i_10, i_00, if_true, if_false, not_true_eq_false, not_false_eq_true, and_false, false_and, okp_sI, okp_sL, okp_aI, okp_aL, hR_sI, hR_sL, hR_aI, hR_aL, o_16 hwH, F.i (a := 16) (b := 4) (by omega), i2, vp_b1]
    rw [if_pos (Int32.le_refl _)]
  | succ m ih =>
    intro i H hi F B
    have hlt : i < (dd L).length := by omega
    have hwH := F.WF hw
    have IH := I.fr F (fun a b q1 q2 q3 => by omega)
    have hp := dd_mem.mp (gd_mem hlt)
    obtain ⟨b1, b2⟩ := hb _ hp
    obtain ⟨⟨g1, g2⟩, g3, g4⟩ := i6 _ hp
    have il := idx_lt hW hH hAe b1 b2
    obtain ⟨cx, cy⟩ : (∀ d Q, Tr sc d 14 (ent0 14 [.ref 16, .int (nI i)] H) Q = Q (some (.int (iv ((dd L).getD i pt0).1)), H)) ∧ ∀ d Q, Tr sc d 15 (ent0 15 [.ref 16, .int (nI i)] H) Q = Q (some (.int (iv ((dd L).getD i pt0).2)), H) := ⟨fun d Q => (c_cxy (sc := sc) (d := d) hwH (Or.inl rfl : IsCl 16) IH hlt).1 Q, fun d Q => (c_cxy (sc := sc) (d := d) hwH (Or.inl rfl : IsCl 16) IH hlt).2 Q⟩
    obtain ⟨H', F', B', eq⟩ := ih (i + 1) (sI H 45 (idx a c0 W ((dd L).getD i pt0)) 1) (by omega) (F.sI rfl) (fun x hx => by
      rw [FL_s hlt]
      by_cases ex : x = idx a c0 W ((dd L).getD i pt0)
      · rw [if_pos ex, ex, rd_eq]; rfl
      · rw [if_neg ex, rd_ne (by omega)]; exact B x hx)
    generalize hpp : (dd L).getD i pt0 = p at *
    have e1 : iv p.1 - iv a + 1 = nI ((p.1 - a).toNat + 1) := by
      rw [show (1 : Int32) = iv 1 from rfl, iv_sub, iv_add, iv_n]
      congr 1
      omega
    have e2 : iv p.2 - iv c0 + 1 = nI ((p.2 - c0).toNat + 1) := by
      rw [show (1 : Int32) = iv 1 from rfl, iv_sub, iv_add, iv_n]
      congr 1
      omega
    have e3 : nI ((p.2 - c0).toNat + 1) * nI W + nI ((p.1 - a).toNat + 1) = nI (idx a c0 W p) := by
      rw [pk_mul, nI_add]; rfl
    refine ⟨H', F', B', fun d Q l3 l4 hl => ?_⟩
    rw [x_31_72]
    simp only [x_31_73, x_31_74, x_31_77, x_31_80, x_31_81, x_31_82, x_31_85, x_31_86, x_31_89, x_31_90, x_31_91, x_31_92, x_31_93, x_31_94, x_31_95, x_31_98, x_31_99, x_31_102, x_31_103, x_31_104, x_31_105, x_31_107, x_31_108, x_31_111, x_31_113, x_31_114, x_31_117, x_31_118, x_31_119, x_31_120, x_31_121, x_31_122, x_31_125, o_44 hwH, w_44_0 hwH, o_45 hwH, show LN 45 = 1600 from rfl, o_16 hwH, w_16_0 hwH, w_16_1 hwH, w_16_2 hwH, cl2_i, cl2_r, cl2_n, cl2_l, tl_s, tl_n, true_and, and_true, Option.some.injEq, exists_eq_left', Bool.and_self, Bool.true_and, Bool.and_true, Bool.or_true, Bool.true_or, i_10, i_00, if_true, if_false, not_true_eq_false, not_false_eq_true, and_false, false_and, okp_sI, okp_sL, okp_aI, okp_aL, hR_sI, hR_sL, hR_aI, hR_aL, hl, F.i (a := 16) (b := 4) (by omega), F.i (a := 16) (b := 6) (by omega), F.i (a := 16) (b := 8) (by omega), F.i (a := 44) (b := 3) (by omega), i2, a6, c8, h3, cx, cy, e1, e2, e3, inb_nI (n := 1600) (show idx a c0 W p < 1600 by omega) (by decide), nI_clamp (n := idx a c0 W p) (by omega), vp_b1, nI_1]
    rw [if_neg (nI_ge hlt (by omega))]
    exact eq d Q _ _ rfl
/-- the class draws, or says that there is no room -/
theorem c_draw (hw : WF h) (I : ClI h 16 e L) (hL : L ≠ []) (a6 : hI h 16 6 = iv a) (b7 : hI h 16 7 = iv b) (c8 : hI h 16 8 = iv c0) (g9 : hI h 16 9 = iv g) (la : Lo (·.1) L a) (hb : Hi (·.1) L b) (lc : Lo (·.2) L c0) (hg : Hi (·.2) L g) (hW : W = (b - a).toNat + 3) (hH : Hh = (g - c0).toNat + 3) (hAe : A = W * Hh) : ∃ H, Fq PPd h H ∧ (A ≤ 1600 → hI H 44 3 = nI W ∧ hI H 44 4 = nI A ∧ FA H 45 (FL a c0 W (dd L)) A) ∧ ∀ d Q, Tr sc (d + 1) 31 (ent0 31 [.ref 44, .ref 16] h) Q = Q (some (.int (if A ≤ 1600 then 1 else 0)), H) := by
  have i6 := I.2.2.2.2.2.2.1
  have ho := o_16 hw
  have ra : -4096 ≤ a ∧ a < 4096 := by obtain ⟨u, hu, eu⟩ := la.2; have := (i6 u hu).1; dsimp only at eu; omega
  have rb : -4096 ≤ b ∧ b < 4096 := by obtain ⟨u, hu, eu⟩ := hb.2; have := (i6 u hu).1; dsimp only at eu; omega
  have rc : -4096 ≤ c0 ∧ c0 < 4096 := by obtain ⟨u, hu, eu⟩ := lc.2; have := (i6 u hu).2; dsimp only at eu; omega
  have rg : -4096 ≤ g ∧ g < 4096 := by obtain ⟨u, hu, eu⟩ := hg.2; have := (i6 u hu).2; dsimp only at eu; omega
  have ab : a ≤ b := by obtain ⟨u, hu, eu⟩ := la.2; have := hb.1 u hu; dsimp only at eu this; omega
  have cg : c0 ≤ g := by obtain ⟨u, hu, eu⟩ := lc.2; have := hg.1 u hu; dsimp only at eu this; omega
  have wb : W ≤ 8200 := by omega
  have hb' : Hh ≤ 8200 := by omega
  have Ab : A ≤ 8200 * 8200 := by rw [hAe]; exact Nat.mul_le_mul wb hb'
  have e1 : iv b - iv a + 3 = nI W := by
    rw [show (3 : Int32) = iv 3 from rfl, iv_sub, iv_add, iv_n]
    congr 1
    omega
  have e2 : iv g - iv c0 + 3 = nI Hh := by
    rw [show (3 : Int32) = iv 3 from rfl, iv_sub, iv_add, iv_n]
    congr 1
    omega
  have eA : nI W * nI Hh = nI A := by rw [pk_mul, ← hAe]
  have f0 : Fq PPd h (sI (sI h 44 3 (nI W)) 44 4 (nI A)) := (Fq.rf.sI (by unfold PPd; omega)).sI (by unfold PPd; omega)
  have hw0 := f0.WF hw
  have lead : ∀ d Q, Tr sc (d + 1) 31 (ent0 31 [.ref 44, .ref 16] h) Q = if nI A ≤ 1600 then Tr sc (d + 1) 31 (47, [some (.ref 44), some (.ref 16), none, none, none], [], sI (sI h 44 3 (nI W)) 44 4 (nI A)) Q else Q (some (.int 0), sI (sI h 44 3 (nI W)) 44 4 (nI A)) := by
    intro d Q
    rw [e_31]
    simp only [x_31_0, x_31_1, x_31_2, x_31_5, x_31_6, x_31_9, x_31_10, x_31_11, x_31_12, x_31_15, x_31_16, x_31_17, x_31_20, x_31_21, x_31_24, x_31_25, x_31_28, x_31_29, x_31_30, x_31_31, x_31_32, x_31_35, x_31_36, x_31_39, x_31_42, x_31_45, x_31_46, o_44 hw, cl2_i, cl2_r, cl2_n, cl2_l, tl_s, tl_n, true_and, and_true, Option.some.injEq, exists_eq_left', Bool.and_self, Bool.true_and, Bool.and_true, Bool.or_true, Bool.true_or, i_10, i_00, if_true, if_false, not_true_eq_false, not_false_eq_true, and_false, false_and, okp_sI, okp_sL, okp_aI, okp_aL, hR_sI, hR_sL, hR_aI, hR_aL, ho, rd_eq, rd_ne (q := 44) (a := 16) (Or.inl (by decide)), a6, b7, c8, g9, e1, e2, eA, vp_b0]
  by_cases q : A ≤ 1600
  · have I0 := I.fr (Fq.rf.sI (P := fun a b => a = 44) (k := 44) (j := 3) (v := nI W) rfl) (fun a b q1 q2 q3 => by omega)
    have I1 := I0.fr (Fq.rf.sI (P := fun a b => a = 44) (k := 44) (j := 4) (v := nI A) rfl) (fun a b q1 q2 q3 => by omega)
    obtain ⟨H1, f1, B1, eq1⟩ := c_dr_0 (sc := sc) hw0 q rd_eq A 0 _ (by omega) Fq.rf (fun x hx => absurd hx (Nat.not_lt_zero _))
    have hw1 := f1.WF hw0
    have I2 := I1.fr f1 (fun a b q1 q2 q3 => by omega)
    obtain ⟨H2, f2, B2, eq2⟩ := c_dr_p (sc := sc) hw1 I2 q hAe hW hH (by rw [f1.i (by omega), rd_ne (by omega), rd_eq]) (by rw [f1.i (by omega), rd_ne (by omega), rd_ne (by omega)]; exact a6) (by rw [f1.i (by omega), rd_ne (by omega), rd_ne (by omega)]; exact c8) (fun p hp => ⟨⟨la.1 p hp, hb.1 p hp⟩, lc.1 p hp, hg.1 p hp⟩) (dd L).length 0 H1 (by omega) Fq.rf (fun x hx => by rw [B1 x hx]; rfl)
    refine ⟨H2, f0.tr ((f1.wk (fun a b z => by unfold PPd; omega)).tr (f2.wk (fun a b z => by unfold PPd; omega))), fun _ => ⟨?_, ?_, B2⟩, fun d Q => ?_⟩
    · rw [f2.i (by omega), f1.i (by omega), rd_ne (by omega), rd_eq]
    · rw [f2.i (by omega), f1.i (by omega), rd_eq]
    · rw [lead, if_pos (show nI A ≤ 1600 from nI_le (b := 1600) q (by decide)), if_pos q]
      simp only [x_31_47, x_31_48, cl2_i, cl2_r, cl2_n, cl2_l, tl_s, tl_n, true_and, and_true, Option.some.injEq, exists_eq_left', Bool.and_self, Bool.true_and, Bool.and_true, Bool.or_true, Bool.true_or, i_10, i_00, if_true, if_false, not_true_eq_false, not_false_eq_true, and_false, false_and, okp_sI, okp_sL, okp_aI, okp_aL, hR_sI, hR_sL, hR_aI, hR_aL]
      refine (eq1 (d + 1) Q none none rfl).trans ?_
      simp only [x_31_70, x_31_71, cl2_i, cl2_r, cl2_n, cl2_l, tl_s, tl_n, true_and, and_true, Option.some.injEq, exists_eq_left', Bool.and_self, Bool.true_and, Bool.and_true, Bool.or_true, Bool.true_or, i_10, i_00, if_true, if_false, not_true_eq_false, not_false_eq_true, and_false, false_and, okp_sI, okp_sL, okp_aI, okp_aL, hR_sI, hR_sL, hR_aI, hR_aL]
      exact eq2 d Q none none rfl
  · refine ⟨_, f0, fun z => absurd z q, fun d Q => ?_⟩
    rw [lead, if_neg (show ¬ nI A ≤ 1600 from nI_ge (a := 1600) (b := A) (by omega) (by omega)), if_neg q]
/-- the model's picture -/
theorem m_dr_0 {x y : Int32} (hw : WF h) (hA : A ≤ 1600) (hAe : A = W * Hh) : ∀ (m i : Nat) (H : PH), i + m = A → Fq (fun a _ => a = 160) h H → (∀ x, x < i → hI H 160 x = 0) → ∃ H', Fq (fun a _ => a = 160) h H' ∧ (∀ x, x < A → hI H' 160 x = 0) ∧ ∀ d Q l7, Tr sc d 238 (75, [some (.ref 124), some (.int x), some (.int y), some (.int 0), some (.int (nI W)), some (.int (nI Hh)), some (.int (nI i)), l7], [], H) Q = Tr sc d 238 (99, [some (.ref 124), some (.int x), some (.int y), some (.int 0), some (.int (nI W)), some (.int (nI Hh)), some (.int (nI A)), l7], [], H') Q := by
  intro m
  induction m with
  | zero =>
    intro i H hi F B
    have e : i = A := by omega
    subst e
    refine ⟨H, F, B, fun d Q l7 => ?_⟩
    rw [x_238_75]
    simp only [x_238_77, x_238_79, x_238_81, x_238_82, cl2_i, cl2_r, cl2_n, cl2_l, tl_s, tl_n, true_and, and_true, Option.some.injEq, exists_eq_left', Bool.and_self, Bool.true_and, Bool.and_true, Bool.or_true, Bool.true_or, i_10, i_00, if_true, if_false, not_true_eq_false, not_false_eq_true, and_false, false_and, okp_sI, okp_sL, okp_aI, okp_aL, hR_sI, hR_sL, hR_aI, hR_aL, pk_mul, ← hAe]
    rw [if_pos (Int32.le_refl _)]
  | succ m ih =>
    intro i H hi F B
    have hlt : i < A := by omega
    have hwH := F.WF hw
    obtain ⟨H', F', B', eq⟩ := ih (i + 1) (sI H 160 i 0) (by omega) (F.sI rfl) (fun x hx => by
      by_cases ex : x = i
      · rw [ex, rd_eq]
      · rw [rd_ne (by omega)]; exact B x (by omega))
    refine ⟨H', F', B', fun d Q l7 => ?_⟩
    rw [x_238_75]
    simp only [x_238_77, x_238_79, x_238_81, x_238_82, x_238_85, x_238_86, x_238_89, x_238_91, x_238_92, x_238_93, x_238_96, o_124 hwH, w_124_58 hwH, o_160 hwH, iOk_lt (k := 160) (by decide), iRd_lt (k := 160) (by decide), show LN 160 = 1600 from rfl, cl2_i, cl2_r, cl2_n, cl2_l, tl_s, tl_n, true_and, and_true, Option.some.injEq, exists_eq_left', Bool.and_self, Bool.true_and, Bool.and_true, Bool.or_true, Bool.true_or, i_10, i_00, if_true, if_false, not_true_eq_false, not_false_eq_true, and_false, false_and, okp_sI, okp_sL, okp_aI, okp_aL, hR_sI, hR_sL, hR_aI, hR_aL, pk_mul, ← hAe, inb_nI (n := 1600) (show i < 1600 by omega) (by decide), nI_clamp (n := i) (by omega), nI_1]
    rw [if_neg (nI_ge hlt (by omega))]
    exact eq d Q l7
theorem m_dr_p {x y : Int32} (hw : WF h) (PM : PtM h L P) (hPl : P.length ≤ 7776) (hR : ∀ p, p ∈ L → Rg p) (hA : A ≤ 1600) (hAe : A = W * Hh) (hW : W = (b - a).toNat + 3) (hH : Hh = (g - c0).toNat + 3) (a6 : hI h 124 41 = iv a) (c8 : hI h 124 43 = iv c0) (hb : ∀ p, p ∈ L → (a ≤ p.1 ∧ p.1 ≤ b) ∧ (c0 ≤ p.2 ∧ p.2 ≤ g)) : ∀ (m i : Nat) (H : PH), i + m = P.length → Fq (fun a _ => a = 160) h H → FA H 160 (FL a c0 W (P.take i)) A → ∃ H', Fq (fun a _ => a = 160) h H' ∧ FA H' 160 (FL a c0 W P) A ∧ ∀ d Q l7, Tr sc d 238 (102, [some (.ref 124), some (.int x), some (.int y), some (.int 0), some (.int (nI W)), some (.int (nI Hh)), some (.int (nI i)), l7], [], H) Q = Tr sc d 238 (155, [some (.ref 124), some (.int x), some (.int y), some (.int 0), some (.int (nI W)), some (.int (nI Hh)), some (.int (nI P.length)), l7], [], H') Q := by
  obtain ⟨p1, -, p4, -, -, p7, -, -⟩ := PM
  have hWA : W ≤ A := by rw [hAe]; exact Nat.le_mul_of_pos_right W (by omega)
  intro m
  induction m with
  | zero =>
    intro i H hi F B
    have e : i = P.length := by omega
    subst e
    have hwH := F.WF hw
    rw [List.take_length] at B
    refine ⟨H, F, B, fun d Q l7 => ?_⟩
    rw [x_238_102]
    simp only [x_238_104, x_238_105, x_238_108, o_124 hwH, cl2_i, cl2_r, cl2_n, cl2_l, tl_s, tl_n, true_and, and_true, Option.some.injEq, exists_eq_left', Bool.and_self, Bool.true_and, Bool.and_true, Bool.or_true, Bool.true_or, i_10, i_00, if_true, if_false, not_true_eq_false, not_false_eq_true, and_false, false_and, okp_sI, okp_sL, okp_aI, okp_aL, hR_sI, hR_sL, hR_aI, hR_aL, F.i (a := 124) (b := 36) (by omega), p1]
    rw [if_pos (Int32.le_refl _)]
  | succ m ih =>
    intro i H hi F B
    have hlt : i < P.length := by omega
    have hwH := F.WF hw
    have hp := (p7 _).mp (gd_mem hlt)
    obtain ⟨b1, b2⟩ := hb _ hp
    obtain ⟨⟨g1, g2⟩, g3, g4⟩ := hR _ hp
    have il := idx_lt hW hH hAe b1 b2
    obtain ⟨q1, q2⟩ := p4 i hlt
    have q1' : hI H 146 i = iv (P.getD i pt0).1 := by rw [F.i (by omega)]; exact q1
    have q2' : hI H 147 i = iv (P.getD i pt0).2 := by rw [F.i (by omega)]; exact q2
    obtain ⟨H', F', B', eq⟩ := ih (i + 1) (sI H 160 (idx a c0 W (P.getD i pt0)) 1) (by omega) (F.sI rfl) (fun x hx => by
      rw [FL_s hlt]
      by_cases ex : x = idx a c0 W (P.getD i pt0)
      · rw [if_pos ex, ex, rd_eq]; rfl
      · rw [if_neg ex, rd_ne (by omega)]; exact B x hx)
    generalize hpp : P.getD i pt0 = p at *
    have e3 : nI W * (iv p.2 - iv c0 + 1) + iv p.1 - iv a + 1 = nI (idx a c0 W p) := by
      have e2 : iv p.2 - iv c0 + 1 = nI ((p.2 - c0).toNat + 1) := by
        rw [show (1 : Int32) = iv 1 from rfl, iv_sub, iv_add, iv_n]
        congr 1
        omega
      rw [e2, pk_mul, iv_n, show (1 : Int32) = iv 1 from rfl, iv_add, iv_sub, iv_add, iv_n]
      congr 1
      unfold idx
      rw [Nat.mul_comm W]
      omega
    refine ⟨H', F', B', fun d Q l7 => ?_⟩
    rw [x_238_102]
    simp only [x_238_104, x_238_105, x_238_108, x_238_111, x_238_112, x_238_115, x_238_117, x_238_118, x_238_121, x_238_123, x_238_124, x_238_125, x_238_128, x_238_129, x_238_130, x_238_131, x_238_132, x_238_133, x_238_136, x_238_138, x_238_139, x_238_140, x_238_141, x_238_144, x_238_145, x_238_146, x_238_147, x_238_148, x_238_149, x_238_152, o_124 hwH, w_124_39 hwH, w_124_40 hwH, w_124_58 hwH, o_160 hwH, iOk_lt (k := 160) (by decide), iRd_lt (k := 160) (by decide), show LN 160 = 1600 from rfl, o_147 hwH, iOk_lt (k := 147) (by decide), iRd_lt (k := 147) (by decide), show LN 147 = 7776 from rfl, o_146 hwH, iOk_lt (k := 146) (by decide), iRd_lt (k := 146) (by decide), show LN 146 = 7776 from rfl, cl2_i, cl2_r, cl2_n, cl2_l, tl_s, tl_n, true_and, and_true, Option.some.injEq, exists_eq_left', Bool.and_self, Bool.true_and, Bool.and_true, Bool.or_true, Bool.true_or, i_10, i_00, if_true, if_false, not_true_eq_false, not_false_eq_true, and_false, false_and, okp_sI, okp_sL, okp_aI, okp_aL, hR_sI, hR_sL, hR_aI, hR_aL, F.i (a := 124) (b := 36) (by omega), F.i (a := 124) (b := 41) (by omega), F.i (a := 124) (b := 43) (by omega), p1, a6, c8, inb_nI (n := 7776) (show i < 7776 by omega) (by decide), nI_clamp (n := i) (by omega), q1', q2', e3, inb_nI (n := 1600) (show idx a c0 W p < 1600 by omega) (by decide), nI_clamp (n := idx a c0 W p) (by omega), nI_1]
    rw [if_neg (nI_ge hlt (by omega))]
    exact eq d Q l7
theorem PPc_Sc {a b : Nat} (q : PPc a b) : Sc a b := by unfold PPc at q; unfold Sc; omega
theorem PPd_Sc {a b : Nat} (q : PPd a b) : Sc a b := by unfold PPd at q; unfold Sc; omega
theorem PPm_Sc {a b : Nat} (q : PPm a b) : Sc a b := by unfold PPm at q; unfold Sc; omega
theorem both_holes {x y : Int32} (hc : CM h) : Both sc 130 238 [.int x, .int y] h := by
  have hw := hc.1
  refine glue_sh (x := x) (T := 0 ≤ y ∧ y ≤ 3) (CC := fun Q => Tr sc 19 130 (17, [some (.ref 0), some (.int x), some (.int y), some (.int 0)], [], h) Q) (MC := fun h1 Q => Tr sc 19 238 (14, [some (.ref 124), some (.int x), some (.int y), some (.int 0), none, none, none, none], [], h1) Q) hc (fun Q => ?_) (fun h1 Q hw1 => ?_) (fun s hs hx hT hA => ?_) (fun A B hAB q => Tr_mono q hAB)
  · rw [e_130]
    simp only [x_130_0, x_130_1, x_130_2, x_130_3, x_130_4, x_130_7, x_130_10, x_130_11, x_130_12, x_130_15, x_130_16, o_0 hw, cl2_i, cl2_r, cl2_n, cl2_l, tl_s, tl_n, true_and, and_true, Option.some.injEq, exists_eq_left', Bool.and_self, Bool.true_and, Bool.and_true, Bool.or_true, Bool.true_or, i_10, i_00, if_true, if_false, not_true_eq_false, not_false_eq_true, and_false, false_and, okp_sI, okp_sL, okp_aI, okp_aL, hR_sI, hR_sL, hR_aI, hR_aL, c_isStep, c_shR hw, bI_0, Classical.not_not, i_1m1, i_3m1]
  · rw [e_238]
    simp only [x_238_0, x_238_1, x_238_2, x_238_3, x_238_4, x_238_7, x_238_8, x_238_9, x_238_12, x_238_13, o_124 hw1, cl2_i, cl2_r, cl2_n, cl2_l, tl_s, tl_n, true_and, and_true, Option.some.injEq, exists_eq_left', Bool.and_self, Bool.true_and, Bool.and_true, Bool.or_true, Bool.true_or, i_10, i_00, if_true, if_false, not_true_eq_false, not_false_eq_true, and_false, false_and, okp_sI, okp_sL, okp_aI, okp_aL, hR_sI, hR_sL, hR_aI, hR_aL, m_aStep (d := 15) hw1, i_m1, i_m3, i_0]
  · subst hx
    obtain ⟨N, hN, rfl⟩ := nI_of2 (M := 3) (n := 3) rfl (Int32.not_lt.mpr hT.1) hT.2
    obtain ⟨kd, b, M, tn, sx, sy, ex, W, C, D⟩ := sh_ab hA
    obtain ⟨w1, w2, -⟩ := hw.shape hs
    obtain ⟨H1, e, f1, I1, he, eq1⟩ := g_gather (sc := sc) (N := N) hw hs C W (by omega)
    have hw1 := f1.WF hw
    have fS := f1.wk (fun a b q => Pcl_Sc q)
    have i2 := I1.2.2.1
    have i0 := I1.1.2
    have i6 := I1.2.2.2.2.2.2.1
    have e7 : rmC 16 = 7776 := rfl
    have D1 := D.fr fS (fun a j h1 h2 => by unfold Sc; omega)
    by_cases q : (dd ((Ws b M tn sx sy kd ex N).map ptW)).length = 0
    · rw [q] at i2
      simp only [x_130_17, x_130_18, x_130_21, x_130_22, x_130_25, x_130_26, x_130_27, x_130_28, o_0 hw, w_0_2 hw, w_0_7 hw, o_16 hw, o_3 hw, show LN 3 = 8 from rfl, x_130_31, x_130_32, x_130_35, x_130_38, x_130_41, x_130_42, o_0 hw1, w_0_7 hw1, o_16 hw1, cl2_i, cl2_r, cl2_n, cl2_l, tl_s, tl_n, true_and, and_true, Option.some.injEq, exists_eq_left', Bool.and_self, Bool.true_and, Bool.and_true, Bool.or_true, Bool.true_or, i_10, i_00, if_true, if_false, not_true_eq_false, not_false_eq_true, and_false, false_and, okp_sI, okp_sL, okp_aI, okp_aL, hR_sI, hR_sL, hR_aI, hR_aL, inb_nI (n := 8) hs (by decide), nI_clamp (n := s) (by omega), w1, w2, eq1, i2, nI_0]
      obtain ⟨H2, P, f2, PM, eq2⟩ := m_setPoints (sc := sc) (d := 16) (N := N) hw1 hs D1 W (by omega)
      have hw2 := f2.WF hw1
      have p1 := PM.1
      have p9 := PM.2.2.2.2.2.2.2
      rw [p9, q] at p1
      refine ⟨hw1, fS.i (by unfold Sc; omega), ?_⟩
      simp only [x_238_14, x_238_15, x_238_16, x_238_17, o_124 hw1, x_238_20, x_238_21, x_238_24, x_238_27, x_238_28, o_124 hw2, cl2_i, cl2_r, cl2_n, cl2_l, tl_s, tl_n, true_and, and_true, Option.some.injEq, exists_eq_left', Bool.and_self, Bool.true_and, Bool.and_true, Bool.or_true, Bool.true_or, i_10, i_00, if_true, if_false, not_true_eq_false, not_false_eq_true, and_false, false_and, okp_sI, okp_sL, okp_aI, okp_aL, hR_sI, hR_sL, hR_aI, hR_aL, eq2, p1, nI_0]
      first | exact cm_e0 hc (fS.tr (f2.wk (fun a b q => P47_Sc q))) | exact ⟨rfl, cm_e0 hc (fS.tr (f2.wk (fun a b q => P47_Sc q)))⟩ | exact ⟨⟨_, rfl, rfl⟩, cm_e0 hc (fS.tr (f2.wk (fun a b q => P47_Sc q)))⟩
    · have n0 : (nI (dd ((Ws b M tn sx sy kd ex N).map ptW)).length = 0) = False := eq_false (nI_ne0 (by omega) (by omega))
      have hL : (Ws b M tn sx sy kd ex N).map ptW ≠ [] := fun z => q (by rw [z]; rfl)
      obtain ⟨a, b', c, g, ⟨la, a6⟩, ⟨hb, b7⟩, ⟨lc, c8⟩, hg, g9⟩ := I1.2.2.2.2.2.2.2 hL
      generalize hWd : (b' - a).toNat + 3 = Wd
      generalize hHh : (g - c).toNat + 3 = Hh
      generalize hAA : Wd * Hh = A
      have ra : -4096 ≤ a ∧ a < 4096 := by obtain ⟨u, hu, eu⟩ := la.2; have := (i6 u hu).1; dsimp only at eu; omega
      have rb : -4096 ≤ b' ∧ b' < 4096 := by obtain ⟨u, hu, eu⟩ := hb.2; have := (i6 u hu).1; dsimp only at eu; omega
      have rc : -4096 ≤ c ∧ c < 4096 := by obtain ⟨u, hu, eu⟩ := lc.2; have := (i6 u hu).2; dsimp only at eu; omega
      have rg : -4096 ≤ g ∧ g < 4096 := by obtain ⟨u, hu, eu⟩ := hg.2; have := (i6 u hu).2; dsimp only at eu; omega
      have ab : a ≤ b' := by obtain ⟨u, hu, eu⟩ := la.2; have := hb.1 u hu; dsimp only at eu this; omega
      have cg : c ≤ g := by obtain ⟨u, hu, eu⟩ := lc.2; have := hg.1 u hu; dsimp only at eu this; omega
      have Ab : A ≤ 8200 * 8200 := by rw [← hAA]; exact Nat.mul_le_mul (by omega) (by omega)
      have hWA : Wd ≤ A := by rw [← hAA]; exact Nat.le_mul_of_pos_right Wd (by omega)
      obtain ⟨H3, f3, B3, eq3⟩ := c_draw (sc := sc) hw1 I1 hL a6 b7 c8 g9 la hb lc hg hWd.symm hHh.symm hAA.symm
      have hw3 := f3.WF hw1
      have fS3 : Fq Sc h H3 := fS.tr (f3.wk (fun a b q => PPd_Sc q))
      have mrun : ∀ (H4 : PH), Fq Sc h H4 → ∃ H6 v, Fq Sc H4 H6 ∧ v = (if A ≤ 1600 then nI (hol Wd A A 0 (FL a c Wd (dd ((Ws b M tn sx sy kd ex N).map ptW))) 0) - 1 else -6) ∧ ∀ Q, Tr sc 19 238 (14, [some (.ref 124), some (.int (nI s)), some (.int (nI N)), some (.int 0), none, none, none, none], [], H4) Q = Q (some (.int v), H6) := by
        intro H4 f4
        have hw4 := f4.WF hw
        have D4 := D.fr f4 (fun a j h1 h2 => by unfold Sc; omega)
        obtain ⟨H5, P, f5, PM, eq5⟩ := m_setPoints (sc := sc) (d := 16) (N := N) hw4 hs D4 W (by omega)
        have hw5 := f5.WF hw4
        have p1 := PM.1
        have p7 := PM.2.2.2.2.2.1
        have p9 := PM.2.2.2.2.2.2.2
        obtain ⟨a', b'', c', g', ⟨q1, q2, q3, q4⟩, ⟨q5, q6, q7, q8⟩, -⟩ := bd_two I1 PM q
        have ea : iv a' = iv a := by rw [← q1, a6]
        have eb : iv b'' = iv b' := by rw [← q2, b7]
        have ec : iv c' = iv c := by rw [← q3, c8]
        have eg : iv g' = iv g := by rw [← q4, g9]
        rw [ea] at q5
        rw [eb] at q6
        rw [ec] at q7
        rw [eg] at q8
        have e1 : iv b' - iv a + 3 = nI Wd := by
          rw [show (3 : Int32) = iv 3 from rfl, iv_sub, iv_add, iv_n]
          congr 1
          omega
        have e2 : iv g - iv c + 3 = nI Hh := by
          rw [show (3 : Int32) = iv 3 from rfl, iv_sub, iv_add, iv_n]
          congr 1
          omega
        have e3 : (nI Wd).toInt64 * (nI Hh).toInt64 = jv (A : Int) := by
          rw [nI_j (by omega), nI_j (by omega), jv_mul, ← hAA, Int.natCast_mul]
        have p1' : hI H5 124 36 = nI (dd ((Ws b M tn sx sy kd ex N).map ptW)).length := by rw [p1, p9]
        have lead : ∀ Q, Tr sc 19 238 (14, [some (.ref 124), some (.int (nI s)), some (.int (nI N)), some (.int 0), none, none, none, none], [], H4) Q = if (A : Int) ≤ 1600 then Tr sc 19 238 (72, [some (.ref 124), some (.int (nI s)), some (.int (nI N)), some (.int 0), some (.int (nI Wd)), some (.int (nI Hh)), none, none], [], H5) Q else Q (some (.int (-6)), H5) := by
          intro Q
          simp only [x_238_14, x_238_15, x_238_16, x_238_17, o_124 hw4, x_238_20, x_238_21, x_238_24, o_124 hw5, x_238_29, x_238_30, x_238_33, x_238_34, x_238_37, x_238_38, x_238_39, x_238_40, x_238_42, x_238_43, x_238_46, x_238_47, x_238_50, x_238_51, x_238_52, x_238_53, x_238_55, x_238_57, x_238_58, x_238_60, x_238_61, x_238_62, x_238_65, x_238_66, x_238_69, x_238_71, o_124 hw5, cl2_i, cl2_r, cl2_n, cl2_l, tl_s, tl_n, true_and, and_true, Option.some.injEq, exists_eq_left', Bool.and_self, Bool.true_and, Bool.and_true, Bool.or_true, Bool.true_or, i_10, i_00, if_true, if_false, not_true_eq_false, not_false_eq_true, and_false, false_and, okp_sI, okp_sL, okp_aI, okp_aL, hR_sI, hR_sL, hR_aI, hR_aL, eq5, p1', n0, q5, q6, q7, q8, e1, e2, e3, lcmp_le, jv_t (z := (A : Int)) ⟨by omega, by omega⟩, show (1600 : Int64).toInt = 1600 from rfl]
        by_cases qA : A ≤ 1600
        · have pl : P.length ≤ 7776 := by omega
          obtain ⟨H6, f6, B6, eq6⟩ := m_dr_0 (sc := sc) (x := nI s) (y := nI N) hw5 qA hAA.symm A 0 H5 (by omega) Fq.rf (fun x hx => absurd hx (Nat.not_lt_zero _))
          have hw6 := f6.WF hw5
          have PM6 : PtM H6 ((Ws b M tn sx sy kd ex N).map ptW) P := by
            obtain ⟨r1, ⟨v, r2, r3⟩, r4, r5, r6⟩ := PM
            refine ⟨by rw [f6.i (by omega)]; exact r1, ⟨v, r2, by rw [f6.i (by omega)]; exact r3⟩, fun j hj => by rw [f6.i (by omega), f6.i (by omega)]; exact r4 j hj, fun z => ?_, r6⟩
            obtain ⟨t1, t2, t3, t4, u1, u2, u3, u4⟩ := r5 z
            exact ⟨t1, t2, t3, t4, by rw [f6.i (by omega)]; exact u1, by rw [f6.i (by omega)]; exact u2, by rw [f6.i (by omega)]; exact u3, by rw [f6.i (by omega)]; exact u4⟩
          obtain ⟨H7, f7, B7, eq7⟩ := m_dr_p (sc := sc) (x := nI s) (y := nI N) hw6 PM6 pl i6 qA hAA.symm hWd.symm hHh.symm (by rw [f6.i (by omega)]; exact q5) (by rw [f6.i (by omega)]; exact q7) (fun p hp => ⟨⟨la.1 p hp, hb.1 p hp⟩, lc.1 p hp, hg.1 p hp⟩) P.length 0 H6 (by omega) Fq.rf (fun x hx => by rw [B6 x hx]; rfl)
          have hw7 := f7.WF hw6
          rw [← FL_cg (L := dd ((Ws b M tn sx sy kd ex N).map ptW)) (P := P) (fun p => by rw [dd_mem, p7])] at B7
          obtain ⟨H8, f8, eq8⟩ := m_ch_l (sc := sc) (x := nI s) (y := nI N) hw7 qA hAA.symm (by omega) (by omega) hWA A 0 _ 0 H7 (by omega) Fq.rf B7
          refine ⟨H8, _, (f5.wk (fun a b q => P47_Sc q)).tr ((f6.wk (fun a b q => by unfold Sc; omega)).tr ((f7.wk (fun a b q => by unfold Sc; omega)).tr (f8.wk (fun a b q => PPm_Sc q)))), rfl, fun Q => ?_⟩
          rw [lead, if_pos (show (A : Int) ≤ 1600 by omega), if_pos qA]
          simp only [x_238_72, x_238_73, cl2_i, cl2_r, cl2_n, cl2_l, tl_s, tl_n, true_and, and_true, Option.some.injEq, exists_eq_left', Bool.and_self, Bool.true_and, Bool.and_true, Bool.or_true, Bool.true_or, i_10, i_00, if_true, if_false, not_true_eq_false, not_false_eq_true, and_false, false_and, okp_sI, okp_sL, okp_aI, okp_aL, hR_sI, hR_sL, hR_aI, hR_aL]
          refine (eq6 19 Q none).trans ?_
          simp only [x_238_99, x_238_100, cl2_i, cl2_r, cl2_n, cl2_l, tl_s, tl_n, true_and, and_true, Option.some.injEq, exists_eq_left', Bool.and_self, Bool.true_and, Bool.and_true, Bool.or_true, Bool.true_or, i_10, i_00, if_true, if_false, not_true_eq_false, not_false_eq_true, and_false, false_and, okp_sI, okp_sL, okp_aI, okp_aL, hR_sI, hR_sL, hR_aI, hR_aL]
          refine (eq7 19 Q none).trans ?_
          simp only [x_238_155, x_238_156, x_238_158, x_238_159, cl2_i, cl2_r, cl2_n, cl2_l, tl_s, tl_n, true_and, and_true, Option.some.injEq, exists_eq_left', Bool.and_self, Bool.true_and, Bool.and_true, Bool.or_true, Bool.true_or, i_10, i_00, if_true, if_false, not_true_eq_false, not_false_eq_true, and_false, false_and, okp_sI, okp_sL, okp_aI, okp_aL, hR_sI, hR_sL, hR_aI, hR_aL]
          exact eq8 18 Q
        · refine ⟨H5, _, f5.wk (fun a b q => P47_Sc q), rfl, fun Q => ?_⟩
          rw [lead, if_neg (show ¬ (A : Int) ≤ 1600 by omega), if_neg qA]
      simp only [x_130_17, x_130_18, x_130_21, x_130_22, x_130_25, x_130_26, x_130_27, x_130_28, o_0 hw, w_0_2 hw, w_0_7 hw, o_16 hw, o_3 hw, show LN 3 = 8 from rfl, x_130_31, x_130_32, x_130_35, x_130_38, o_0 hw1, w_0_7 hw1, o_16 hw1, x_130_43, x_130_44, x_130_47, x_130_48, x_130_51, x_130_54, o_0 hw1, w_0_7 hw1, w_0_12 hw1, o_44 hw1, o_16 hw1, cl2_i, cl2_r, cl2_n, cl2_l, tl_s, tl_n, true_and, and_true, Option.some.injEq, exists_eq_left', Bool.and_self, Bool.true_and, Bool.and_true, Bool.or_true, Bool.true_or, i_10, i_00, if_true, if_false, not_true_eq_false, not_false_eq_true, and_false, false_and, okp_sI, okp_sL, okp_aI, okp_aL, hR_sI, hR_sL, hR_aI, hR_aL, inb_nI (n := 8) hs (by decide), nI_clamp (n := s) (by omega), w1, w2, eq1, i2, n0, eq3]
      by_cases qA : A ≤ 1600
      · obtain ⟨b3, b4, b5⟩ := B3 qA
        obtain ⟨H4, f4, eq4⟩ := c_ch_l (sc := sc) hw3 qA hAA.symm (by omega) hWA b3 b4 A 0 _ 0 H3 (by omega) Fq.rf b5
        have hw4 := f4.WF hw3
        have fS4 : Fq Sc h H4 := fS3.tr (f4.wk (fun a b q => PPc_Sc q))
        obtain ⟨H6, v, f6, ev, eq6⟩ := mrun H4 fS4
        rw [if_pos qA] at ev
        have eq4' : ∀ Q, Tr sc 18 32 (ent0 32 [.ref 44] H3) Q = Q (some (.int (nI (hol Wd A A 0 (FL a c Wd (dd ((Ws b M tn sx sy kd ex N).map ptW))) 0) - 1)), H4) := fun Q => by
          rw [e_32]
          simp only [x_32_0, x_32_1, x_32_2, x_32_3, cl2_i, cl2_r, cl2_n, cl2_l, tl_s, tl_n, true_and, and_true, Option.some.injEq, exists_eq_left', Bool.and_self, Bool.true_and, Bool.and_true, Bool.or_true, Bool.true_or, i_10, i_00, if_true, if_false, not_true_eq_false, not_false_eq_true, and_false, false_and, okp_sI, okp_sL, okp_aI, okp_aL, hR_sI, hR_sL, hR_aI, hR_aL]
          exact eq4 16 Q
        rw [if_pos qA]
        simp only [x_130_54, x_130_57, x_130_59, x_130_60, x_130_61, x_130_64, x_130_67, o_0 hw3, w_0_12 hw3, o_44 hw3, cl2_i, cl2_r, cl2_n, cl2_l, tl_s, tl_n, true_and, and_true, Option.some.injEq, exists_eq_left', Bool.and_self, Bool.true_and, Bool.and_true, Bool.or_true, Bool.true_or, i_10, i_00, if_true, if_false, not_true_eq_false, not_false_eq_true, and_false, false_and, okp_sI, okp_sL, okp_aI, okp_aL, hR_sI, hR_sL, hR_aI, hR_aL, eq4']
        refine ⟨hw4, fS4.i (by unfold Sc; omega), ?_⟩
        rw [eq6, ev]
        first | exact cm_e0 hc (fS4.tr f6) | exact ⟨rfl, cm_e0 hc (fS4.tr f6)⟩ | exact ⟨⟨_, rfl, rfl⟩, cm_e0 hc (fS4.tr f6)⟩
      · obtain ⟨H6, v, f6, ev, eq6⟩ := mrun H3 fS3
        rw [if_neg qA] at ev
        rw [if_neg qA]
        simp only [x_130_54, x_130_57, x_130_59, cl2_i, cl2_r, cl2_n, cl2_l, tl_s, tl_n, true_and, and_true, Option.some.injEq, exists_eq_left', Bool.and_self, Bool.true_and, Bool.and_true, Bool.or_true, Bool.true_or, i_10, i_00, if_true, if_false, not_true_eq_false, not_false_eq_true, and_false, false_and, okp_sI, okp_sL, okp_aI, okp_aL, hR_sI, hR_sL, hR_aI, hR_aL]
        refine ⟨hw3, fS3.i (by unfold Sc; omega), ?_⟩
        rw [eq6, ev]
        first | exact cm_e0 hc (fS3.tr f6) | exact ⟨rfl, cm_e0 hc (fS3.tr f6)⟩ | exact ⟨⟨_, rfl, rfl⟩, cm_e0 hc (fS3.tr f6)⟩
end HD
