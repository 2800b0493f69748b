/-! ===== same ===== -/
def mvQ (p : Pnt) (x y : Int) : Pnt := (p.1 + x, p.2 + y)
def DfA (A B : List Pnt) (j : Nat) : Prop := (B.getD j pt0).1 - (A.getD j pt0).1 = (B.getD 0 pt0).1 - (A.getD 0 pt0).1 ∧ (B.getD j pt0).2 - (A.getD j pt0).2 = (B.getD 0 pt0).2 - (A.getD 0 pt0).2
def Psa (a b : Nat) : Prop := P47 a b ∨ a = 162 ∨ a = 163
section SA
variable {sc : Nat × (Nat → Int32)} {d : Nat} {Q : PRes → Prop} {h h' h1 H G : PH} {c k e e2 i j l n t u b M N s a : Nat} {L L2 P A B : List Pnt} {K : List Wrd} {p : Pnt} {kd x y z w : Int32} {tn : Nat → Nat} {sx sy ex : Nat → Int} {dx dy : Int}
theorem gd_mp {f : Pnt → Int} (hj : j < A.length) : (A.map f).getD j 0 = f (A.getD j pt0) := by
  rw [List.getD_eq_getElem?_getD, List.getElem?_map, gd_ix hj, List.getElem?_eq_getElem hj]; rfl
theorem same_to (hA : (A.map ky2).Pairwise (· < ·)) (hB : (B.map ky2).Pairwise (· < ·)) (hl : A.length = B.length) (hr : ∀ p, p ∈ B → Rg p) (h : ∀ p, p ∈ A → mvQ p dx dy ∈ B) : ∀ j, j < A.length → B.getD j pt0 = mvQ (A.getD j pt0) dx dy := by
  intro j hj
  have e := congrArg (fun l => l.getD j 0) (srt_mv hA hB hl h)
  try dsimp only at e
  rw [gd_mp (by omega), gd_mp hj, ← ky2_mv] at e
  have hm := h _ (gd_mem hj)
  exact ky2_inj (Rg_w (hr _ (gd_mem (by omega)))) (Rg_w (hr _ hm)) e
theorem same_df (h0 : 0 < A.length) (h : ∀ j, j < A.length → B.getD j pt0 = mvQ (A.getD j pt0) dx dy) : (∀ j, j < A.length → DfA A B j) ∧ (B.getD 0 pt0).1 - (A.getD 0 pt0).1 = dx := by
  have key : ∀ j, j < A.length → (B.getD j pt0).1 - (A.getD j pt0).1 = dx ∧ (B.getD j pt0).2 - (A.getD j pt0).2 = dy := fun j hj => by
    rw [h j hj]
    unfold mvQ
    dsimp only
    omega
  refine ⟨fun j hj => ?_, (key 0 h0).1⟩
  obtain ⟨k1, k2⟩ := key j hj
  obtain ⟨k3, k4⟩ := key 0 h0
  exact ⟨by omega, by omega⟩
theorem same_fr {a1 a2 b1 b2 : Int} (h0 : 0 < A.length) (hl : A.length = B.length) (la1 : Lo (·.1) A a1) (la2 : Lo (·.2) A a2) (lb1 : Lo (·.1) B b1) (lb2 : Lo (·.2) B b2) (h : ∀ j, j < A.length → DfA A B j) : ∀ p, p ∈ A → mvQ p (b1 - a1) (b2 - a2) ∈ B := by
  generalize ex : (B.getD 0 pt0).1 - (A.getD 0 pt0).1 = dx
  generalize ey : (B.getD 0 pt0).2 - (A.getD 0 pt0).2 = dy
  have key : ∀ j, j < A.length → B.getD j pt0 = mvQ (A.getD j pt0) dx dy := fun j hj => by
    obtain ⟨k1, k2⟩ := h j hj
    unfold mvQ
    exact Prod.ext (by dsimp only; omega) (by dsimp only; omega)
  have l1 : Lo (·.1) B (a1 + dx) := by
    refine ⟨fun q hq => ?_, ?_⟩
    · obtain ⟨j, hj, e⟩ := mem_gd hq
      rw [← e, key j (by omega)]
      have : a1 ≤ (A.getD j pt0).1 := la1.1 _ (gd_mem (show j < A.length by omega))
      show a1 + dx ≤ (A.getD j pt0).1 + dx
      omega
    · obtain ⟨q, hq, e⟩ := la1.2
      obtain ⟨j, hj, e'⟩ := mem_gd hq
      refine ⟨B.getD j pt0, gd_mem (by omega), ?_⟩
      rw [key j hj, e', ← e]; rfl
  have l2 : Lo (·.2) B (a2 + dy) := by
    refine ⟨fun q hq => ?_, ?_⟩
    · obtain ⟨j, hj, e⟩ := mem_gd hq
      rw [← e, key j (by omega)]
      have : a2 ≤ (A.getD j pt0).2 := la2.1 _ (gd_mem (show j < A.length by omega))
      show a2 + dy ≤ (A.getD j pt0).2 + dy
      omega
    · obtain ⟨q, hq, e⟩ := la2.2
      obtain ⟨j, hj, e'⟩ := mem_gd hq
      refine ⟨B.getD j pt0, gd_mem (by omega), ?_⟩
      rw [key j hj, e', ← e]; rfl
  have u1 := Lo_u lb1 l1
  have u2 := Lo_u lb2 l2
  intro p hp
  obtain ⟨j, hj, e⟩ := mem_gd hp
  rw [u1, u2, show a1 + dx - a1 = dx by omega, show a2 + dy - a2 = dy by omega, ← e, ← key j hj]
  exact gd_mem (by omega)
theorem c_amt (hw : WF h) (I : ClI h 16 e L) (I2 : ClI h 20 e2 L2) (hl2 : (dd L2).length < 2 ^ e2) (bx : -10000 ≤ dx ∧ dx ≤ 10000) (by' : -10000 ≤ dy ∧ dy ≤ 10000) : ∀ (m i : Nat), i + m = (dd L).length → ((∀ j, i ≤ j → j < (dd L).length → mvQ ((dd L).getD j pt0) dx dy ∈ L2) → Tr sc (d + 2) 21 (3, [some (.ref 16), some (.ref 20), some (.int (iv dx)), some (.int (iv dy)), some (.int (nI i))], [], h) Q = Q (some (.int 1), h)) ∧ ((∃ j, i ≤ j ∧ j < (dd L).length ∧ ¬ mvQ ((dd L).getD j pt0) dx dy ∈ L2) → Tr sc (d + 2) 21 (3, [some (.ref 16), some (.ref 20), some (.int (iv dx)), some (.int (iv dy)), some (.int (nI i))], [], h) Q = Q (some (.int 0), h)) := by
  have i2 := I.2.2.1
  have hb := I.1.2
  have e7 : rmC 16 = 7776 := rfl
  have i6 := I.2.2.2.2.2.2.1
  have ho := o_16 hw
  have ho2 := o_20 hw
  intro m
  induction m with
  | zero =>
    intro i hi
    have e : i = (dd L).length := by omega
    subst e
    refine ⟨fun _ => ?_, fun ⟨j, h1, h2, _⟩ => by omega⟩
    rw [x_21_3]
    simp only [x_21_5, x_21_6, x_21_9, x_21_43, x_21_44, cl2_i, cl2_r, cl2_n, cl2_l, tl_s, tl_n, true_and, and_true, Option.some.injEq, exists_eq_left', Bool.and_self, Bool.true_and, Bool.and_true, Bool.or_true, Bool.true_or, i_10, i_00, if_true, if_false, not_true_eq_false, not_false_eq_true, and_false, false_and, okp_sI, okp_sL, okp_aI, okp_aL, hR_sI, hR_sL, hR_aI, hR_aL, ho, i2, vp_b1]
    rw [if_pos (Int32.le_refl _)]
  | succ m ih =>
    intro i hi
    have hlt : i < (dd L).length := by omega
    obtain ⟨cx, cy⟩ := c_cxy (sc := sc) (d := d + 1) hw (Or.inl rfl : IsCl 16) I hlt
    have rg := i6 _ (dd_mem.mp (gd_mem hlt))
    obtain ⟨⟨g1, g2⟩, g3, g4⟩ := rg
    obtain ⟨ih1, ih2⟩ := ih (i + 1) (by omega)
    have r1 : R3 (mvQ ((dd L).getD i pt0) dx dy).1 := ⟨by show _ ≤ ((dd L).getD i pt0).1 + dx; omega, by show ((dd L).getD i pt0).1 + dx < _; omega⟩
    have r2 : R3 (mvQ ((dd L).getD i pt0) dx dy).2 := ⟨by show _ ≤ ((dd L).getD i pt0).2 + dy; omega, by show ((dd L).getD i pt0).2 + dy < _; omega⟩
    by_cases q : mvQ ((dd L).getD i pt0) dx dy ∈ L2
    · obtain ⟨u, hu, eu⟩ := mem_gd (dd_mem.mpr q)
      have ii : ∀ Q, Tr sc (d + 1) 17 (ent0 17 [.ref 20, .int (iv (((dd L).getD i pt0).1 + dx)), .int (iv (((dd L).getD i pt0).2 + dy))] h) Q = Q (some (.int (nI u)), h) := fun Q => c_indexOf_in (d := d) hw (Or.inr rfl : IsCl 20) I2 hu eu
      have hub := I2.1.2
      have e8 : rmC 20 = 1296 := rfl
      have lead : Tr sc (d + 2) 21 (3, [some (.ref 16), some (.ref 20), some (.int (iv dx)), some (.int (iv dy)), some (.int (nI i))], [], h) Q = Tr sc (d + 2) 21 (3, [some (.ref 16), some (.ref 20), some (.int (iv dx)), some (.int (iv dy)), some (.int (nI (i + 1)))], [], h) Q := by
        rw [x_21_3]
        simp only [x_21_5, x_21_6, x_21_9, x_21_12, x_21_13, x_21_14, x_21_16, x_21_19, x_21_20, x_21_21, x_21_22, x_21_24, x_21_27, x_21_28, x_21_29, x_21_32, x_21_35, x_21_36, x_21_37, x_21_40, cl2_i, cl2_r, cl2_n, cl2_l, tl_s, tl_n, true_and, and_true, Option.some.injEq, exists_eq_left', Bool.and_self, Bool.true_and, Bool.and_true, Bool.or_true, Bool.true_or, i_10, i_00, if_true, if_false, not_true_eq_false, not_false_eq_true, and_false, false_and, okp_sI, okp_sL, okp_aI, okp_aL, hR_sI, hR_sL, hR_aI, hR_aL, ho, ho2, i2, cx, cy, iv_add, ii, show (0 ≤ nI u) = True from eq_true (nI_pos' (by omega)), nI_1]
        rw [if_neg (nI_ge hlt (by omega))]
      rw [lead]
      refine ⟨fun z => ih1 (fun j h1 h2 => z j (by omega) h2), fun ⟨j, h1, h2, h3⟩ => ih2 ⟨j, ?_, h2, h3⟩⟩
      rcases Nat.lt_or_ge i j with z | z
      · exact z
      · exact absurd q (by rw [show i = j by omega]; exact h3)
    · refine ⟨fun z => absurd (z i (Nat.le_refl _) hlt) q, fun _ => ?_⟩
      have ii : ∀ Q, Tr sc (d + 1) 17 (ent0 17 [.ref 20, .int (iv (((dd L).getD i pt0).1 + dx)), .int (iv (((dd L).getD i pt0).2 + dy))] h) Q = Q (some (.int (-1)), h) := fun Q => c_indexOf_out (d := d) hw (Or.inr rfl : IsCl 20) I2 hl2 q r1 r2
      rw [x_21_3]
      simp only [x_21_5, x_21_6, x_21_9, x_21_12, x_21_13, x_21_14, x_21_16, x_21_19, x_21_20, x_21_21, x_21_22, x_21_24, x_21_27, x_21_28, x_21_29, x_21_32, x_21_35, x_21_36, cl2_i, cl2_r, cl2_n, cl2_l, tl_s, tl_n, true_and, and_true, Option.some.injEq, exists_eq_left', Bool.and_self, Bool.true_and, Bool.and_true, Bool.or_true, Bool.true_or, i_10, i_00, if_true, if_false, not_true_eq_false, not_false_eq_true, and_false, false_and, okp_sI, okp_sL, okp_aI, okp_aL, hR_sI, hR_sL, hR_aI, hR_aL, ho, ho2, i2, cx, cy, iv_add, ii, i_m1, vp_b0]
      rw [if_neg (nI_ge hlt (by omega))]
/-- the model keeps the first shape's points aside -/
theorem m_sa_c (hw : WF h) (hP : P.length ≤ 1296) (hA : ∀ j, j < P.length → hI h 146 j = iv (P.getD j pt0).1 ∧ hI h 147 j = iv (P.getD j pt0).2) : ∀ (m i : Nat) (H : PH), i + m = P.length → Fq (fun a _ => a = 162 ∨ a = 163) h H → (∀ j, j < i → hI H 162 j = iv (P.getD j pt0).1 ∧ hI H 163 j = iv (P.getD j pt0).2) → ∃ H', Fq (fun a _ => a = 162 ∨ a = 163) h H' ∧ (∀ j, j < P.length → hI H' 162 j = iv (P.getD j pt0).1 ∧ hI H' 163 j = iv (P.getD j pt0).2) ∧ ∀ Q, Tr sc d 241 (64, [some (.ref 124), some (.int x), some (.int y), some (.int z), some (.int (nI P.length)), some (.int (nI i)), none], [], H) Q = Tr sc d 241 (105, [some (.ref 124), some (.int x), some (.int y), some (.int z), some (.int (nI P.length)), some (.int (nI P.length)), none], [], H') Q := by
  intro m
  induction m with
  | zero =>
    intro i H hi F a1
    have e : i = P.length := by omega
    subst e
    refine ⟨H, F, a1, fun Q => ?_⟩
    rw [x_241_64]
    simp only [x_241_66, x_241_68, cl2_i, cl2_r, cl2_n, cl2_l, tl_s, tl_n, true_and, and_true, Option.some.injEq, exists_eq_left', Bool.and_self, Bool.true_and, Bool.and_true, Bool.or_true, Bool.true_or, i_10, i_00, if_true, if_false, not_true_eq_false, not_false_eq_true, and_false, false_and, okp_sI, okp_sL, okp_aI, okp_aL, hR_sI, hR_sL, hR_aI, hR_aL]
    rw [if_pos (Int32.le_refl _)]
  | succ m ih =>
    intro i H hi F a1
    have hlt : i < P.length := by omega
    have hwH := F.WF hw
    obtain ⟨q1, q2⟩ := hA i hlt
    have q1' : hI H 146 i = iv (P.getD i pt0).1 := by rw [F.i (by omega)]; exact q1
    have q2' : hI H 147 i = iv (P.getD i pt0).2 := by rw [F.i (by omega)]; exact q2
    obtain ⟨H', F', a', eq⟩ := ih (i + 1) (sI (sI H 162 i (iv (P.getD i pt0).1)) 163 i (iv (P.getD i pt0).2)) (by omega) ((F.sI (Or.inl rfl)).sI (Or.inr rfl)) (fun j hj => by
      by_cases ej : j = i
      · rw [ej, rd_ne (by omega), rd_eq, rd_eq]
        exact ⟨rfl, rfl⟩
      · rw [rd_ne (by omega), rd_ne (by omega), rd_ne (by omega), rd_ne (by omega)]
        exact a1 j (by omega))
    refine ⟨H', F', a', fun Q => ?_⟩
    rw [x_241_64]
    simp only [x_241_66, x_241_68, x_241_71, x_241_72, x_241_75, x_241_77, x_241_78, x_241_81, x_241_83, x_241_84, x_241_85, x_241_86, x_241_89, x_241_91, x_241_92, x_241_95, x_241_97, x_241_98, x_241_99, x_241_102, o_124 hwH, w_124_39 hwH, w_124_40 hwH, w_124_60 hwH, w_124_61 hwH, o_162 hwH, iOk_lt (k := 162) (by decide), iRd_lt (k := 162) (by decide), show LN 162 = 1296 from rfl, o_146 hwH, iOk_lt (k := 146) (by decide), iRd_lt (k := 146) (by decide), show LN 146 = 7776 from rfl, o_163 hwH, iOk_lt (k := 163) (by decide), iRd_lt (k := 163) (by decide), show LN 163 = 1296 from rfl, o_147 hwH, iOk_lt (k := 147) (by decide), iRd_lt (k := 147) (by decide), show LN 147 = 7776 from rfl, cl2_i, cl2_r, cl2_n, cl2_l, tl_s, tl_n, true_and, and_true, Option.some.injEq, exists_eq_left', Bool.and_self, Bool.true_and, Bool.and_true, Bool.or_true, Bool.true_or, i_10, i_00, if_true, if_false, not_true_eq_false, not_false_eq_true, and_false, false_and, okp_sI, okp_sL, okp_aI, okp_aL, hR_sI, hR_sL, hR_aI, hR_aL, inb_nI (n := 7776) (show i < 7776 by omega) (by decide), inb_nI (n := 1296) (show i < 1296 by omega) (by decide), nI_clamp (n := i) (by omega), q1', rd_ne (q := 162) (a := 147) (Or.inl (by decide)), q2', nI_1]
    rw [if_neg (nI_ge hlt (by omega))]
    exact eq Q
theorem rg_gd (hr : ∀ p, p ∈ A → Rg p) (hj : j < A.length) : Rg (A.getD j pt0) := hr _ (gd_mem hj)
theorem m_sa_l (hw : WF h) (hP : A.length ≤ 1296) (hl : A.length = B.length) (rA : ∀ p, p ∈ A → Rg p) (rB : ∀ p, p ∈ B → Rg p) (hA : ∀ j, j < A.length → hI h 162 j = iv (A.getD j pt0).1 ∧ hI h 163 j = iv (A.getD j pt0).2) (hB : ∀ j, j < B.length → hI h 146 j = iv (B.getD j pt0).1 ∧ hI h 147 j = iv (B.getD j pt0).2) : ∀ (m i : Nat), i + m = A.length → ((∀ j, i ≤ j → j < A.length → DfA A B j) → ∃ l6, ∀ Q, Tr sc d 241 (130, [some (.ref 124), some (.int x), some (.int y), some (.int z), some (.int (nI A.length)), some (.int 1), some (.int (nI i))], [], h) Q = Tr sc d 241 (217, [some (.ref 124), some (.int x), some (.int y), some (.int z), some (.int (nI A.length)), some (.int 1), l6], [], h) Q) ∧ ((∃ j, i ≤ j ∧ j < A.length ∧ ¬ DfA A B j) → ∃ l6, ∀ Q, Tr sc d 241 (130, [some (.ref 124), some (.int x), some (.int y), some (.int z), some (.int (nI A.length)), some (.int 1), some (.int (nI i))], [], h) Q = Tr sc d 241 (217, [some (.ref 124), some (.int x), some (.int y), some (.int z), some (.int (nI A.length)), some (.int 0), l6], [], h) Q) := by
  intro m
  induction m with
  | zero =>
    intro i hi
    have e : i = A.length := by omega
    subst e
    refine ⟨fun _ => ⟨some (.int (nI A.length)), fun Q => ?_⟩, fun ⟨j, h1, h2, _⟩ => by omega⟩
    · rw [x_241_130]
      simp only [x_241_132, x_241_134, cl2_i, cl2_r, cl2_n, cl2_l, tl_s, tl_n, true_and, and_true, Option.some.injEq, exists_eq_left', Bool.and_self, Bool.true_and, Bool.and_true, Bool.or_true, Bool.true_or, i_10, i_00, if_true, if_false, not_true_eq_false, not_false_eq_true, and_false, false_and, okp_sI, okp_sL, okp_aI, okp_aL, hR_sI, hR_sL, hR_aI, hR_aL]
      rw [if_pos (Int32.le_refl _)]
  | succ m ih =>
    intro i hi
    have hlt : i < A.length := by omega
    have h0 : 0 < A.length := by omega
    obtain ⟨ih1, ih2⟩ := ih (i + 1) (by omega)
    obtain ⟨a1, a2⟩ := hA i hlt
    obtain ⟨a3, a4⟩ := hA 0 h0
    obtain ⟨b1, b2⟩ := hB i (by omega)
    obtain ⟨b3, b4⟩ := hB 0 (by omega)
    obtain ⟨⟨u1, u2⟩, u3, u4⟩ := rg_gd rA hlt
    obtain ⟨⟨v1, v2⟩, v3, v4⟩ := rg_gd rA h0
    obtain ⟨⟨s1, s2⟩, s3, s4⟩ := rg_gd rB (j := i) (by omega)
    obtain ⟨⟨t1, t2⟩, t3, t4⟩ := rg_gd rB (j := 0) (by omega)
    have lead : ∀ Q, Tr sc d 241 (130, [some (.ref 124), some (.int x), some (.int y), some (.int z), some (.int (nI A.length)), some (.int 1), some (.int (nI i))], [], h) Q = if (B.getD i pt0).1 - (A.getD i pt0).1 = (B.getD 0 pt0).1 - (A.getD 0 pt0).1 then (if (B.getD i pt0).2 - (A.getD i pt0).2 = (B.getD 0 pt0).2 - (A.getD 0 pt0).2 then Tr sc d 241 (130, [some (.ref 124), some (.int x), some (.int y), some (.int z), some (.int (nI A.length)), some (.int 1), some (.int (nI (i + 1)))], [], h) Q else Tr sc d 241 (130, [some (.ref 124), some (.int x), some (.int y), some (.int z), some (.int (nI A.length)), some (.int 0), some (.int (nI (i + 1)))], [], h) Q) else Tr sc d 241 (130, [some (.ref 124), some (.int x), some (.int y), some (.int z), some (.int (nI A.length)), some (.int 0), some (.int (nI (i + 1)))], [], h) Q := by
      intro Q
      have k1 : (iv ((B.getD i pt0).1 - (A.getD i pt0).1) = iv ((B.getD 0 pt0).1 - (A.getD 0 pt0).1)) = ((B.getD i pt0).1 - (A.getD i pt0).1 = (B.getD 0 pt0).1 - (A.getD 0 pt0).1) := iv_eq ⟨by omega, by omega⟩ ⟨by omega, by omega⟩
      have k2 : (iv ((B.getD i pt0).2 - (A.getD i pt0).2) = iv ((B.getD 0 pt0).2 - (A.getD 0 pt0).2)) = ((B.getD i pt0).2 - (A.getD i pt0).2 = (B.getD 0 pt0).2 - (A.getD 0 pt0).2) := iv_eq ⟨by omega, by omega⟩ ⟨by omega, by omega⟩
      rw [x_241_130]
      simp only [x_241_132, x_241_134, x_241_137, x_241_139, x_241_142, x_241_143, x_241_146, x_241_148, x_241_149, x_241_150, x_241_153, x_241_155, x_241_156, x_241_157, x_241_158, x_241_161, x_241_162, x_241_163, x_241_164, x_241_167, x_241_168, x_241_169, x_241_170, x_241_173, x_241_174, x_241_177, x_241_179, x_241_180, x_241_181, x_241_184, x_241_186, x_241_187, x_241_188, x_241_189, x_241_192, x_241_193, x_241_194, x_241_195, x_241_198, x_241_199, x_241_200, x_241_201, x_241_204, x_241_205, x_241_208, x_241_209, x_241_211, x_241_214, o_124 hw, w_124_39 hw, w_124_40 hw, w_124_60 hw, w_124_61 hw, o_146 hw, iOk_lt (k := 146) (by decide), iRd_lt (k := 146) (by decide), show LN 146 = 7776 from rfl, o_162 hw, iOk_lt (k := 162) (by decide), iRd_lt (k := 162) (by decide), show LN 162 = 1296 from rfl, o_147 hw, iOk_lt (k := 147) (by decide), iRd_lt (k := 147) (by decide), show LN 147 = 7776 from rfl, o_163 hw, iOk_lt (k := 163) (by decide), iRd_lt (k := 163) (by decide), show LN 163 = 1296 from rfl, cl2_i, cl2_r, cl2_n, cl2_l, tl_s, tl_n, true_and, and_true, Option.some.injEq, exists_eq_left', Bool.and_self, Bool.true_and, Bool.and_true, Bool.or_true, Bool.true_or, i_10, i_00, if_true, if_false, not_true_eq_false, not_false_eq_true, and_false, false_and, okp_sI, okp_sL, okp_aI, okp_aL, hR_sI, hR_sL, hR_aI, hR_aL, k1, k2, inb_nI (n := 7776) (show i < 7776 by omega) (by decide), inb_nI (n := 1296) (show i < 1296 by omega) (by decide), nI_clamp (n := i) (by omega), show inb 0 7776 = true from rfl, show inb 0 1296 = true from rfl, cl_0, a1, a2, a3, a4, b1, b2, b3, b4, iv_sub, nI_1]
      rw [if_neg (nI_ge hlt (by omega))]
    have out : ∃ l6, ∀ Q, Tr sc d 241 (130, [some (.ref 124), some (.int x), some (.int y), some (.int z), some (.int (nI A.length)), some (.int 0), some (.int (nI (i + 1)))], [], h) Q = Tr sc d 241 (217, [some (.ref 124), some (.int x), some (.int y), some (.int z), some (.int (nI A.length)), some (.int 0), l6], [], h) Q := by
      refine ⟨some (.int (nI (i + 1))), fun Q => ?_⟩
      rw [x_241_130]
      simp only [x_241_132, x_241_134, x_241_137, x_241_139, cl2_i, cl2_r, cl2_n, cl2_l, tl_s, tl_n, true_and, and_true, Option.some.injEq, exists_eq_left', Bool.and_self, Bool.true_and, Bool.and_true, Bool.or_true, Bool.true_or, i_10, i_00, if_true, if_false, not_true_eq_false, not_false_eq_true, and_false, false_and, okp_sI, okp_sL, okp_aI, okp_aL, hR_sI, hR_sL, hR_aI, hR_aL, ite_self]
    by_cases q : DfA A B i
    · refine ⟨fun z => ?_, fun ⟨j, h1, h2, h3⟩ => ?_⟩
      · obtain ⟨l6, e6⟩ := ih1 (fun j h1 h2 => z j (by omega) h2)
        exact ⟨l6, fun Q => by rw [lead, if_pos q.1, if_pos q.2]; exact e6 Q⟩
      · obtain ⟨l6, e6⟩ := ih2 ⟨j, by
          rcases Nat.lt_or_ge i j with z | z
          · exact z
          · exact absurd q (by rw [show i = j by omega]; exact h3), h2, h3⟩
        exact ⟨l6, fun Q => by rw [lead, if_pos q.1, if_pos q.2]; exact e6 Q⟩
    · refine ⟨fun z => absurd (z i (Nat.le_refl _) hlt) q, fun _ => ?_⟩
      obtain ⟨l6, e6⟩ := out
      refine ⟨l6, fun Q => ?_⟩
      rw [lead]
      by_cases q1 : (B.getD i pt0).1 - (A.getD i pt0).1 = (B.getD 0 pt0).1 - (A.getD 0 pt0).1
      · rw [if_pos q1, if_neg (fun q2 => q ⟨q1, q2⟩)]; exact e6 Q
      · rw [if_neg q1]; exact e6 Q
end SA
