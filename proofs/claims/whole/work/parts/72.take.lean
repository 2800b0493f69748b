/-! ===== keeping what was read: the class's keepDraft, the model's take ===== -/
abbrev Mv3 : Type := List (Int32 × Int32 × Int32)
def gtT (ms : Mv3) (i : Nat) : Nat := (ms.getD i (0, 0, 0)).1.toNatClampNeg
def gtX (ms : Mv3) (i : Nat) : Int := (ms.getD i (0, 0, 0)).2.1.toInt
def gtY (ms : Mv3) (i : Nat) : Int := (ms.getD i (0, 0, 0)).2.2.toInt
/-- moves as they may be told -/
def MvG (ms : Mv3) : Prop := (1 ≤ ms.length ∧ ms.length ≤ 6) ∧ ∀ i, i < ms.length → gtT ms i ≤ 7 ∧ (ms.getD i (0, 0, 0)).1 = nI (gtT ms i) ∧ (-9 ≤ gtX ms i ∧ gtX ms i ≤ 9) ∧ (-9 ≤ gtY ms i ∧ gtY ms i ≤ 9)
noncomputable def kdN (b : Nat) (ms : Mv3) : Int32 := if (∀ i, i < ms.length → gtT ms i = 0) then (if cd (Cme b ms.length (rch b ms.length (gtX ms) (gtY ms)) (gtX ms) (gtY ms) (Jn ms.length) 0 0) = true then 1 else 2) else 0
section TK
variable {sc : Nat × (Nat → Int32)} {d : Nat} {Q : PRes → Prop} {h h' h1 H : PH} {k s r b M R i j v p n t op : Nat} {kd x y z w : Int32} {tn : Nat → Nat} {sx sy ex : Nat → Int} {X Y : Int} {ms : Mv3}
theorem gt_at {m : Int32 × Int32 × Int32} (e : ms[i]? = some m) : ms.getD i (0, 0, 0) = m := by
  rw [List.getD_eq_getElem?_getD, e]; rfl
theorem at_gt (hi : i < ms.length) : ms[i]? = some (ms.getD i (0, 0, 0)) := by
  rw [List.getD_eq_getElem?_getD, List.getElem?_eq_getElem hi]; rfl
theorem mv_shv (g : MvG ms) (hb : 2 ≤ b ∧ b ≤ 4) : ShV b ms.length (gtX ms) (gtY ms) := ⟨hb, g.1, fun i hi => ⟨(g.2 i hi).2.2.1, (g.2 i hi).2.2.2⟩⟩
theorem c_tn (hw : WF h) (hk : IsSh k) (C : ShC h k kd b M tn sx sy ex) (hM : M ≤ 6) (ht : ∀ i, i < M → tn i ≤ 7) : ∀ (n i : Nat), i + n = M → (∀ j, j < i → tn j = 0) → Tr sc d 60 (2, [some (.ref k), some (.int (nI i))], [], h) Q = if (∀ i, i < M → tn i = 0) then Q (some (.int 1), h) else Q (some (.int 0), h) := by
  obtain ⟨ho, r0, r1, r2, r3, r4, r5, o0, o1, o2, o3, o4, o5, n0, n1, n2, n3, n4, n5⟩ := sh_ref hw hk
  obtain ⟨c1, c2, c3, c4⟩ := C
  intro n
  induction n with
  | zero =>
    intro i hi a1
    have e : i = M := by omega
    subst e
    rw [x_60_2]
    simp only [x_60_3, x_60_4, x_60_7, x_60_10, x_60_11, x_60_14, x_60_15, x_60_16, x_60_19, x_60_20, x_60_21, x_60_24, x_60_27, x_60_28, cl2_i, cl2_r, cl2_n, cl2_l, tl_s, tl_n, true_and, and_true, Option.some.injEq, exists_eq_left', Bool.and_self, Bool.true_and, Bool.and_true, Bool.or_true, Bool.true_or, i_10, i_00, if_true, if_false, not_true_eq_false, not_false_eq_true, and_false, false_and, okp_sI, okp_sL, okp_aI, okp_aL, hR_sI, hR_sL, hR_aI, hR_aL, ho, c3, vp_b1]
    rw [if_pos (Int32.le_refl _), if_pos a1]
  | succ n ih =>
    intro i hi a1
    have hlt : i < M := by omega
    have t7 := ht i hlt
    rw [x_60_2]
    simp only [x_60_3, x_60_4, x_60_7, x_60_10, x_60_11, x_60_14, x_60_15, x_60_16, x_60_19, x_60_20, x_60_21, x_60_24, x_60_27, x_60_28, cl2_i, cl2_r, cl2_n, cl2_l, tl_s, tl_n, true_and, and_true, Option.some.injEq, exists_eq_left', Bool.and_self, Bool.true_and, Bool.and_true, Bool.or_true, Bool.true_or, i_10, i_00, if_true, if_false, not_true_eq_false, not_false_eq_true, and_false, false_and, okp_sI, okp_sL, okp_aI, okp_aL, hR_sI, hR_sL, hR_aI, hR_aL, ho, c3, r0, iOk_ok o0, iRd_ok o0, n0, inb_nI (n := 6) (show i < 6 by omega) (by decide), nI_clamp (n := i) (by omega), (c4 i hlt).1, nI_1, vp_b0]
    rw [if_neg (nI_ge hlt (by omega))]
    by_cases q : tn i = 0
    · rw [if_pos (by rw [q]; rfl), ih (i + 1) (by omega) (fun j hj => by
        by_cases e : j = i
        · rw [e]; exact q
        · exact a1 j (by omega))]
    · rw [if_neg (nI_ne0 (by omega) (by omega)), if_neg (fun z => q (z i hlt))]
def Tw (M : Nat) (sx sy : Nat → Int) : Prop := ∃ i j, j < i ∧ i < M ∧ sx i = sx j ∧ sy i = sy j
theorem c_tw_j (hw : WF h) (hk : IsSh k) (C : ShC h k kd b M tn sx sy ex) (W : ShV b M sx sy) (hi : i < M) (Qt : Tw M sx sy → Q (some (.int 1), h)) (hK : (∀ j, j < i → ¬ (sx i = sx j ∧ sy i = sy j)) → Tr sc d 61 (55, [some (.ref k), some (.int (nI i)), some (.int (nI i))], [], h) Q) : ∀ (n j : Nat), j + n = i → (∀ c, c < j → ¬ (sx i = sx c ∧ sy i = sy c)) → Tr sc d 61 (12, [some (.ref k), some (.int (nI i)), some (.int (nI j))], [], h) Q := by
  obtain ⟨ho, r0, r1, r2, r3, r4, r5, o0, o1, o2, o3, o4, o5, n0, n1, n2, n3, n4, n5⟩ := sh_ref hw hk
  obtain ⟨c1, c2, c3, c4⟩ := C
  obtain ⟨⟨b1, b2⟩, ⟨m1, m2⟩, wt⟩ := W
  intro n
  induction n with
  | zero =>
    intro j hj a1
    have e : j = i := by omega
    subst e
    rw [x_61_12]
    simp only [x_61_13, x_61_14, cl2_i, cl2_r, cl2_n, cl2_l, tl_s, tl_n, true_and, and_true, Option.some.injEq, exists_eq_left', Bool.and_self, Bool.true_and, Bool.and_true, Bool.or_true, Bool.true_or, i_10, i_00, if_true, if_false, not_true_eq_false, not_false_eq_true, and_false, false_and, okp_sI, okp_sL, okp_aI, okp_aL, hR_sI, hR_sL, hR_aI, hR_aL]
    rw [if_pos (Int32.le_refl _)]
    exact hK a1
  | succ n ih =>
    intro j hj a1
    have hlt : j < i := by omega
    have w1 := wt i hi
    have w2 := wt j (by omega)
    have e1 : (iv (sx i) = iv (sx j)) = (sx i = sx j) := iv_eq ⟨by omega, by omega⟩ ⟨by omega, by omega⟩
    have e2 : (iv (sy i) = iv (sy j)) = (sy i = sy j) := iv_eq ⟨by omega, by omega⟩ ⟨by omega, by omega⟩
    have nx : ¬ (sx i = sx j ∧ sy i = sy j) → Tr sc d 61 (49, [some (.ref k), some (.int (nI i)), some (.int (nI j))], [], h) Q := fun z => by
      simp only [x_61_49, x_61_52, cl2_i, cl2_r, cl2_n, cl2_l, tl_s, tl_n, true_and, and_true, Option.some.injEq, exists_eq_left', Bool.and_self, Bool.true_and, Bool.and_true, Bool.or_true, Bool.true_or, i_10, i_00, if_true, if_false, not_true_eq_false, not_false_eq_true, and_false, false_and, okp_sI, okp_sL, okp_aI, okp_aL, hR_sI, hR_sL, hR_aI, hR_aL, nI_1]
      exact ih (j + 1) (by omega) (fun c hc => by
        by_cases e : c = j
        · rw [e]; exact z
        · exact a1 c (by omega))
    rw [x_61_12]
    simp only [x_61_13, x_61_14, x_61_17, x_61_18, x_61_21, x_61_22, x_61_23, x_61_24, x_61_27, x_61_28, x_61_29, x_61_32, x_61_33, x_61_36, x_61_37, x_61_38, x_61_39, x_61_42, x_61_43, x_61_44, x_61_47, x_61_48, cl2_i, cl2_r, cl2_n, cl2_l, tl_s, tl_n, true_and, and_true, Option.some.injEq, exists_eq_left', Bool.and_self, Bool.true_and, Bool.and_true, Bool.or_true, Bool.true_or, i_10, i_00, if_true, if_false, not_true_eq_false, not_false_eq_true, and_false, false_and, okp_sI, okp_sL, okp_aI, okp_aL, hR_sI, hR_sL, hR_aI, hR_aL, ho, r1, r2, iOk_ok o1, iRd_ok o1, iOk_ok o2, iRd_ok o2, n1, n2, inb_nI (n := 6) (show i < 6 by omega) (by decide), inb_nI (n := 6) (show j < 6 by omega) (by decide), nI_clamp (n := i) (by omega), nI_clamp (n := j) (by omega), (c4 i hi).2.1, (c4 i hi).2.2.1, (c4 j (by omega)).2.1, (c4 j (by omega)).2.2.1, e1, e2, vp_b1]
    rw [if_neg (nI_ge hlt (by omega))]
    by_cases q1 : sx i = sx j
    · rw [if_pos q1]
      by_cases q2 : sy i = sy j
      · rw [if_pos q2]
        exact Qt ⟨i, j, hlt, hi, q1, q2⟩
      · rw [if_neg q2]
        exact nx (fun z => q2 z.2)
    · rw [if_neg q1]
      exact nx (fun z => q1 z.1)
theorem c_tw_i (hw : WF h) (hk : IsSh k) (C : ShC h k kd b M tn sx sy ex) (W : ShV b M sx sy) (Qt : Tw M sx sy → Q (some (.int 1), h)) (Qf : ¬ Tw M sx sy → Q (some (.int 0), h)) : ∀ (n i : Nat) (l2 : Option Value), i + n = M → (∀ a c, c < a → a < i → ¬ (sx a = sx c ∧ sy a = sy c)) → Tr sc d 61 (2, [some (.ref k), some (.int (nI i)), l2], [], h) Q := by
  obtain ⟨ho, -⟩ := sh_ref hw hk
  have hM := W.2.1
  intro n
  induction n with
  | zero =>
    intro i l2 hi a1
    have e : i = M := by omega
    subst e
    rw [x_61_2]
    simp only [x_61_3, x_61_4, x_61_7, x_61_61, x_61_62, cl2_i, cl2_r, cl2_n, cl2_l, tl_s, tl_n, true_and, and_true, Option.some.injEq, exists_eq_left', Bool.and_self, Bool.true_and, Bool.and_true, Bool.or_true, Bool.true_or, i_10, i_00, if_true, if_false, not_true_eq_false, not_false_eq_true, and_false, false_and, okp_sI, okp_sL, okp_aI, okp_aL, hR_sI, hR_sL, hR_aI, hR_aL, ho, C.2.2.1, vp_b0]
    rw [if_pos (Int32.le_refl _)]
    exact Qf (fun ⟨a, c, h1, h2, h3, h4⟩ => a1 a c h1 h2 ⟨h3, h4⟩)
  | succ n ih =>
    intro i l2 hi a1
    have hlt : i < M := by omega
    rw [x_61_2]
    simp only [x_61_3, x_61_4, x_61_7, x_61_10, x_61_11, cl2_i, cl2_r, cl2_n, cl2_l, tl_s, tl_n, true_and, and_true, Option.some.injEq, exists_eq_left', Bool.and_self, Bool.true_and, Bool.and_true, Bool.or_true, Bool.true_or, i_10, i_00, if_true, if_false, not_true_eq_false, not_false_eq_true, and_false, false_and, okp_sI, okp_sL, okp_aI, okp_aL, hR_sI, hR_sL, hR_aI, hR_aL, ho, C.2.2.1]
    rw [if_neg (nI_ge hlt (by omega))]
    refine c_tw_j hw hk C W hlt Qt (fun a2 => ?_) i 0 (by omega) (fun c hc => by omega)
    simp only [x_61_55, x_61_58, cl2_i, cl2_r, cl2_n, cl2_l, tl_s, tl_n, true_and, and_true, Option.some.injEq, exists_eq_left', Bool.and_self, Bool.true_and, Bool.and_true, Bool.or_true, Bool.true_or, i_10, i_00, if_true, if_false, not_true_eq_false, not_false_eq_true, and_false, false_and, okp_sI, okp_sL, okp_aI, okp_aL, hR_sI, hR_sL, hR_aI, hR_aL, nI_1]
    refine ih (i + 1) _ (by omega) (fun a c h1 h2 => ?_)
    by_cases e : a = i
    · rw [e]; exact a2 c (by omega)
    · exact a1 a c h1 (by omega)
theorem Alv_0 (hM : 1 ≤ M) : Alv b M R sx sy 0 0 := ⟨fun p => p = (0, 0), rfl, fun u hu => by
  subst hu
  have e : ∀ f : Nat → Int, dX M f 0 = 0 := fun f => by unfold dX; rw [Nat.zero_mod, Nat.zero_div]; exact Int.sub_self _
  refine ⟨⟨by constructor <;> omega, by constructor <;> omega⟩, (0, 0), ⟨0, Nat.mul_pos hM hM, ?_, ?_⟩, rfl⟩
  · show (0 : Int) = b * 0 + dX M sx 0
    rw [e]; omega
  · show (0 : Int) = b * 0 + dX M sy 0
    rw [e]; omega⟩
/-- a shift that is told twice: two words come to one point -/
theorem tw_come (hM : 1 ≤ M) (t : Tw M sx sy) : Cme b M R sx sy (Jn M) 0 0 := by
  obtain ⟨i, j, h1, h2, h3, h4⟩ := t
  have hp : i * M + j < M * M := sq_lt h2 (by omega)
  have e1 : dX M sx (i * M + j) = 0 := by rw [dX_at h2 (by omega)]; omega
  have e2 : dX M sy (i * M + j) = 0 := by rw [dX_at h2 (by omega)]; omega
  have c := Cme_i (b := b) (R := R) (sx := sx) (sy := sy) (J := Jn M) hp ((Jn_at h2 (by omega)).mpr (by omega)) (by rw [e1, e2]; exact Alv_0 hM)
  rw [e1, e2] at c
  exact c
theorem nt_J (t : ¬ Tw M sx sy) (hM : 1 ≤ M) (hp : p < M * M) : Jz M sx sy p ↔ Jn M p := by
  have h1 : p % M < M := Nat.mod_lt _ (by omega)
  have h2 : p / M < M := Nat.div_lt_of_lt_mul hp
  unfold Jz Jn dX
  constructor
  · intro q e
    rw [e] at q
    exact q ⟨Int.sub_self _, Int.sub_self _⟩
  · rintro q ⟨z1, z2⟩
    refine t ?_
    rcases Nat.lt_or_gt_of_ne q with z | z
    · exact ⟨p / M, p % M, z, h2, by omega, by omega⟩
    · exact ⟨p % M, p / M, z, h1, by omega, by omega⟩
def Pg (a b : Nat) : Prop := Pv a b ∨ Po a b
theorem c_kind (hw : WF h) (hk : IsSh k) (C : ShC h k kd b ms.length (gtT ms) (gtX ms) (gtY ms) ex) (g : MvG ms) (hb : 2 ≤ b ∧ b ≤ 4) (hK : ∀ H, Fq Pg h H → Q (some (.int (kdN b ms)), H)) : Tr sc (d + 4) 151 (ent0 151 [.ref 0, .ref k] h) Q := by
  have W := mv_shv g hb
  obtain ⟨-, hR⟩ := rch_ok W
  obtain ⟨ho, -⟩ := sh_ref hw hk
  rw [e_151]
  simp only [x_151_0, x_151_1, o_0 hw, cl2_i, cl2_r, cl2_n, cl2_l, tl_s, tl_n, true_and, and_true, Option.some.injEq, exists_eq_left', Bool.and_self, Bool.true_and, Bool.and_true, Bool.or_true, Bool.true_or, i_10, i_00, if_true, if_false, not_true_eq_false, not_false_eq_true, and_false, false_and, okp_sI, okp_sL, okp_aI, okp_aL, hR_sI, hR_sL, hR_aI, hR_aL, ho]
  rw [e_60]
  simp only [x_60_0, x_60_1, cl2_i, cl2_r, cl2_n, cl2_l, tl_s, tl_n, true_and, and_true, Option.some.injEq, exists_eq_left', Bool.and_self, Bool.true_and, Bool.and_true, Bool.or_true, Bool.true_or, i_10, i_00, if_true, if_false, not_true_eq_false, not_false_eq_true, and_false, false_and, okp_sI, okp_sL, okp_aI, okp_aL, hR_sI, hR_sL, hR_aI, hR_aL]
  refine Eq.mpr (c_tn hw hk C g.1.2 (fun i hi => (g.2 i hi).1) ms.length 0 (by omega) (fun j hj => by omega)) ?_
  by_cases q : ∀ i, i < ms.length → gtT ms i = 0
  · rw [if_pos q]
    have kd1 : kdN b ms = if cd (Cme b ms.length (rch b ms.length (gtX ms) (gtY ms)) (gtX ms) (gtY ms) (Jn ms.length) 0 0) = true then 1 else 2 := if_pos q
    rw [kd1] at hK
    simp only [x_151_4, x_151_7, x_151_8, x_151_9, x_151_10, cl2_i, cl2_r, cl2_n, cl2_l, tl_s, tl_n, true_and, and_true, Option.some.injEq, exists_eq_left', Bool.and_self, Bool.true_and, Bool.and_true, Bool.or_true, Bool.true_or, i_10, i_00, if_true, if_false, not_true_eq_false, not_false_eq_true, and_false, false_and, okp_sI, okp_sL, okp_aI, okp_aL, hR_sI, hR_sL, hR_aI, hR_aL, ho]
    rw [e_61]
    simp only [x_61_0, x_61_1, cl2_i, cl2_r, cl2_n, cl2_l, tl_s, tl_n, true_and, and_true, Option.some.injEq, exists_eq_left', Bool.and_self, Bool.true_and, Bool.and_true, Bool.or_true, Bool.true_or, i_10, i_00, if_true, if_false, not_true_eq_false, not_false_eq_true, and_false, false_and, okp_sI, okp_sL, okp_aI, okp_aL, hR_sI, hR_sL, hR_aI, hR_aL]
    refine c_tw_i hw hk C W (fun t => ?_) (fun t => ?_) ms.length 0 none (by omega) (fun a c h1 h2 => by omega)
    · simp only [x_151_13, x_151_16, x_151_17, cl2_i, cl2_r, cl2_n, cl2_l, tl_s, tl_n, true_and, and_true, Option.some.injEq, exists_eq_left', Bool.and_self, Bool.true_and, Bool.and_true, Bool.or_true, Bool.true_or, i_10, i_00, if_true, if_false, not_true_eq_false, not_false_eq_true, and_false, false_and, okp_sI, okp_sL, okp_aI, okp_aL, hR_sI, hR_sL, hR_aI, hR_aL]
      rw [if_pos (show cd _ = true by rw [cd_t]; exact tw_come g.1.1 t)] at hK
      exact hK h Fq.rf
    · simp only [x_151_13, x_151_16, x_151_17, x_151_18, x_151_19, x_151_22, x_151_23, o_0 hw, w_0_9 hw, o_24 hw, cl2_i, cl2_r, cl2_n, cl2_l, tl_s, tl_n, true_and, and_true, Option.some.injEq, exists_eq_left', Bool.and_self, Bool.true_and, Bool.and_true, Bool.or_true, Bool.true_or, i_10, i_00, if_true, if_false, not_true_eq_false, not_false_eq_true, and_false, false_and, okp_sI, okp_sL, okp_aI, okp_aL, hR_sI, hR_sL, hR_aI, hR_aL]
      refine c_look hw hk C W (fun H f V a => ?_)
      have hwH := f.WF hw
      simp only [x_151_26, x_151_27, x_151_30, o_0 hwH, w_0_9 hwH, o_24 hwH, cl2_i, cl2_r, cl2_n, cl2_l, tl_s, tl_n, true_and, and_true, Option.some.injEq, exists_eq_left', Bool.and_self, Bool.true_and, Bool.and_true, Bool.or_true, Bool.true_or, i_10, i_00, if_true, if_false, not_true_eq_false, not_false_eq_true, and_false, false_and, okp_sI, okp_sL, okp_aI, okp_aL, hR_sI, hR_sL, hR_aI, hR_aL]
      have J := fun p hp => nt_J (M := ms.length) (sx := gtX ms) (sy := gtY ms) (p := p) t g.1.1 hp
      refine c_come hwH V W a hR (fun c H2 f2 => ?_) (fun c H2 f2 => ?_)
      · simp only [x_151_33, x_151_36, x_151_37, x_151_40, x_151_41, cl2_i, cl2_r, cl2_n, cl2_l, tl_s, tl_n, true_and, and_true, Option.some.injEq, exists_eq_left', Bool.and_self, Bool.true_and, Bool.and_true, Bool.or_true, Bool.true_or, i_10, i_00, if_true, if_false, not_true_eq_false, not_false_eq_true, and_false, false_and, okp_sI, okp_sL, okp_aI, okp_aL, hR_sI, hR_sL, hR_aI, hR_aL]
        rw [if_pos (show cd _ = true by rw [cd_t]; exact (Cme_J J).mp c)] at hK
        exact hK H2 ((f.wk (fun _ _ => Or.inl)).tr (f2.wk (fun _ _ => Or.inr)))
      · simp only [x_151_33, x_151_36, x_151_37, x_151_40, x_151_41, cl2_i, cl2_r, cl2_n, cl2_l, tl_s, tl_n, true_and, and_true, Option.some.injEq, exists_eq_left', Bool.and_self, Bool.true_and, Bool.and_true, Bool.or_true, Bool.true_or, i_10, i_00, if_true, if_false, not_true_eq_false, not_false_eq_true, and_false, false_and, okp_sI, okp_sL, okp_aI, okp_aL, hR_sI, hR_sL, hR_aI, hR_aL]
        rw [if_neg (show ¬ cd _ = true by rw [cd_t]; exact fun z => c ((Cme_J J).mpr z))] at hK
        exact hK H2 ((f.wk (fun _ _ => Or.inl)).tr (f2.wk (fun _ _ => Or.inr)))
  · rw [if_neg q]
    simp only [x_151_4, x_151_7, x_151_8, cl2_i, cl2_r, cl2_n, cl2_l, tl_s, tl_n, true_and, and_true, Option.some.injEq, exists_eq_left', Bool.and_self, Bool.true_and, Bool.and_true, Bool.or_true, Bool.true_or, i_10, i_00, if_true, if_false, not_true_eq_false, not_false_eq_true, and_false, false_and, okp_sI, okp_sL, okp_aI, okp_aL, hR_sI, hR_sL, hR_aI, hR_aL]
    have kd1 : kdN b ms = 0 := if_neg q
    rw [kd1] at hK
    exact hK h Fq.rf
end TK
