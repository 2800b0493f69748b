/-! ===== words ===== -/
def s6 (f : Nat → Int64) : Nat → Int64
  | 0 => 0
  | n + 1 => s6 f n + f n
def wd (bar : Nat → Nat → Bool) (M : Nat) : Nat → Nat → Int64
  | 0, _ => 1
  | n + 1, i => s6 (fun j => if bar i j = true then 0 else wd bar M n j) M
def bF (kd : Int32) (ex : Nat → Int) (i j : Nat) : Bool := decide (kd = 4 ∧ bit1 (iv (ex i)) j = true)
section WD
variable {sc : Nat × (Nat → Int32)} {d : Nat} {Q : PRes → Prop} {h h' H : PH} {k s b M i j : Nat} {kd x y : Int32} {tn : Nat → Nat} {sx sy ex : Nat → Int}
theorem s6_congr {f g : Nat → Int64} : ∀ n, (∀ j, j < n → f j = g j) → s6 f n = s6 g n
  | 0, _ => rfl
  | n + 1, e => by
    show s6 f n + f n = s6 g n + g n
    rw [s6_congr n (fun j hj => e j (by omega)), e n (by omega)]
theorem cl_0 : (0 : Int32).toNatClampNeg = 0 := rfl
theorem i_nn0 : ((0 : Int32) < 0) = False := by apply propext; decide
theorem and1 (v : Int32) : v &&& 1 = 0 ∨ v &&& 1 = 1 := by
  obtain ⟨j, hj, e⟩ := pk_andE v (m := 1) 1 rfl
  rw [e]
  match j, hj with
  | 0, _ => exact Or.inl rfl
  | 1, _ => exact Or.inr rfl
theorem and1_n {v : Int32} : (¬ v &&& 1 = 0) = (v &&& 1 = 1) := by
  apply propext
  rcases and1 v with e | e
  · rw [e]; decide
  · rw [e]; decide
theorem c_isBarred (hw : WF h) (hk : IsSh k) (hi : i < 6) : Tr sc d 58 (ent0 58 [.ref k, .int (nI i), .int (nI j)] h) Q = Q (some (.int (bI (hI h k 6 = 4 ∧ bit1 (hI h (k + 4) i) j = true))), h) := by
  obtain ⟨ho, r0, r1, r2, r3, r4, r5, o0, o1, o2, o3, o4, o5, n0, n1, n2, n3, n4, n5⟩ := sh_ref hw hk
  rw [e_58]
  simp only [x_58_0, x_58_1, x_58_4, x_58_5, x_58_8, x_58_9, x_58_12, x_58_13, x_58_14, x_58_15, x_58_16, x_58_17, x_58_18, x_58_21, x_58_22, x_58_25, x_58_26, cl2_i, cl2_r, cl2_n, cl2_l, tl_s, tl_n, true_and, and_true, Option.some.injEq, exists_eq_left', Bool.and_self, Bool.true_and, Bool.and_true, Bool.or_true, Bool.true_or, i_10, i_00, if_true, if_false, not_true_eq_false, not_false_eq_true, and_false, false_and, okp_sI, okp_sL, okp_aI, okp_aL, hR_sI, hR_sL, hR_aI, hR_aL, ho, r3, iOk_ok o3, iRd_ok o3, n3, inb_nI (n := 6) hi (by decide), nI_clamp (n := i) (by omega), vp_b0, vp_b1]
  by_cases e1 : hI h k 6 = 4
  · rw [if_pos e1]
    by_cases e2 : hI h (k + 4) i >>> (nI j &&& 31) &&& 1 = 0
    · rw [if_pos e2, bI_f (fun z => by have := of_decide_eq_true z.2; rw [e2] at this; exact absurd this (by decide))]
    · rw [if_neg e2, bI_t ⟨e1, decide_eq_true (by rw [and1_n] at e2; exact e2)⟩]
  · rw [if_neg e1, bI_f (fun z => e1 z.1)]
theorem c_wb_loop (hw : WF h) (hk : IsSh k) (hz : hI h k 8 = nI M) (hM : M ≤ 6) (hi : i < 6) : ∀ (n j : Nat), j + n = M → Tr sc (d + 1) 68 (5, [some (.ref k), some (.int (nI i)), some (.long (s6 (fun j => if (decide (hI h k 6 = 4 ∧ bit1 (hI h (k + 4) i) j = true)) = true then 0 else hL h (k + 5) j) j)), none, some (.int (nI j))], [], h) Q = Q (some (.long (s6 (fun j => if (decide (hI h k 6 = 4 ∧ bit1 (hI h (k + 4) i) j = true)) = true then 0 else hL h (k + 5) j) M)), h) := by
  obtain ⟨ho, r0, r1, r2, r3, r4, r5, o0, o1, o2, o3, o4, o5, n0, n1, n2, n3, n4, n5⟩ := sh_ref hw hk
  intro n
  induction n with
  | zero =>
    intro j hj
    have e : j = M := by omega
    subst e
    rw [x_68_5]
    simp only [x_68_7, x_68_8, x_68_11, x_68_14, x_68_15, x_68_16, x_68_18, x_68_21, x_68_24, x_68_25, x_68_26, x_68_29, x_68_31, x_68_32, x_68_33, x_68_34, x_68_37, x_68_40, x_68_41, cl2_i, cl2_r, cl2_n, cl2_l, tl_s, tl_n, true_and, and_true, Option.some.injEq, exists_eq_left', Bool.and_self, Bool.true_and, Bool.and_true, Bool.or_true, Bool.true_or, i_10, i_00, if_true, if_false, not_true_eq_false, not_false_eq_true, and_false, false_and, okp_sI, okp_sL, okp_aI, okp_aL, hR_sI, hR_sL, hR_aI, hR_aL, ho, hz]
    rw [if_pos (Int32.le_refl _)]
  | succ n ih =>
    intro j hj
    have hlt : j < M := by omega
    rw [x_68_5]
    simp only [x_68_7, x_68_8, x_68_11, x_68_14, x_68_15, x_68_16, x_68_18, x_68_21, x_68_24, x_68_25, x_68_26, x_68_29, x_68_31, x_68_32, x_68_33, x_68_34, x_68_37, x_68_40, x_68_41, cl2_i, cl2_r, cl2_n, cl2_l, tl_s, tl_n, true_and, and_true, Option.some.injEq, exists_eq_left', Bool.and_self, Bool.true_and, Bool.and_true, Bool.or_true, Bool.true_or, i_10, i_00, if_true, if_false, not_true_eq_false, not_false_eq_true, and_false, false_and, okp_sI, okp_sL, okp_aI, okp_aL, hR_sI, hR_sL, hR_aI, hR_aL, ho, hz, c_isBarred hw hk hi, r4, o4, n4, inb_nI (i := j) (n := 6) (by omega) (by decide), nI_clamp (n := j) (by omega), nI_1, bI_0]
    rw [if_neg (nI_ge hlt (by omega))]
    have e2 := ih (j + 1) (by omega)
    have e3 : ∀ f : Nat → Int64, s6 f (j + 1) = s6 f j + f j := fun _ => rfl
    rw [e3] at e2
    by_cases z : hI h k 6 = 4 ∧ bit1 (hI h (k + 4) i) j = true
    · rw [if_neg (fun q => q z)]
      simp only [decide_eq_true_eq] at e2 ⊢
      rw [if_pos z, Int64.add_zero] at e2
      exact e2
    · rw [if_pos z]
      simp only [decide_eq_true_eq] at e2 ⊢
      rw [if_neg z] at e2
      exact e2
theorem c_waysBehind (hw : WF h) (hk : IsSh k) (hz : hI h k 8 = nI M) (hM : M ≤ 6) (hi : i < 6) : Tr sc (d + 1) 68 (ent0 68 [.ref k, .int (nI i)] h) Q = Q (some (.long (s6 (fun j => if (decide (hI h k 6 = 4 ∧ bit1 (hI h (k + 4) i) j = true)) = true then 0 else hL h (k + 5) j) M)), h) := by
  rw [e_68]
  simp only [x_68_0, x_68_1, x_68_2, x_68_3, cl2_i, cl2_r, cl2_n, cl2_l, tl_s, tl_n, true_and, and_true, Option.some.injEq, exists_eq_left', Bool.and_self, Bool.true_and, Bool.and_true, Bool.or_true, Bool.true_or, i_10, i_00, if_true, if_false, not_true_eq_false, not_false_eq_true, and_false, false_and, okp_sI, okp_sL, okp_aI, okp_aL, hR_sI, hR_sL, hR_aI, hR_aL]
  exact c_wb_loop hw hk hz hM hi M 0 (by omega)
theorem fillL_loop {v : Int64} (ho : okp h k 12 = true) (hL : LN k < 2 ^ 31) : ∀ (n i : Nat), i + n = LN k → ∀ f : Nat → Int64, Tr sc d 255 (6, [some (.ref k), some (.long v), none, some (.int (nI i)), some (.int (nI (LN k)))], [], aL h k f) Q = Q (none, aL h k (fun b => if i ≤ b ∧ b < LN k then v else f b)) := by
  intro n
  induction n with
  | zero =>
    intro i hi f
    have e : i = LN k := by omega
    subst e
    rw [x_255_6]
    simp only [x_255_7, x_255_9, x_255_12, x_255_13, x_255_14, x_255_15, x_255_16, x_255_19, x_255_22]
    rw [if_pos (Int32.le_refl _)]
    congr 3
    funext b
    rw [if_neg (by omega)]
  | succ n ih =>
    intro i hi f
    have hlt : i < LN k := by omega
    rw [x_255_6]
    simp only [x_255_7, x_255_9, x_255_12, x_255_13, x_255_14, x_255_15, x_255_16, x_255_19, x_255_22, cl2_i, cl2_r, cl2_n, cl2_l, tl_s, tl_n, true_and, and_true, Option.some.injEq, exists_eq_left', Bool.and_self, Bool.true_and, Bool.and_true, Bool.or_true, Bool.true_or, i_10, i_00, if_true, if_false, not_true_eq_false, not_false_eq_true, and_false, false_and, okp_sI, okp_sL, okp_aI, okp_aL, hR_sI, hR_sL, hR_aI, hR_aL, ho, inb_nI hlt hL, nI_clamp (Nat.lt_trans hlt hL), nI_1, sL_aL]
    rw [if_neg (nI_ge hlt hL), ih (i + 1) (by omega)]
    congr 3
    funext b
    by_cases e1 : b = i
    · rw [if_neg (by omega), if_pos e1, if_pos (by omega)]
    · by_cases e2 : i + 1 ≤ b ∧ b < LN k
      · rw [if_pos e2, if_pos (by omega)]
      · rw [if_neg e2, if_neg e1, if_neg (by omega)]
/-- Arrays.fill(long[], long) -/
theorem c_fillL {v : Int64} (ho : okp h k 12 = true) (hl : LN k < 2 ^ 31) : Tr sc d 255 (ent0 255 [.ref k, .long v] h) Q = Q (none, aL h k (fun b => if b < LN k then v else hL h k b)) := by
  rw [e_255]
  simp only [x_255_0, x_255_1, cl2_i, cl2_r, cl2_n, cl2_l, tl_s, tl_n, true_and, and_true, Option.some.injEq, exists_eq_left', Bool.and_self, Bool.true_and, Bool.and_true, Bool.or_true, Bool.true_or, i_10, i_00, if_true, if_false, not_true_eq_false, not_false_eq_true, and_false, false_and, okp_sI, okp_sL, okp_aI, okp_aL, hR_sI, hR_sL, hR_aI, hR_aL]
  rw [x_255_2, x_255_3 (okp_lt ho), x_255_4]
  have h0 := fillL_loop (sc := sc) (d := d) (Q := Q) (v := v) ho hl (LN k) 0 (by omega) (hL h k)
  rw [aL_id] at h0
  simp only [ho, Bool.true_or, Bool.or_true, true_and, cl2_i, cl2_r, cl2_n, cl2_l, tl_s, tl_n, true_and, and_true, Option.some.injEq, exists_eq_left', Bool.and_self, Bool.true_and, Bool.and_true, Bool.or_true, Bool.true_or, i_10, i_00, if_true, if_false, not_true_eq_false, not_false_eq_true, and_false, false_and, okp_sI, okp_sL, okp_aI, okp_aL, hR_sI, hR_sL, hR_aI, hR_aL]
  refine Eq.trans h0 ?_
  congr 3
  funext b
  simp
def Pw (k a b : Nat) : Prop := a = k + 5 ∨ a = k + 6
theorem c_cw_in {n : Nat} (hw : WF h) (hk : IsSh k) (hM : M ≤ 6) (hK : ∀ H, Fq (Pw k) h H → (∀ j, j < M → hL H (k + 5) j = wd (bF kd ex) M n j) → (∀ j, j < M → hL H (k + 6) j = wd (bF kd ex) M (n + 1) j) → Tr sc (d + 2) 67 (48, [some (.ref k), some (.int x), some (.int y), some (.int (nI M)), none], [], H) Q) : ∀ (m i : Nat) (H : PH), i + m = M → ShC H k kd b M tn sx sy ex → Fq (Pw k) h H → (∀ j, j < M → hL H (k + 5) j = wd (bF kd ex) M n j) → (∀ j, j < i → hL H (k + 6) j = wd (bF kd ex) M (n + 1) j) → Tr sc (d + 2) 67 (23, [some (.ref k), some (.int x), some (.int y), some (.int (nI i)), none], [], H) Q := by
  intro m
  induction m with
  | zero =>
    intro i H hi c f a1 a2
    have e : i = M := by omega
    subst e
    obtain ⟨ho, r0, r1, r2, r3, r4, r5, o0, o1, o2, o3, o4, o5, n0, n1, n2, n3, n4, n5⟩ := sh_ref (f.WF hw) hk
    obtain ⟨c1, c2, c3, c4⟩ := c
    rw [x_67_23]
    simp only [x_67_24, x_67_25, x_67_28, x_67_31, x_67_32, x_67_35, x_67_36, x_67_37, x_67_38, x_67_41, x_67_42, x_67_45, cl2_i, cl2_r, cl2_n, cl2_l, tl_s, tl_n, true_and, and_true, Option.some.injEq, exists_eq_left', Bool.and_self, Bool.true_and, Bool.and_true, Bool.or_true, Bool.true_or, i_10, i_00, if_true, if_false, not_true_eq_false, not_false_eq_true, and_false, false_and, okp_sI, okp_sL, okp_aI, okp_aL, hR_sI, hR_sL, hR_aI, hR_aL, ho, c3]
    rw [if_pos (Int32.le_refl _)]
    exact hK H f a1 a2
  | succ m ih =>
    intro i H hi c f a1 a2
    have hlt : i < M := by omega
    obtain ⟨ho, r0, r1, r2, r3, r4, r5, o0, o1, o2, o3, o4, o5, n0, n1, n2, n3, n4, n5⟩ := sh_ref (f.WF hw) hk
    have c' := c
    obtain ⟨c1, c2, c3, c4⟩ := c
    rw [x_67_23]
    simp only [x_67_24, x_67_25, x_67_28, x_67_31, x_67_32, x_67_35, x_67_36, x_67_37, x_67_38, x_67_41, x_67_42, x_67_45, cl2_i, cl2_r, cl2_n, cl2_l, tl_s, tl_n, true_and, and_true, Option.some.injEq, exists_eq_left', Bool.and_self, Bool.true_and, Bool.and_true, Bool.or_true, Bool.true_or, i_10, i_00, if_true, if_false, not_true_eq_false, not_false_eq_true, and_false, false_and, okp_sI, okp_sL, okp_aI, okp_aL, hR_sI, hR_sL, hR_aI, hR_aL, ho, c3, r5, c_waysBehind (f.WF hw) hk c3 hM (show i < 6 by omega), o5, n5, inb_nI (i := i) (n := 6) (by omega) (by decide), nI_clamp (n := i) (by omega), nI_1]
    rw [if_neg (nI_ge hlt (by omega))]
    have f' : Fq (Pw k) h (sL H (k + 6) i (s6 (fun j => if (decide (hI H k 6 = 4 ∧ bit1 (hI H (k + 4) i) j = true)) = true then 0 else hL H (k + 5) j) M)) := f.sL (Or.inr rfl)
    refine ih (i + 1) _ (by omega) ?_ f' (fun j hj => ?_) (fun j hj => ?_)
    · exact c'.fr ((Fq.rf (P := Pw k)).sL (Or.inr rfl)) (fun a j h1 h2 q => by unfold Pw at q; omega)
    · rw [hL_sL, if_neg (by omega)]; exact a1 j hj
    · rw [hL_sL, if_pos rfl]
      by_cases z : j = i
      · rw [if_pos z, z]
        show _ = s6 (fun j => if bF kd ex i j = true then 0 else wd (bF kd ex) M n j) M
        refine s6_congr M (fun j hj => ?_)
        rw [a1 j hj, c1, (c4 i hlt).2.2.2]
        rfl
      · rw [if_neg z]; exact a2 j (by omega)
theorem c_cw_out {N : Nat} (hw : WF h) (hk : IsSh k) (hM : M ≤ 6) (hN : N < 100) (hK : ∀ H, Fq (Pw k) h H → ShC H k kd b M tn sx sy ex → (∀ j, j < M → hL H (k + 5) j = wd (bF kd ex) M N j) → ∀ l3, cl2 l3 = l3 → Tr sc (d + 2) 67 (71, [some (.ref k), some (.int (nI (N + 1))), some (.int (nI (N + 2))), l3, none], [], H) Q) : ∀ (m n : Nat) (H : PH) (l3 : Option Value), cl2 l3 = l3 → n + m = N → ShC H k kd b M tn sx sy ex → Fq (Pw k) h H → (∀ j, j < M → hL H (k + 5) j = wd (bF kd ex) M n j) → Tr sc (d + 2) 67 (16, [some (.ref k), some (.int (nI (N + 1))), some (.int (nI (n + 2))), l3, none], [], H) Q := by
  intro m
  induction m with
  | zero =>
    intro n H l3 hl hn c f a1
    have e : n = N := by omega
    subst e
    rw [x_67_16]
    simp only [x_67_17, x_67_18, x_67_21, x_67_22, cl2_i, cl2_r, cl2_n, cl2_l, tl_s, tl_n, true_and, and_true, Option.some.injEq, exists_eq_left', Bool.and_self, Bool.true_and, Bool.and_true, Bool.or_true, Bool.true_or, i_10, i_00, if_true, if_false, not_true_eq_false, not_false_eq_true, and_false, false_and, okp_sI, okp_sL, okp_aI, okp_aL, hR_sI, hR_sL, hR_aI, hR_aL]
    rw [if_pos (nI_lt (by omega) (by omega))]
    exact hK H f c a1 l3 hl
  | succ m ih =>
    intro n H l3 hl hn c f a1
    rw [x_67_16]
    simp only [x_67_17, x_67_18, x_67_21, x_67_22, cl2_i, cl2_r, cl2_n, cl2_l, tl_s, tl_n, true_and, and_true, Option.some.injEq, exists_eq_left', Bool.and_self, Bool.true_and, Bool.and_true, Bool.or_true, Bool.true_or, i_10, i_00, if_true, if_false, not_true_eq_false, not_false_eq_true, and_false, false_and, okp_sI, okp_sL, okp_aI, okp_aL, hR_sI, hR_sL, hR_aI, hR_aL]
    rw [if_neg (nI_nlt (by omega) (by omega))]
    refine c_cw_in (n := n) hw hk hM (fun H2 f2 b1 b2 => ?_) M 0 H (by omega) c f a1 (fun j hj => by omega)
    have c2 := c.fr (h' := H2) (P := fun a b => Pw k a b) (h := H) ⟨f2.1.trans f.1.symm, fun a b => (f2.2.1 a b).trans (f.2.1 a b).symm, fun a b q => ⟨(f2.i q).trans (f.i q).symm, (f2.l q).trans (f.l q).symm⟩⟩ (fun a j h1 h2 q => by unfold Pw at q; omega)
    obtain ⟨ho, r0, r1, r2, r3, r4, r5, o0, o1, o2, o3, o4, o5, n0, n1, n2, n3, n4, n5⟩ := sh_ref (f2.WF hw) hk
    have n11 : okp H2 (k + 6) 11 = false := by
      cases z : okp H2 (k + 6) 11 with
      | false => rfl
      | true => exact absurd ((okp_spec z).2.2.symm.trans (okp_spec o5).2.2) (by decide)
    have nn : ∀ v : Int32, ¬ nI M < 0 := fun _ => nI_pos (by omega)
    simp only [x_67_48, x_67_49, x_67_52, x_67_53, x_67_54, x_67_57, x_67_58, x_67_59, x_67_62, x_67_65, x_67_68, cl2_i, cl2_r, cl2_n, cl2_l, tl_s, tl_n, true_and, and_true, Option.some.injEq, exists_eq_left', Bool.and_self, Bool.true_and, Bool.and_true, Bool.or_true, Bool.true_or, i_10, i_00, if_true, if_false, not_true_eq_false, not_false_eq_true, and_false, false_and, okp_sI, okp_sL, okp_aI, okp_aL, hR_sI, hR_sL, hR_aI, hR_aL, ho, r4, r5, c2.2.2.1, n11, o4, o5, n4, n5, nI_pos (n := M) (by omega), nI_clamp (n := M) (by omega), nI_1, Bool.false_eq_true, Bool.false_and, cl_0, i_nn0]
    refine ⟨⟨by omega, by omega, by decide⟩, ?_⟩
    refine ih (n + 1) _ _ rfl (by omega) (c2.fr ((Fq.rf (P := Pw k)).aL (fun b => Or.inl rfl)) (fun a j h1 h2 q => by unfold Pw at q; omega)) (f2.aL (fun b => Or.inl rfl)) (fun j hj => ?_)
    rw [hL_aL, if_pos rfl, pk_cpy_in (Nat.zero_le _) (by omega), show 0 + (j - 0) = j by omega]
    exact b2 j hj
theorem c_cw_sum {N L : Nat} (hw : WF h) (hk : IsSh k) (hz : hI h k 8 = nI M) (hM : M ≤ 6) : ∀ (n i : Nat), i + n = M → Tr sc d 67 (76, [some (.ref k), some (.int x), some (.long (s6 (hL h (k + 5)) i)), none, some (.int (nI i))], [], h) Q = Q (some (.long (s6 (hL h (k + 5)) M)), h) := by
  obtain ⟨ho, r0, r1, r2, r3, r4, r5, o0, o1, o2, o3, o4, o5, n0, n1, n2, n3, n4, n5⟩ := sh_ref hw hk
  intro n
  induction n with
  | zero =>
    intro i hi
    have e : i = M := by omega
    subst e
    rw [x_67_76]
    simp only [x_67_78, x_67_79, x_67_82, x_67_85, x_67_86, x_67_87, x_67_90, x_67_92, x_67_93, x_67_94, x_67_95, x_67_98, x_67_101, x_67_102, cl2_i, cl2_r, cl2_n, cl2_l, tl_s, tl_n, true_and, and_true, Option.some.injEq, exists_eq_left', Bool.and_self, Bool.true_and, Bool.and_true, Bool.or_true, Bool.true_or, i_10, i_00, if_true, if_false, not_true_eq_false, not_false_eq_true, and_false, false_and, okp_sI, okp_sL, okp_aI, okp_aL, hR_sI, hR_sL, hR_aI, hR_aL, ho, hz]
    rw [if_pos (Int32.le_refl _)]
  | succ n ih =>
    intro i hi
    have hlt : i < M := by omega
    rw [x_67_76]
    simp only [x_67_78, x_67_79, x_67_82, x_67_85, x_67_86, x_67_87, x_67_90, x_67_92, x_67_93, x_67_94, x_67_95, x_67_98, x_67_101, x_67_102, cl2_i, cl2_r, cl2_n, cl2_l, tl_s, tl_n, true_and, and_true, Option.some.injEq, exists_eq_left', Bool.and_self, Bool.true_and, Bool.and_true, Bool.or_true, Bool.true_or, i_10, i_00, if_true, if_false, not_true_eq_false, not_false_eq_true, and_false, false_and, okp_sI, okp_sL, okp_aI, okp_aL, hR_sI, hR_sL, hR_aI, hR_aL, ho, hz, r4, o4, n4, inb_nI (i := i) (n := 6) (by omega) (by decide), nI_clamp (n := i) (by omega), nI_1]
    rw [if_neg (nI_ge hlt (by omega))]
    exact ih (i + 1) (by omega)
theorem c_countWords {N : Nat} (hw : WF h) (hk : IsSh k) (c : ShC h k kd b M tn sx sy ex) (hM : M ≤ 6) (hN : N ≤ 6) (hK : ∀ h', Fq (Pw k) h h' → Q (some (.long (if N = 0 then 1 else s6 (wd (bF kd ex) M (N - 1)) M)), h')) : Tr sc (d + 2) 67 (ent0 67 [.ref k, .int (nI N)] h) Q := by
  obtain ⟨ho, r0, r1, r2, r3, r4, r5, o0, o1, o2, o3, o4, o5, n0, n1, n2, n3, n4, n5⟩ := sh_ref hw hk
  rw [e_67]
  simp only [x_67_0, x_67_1, x_67_4, x_67_5, x_67_6, x_67_7, x_67_10, x_67_11, x_67_14, x_67_15, cl2_i, cl2_r, cl2_n, cl2_l, tl_s, tl_n, true_and, and_true, Option.some.injEq, exists_eq_left', Bool.and_self, Bool.true_and, Bool.and_true, Bool.or_true, Bool.true_or, i_10, i_00, if_true, if_false, not_true_eq_false, not_false_eq_true, and_false, false_and, okp_sI, okp_sL, okp_aI, okp_aL, hR_sI, hR_sL, hR_aI, hR_aL, ho, r4, c_fillL o4 (show LN (k + 5) < 2 ^ 31 by rw [n4]; decide)]
  cases N with
  | zero =>
    rw [if_neg (by decide)]
    exact hK h Fq.rf
  | succ N =>
    rw [if_pos (by rw [← nI_0]; exact nI_lt (by omega) (by omega))]
    have f : Fq (Pw k) h (aL h (k + 5) (fun b => if b < LN (k + 5) then 1 else hL h (k + 5) b)) := (Fq.rf (P := Pw k)).aL (fun b => Or.inl rfl)
    refine c_cw_out (N := N) hw hk hM (by omega) (fun H f2 c2 a1 l3 hl => ?_) N 0 _ none rfl (by omega) (c.fr f (fun a j h1 h2 q => by unfold Pw at q; omega)) f (fun j hj => ?_)
    · simp only [x_67_71, x_67_72, x_67_73, x_67_74, cl2_i, cl2_r, cl2_n, cl2_l, tl_s, tl_n, true_and, and_true, Option.some.injEq, exists_eq_left', Bool.and_self, Bool.true_and, Bool.and_true, Bool.or_true, Bool.true_or, i_10, i_00, if_true, if_false, not_true_eq_false, not_false_eq_true, and_false, false_and, okp_sI, okp_sL, okp_aI, okp_aL, hR_sI, hR_sL, hR_aI, hR_aL, hl]
      have e := c_cw_sum (sc := sc) (d := d + 2) (Q := Q) (x := nI (N + 1)) (N := 0) (L := 0) (f2.WF hw) hk c2.2.2.1 hM M 0 (by omega)
      refine Eq.mpr e ?_
      have e3 := hK H f2
      rw [if_neg (by omega), show N + 1 - 1 = N by omega] at e3
      rw [s6_congr M a1]
      exact e3
    · rw [hL_aL, if_pos rfl, n4, if_pos (by omega)]
      rfl
theorem m_wd_j {i n : Nat} (hw : WF H) (hs : s < 8) (hi : i < M) (hz : hI H 134 s = nI M) (hM : M ≤ 6) : ∀ (m j : Nat), j + m = M → Tr sc (d + 1) 201 (112, [some (.ref 124), some (.int (nI s)), some (.int x), some (.int 0), some (.int (nI n)), some (.int (nI i)), some (.int (nI j))], [], sL H 140 i (s6 (fun j => if (decide (hI H 132 s = 4 ∧ bit1 (hI H 138 (6 * s + i)) j = true)) = true then 0 else hL H 139 j) j)) Q = Tr sc (d + 1) 201 (162, [some (.ref 124), some (.int (nI s)), some (.int x), some (.int 0), some (.int (nI n)), some (.int (nI i)), some (.int (nI M))], [], sL H 140 i (s6 (fun j => if (decide (hI H 132 s = 4 ∧ bit1 (hI H 138 (6 * s + i)) j = true)) = true then 0 else hL H 139 j) M)) Q := by
  intro m
  induction m with
  | zero =>
    intro j hj
    have e : j = M := by omega
    subst e
    rw [x_201_112]
    simp only [x_201_114, x_201_115, x_201_118, x_201_119, x_201_120, x_201_123, x_201_124, x_201_127, x_201_129, x_201_130, x_201_131, x_201_132, x_201_133, x_201_135, x_201_137, x_201_140, x_201_143, x_201_144, x_201_147, x_201_148, x_201_151, x_201_153, x_201_154, x_201_155, x_201_156, x_201_159, o_124 hw, w_124_18 hw, w_124_29 hw, w_124_30 hw, o_134 hw, iOk_lt (k := 134) (by decide), iRd_lt (k := 134) (by decide), show LN 134 = 8 from rfl, o_140 hw, show LN 140 = 6 from rfl, o_139 hw, show LN 139 = 6 from rfl, cl2_i, cl2_r, cl2_n, cl2_l, tl_s, tl_n, true_and, and_true, Option.some.injEq, exists_eq_left', Bool.and_self, Bool.true_and, Bool.and_true, Bool.or_true, Bool.true_or, i_10, i_00, if_true, if_false, not_true_eq_false, not_false_eq_true, and_false, false_and, okp_sI, okp_sL, okp_aI, okp_aL, hR_sI, hR_sL, hR_aI, hR_aL, iOk_sL, iRd_sL, hI_sL, inb_nI (n := 8) hs (by decide), nI_clamp (n := s) (by omega), hz]
    rw [if_pos (Int32.le_refl _)]
  | succ m ih =>
    intro j hj
    have hlt : j < M := by omega
    have mb : ∀ (d : Nat) (v : Int64) (Q : PRes → Prop), Tr sc d 187 (ent0 187 [.ref 124, .int (nI s), .int (nI i), .int (nI j)] (sL H 140 i v)) Q = Q (some (.int (bI (hI H 132 s = 4 ∧ bit1 (hI H 138 (6 * s + i)) j = true))), sL H 140 i v) := fun d v Q => m_isBarred (h := sL H 140 i v) (i := i) (j := j) hw hs (by omega)
    rw [x_201_112]
    simp only [x_201_114, x_201_115, x_201_118, x_201_119, x_201_120, x_201_123, x_201_124, x_201_127, x_201_129, x_201_130, x_201_131, x_201_132, x_201_133, x_201_135, x_201_137, x_201_140, x_201_143, x_201_144, x_201_147, x_201_148, x_201_151, x_201_153, x_201_154, x_201_155, x_201_156, x_201_159, o_124 hw, w_124_18 hw, w_124_29 hw, w_124_30 hw, o_134 hw, iOk_lt (k := 134) (by decide), iRd_lt (k := 134) (by decide), show LN 134 = 8 from rfl, o_140 hw, show LN 140 = 6 from rfl, o_139 hw, show LN 139 = 6 from rfl, cl2_i, cl2_r, cl2_n, cl2_l, tl_s, tl_n, true_and, and_true, Option.some.injEq, exists_eq_left', Bool.and_self, Bool.true_and, Bool.and_true, Bool.or_true, Bool.true_or, i_10, i_00, if_true, if_false, not_true_eq_false, not_false_eq_true, and_false, false_and, okp_sI, okp_sL, okp_aI, okp_aL, hR_sI, hR_sL, hR_aI, hR_aL, iOk_sL, iRd_sL, hI_sL, inb_nI (n := 8) hs (by decide), nI_clamp (n := s) (by omega), hz, inb_nI (i := i) (n := 6) (by omega) (by decide), nI_clamp (n := i) (by omega), inb_nI (i := j) (n := 6) (by omega) (by decide), nI_clamp (n := j) (by omega), mb, hL_sL, Nat.reduceEqDiff, bI_0, nI_1, sL_sL]
    rw [if_neg (nI_ge hlt (by omega))]
    have e2 := ih (j + 1) (by omega)
    have e3 : ∀ f : Nat → Int64, s6 f (j + 1) = s6 f j + f j := fun _ => rfl
    rw [e3] at e2
    by_cases z : hI H 132 s = 4 ∧ bit1 (hI H 138 (6 * s + i)) j = true
    · rw [if_neg (fun q => q z)]
      simp only [decide_eq_true_eq] at e2 ⊢
      rw [if_pos z] at e2
      exact e2
    · rw [if_pos z]
      simp only [decide_eq_true_eq] at e2 ⊢
      rw [if_neg z] at e2
      exact e2
def Pm (a b : Nat) : Prop := a = 139 ∨ a = 140 ∨ (a = 124 ∧ b = 3)
/-- what the model's words keeps: the ends of n steps -/
def WI (h H : PH) (kd : Int32) (ex : Nat → Int) (M n : Nat) : Prop := Fq Pm h H ∧ ∀ j, j < M → hL H 139 j = wd (bF kd ex) M n j
theorem m_bar_eq (c : ShM H s kd b M tn sx sy ex) (hi : i < M) : decide (hI H 132 s = 4 ∧ bit1 (hI H 138 (6 * s + i)) j = true) = bF kd ex i j := by
  obtain ⟨c1, c2, c3, c4⟩ := c
  unfold bF
  rw [c1]
  by_cases z : kd = 4
  · rw [(c4 i hi).2.2.2 (Or.inr z)]
  · rw [decide_eq_false (fun q => z q.1), decide_eq_false (fun q => z q.1)]
theorem m_wd_i {n N : Nat} (hw : WF h) (hs : s < 8) (hM : M ≤ 6) (hK : ∀ H, ShM H s kd b M tn sx sy ex → WI h H kd ex M n → hL H 124 3 = s6 (wd (bF kd ex) M n) M → (∀ j, j < M → hL H 140 j = wd (bF kd ex) M (n + 1) j) → ∀ l6, cl2 l6 = l6 → Tr sc (d + 1) 201 (168, [some (.ref 124), some (.int (nI s)), some (.int x), some (.int 0), some (.int (nI N)), some (.int (nI M)), l6], [], H) Q) : ∀ (m i : Nat) (H : PH) (l6 : Option Value), cl2 l6 = l6 → i + m = M → ShM H s kd b M tn sx sy ex → WI h H kd ex M n → hL H 124 3 = s6 (wd (bF kd ex) M n) i → (∀ j, j < i → hL H 140 j = wd (bF kd ex) M (n + 1) j) → Tr sc (d + 1) 201 (74, [some (.ref 124), some (.int (nI s)), some (.int x), some (.int 0), some (.int (nI N)), some (.int (nI i)), l6], [], H) Q := by
  intro m
  induction m with
  | zero =>
    intro i H l6 hl hi c w a1 a2
    have e : i = M := by omega
    subst e
    have hw2 := w.1.WF hw
    rw [x_201_74]
    simp only [x_201_76, x_201_77, x_201_80, x_201_81, x_201_82, o_124 hw2, w_124_18 hw2, o_134 hw2, iOk_lt (k := 134) (by decide), iRd_lt (k := 134) (by decide), show LN 134 = 8 from rfl, cl2_i, cl2_r, cl2_n, cl2_l, tl_s, tl_n, true_and, and_true, Option.some.injEq, exists_eq_left', Bool.and_self, Bool.true_and, Bool.and_true, Bool.or_true, Bool.true_or, i_10, i_00, if_true, if_false, not_true_eq_false, not_false_eq_true, and_false, false_and, okp_sI, okp_sL, okp_aI, okp_aL, hR_sI, hR_sL, hR_aI, hR_aL, inb_nI (n := 8) hs (by decide), nI_clamp (n := s) (by omega), c.2.2.1]
    rw [if_pos (Int32.le_refl _)]
    exact hK H c w a1 a2 l6 hl
  | succ m ih =>
    intro i H l6 hl hi c w a1 a2
    have hlt : i < M := by omega
    have hw2 := w.1.WF hw
    rw [x_201_74]
    simp only [x_201_76, x_201_77, x_201_80, x_201_81, x_201_82, x_201_85, x_201_86, x_201_87, x_201_90, x_201_91, x_201_94, x_201_96, x_201_97, x_201_98, x_201_101, x_201_102, x_201_105, x_201_107, x_201_108, x_201_109, x_201_110, o_124 hw2, w_124_18 hw2, w_124_29 hw2, w_124_30 hw2, o_134 hw2, iOk_lt (k := 134) (by decide), iRd_lt (k := 134) (by decide), show LN 134 = 8 from rfl, o_139 hw2, show LN 139 = 6 from rfl, o_140 hw2, show LN 140 = 6 from rfl, cl2_i, cl2_r, cl2_n, cl2_l, tl_s, tl_n, true_and, and_true, Option.some.injEq, exists_eq_left', Bool.and_self, Bool.true_and, Bool.and_true, Bool.or_true, Bool.true_or, i_10, i_00, if_true, if_false, not_true_eq_false, not_false_eq_true, and_false, false_and, okp_sI, okp_sL, okp_aI, okp_aL, hR_sI, hR_sL, hR_aI, hR_aL, inb_nI (n := 8) hs (by decide), nI_clamp (n := s) (by omega), c.2.2.1, inb_nI (i := i) (n := 6) (by omega) (by decide), nI_clamp (n := i) (by omega)]
    rw [if_neg (nI_ge hlt (by omega))]
    have hw3 : WF (sL H 124 3 (hL H 124 3 + hL H 139 i)) := hw2
    have e1 := m_wd_j (sc := sc) (d := d) (Q := Q) (x := x) (n := N) (H := sL H 124 3 (hL H 124 3 + hL H 139 i)) hw3 hs hlt (show _ = nI M from c.2.2.1) hM M 0 (by omega)
    refine Eq.mpr e1 ?_
    clear e1
    simp only [x_201_162, x_201_165, cl2_i, cl2_r, cl2_n, cl2_l, tl_s, tl_n, true_and, and_true, Option.some.injEq, exists_eq_left', Bool.and_self, Bool.true_and, Bool.and_true, Bool.or_true, Bool.true_or, i_10, i_00, if_true, if_false, not_true_eq_false, not_false_eq_true, and_false, false_and, okp_sI, okp_sL, okp_aI, okp_aL, hR_sI, hR_sL, hR_aI, hR_aL, nI_1]
    have c3 : ShM (sL (sL H 124 3 (hL H 124 3 + hL H 139 i)) 140 i (s6 (fun j => if (decide (hI (sL H 124 3 (hL H 124 3 + hL H 139 i)) 132 s = 4 ∧ bit1 (hI (sL H 124 3 (hL H 124 3 + hL H 139 i)) 138 (6 * s + i)) j = true)) = true then 0 else hL (sL H 124 3 (hL H 124 3 + hL H 139 i)) 139 j) M)) s kd b M tn sx sy ex := c
    refine ih (i + 1) _ _ rfl (by omega) c3 ⟨(w.1.sL (Or.inr (Or.inr ⟨rfl, rfl⟩))).sL (Or.inr (Or.inl rfl)), fun j hj => w.2 j hj⟩ ?_ (fun j hj => ?_)
    · show hL H 124 3 + hL H 139 i = s6 (wd (bF kd ex) M n) i + wd (bF kd ex) M n i
      rw [a1, w.2 i hlt]
    · rw [hL_sL, if_pos rfl]
      by_cases z : j = i
      · rw [if_pos z, z]
        show _ = s6 (fun j => if bF kd ex i j = true then 0 else wd (bF kd ex) M n j) M
        refine s6_congr M (fun j hj => ?_)
        have e2 := m_bar_eq (j := j) c hlt
        show (if decide (hI H 132 s = 4 ∧ bit1 (hI H 138 (6 * s + i)) j = true) = true then 0 else hL H 139 j) = _
        rw [e2, w.2 j hj]
      · rw [if_neg z]; exact a2 j (by omega)
theorem m_wd_c {n N : Nat} (hw : WF h) (hs : s < 8) (hM : M ≤ 6) (hK : ∀ H, ShM H s kd b M tn sx sy ex → WI h H kd ex M (n + 1) → hL H 124 3 = s6 (wd (bF kd ex) M n) M → ∀ l6, cl2 l6 = l6 → Tr sc (d + 1) 201 (202, [some (.ref 124), some (.int (nI s)), some (.int x), some (.int 0), some (.int (nI N)), some (.int (nI M)), l6], [], H) Q) : ∀ (m i : Nat) (H : PH) (l6 : Option Value), cl2 l6 = l6 → i + m = M → ShM H s kd b M tn sx sy ex → Fq Pm h H → hL H 124 3 = s6 (wd (bF kd ex) M n) M → (∀ j, j < M → hL H 140 j = wd (bF kd ex) M (n + 1) j) → (∀ j, j < i → hL H 139 j = wd (bF kd ex) M (n + 1) j) → Tr sc (d + 1) 201 (171, [some (.ref 124), some (.int (nI s)), some (.int x), some (.int 0), some (.int (nI N)), some (.int (nI i)), l6], [], H) Q := by
  intro m
  induction m with
  | zero =>
    intro i H l6 hl hi c w a1 a2 a3
    have e : i = M := by omega
    subst e
    have hw2 := w.WF hw
    rw [x_201_171]
    simp only [x_201_173, x_201_174, x_201_177, x_201_178, x_201_179, x_201_182, x_201_183, x_201_186, x_201_188, x_201_189, x_201_192, x_201_194, x_201_195, x_201_196, x_201_199, o_124 hw2, w_124_18 hw2, w_124_29 hw2, w_124_30 hw2, o_134 hw2, iOk_lt (k := 134) (by decide), iRd_lt (k := 134) (by decide), show LN 134 = 8 from rfl, o_139 hw2, show LN 139 = 6 from rfl, o_140 hw2, show LN 140 = 6 from rfl, cl2_i, cl2_r, cl2_n, cl2_l, tl_s, tl_n, true_and, and_true, Option.some.injEq, exists_eq_left', Bool.and_self, Bool.true_and, Bool.and_true, Bool.or_true, Bool.true_or, i_10, i_00, if_true, if_false, not_true_eq_false, not_false_eq_true, and_false, false_and, okp_sI, okp_sL, okp_aI, okp_aL, hR_sI, hR_sL, hR_aI, hR_aL, inb_nI (n := 8) hs (by decide), nI_clamp (n := s) (by omega), c.2.2.1]
    rw [if_pos (Int32.le_refl _)]
    exact hK H c ⟨w, a3⟩ a1 l6 hl
  | succ m ih =>
    intro i H l6 hl hi c w a1 a2 a3
    have hlt : i < M := by omega
    have hw2 := w.WF hw
    rw [x_201_171]
    simp only [x_201_173, x_201_174, x_201_177, x_201_178, x_201_179, x_201_182, x_201_183, x_201_186, x_201_188, x_201_189, x_201_192, x_201_194, x_201_195, x_201_196, x_201_199, o_124 hw2, w_124_18 hw2, w_124_29 hw2, w_124_30 hw2, o_134 hw2, iOk_lt (k := 134) (by decide), iRd_lt (k := 134) (by decide), show LN 134 = 8 from rfl, o_139 hw2, show LN 139 = 6 from rfl, o_140 hw2, show LN 140 = 6 from rfl, cl2_i, cl2_r, cl2_n, cl2_l, tl_s, tl_n, true_and, and_true, Option.some.injEq, exists_eq_left', Bool.and_self, Bool.true_and, Bool.and_true, Bool.or_true, Bool.true_or, i_10, i_00, if_true, if_false, not_true_eq_false, not_false_eq_true, and_false, false_and, okp_sI, okp_sL, okp_aI, okp_aL, hR_sI, hR_sL, hR_aI, hR_aL, inb_nI (n := 8) hs (by decide), nI_clamp (n := s) (by omega), c.2.2.1, inb_nI (i := i) (n := 6) (by omega) (by decide), nI_clamp (n := i) (by omega), nI_1, hl]
    rw [if_neg (nI_ge hlt (by omega))]
    refine ih (i + 1) _ l6 hl (by omega) (show ShM (sL H 139 i (hL H 140 i)) s kd b M tn sx sy ex from c) (w.sL (Or.inl rfl)) a1 a2 (fun j hj => ?_)
    rw [hL_sL, if_pos rfl]
    by_cases z : j = i
    · rw [if_pos z, z]; exact a2 i hlt
    · rw [if_neg z]; exact a3 j (by omega)
theorem m_wd_out {N : Nat} (hw : WF h) (hs : s < 8) (hM : M ≤ 6) (hN : N ≤ 6) (hK : ∀ H, Fq Pm h H → hL H 124 3 = (if N = 0 then 1 else s6 (wd (bF kd ex) M (N - 1)) M) → Q (some (.int 1), H)) : ∀ (m n : Nat) (H : PH) (l5 l6 : Option Value), cl2 l5 = l5 → cl2 l6 = l6 → n + m = N → ShM H s kd b M tn sx sy ex → WI h H kd ex M n → hL H 124 3 = (if n = 0 then 1 else s6 (wd (bF kd ex) M (n - 1)) M) → Tr sc (d + 1) 201 (60, [some (.ref 124), some (.int (nI s)), some (.int (nI N)), some (.int 0), some (.int (nI (n + 1))), l5, l6], [], H) Q := by
  intro m
  induction m with
  | zero =>
    intro n H l5 l6 hl5 hl6 hn c w a1
    have e : n = N := by omega
    subst e
    rw [x_201_60]
    simp only [x_201_62, x_201_63, x_201_208, x_201_209, cl2_i, cl2_r, cl2_n, cl2_l, tl_s, tl_n, true_and, and_true, Option.some.injEq, exists_eq_left', Bool.and_self, Bool.true_and, Bool.and_true, Bool.or_true, Bool.true_or, i_10, i_00, if_true, if_false, not_true_eq_false, not_false_eq_true, and_false, false_and, okp_sI, okp_sL, okp_aI, okp_aL, hR_sI, hR_sL, hR_aI, hR_aL]
    rw [if_pos (nI_lt (by omega) (by omega))]
    exact hK H w.1 a1
  | succ m ih =>
    intro n H l5 l6 hl5 hl6 hn c w a1
    have hw2 := w.1.WF hw
    rw [x_201_60]
    simp only [x_201_62, x_201_63, x_201_66, x_201_67, x_201_68, x_201_71, x_201_72, o_124 hw2, cl2_i, cl2_r, cl2_n, cl2_l, tl_s, tl_n, true_and, and_true, Option.some.injEq, exists_eq_left', Bool.and_self, Bool.true_and, Bool.and_true, Bool.or_true, Bool.true_or, i_10, i_00, if_true, if_false, not_true_eq_false, not_false_eq_true, and_false, false_and, okp_sI, okp_sL, okp_aI, okp_aL, hR_sI, hR_sL, hR_aI, hR_aL, hl5, hl6]
    rw [if_neg (nI_nlt (by omega) (by omega))]
    refine m_wd_i (n := n) (b := b) (tn := tn) (sx := sx) (sy := sy) hw hs hM (fun H2 c2 w2 b1 b2 l6' hl6' => ?_) M 0 _ l6 hl6 (by omega) (show ShM (sL H 124 3 0) s kd b M tn sx sy ex from c) ⟨w.1.sL (Or.inr (Or.inr ⟨rfl, rfl⟩)), w.2⟩ rfl (fun j hj => by omega)
    simp only [x_201_168, x_201_169, cl2_i, cl2_r, cl2_n, cl2_l, tl_s, tl_n, true_and, and_true, Option.some.injEq, exists_eq_left', Bool.and_self, Bool.true_and, Bool.and_true, Bool.or_true, Bool.true_or, i_10, i_00, if_true, if_false, not_true_eq_false, not_false_eq_true, and_false, false_and, okp_sI, okp_sL, okp_aI, okp_aL, hR_sI, hR_sL, hR_aI, hR_aL, hl6']
    refine m_wd_c (n := n) (b := b) (tn := tn) (sx := sx) (sy := sy) hw hs hM (fun H3 c3 w3 d1 l6'' hl6'' => ?_) M 0 _ l6' hl6' (by omega) c2 w2.1 b1 b2 (fun j hj => by omega)
    simp only [x_201_202, x_201_205, cl2_i, cl2_r, cl2_n, cl2_l, tl_s, tl_n, true_and, and_true, Option.some.injEq, exists_eq_left', Bool.and_self, Bool.true_and, Bool.and_true, Bool.or_true, Bool.true_or, i_10, i_00, if_true, if_false, not_true_eq_false, not_false_eq_true, and_false, false_and, okp_sI, okp_sL, okp_aI, okp_aL, hR_sI, hR_sL, hR_aI, hR_aL, hl6'', nI_1]
    refine ih (n + 1) H3 _ l6'' rfl hl6'' (by omega) c3 w3 ?_
    rw [if_neg (by omega), show n + 1 - 1 = n by omega]
    exact d1
theorem m_wd_1 {N : Nat} (hw : WF h) (hs : s < 8) (hM : M ≤ 6) (hK : ∀ H, ShM H s kd b M tn sx sy ex → WI h H kd ex M 0 → hL H 124 3 = 1 → Tr sc (d + 1) 201 (57, [some (.ref 124), some (.int (nI s)), some (.int x), some (.int 0), some (.int (nI M)), none, none], [], H) Q) : ∀ (m i : Nat) (H : PH), i + m = M → ShM H s kd b M tn sx sy ex → Fq Pm h H → (∀ j, j < i → hL H 139 j = 1) → hL H 124 3 = 1 → Tr sc (d + 1) 201 (32, [some (.ref 124), some (.int (nI s)), some (.int x), some (.int 0), some (.int (nI i)), none, none], [], H) Q := by
  intro m
  induction m with
  | zero =>
    intro i H hi c w a1 a2
    have e : i = M := by omega
    subst e
    have hw2 := w.WF hw
    rw [x_201_32]
    simp only [x_201_34, x_201_35, x_201_38, x_201_39, x_201_40, x_201_43, x_201_44, x_201_47, x_201_49, x_201_50, x_201_51, x_201_54, o_124 hw2, w_124_18 hw2, w_124_29 hw2, o_134 hw2, iOk_lt (k := 134) (by decide), iRd_lt (k := 134) (by decide), show LN 134 = 8 from rfl, o_139 hw2, show LN 139 = 6 from rfl, cl2_i, cl2_r, cl2_n, cl2_l, tl_s, tl_n, true_and, and_true, Option.some.injEq, exists_eq_left', Bool.and_self, Bool.true_and, Bool.and_true, Bool.or_true, Bool.true_or, i_10, i_00, if_true, if_false, not_true_eq_false, not_false_eq_true, and_false, false_and, okp_sI, okp_sL, okp_aI, okp_aL, hR_sI, hR_sL, hR_aI, hR_aL, inb_nI (n := 8) hs (by decide), nI_clamp (n := s) (by omega), c.2.2.1]
    rw [if_pos (Int32.le_refl _)]
    exact hK H c ⟨w, fun j hj => by rw [a1 j hj]; rfl⟩ a2
  | succ m ih =>
    intro i H hi c w a1 a2
    have hlt : i < M := by omega
    have hw2 := w.WF hw
    rw [x_201_32]
    simp only [x_201_34, x_201_35, x_201_38, x_201_39, x_201_40, x_201_43, x_201_44, x_201_47, x_201_49, x_201_50, x_201_51, x_201_54, o_124 hw2, w_124_18 hw2, w_124_29 hw2, o_134 hw2, iOk_lt (k := 134) (by decide), iRd_lt (k := 134) (by decide), show LN 134 = 8 from rfl, o_139 hw2, show LN 139 = 6 from rfl, cl2_i, cl2_r, cl2_n, cl2_l, tl_s, tl_n, true_and, and_true, Option.some.injEq, exists_eq_left', Bool.and_self, Bool.true_and, Bool.and_true, Bool.or_true, Bool.true_or, i_10, i_00, if_true, if_false, not_true_eq_false, not_false_eq_true, and_false, false_and, okp_sI, okp_sL, okp_aI, okp_aL, hR_sI, hR_sL, hR_aI, hR_aL, inb_nI (n := 8) hs (by decide), nI_clamp (n := s) (by omega), c.2.2.1, inb_nI (i := i) (n := 6) (by omega) (by decide), nI_clamp (n := i) (by omega), nI_1]
    rw [if_neg (nI_ge hlt (by omega))]
    refine ih (i + 1) _ (by omega) (show ShM (sL H 139 i 1) s kd b M tn sx sy ex from c) (w.sL (Or.inl rfl)) (fun j hj => ?_) a2
    rw [hL_sL, if_pos rfl]
    by_cases z : j = i
    · rw [if_pos z]
    · rw [if_neg z]; exact a1 j (by omega)
theorem both_words (hc : CM h) : Both sc 115 201 [.int x, .int y] h := by
  have hw := hc.1
  refine glue_sh (x := x) (T := 0 ≤ y ∧ y ≤ 6) (CC := fun Q => Tr sc 19 115 (27, [some (.ref 0), some (.int x), some (.int y), some (.int 0)], [], h) Q) (MC := fun h1 Q => Tr sc 19 201 (24, [some (.ref 124), some (.int x), some (.int y), some (.int 0), none, none, none], [], h1) Q) hc (fun Q => ?_) (fun h1 Q hw1 => ?_) (fun s hs hx hT hA => ?_) (fun A B hAB q => Tr_mono q hAB)
  · rw [e_115]
    simp only [x_115_0, x_115_1, x_115_2, x_115_3, x_115_6, x_115_7, x_115_9, x_115_12, x_115_13, x_115_16, x_115_17, x_115_20, x_115_21, x_115_22, x_115_25, x_115_26, o_0 hw, cl2_i, cl2_r, cl2_n, cl2_l, tl_s, tl_n, true_and, and_true, Option.some.injEq, exists_eq_left', Bool.and_self, Bool.true_and, Bool.and_true, Bool.or_true, Bool.true_or, i_10, i_00, if_true, if_false, not_true_eq_false, not_false_eq_true, and_false, false_and, okp_sI, okp_sL, okp_aI, okp_aL, hR_sI, hR_sL, hR_aI, hR_aL, c_shR hw, i_1m1, i_3m1, g_tw]
  · rw [e_201]
    simp only [x_201_0, x_201_1, x_201_2, x_201_4, x_201_7, x_201_10, x_201_11, x_201_12, x_201_13, x_201_14, x_201_17, x_201_18, x_201_19, x_201_22, x_201_23, o_124 hw1, cl2_i, cl2_r, cl2_n, cl2_l, tl_s, tl_n, true_and, and_true, Option.some.injEq, exists_eq_left', Bool.and_self, Bool.true_and, Bool.and_true, Bool.or_true, Bool.true_or, i_10, i_00, if_true, if_false, not_true_eq_false, not_false_eq_true, and_false, false_and, okp_sI, okp_sL, okp_aI, okp_aL, hR_sI, hR_sL, hR_aI, hR_aL, m_in, bI_0, m_shR hw1, i_m1, i_m3, i_0, g_nt]
  · subst hx
    obtain ⟨N, hN, rfl⟩ := ir_of (n := 7) (by decide) (show 0 ≤ y ∧ y < 7 from ⟨hT.1, by have h1 := Int32.le_iff_toInt_le.mp hT.2; have e6 : (6 : Int32).toInt = 6 := rfl; have e7 : (7 : Int32).toInt = 7 := rfl; exact Int32.lt_iff_toInt_lt.mpr (by omega)⟩)
    obtain ⟨kd, b, M, tn, sx, sy, ex, W, C, D⟩ := sh_ab hA
    obtain ⟨-, -, ⟨hM1, hM⟩, -⟩ := W
    obtain ⟨w1, w2, -⟩ := hw.shape hs
    simp only [x_115_27, x_115_28, x_115_29, x_115_32, x_115_33, x_115_34, o_0 hw, w_0_2 hw, o_3 hw, show LN 3 = 8 from rfl, cl2_i, cl2_r, cl2_n, cl2_l, tl_s, tl_n, true_and, and_true, Option.some.injEq, exists_eq_left', Bool.and_self, Bool.true_and, Bool.and_true, Bool.or_true, Bool.true_or, i_10, i_00, if_true, if_false, not_true_eq_false, not_false_eq_true, and_false, false_and, okp_sI, okp_sL, okp_aI, okp_aL, hR_sI, hR_sL, hR_aI, hR_aL, inb_nI (n := 8) hs (by decide), nI_clamp (n := s) (by omega), w1, w2, x_115_35]
    refine c_countWords hw (is_sh hs) C hM (by omega) (fun h' f => ?_)
    have hw' := f.WF hw
    simp only [x_115_35, x_115_38, x_115_41, x_115_42, o_0 hw', cl2_i, cl2_r, cl2_n, cl2_l, tl_s, tl_n, true_and, and_true, Option.some.injEq, exists_eq_left', Bool.and_self, Bool.true_and, Bool.and_true, Bool.or_true, Bool.true_or, i_10, i_00, if_true, if_false, not_true_eq_false, not_false_eq_true, and_false, false_and, okp_sI, okp_sL, okp_aI, okp_aL, hR_sI, hR_sL, hR_aI, hR_aL, o_0 hw']
    have fS : Fq Sc h h' := f.wk (fun a b q => by unfold Pw at q; unfold Sc; omega)
    refine ⟨hw', fS.i (by unfold Sc; omega), ?_⟩
    generalize hh3 : sL h' 0 16 (if N = 0 then 1 else s6 (wd (bF kd ex) M (N - 1)) M) = h3
    have hw3 : WF h3 := by rw [← hh3]; exact hw'
    have D3 : ShM h3 s kd b M tn sx sy ex := by rw [← hh3]; exact (show ShM h' s kd b M tn sx sy ex from D.fr fS (fun a j h1 h2 => by unfold Sc; omega))
    simp only [x_201_24, x_201_25, x_201_26, x_201_29, x_201_30, o_124 hw3, cl2_i, cl2_r, cl2_n, cl2_l, tl_s, tl_n, true_and, and_true, Option.some.injEq, exists_eq_left', Bool.and_self, Bool.true_and, Bool.and_true, Bool.or_true, Bool.true_or, i_10, i_00, if_true, if_false, not_true_eq_false, not_false_eq_true, and_false, false_and, okp_sI, okp_sL, okp_aI, okp_aL, hR_sI, hR_sL, hR_aI, hR_aL]
    refine m_wd_1 (h := h3) (N := N) (kd := kd) (b := b) (ex := ex) (tn := tn) (sx := sx) (sy := sy) hw3 hs hM (fun H c w a1 => ?_) M 0 _ (by omega) (show ShM (sL h3 124 3 1) s kd b M tn sx sy ex from D3) ((Fq.rf (P := Pm)).sL (Or.inr (Or.inr ⟨rfl, rfl⟩))) (fun j hj => by omega) rfl
    simp only [x_201_57, x_201_58, cl2_i, cl2_r, cl2_n, cl2_l, tl_s, tl_n, true_and, and_true, Option.some.injEq, exists_eq_left', Bool.and_self, Bool.true_and, Bool.and_true, Bool.or_true, Bool.true_or, i_10, i_00, if_true, if_false, not_true_eq_false, not_false_eq_true, and_false, false_and, okp_sI, okp_sL, okp_aI, okp_aL, hR_sI, hR_sL, hR_aI, hR_aL]
    refine m_wd_out (h := h3) (N := N) (kd := kd) (b := b) (ex := ex) (tn := tn) (sx := sx) (sy := sy) hw3 hs hM (by omega) (fun H2 f2 a2 => ?_) N 0 H none none rfl rfl (by omega) c w a1
    refine ⟨by first | rfl | exact ⟨_, rfl, rfl⟩, ?_⟩
    rw [← hh3] at f2
    exact cm_eN hc fS (f2.wk (fun a b q => by unfold Pm at q; unfold Sc; omega)) a2
end WD
