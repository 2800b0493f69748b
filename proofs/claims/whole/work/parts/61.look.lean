/-! ===== look: which vectors are alive ===== -/
def Pv (a b : Nat) : Prop := a = 24 ∨ a = 25 ∨ a = 30 ∨ a = 31
section LK
variable {sc : Nat × (Nat → Int32)} {d : Nat} {Q : PRes → Prop} {h h' H : PH} {k s r b M R i j v p n : Nat} {kd x y : Int32} {tn : Nat → Nat} {sx sy ex : Nat → Int} {X Y : Int}
theorem mxF_congr {f g : Nat → Int32} : ∀ n, (∀ j, j ≤ n → f j = g j) → mxF f n = mxF g n
  | 0, e => e 0 (by omega)
  | n + 1, e => by
    have h1 := mxF_congr n (fun j hj => e j (by omega))
    show (if mxF f n < f (n + 1) then f (n + 1) else mxF f n) = (if mxF g n < g (n + 1) then g (n + 1) else mxF g n)
    rw [h1, e (n + 1) (by omega)]
theorem mnF_congr {f g : Nat → Int32} : ∀ n, (∀ j, j ≤ n → f j = g j) → mnF f n = mnF g n
  | 0, e => e 0 (by omega)
  | n + 1, e => by
    have h1 := mnF_congr n (fun j hj => e j (by omega))
    show (if f (n + 1) < mnF f n then f (n + 1) else mnF f n) = (if g (n + 1) < mnF g n then g (n + 1) else mnF g n)
    rw [h1, e (n + 1) (by omega)]
theorem wiR_congr {f g f' g' : Nat → Int32} {n : Nat} (e1 : ∀ j, j ≤ n → f j = f' j) (e2 : ∀ j, j ≤ n → g j = g' j) : wiR f g n = wiR f' g' n := by
  unfold wiR
  rw [mxF_congr n e1, mnF_congr n e1, mxF_congr n e2, mnF_congr n e2]
theorem wiR_b {f g : Nat → Int32} {N : Nat} (hf : Sm f (N + 1)) (hg : Sm g (N + 1)) : 0 ≤ (wiR f g N).toInt ∧ (wiR f g N).toInt ≤ 18 := by
  refine ⟨(re_eq hf hg).2, ?_⟩
  obtain ⟨⟨g1, gj1, ge1⟩, -⟩ := mxF_spec (f := f) N
  obtain ⟨⟨g2, gj2, ge2⟩, -⟩ := mnF_spec (f := f) N
  obtain ⟨⟨g3, gj3, ge3⟩, -⟩ := mxF_spec (f := g) N
  obtain ⟨⟨g4, gj4, ge4⟩, -⟩ := mnF_spec (f := g) N
  unfold wiR
  rw [ge1, ge2, ge3, ge4]
  have a1 := hf g1 (by omega)
  have a2 := hf g2 (by omega)
  have a3 := hg g3 (by omega)
  have a4 := hg g4 (by omega)
  split
  · rw [sub_sm a3 a4]; omega
  · rw [sub_sm a1 a2]; omega
theorem sm_iv {f : Nat → Int} (hf : ∀ i, i < M → -9 ≤ f i ∧ f i ≤ 9) : Sm (fun j => iv (f j)) M := fun j hj => by
  have := hf j hj
  show -9 ≤ (iv (f j)).toInt ∧ (iv (f j)).toInt ≤ 9
  rw [iv_t ⟨by omega, by omega⟩]
  exact this
theorem rch_ok (W : ShV b M sx sy) : wiR (fun j => iv (sx j)) (fun j => iv (sy j)) (M - 1) / (nI b - 1) = nI (rch b M sx sy) ∧ rch b M sx sy ≤ 18 := by
  obtain ⟨⟨b1, b2⟩, ⟨m1, m2⟩, wt⟩ := W
  have hf : Sm (fun j => iv (sx j)) (M - 1 + 1) := by rw [Nat.sub_add_cancel m1]; exact sm_iv (fun i hi => (wt i hi).1)
  have hg : Sm (fun j => iv (sy j)) (M - 1 + 1) := by rw [Nat.sub_add_cancel m1]; exact sm_iv (fun i hi => (wt i hi).2)
  obtain ⟨w1, w2⟩ := wiR_b hf hg
  have e1 : nI b - 1 = nI (b - 1) := pk_sub (a := b) (b := 1) (by omega)
  unfold rch
  generalize wiR (fun j => iv (sx j)) (fun j => iv (sy j)) (M - 1) = w at *
  have e2 : w = nI w.toInt.toNat := lt_nI (by omega)
  have hw : w.toInt.toNat ≤ 18 := by omega
  generalize w.toInt.toNat = u at *
  rw [e1, e2, pk_div (by omega) (by omega) (by omega), nI_toInt (Nat.lt_of_le_of_lt (Nat.div_le_self _ _) (by omega))]
  have h3 : u / (b - 1) ≤ u := Nat.div_le_self _ _
  refine ⟨?_, by omega⟩
  congr 1
theorem shv_of (W : ShW kd b M tn sx sy ex) : ShV b M sx sy := ⟨W.2.1, W.2.2.1, fun i hi => ⟨(W.2.2.2 i hi).2.1, (W.2.2.2 i hi).2.2.1⟩⟩
theorem c_rch (hw : WF h) (hk : IsSh k) (C : ShC h k kd b M tn sx sy ex) (W : ShV b M sx sy) : Tr sc (d + 1) 64 (ent0 64 [.ref k] h) Q = Q (some (.int (nI (rch b M sx sy))), h) := by
  obtain ⟨ho, r0, r1, r2, r3, r4, r5, o0, o1, o2, o3, o4, o5, n0, n1, n2, n3, n4, n5⟩ := sh_ref hw hk
  obtain ⟨⟨b1, b2⟩, ⟨m1, m2⟩, wt⟩ := id W
  obtain ⟨c1, c2, c3, c4⟩ := C
  rw [c_reach (N := M - 1) ho r1 r2 o1 o2 n1 n2 (by rw [Nat.sub_add_cancel m1]; exact c3) (by omega) (by rw [c2]; exact ⟨nI_le (a := 2) (by omega) (by omega), nI_le (b := 4) (by omega) (by decide)⟩), c2, wiR_congr (f' := fun j => iv (sx j)) (g' := fun j => iv (sy j)) (fun j hj => (c4 j (by omega)).2.1) (fun j hj => (c4 j (by omega)).2.2.1), (rch_ok W).1]
theorem dX_at {f : Nat → Int} (hi : i < M) (hj : j < M) : dX M f (i * M + j) = f j - f i := by
  unfold dX
  rw [Nat.mul_comm, Nat.mul_add_mod, Nat.mod_eq_of_lt hj, Nat.mul_add_div (by omega), Nat.div_eq_of_lt hj, Nat.add_zero]
/-- while the steps are being laid -/
def VI (h H : PH) (b M R : Nat) (sx sy : Nat → Int) (c : Nat) : Prop := Fq Pv h H ∧ hI H 24 9 = nI b ∧ hI H 24 10 = nI R ∧ hI H 24 11 = nI (2 * R + 1) ∧ hI H 24 12 = nI ((2 * R + 1) * (2 * R + 1)) ∧ hI H 24 8 = nI c ∧ ∀ p, p < c → hI H 30 p = iv (dX M sx p) ∧ hI H 31 p = iv (dX M sy p)
theorem c_lk_j (hw : WF h) (hk : IsSh k) (hk2 : 4 = k ∨ 68 ≤ k) (C : ShC h k kd b M tn sx sy ex) (W : ShV b M sx sy) (hi : i < M) (hK : ∀ H, VI h H b M R sx sy (i * M + M) → Tr sc d 73 (126, [some (.ref 24), some (.ref k), some (.int (nI i)), some (.int (nI M))], [], H) Q) : ∀ (n j : Nat) (H : PH), j + n = M → VI h H b M R sx sy (i * M + j) → Tr sc d 73 (58, [some (.ref 24), some (.ref k), some (.int (nI i)), some (.int (nI j))], [], H) Q := by
  obtain ⟨⟨b1, b2⟩, ⟨m1, m2⟩, wt⟩ := id W
  intro n
  induction n with
  | zero =>
    intro j H hj I
    have e : j = M := by omega
    subst e
    have hwH := I.1.WF hw
    obtain ⟨c1, c2, c3, c4⟩ := C.fr I.1 (fun a j h1 h2 q => by unfold Pv at q; omega)
    obtain ⟨ho, -⟩ := sh_ref hwH hk
    rw [x_73_58]
    simp only [x_73_59, x_73_60, x_73_63, cl2_i, cl2_r, cl2_n, cl2_l, tl_s, tl_n, true_and, and_true, Option.some.injEq, exists_eq_left', Bool.and_self, Bool.true_and, Bool.and_true, Bool.or_true, Bool.true_or, i_10, i_00, if_true, if_false, not_true_eq_false, not_false_eq_true, and_false, false_and, okp_sI, okp_sL, okp_aI, okp_aL, hR_sI, hR_sL, hR_aI, hR_aL, ho, c3]
    rw [if_pos (Int32.le_refl _)]
    exact hK H I
  | succ n ih =>
    intro j H hj I
    have hlt : j < M := by omega
    have hwH := I.1.WF hw
    obtain ⟨c1, c2, c3, c4⟩ := C.fr I.1 (fun a j h1 h2 q => by unfold Pv at q; omega)
    obtain ⟨ho, r0, r1, r2, r3, r4, r5, o0, o1, o2, o3, o4, o5, n0, n1, n2, n3, n4, n5⟩ := sh_ref hwH hk
    obtain ⟨f, i1, i2, i3, i4, i5, i6⟩ := I
    have hp : i * M + j < M * M := sq_lt hi hlt
    have mm : M * M ≤ 36 := Nat.mul_le_mul m2 m2
    have ne1 : ¬ k + 2 = 30 := by rcases hk2 with q | q <;> omega
    have ne2 : ¬ k + 3 = 30 := by rcases hk2 with q | q <;> omega
    rw [x_73_58]
    simp only [x_73_59, x_73_60, x_73_63, x_73_66, x_73_67, x_73_70, x_73_71, x_73_74, x_73_75, x_73_78, x_73_79, x_73_80, x_73_81, x_73_84, x_73_85, x_73_86, x_73_87, x_73_88, x_73_89, x_73_92, x_73_93, x_73_96, x_73_97, x_73_100, x_73_101, x_73_102, x_73_103, x_73_106, x_73_107, x_73_108, x_73_109, x_73_110, x_73_111, x_73_112, x_73_115, x_73_116, x_73_117, x_73_120, x_73_123, o_24 hwH, w_24_5 hwH, w_24_6 hwH, o_30 hwH, iOk_lt (k := 30) (by decide), iRd_lt (k := 30) (by decide), show LN 30 = 36 from rfl, o_31 hwH, iOk_lt (k := 31) (by decide), iRd_lt (k := 31) (by decide), show LN 31 = 36 from rfl, cl2_i, cl2_r, cl2_n, cl2_l, tl_s, tl_n, true_and, and_true, Option.some.injEq, exists_eq_left', Bool.and_self, Bool.true_and, Bool.and_true, Bool.or_true, Bool.true_or, i_10, i_00, if_true, if_false, not_true_eq_false, not_false_eq_true, and_false, false_and, okp_sI, okp_sL, okp_aI, okp_aL, hR_sI, hR_sL, hR_aI, hR_aL, ho, c3, r1, r2, iOk_sI, iOk_ok o1, iOk_ok o2, iRd_ok o1, n1, n2, inb_nI (n := 6) (show j < 6 by omega) (by decide), inb_nI (n := 6) (show i < 6 by omega) (by decide), nI_clamp (n := i) (by omega), nI_clamp (n := j) (by omega), i5, inb_nI (n := 36) (show i * M + j < 36 by omega) (by decide), nI_clamp (n := i * M + j) (by omega), hI_sI, iRd_lt (show k + 3 < 1000 by rcases hk with q | q <;> omega), Nat.reduceEqDiff, ne2, (c4 i hi).2.1, (c4 j hlt).2.1, (c4 i hi).2.2.1, (c4 j hlt).2.2.1, iv_sub, nI_1]
    rw [if_neg (nI_ge hlt (by omega))]
    refine ih (j + 1) _ (by omega) ⟨((f.sI (by unfold Pv; omega)).sI (by unfold Pv; omega)).sI (by unfold Pv; omega), i1, i2, i3, i4, ?_, fun p hp2 => ?_⟩
    · rw [hI_sI, if_pos rfl, if_pos rfl]; rfl
    · by_cases e : p = i * M + j
      · subst e
        rw [dX_at hi hlt, dX_at hi hlt]
        simp only [hI_sI, Nat.reduceEqDiff, if_true, if_false, and_self]
      · have := i6 p (by omega)
        simp only [hI_sI, Nat.reduceEqDiff, if_true, if_false, e]
        exact this
theorem c_lk_i (hw : WF h) (hk : IsSh k) (hk2 : 4 = k ∨ 68 ≤ k) (C : ShC h k kd b M tn sx sy ex) (W : ShV b M sx sy) (hK : ∀ H l3, cl2 l3 = l3 → VI h H b M R sx sy (M * M) → Tr sc d 73 (132, [some (.ref 24), some (.ref k), some (.int (nI M)), l3], [], H) Q) : ∀ (n i : Nat) (H : PH) (l3 : Option Value), cl2 l3 = l3 → i + n = M → VI h H b M R sx sy (i * M) → Tr sc d 73 (48, [some (.ref 24), some (.ref k), some (.int (nI i)), l3], [], H) Q := by
  obtain ⟨⟨b1, b2⟩, ⟨m1, m2⟩, wt⟩ := id W
  intro n
  induction n with
  | zero =>
    intro i H l3 hl hi I
    have e : i = M := by omega
    subst e
    have hwH := I.1.WF hw
    obtain ⟨c1, c2, c3, c4⟩ := C.fr I.1 (fun a j h1 h2 q => by unfold Pv at q; omega)
    obtain ⟨ho, -⟩ := sh_ref hwH hk
    rw [x_73_48]
    simp only [x_73_49, x_73_50, x_73_53, x_73_56, x_73_57, cl2_i, cl2_r, cl2_n, cl2_l, tl_s, tl_n, true_and, and_true, Option.some.injEq, exists_eq_left', Bool.and_self, Bool.true_and, Bool.and_true, Bool.or_true, Bool.true_or, i_10, i_00, if_true, if_false, not_true_eq_false, not_false_eq_true, and_false, false_and, okp_sI, okp_sL, okp_aI, okp_aL, hR_sI, hR_sL, hR_aI, hR_aL, ho, c3]
    rw [if_pos (Int32.le_refl _)]
    exact hK H l3 hl I
  | succ n ih =>
    intro i H l3 hl hi I
    have hlt : i < M := by omega
    have hwH := I.1.WF hw
    obtain ⟨c1, c2, c3, c4⟩ := C.fr I.1 (fun a j h1 h2 q => by unfold Pv at q; omega)
    obtain ⟨ho, -⟩ := sh_ref hwH hk
    rw [x_73_48]
    simp only [x_73_49, x_73_50, x_73_53, x_73_56, x_73_57, cl2_i, cl2_r, cl2_n, cl2_l, tl_s, tl_n, true_and, and_true, Option.some.injEq, exists_eq_left', Bool.and_self, Bool.true_and, Bool.and_true, Bool.or_true, Bool.true_or, i_10, i_00, if_true, if_false, not_true_eq_false, not_false_eq_true, and_false, false_and, okp_sI, okp_sL, okp_aI, okp_aL, hR_sI, hR_sL, hR_aI, hR_aL, ho, c3]
    rw [if_neg (nI_ge hlt (by omega))]
    refine c_lk_j hw hk hk2 C W hlt (fun H2 I2 => ?_) M 0 H (by omega) (by rw [Nat.add_zero]; exact I)
    simp only [x_73_126, x_73_129, cl2_i, cl2_r, cl2_n, cl2_l, tl_s, tl_n, true_and, and_true, Option.some.injEq, exists_eq_left', Bool.and_self, Bool.true_and, Bool.and_true, Bool.or_true, Bool.true_or, i_10, i_00, if_true, if_false, not_true_eq_false, not_false_eq_true, and_false, false_and, okp_sI, okp_sL, okp_aI, okp_aL, hR_sI, hR_sL, hR_aI, hR_aL, nI_1]
    refine ih (i + 1) H2 _ rfl (by omega) ?_
    rw [Nat.add_mul, Nat.one_mul]
    exact I2
theorem c_lk_f {l3 : Option Value} (hw : WF h) (hR : R ≤ 18) (hl : cl2 l3 = l3) (hK : ∀ H, Fq Pv h H → VcS H b M R sx sy → (∀ u, u < (2 * R + 1) * (2 * R + 1) → hI H 25 u = 1) → Tr sc d 73 (155, [some (.ref 24), some (.ref k), some (.int (nI ((2 * R + 1) * (2 * R + 1)))), l3], [], H) Q) : ∀ (n v : Nat) (H : PH), v + n = (2 * R + 1) * (2 * R + 1) → Fq Pv h H → VcS H b M R sx sy → (∀ u, u < v → hI H 25 u = 1) → Tr sc d 73 (134, [some (.ref 24), some (.ref k), some (.int (nI v)), l3], [], H) Q := by
  have sq := R_sq hR
  intro n
  induction n with
  | zero =>
    intro v H hv f V a1
    have e : v = (2 * R + 1) * (2 * R + 1) := by omega
    subst e
    have hwH := f.WF hw
    obtain ⟨v1, v2, v3, v4, v5, v6⟩ := id V
    rw [x_73_134]
    simp only [x_73_135, x_73_136, x_73_139, x_73_142, x_73_143, x_73_146, x_73_147, x_73_148, x_73_149, x_73_152, o_24 hwH, w_24_0 hwH, o_25 hwH, show LN 25 = 1369 from rfl, cl2_i, cl2_r, cl2_n, cl2_l, tl_s, tl_n, true_and, and_true, Option.some.injEq, exists_eq_left', Bool.and_self, Bool.true_and, Bool.and_true, Bool.or_true, Bool.true_or, i_10, i_00, if_true, if_false, not_true_eq_false, not_false_eq_true, and_false, false_and, okp_sI, okp_sL, okp_aI, okp_aL, hR_sI, hR_sL, hR_aI, hR_aL, v4]
    rw [if_pos (Int32.le_refl _)]
    exact hK H f V a1
  | succ n ih =>
    intro v H hv f V a1
    have hlt : v < (2 * R + 1) * (2 * R + 1) := by omega
    have hwH := f.WF hw
    obtain ⟨v1, v2, v3, v4, v5, v6⟩ := id V
    rw [x_73_134]
    simp only [x_73_135, x_73_136, x_73_139, x_73_142, x_73_143, x_73_146, x_73_147, x_73_148, x_73_149, x_73_152, o_24 hwH, w_24_0 hwH, o_25 hwH, show LN 25 = 1369 from rfl, cl2_i, cl2_r, cl2_n, cl2_l, tl_s, tl_n, true_and, and_true, Option.some.injEq, exists_eq_left', Bool.and_self, Bool.true_and, Bool.and_true, Bool.or_true, Bool.true_or, i_10, i_00, if_true, if_false, not_true_eq_false, not_false_eq_true, and_false, false_and, okp_sI, okp_sL, okp_aI, okp_aL, hR_sI, hR_sL, hR_aI, hR_aL, v4, inb_nI (i := v) (n := 1369) (by omega) (by decide), nI_clamp (n := v) (by omega), nI_1, vp_b1]
    rw [if_neg (nI_ge hlt (by omega))]
    refine ih (v + 1) _ (by omega) (f.sI (by unfold Pv; omega)) (V.fr ((Fq.rf (P := fun a _ => a = 25)).sI rfl) (fun a j q z => by omega)) (fun u hu => ?_)
    rw [hI_sI, if_pos rfl]
    by_cases e : u = v
    · rw [if_pos e]
    · rw [if_neg e]; exact a1 u (by omega)
theorem c_lk_s (hw : WF h) (W : ShV b M sx sy) (hR : R ≤ 18) (hK : ∀ H, Fq Pv h H → VcS H b M R sx sy → (∀ X Y, Lv H R X Y ↔ Alv b M R sx sy X Y) → Q (none, H)) : ∀ (n m : Nat) (H : PH) (c : Int32), m + n = 1370 → Fq Pv h H → VcS H b M R sx sy → (∀ X Y, Alv b M R sx sy X Y → Lv H R X Y) → (c = 0 ∧ (∀ u, u < (2 * R + 1) * (2 * R + 1) → ¬ hI H 25 u = 0 → Gz H b M R sx sy u) ∨ c = 1 ∧ cnL H ((2 * R + 1) * (2 * R + 1)) + m ≤ (2 * R + 1) * (2 * R + 1)) → Tr sc (d + 3) 73 (159, [some (.ref 24), some (.ref k), some (.int c), some (.int (nI m))], [], H) Q := by
  have sq := R_sq hR
  have fin : ∀ H, Fq Pv h H → VcS H b M R sx sy → (∀ X Y, Alv b M R sx sy X Y → Lv H R X Y) → (∀ u, u < (2 * R + 1) * (2 * R + 1) → ¬ hI H 25 u = 0 → Gz H b M R sx sy u) → Q (none, H) := fun H f V sup g => hK H f V (fun X Y => ⟨fun l => ⟨fun p => Lv H R p.1 p.2, l, fun u hu => ⟨hu.1, by
    obtain ⟨p, hp, z⟩ := g _ (vi_lt hu.1) hu.2
    obtain ⟨e1, e2⟩ := vi_xo hu.1
    rw [e1, e2] at z
    exact ⟨(_, _), ⟨p, hp, rfl, rfl⟩, z⟩⟩⟩, sup X Y⟩)
  intro n
  induction n with
  | zero =>
    intro m H c hm f V sup inv
    have e : m = 1370 := by omega
    subst e
    rw [x_73_159]
    simp only [x_73_160, x_73_163, x_73_181, cl2_i, cl2_r, cl2_n, cl2_l, tl_s, tl_n, true_and, and_true, Option.some.injEq, exists_eq_left', Bool.and_self, Bool.true_and, Bool.and_true, Bool.or_true, Bool.true_or, i_10, i_00, if_true, if_false, not_true_eq_false, not_false_eq_true, and_false, false_and, okp_sI, okp_sL, okp_aI, okp_aL, hR_sI, hR_sL, hR_aI, hR_aL]
    rw [if_pos (by decide)]
    rcases inv with ⟨i1, i2⟩ | ⟨i1, i2⟩
    · exact fin H f V sup i2
    · omega
  | succ n ih =>
    intro m H c hm f V sup inv
    have hwH := f.WF hw
    rw [x_73_159]
    simp only [x_73_160, x_73_163, x_73_166, x_73_167, x_73_170, x_73_171, o_24 hwH, x_73_181, cl2_i, cl2_r, cl2_n, cl2_l, tl_s, tl_n, true_and, and_true, Option.some.injEq, exists_eq_left', Bool.and_self, Bool.true_and, Bool.and_true, Bool.or_true, Bool.true_or, i_10, i_00, if_true, if_false, not_true_eq_false, not_false_eq_true, and_false, false_and, okp_sI, okp_sL, okp_aI, okp_aL, hR_sI, hR_sL, hR_aI, hR_aL]
    rw [if_neg (show ¬ (1369 : Int32) < nI m from nI_nlt (a := 1369) (b := m) (by omega) (by decide))]
    rcases inv with ⟨i1, i2⟩ | ⟨i1, i2⟩
    · rw [if_pos i1]
      exact fin H f V sup i2
    · rw [if_neg (by rw [i1]; decide)]
      refine c_takeDead hwH V W hR sup (fun H2 c2 f2 sup2 alt => ?_)
      simp only [x_73_174, x_73_175, x_73_178, cl2_i, cl2_r, cl2_n, cl2_l, tl_s, tl_n, true_and, and_true, Option.some.injEq, exists_eq_left', Bool.and_self, Bool.true_and, Bool.and_true, Bool.or_true, Bool.true_or, i_10, i_00, if_true, if_false, not_true_eq_false, not_false_eq_true, and_false, false_and, okp_sI, okp_sL, okp_aI, okp_aL, hR_sI, hR_sL, hR_aI, hR_aL, nI_1]
      have V2 := V.fr f2 (fun a j q z => by omega)
      refine ih (m + 1) H2 c2 (by omega) (f.tr (f2.wk (fun a b q => by unfold Pv; omega))) V2 sup2 ?_
      rcases alt with ⟨j1, j2, j3⟩ | ⟨j1, j2⟩
      · refine Or.inl ⟨j1, fun u hu z => ?_⟩
        obtain ⟨p, hp, l1, l2⟩ := j3 u hu (by rw [← j2]; exact z)
        exact ⟨p, hp, l1, by rw [j2]; exact l2⟩
      · exact Or.inr ⟨j1, by omega⟩
theorem c_look (hw : WF h) (hk : IsSh k) (C : ShC h k kd b M tn sx sy ex) (W : ShV b M sx sy) (hK : ∀ H, Fq Pv h H → VcS H b M (rch b M sx sy) sx sy → (∀ X Y, Lv H (rch b M sx sy) X Y ↔ Alv b M (rch b M sx sy) sx sy X Y) → Q (none, H)) : Tr sc (d + 3) 73 (ent0 73 [.ref 24, .ref k] h) Q := by
  obtain ⟨hrc, hR⟩ := rch_ok W
  have hk2 : 4 = k ∨ 68 ≤ k := by rcases hk with q | q <;> omega
  have C1 : ShC (sI h 24 9 (hI h k 7)) k kd b M tn sx sy ex := C.fr ((Fq.rf (P := fun a _ => a = 24)).sI rfl) (fun a j h1 h2 q => by omega)
  have hw1 : WF (sI h 24 9 (hI h k 7)) := hw
  obtain ⟨ho, -⟩ := sh_ref hw hk
  have sq := R_sq hR
  rw [e_73]
  simp only [x_73_0, x_73_1, x_73_2, x_73_5, x_73_8, x_73_9, x_73_10, o_24 hw, cl2_i, cl2_r, cl2_n, cl2_l, tl_s, tl_n, true_and, and_true, Option.some.injEq, exists_eq_left', Bool.and_self, Bool.true_and, Bool.and_true, Bool.or_true, Bool.true_or, i_10, i_00, if_true, if_false, not_true_eq_false, not_false_eq_true, and_false, false_and, okp_sI, okp_sL, okp_aI, okp_aL, hR_sI, hR_sL, hR_aI, hR_aL, ho, c_rch hw1 hk C1 W]
  generalize rch b M sx sy = R at *
  have e1 : 2 * nI R + 1 = nI (2 * R + 1) := by rw [show (2 : Int32) = nI 2 from rfl, pk_mul, nI_1]
  simp only [x_73_13, x_73_16, x_73_17, x_73_18, x_73_19, x_73_22, x_73_23, x_73_24, x_73_25, x_73_28, x_73_29, x_73_30, x_73_33, x_73_34, x_73_37, x_73_38, x_73_41, x_73_42, x_73_43, x_73_46, x_73_47, o_24 hw, cl2_i, cl2_r, cl2_n, cl2_l, tl_s, tl_n, true_and, and_true, Option.some.injEq, exists_eq_left', Bool.and_self, Bool.true_and, Bool.and_true, Bool.or_true, Bool.true_or, i_10, i_00, if_true, if_false, not_true_eq_false, not_false_eq_true, and_false, false_and, okp_sI, okp_sL, okp_aI, okp_aL, hR_sI, hR_sL, hR_aI, hR_aL, hI_sI, Nat.reduceEqDiff, e1, pk_mul]
  refine c_lk_i hw hk hk2 C W (fun H l3 hl I => ?_) M 0 _ none rfl (by omega) ⟨((((Fq.rf.sI (by unfold Pv; omega)).sI (by unfold Pv; omega)).sI (by unfold Pv; omega)).sI (by unfold Pv; omega)).sI (by unfold Pv; omega), ?_, rfl, rfl, rfl, by rw [Nat.zero_mul]; rfl, fun p hp => by omega⟩
  · simp only [x_73_132, x_73_133, cl2_i, cl2_r, cl2_n, cl2_l, tl_s, tl_n, true_and, and_true, Option.some.injEq, exists_eq_left', Bool.and_self, Bool.true_and, Bool.and_true, Bool.or_true, Bool.true_or, i_10, i_00, if_true, if_false, not_true_eq_false, not_false_eq_true, and_false, false_and, okp_sI, okp_sL, okp_aI, okp_aL, hR_sI, hR_sL, hR_aI, hR_aL, hl]
    obtain ⟨f, i1, i2, i3, i4, i5, i6⟩ := I
    refine c_lk_f (M := M) (b := b) (sx := sx) (sy := sy) hw hR hl (fun H2 f2 V2 a2 => ?_) _ 0 H (Nat.zero_add _) f ⟨i1, i2, i3, i4, i5, i6⟩ (fun u hu => by omega)
    simp only [x_73_155, x_73_156, x_73_157, x_73_158, cl2_i, cl2_r, cl2_n, cl2_l, tl_s, tl_n, true_and, and_true, Option.some.injEq, exists_eq_left', Bool.and_self, Bool.true_and, Bool.and_true, Bool.or_true, Bool.true_or, i_10, i_00, if_true, if_false, not_true_eq_false, not_false_eq_true, and_false, false_and, okp_sI, okp_sL, okp_aI, okp_aL, hR_sI, hR_sL, hR_aI, hR_aL]
    refine c_lk_s hw W hR hK 1370 0 H2 1 (by omega) f2 V2 (fun X Y a => ?_) (Or.inr ⟨rfl, ?_⟩)
    · have b0 : inX R X Y := Gf_b (v := (X, Y)) a
      exact ⟨b0, by rw [a2 _ (vi_lt b0)]; decide⟩
    · exact cnB_n _
  · show hI h k 7 = nI b
    exact C.2.1
end LK
