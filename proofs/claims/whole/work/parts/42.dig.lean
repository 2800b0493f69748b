/-! ===== digest ===== -/
def dgR (f : Nat → Int32) (a : Int64) : Nat → Int64
  | 0 => a
  | n + 1 => 31 * dgR f a n + (f n).toInt64
def dgS (kd : Int32) (t x y e : Nat → Int32) (a : Int64) : Nat → Int64
  | 0 => a
  | n + 1 => if kd = 3 ∨ kd = 4 then 31 * (31 * (31 * (31 * dgS kd t x y e a n + (t n).toInt64) + (x n).toInt64) + (y n).toInt64) + (e n).toInt64 else 31 * (31 * (31 * dgS kd t x y e a n + (t n).toInt64) + (x n).toInt64) + (y n).toInt64
def itr (F : Nat → Int64 → Int64) (a : Int64) : Nat → Int64
  | 0 => a
  | n + 1 => F n (itr F a n)
def dS (h : PH) (s : Nat) (a : Int64) : Int64 := if hI h (68 + 7 * s) 6 = -1 then 31 * a - 1 else dgS (hI h (68 + 7 * s) 6) (hI h (69 + 7 * s)) (hI h (70 + 7 * s)) (hI h (71 + 7 * s)) (hI h (72 + 7 * s)) (31 * (31 * (31 * a + (hI h (68 + 7 * s) 6).toInt64) + (hI h (68 + 7 * s) 7).toInt64) + (hI h (68 + 7 * s) 8).toInt64) (hI h (68 + 7 * s) 8).toNatClampNeg
def dR (h : PH) (r : Nat) (a : Int64) : Int64 := dgR (hI h (49 + 2 * r)) (31 * a + (hI h (48 + 2 * r) 1).toInt64) (hI h (48 + 2 * r) 1).toNatClampNeg
def dT (h : PH) (r : Nat) (a : Int64) : Int64 := dgR (hI h (61 + 2 * r)) (31 * a + (hI h (60 + 2 * r) 1).toInt64) (hI h (60 + 2 * r) 1).toNatClampNeg
section DG
variable {sc : Nat × (Nat → Int32)} {d : Nat} {Q : PRes → Prop} {h : PH} {k s q : Nat} {a : Int64}
theorem dgS_y {kd : Int32} {t x y e : Nat → Int32} {n : Nat} (hk : kd = 3 ∨ kd = 4) : dgS kd t x y e a (n + 1) = 31 * (31 * (31 * (31 * dgS kd t x y e a n + (t n).toInt64) + (x n).toInt64) + (y n).toInt64) + (e n).toInt64 := if_pos hk
theorem dgS_n {kd : Int32} {t x y e : Nat → Int32} {n : Nat} (hk : ¬ (kd = 3 ∨ kd = 4)) : dgS kd t x y e a (n + 1) = 31 * (31 * (31 * dgS kd t x y e a n + (t n).toInt64) + (x n).toInt64) + (y n).toInt64 := if_neg hk
theorem iOk_sL {k j a : Nat} {w : Int64} {i : Int32} : iOk sc (sL h k j w) a i = iOk sc h a i := rfl
theorem iRd_sL {k j a : Nat} {w : Int64} {i : Int32} : iRd sc (sL h k j w) a i = iRd sc h a i := rfl
theorem sL_sL {k j : Nat} {v w : Int64} : sL (sL h k j v) k j w = sL h k j w := by
  unfold sL up2
  simp only [Prod.mk.injEq, and_true, true_and]
  funext a b
  by_cases e : a = k
  · by_cases e2 : b = j
    · simp [e, e2]
    · simp [e, e2]
  · simp [e]
theorem c_rd_loop {N : Nat} (ho : okp h k 5 = true) (hq : hR h k 0 = some q) (oq : okp h q 11 = true) (hz : hI h k 1 = nI N ∨ (hI h k 1 < 0 ∧ N = 0)) (hN : N ≤ LN q) (hL : LN q < 2 ^ 31) : ∀ (n i : Nat), i + n = N → Tr sc d 46 (14, [some (.ref k), some (.long (dgR (hI h q) a i)), none, some (.int (nI i))], [], h) Q = Q (some (.long (dgR (hI h q) a N)), h) := by
  intro n
  induction n with
  | zero =>
    intro i hi
    have e : i = N := by omega
    subst e
    rw [x_46_14]
    simp only [x_46_0, x_46_3, x_46_4, x_46_5, x_46_6, x_46_9, x_46_10, x_46_11, x_46_12, x_46_13, x_46_15, x_46_16, x_46_19, x_46_22, x_46_25, x_46_26, x_46_27, x_46_28, x_46_31, x_46_32, x_46_33, x_46_34, x_46_35, x_46_36, x_46_39, x_46_42, x_46_43, ho, true_and]
    rw [if_pos]
    rcases hz with e | ⟨e, e0⟩
    · rw [e]; exact Int32.le_refl _
    · rw [e0]; exact Int32.le_of_lt e
  | succ n ih =>
    intro i hi
    have hlt : i < N := by omega
    have hz1 : hI h k 1 = nI N := hz.resolve_right (fun e => by omega)
    rw [x_46_14]
    simp only [x_46_0, x_46_3, x_46_4, x_46_5, x_46_6, x_46_9, x_46_10, x_46_11, x_46_12, x_46_13, x_46_15, x_46_16, x_46_19, x_46_22, x_46_25, x_46_26, x_46_27, x_46_28, x_46_31, x_46_32, x_46_33, x_46_34, x_46_35, x_46_36, x_46_39, x_46_42, x_46_43, ho, hz1, hq, true_and, Option.some.injEq, exists_eq_left', iOk_ok oq, iRd_ok oq, inb_nI (i := i) (n := LN q) (by omega) hL, nI_clamp (n := i) (by omega), nI_1, cl2_r, cl2_n, cl2_i, cl2_l]
    rw [if_neg (nI_ge hlt (by omega))]
    exact ih (i + 1) (by omega)
theorem c_rd {N : Nat} (ho : okp h k 5 = true) (hq : hR h k 0 = some q) (oq : okp h q 11 = true) (hz : hI h k 1 = nI N ∨ (hI h k 1 < 0 ∧ N = 0)) (hN : N ≤ LN q) (hL : LN q < 2 ^ 31) : Tr sc d 46 (ent0 46 [.ref k, .long a] h) Q = Q (some (.long (dgR (hI h q) (31 * a + (hI h k 1).toInt64) N)), h) := by
  rw [e_46]
  simp only [x_46_0, x_46_3, x_46_4, x_46_5, x_46_6, x_46_9, x_46_10, x_46_11, x_46_12, x_46_13, ho, true_and, cl2_r, cl2_n, cl2_i, cl2_l]
  exact c_rd_loop (a := 31 * a + (hI h k 1).toInt64) ho hq oq hz hN hL N 0 (by omega)
theorem c_sd_loop {M : Nat} {q0 q1 q2 q3 : Nat} (ho : okp h k 6 = true) (r0 : hR h k 0 = some q0) (r1 : hR h k 1 = some q1) (r2 : hR h k 2 = some q2) (r3 : hR h k 3 = some q3) (o0 : okp h q0 11 = true) (o1 : okp h q1 11 = true) (o2 : okp h q2 11 = true) (o3 : okp h q3 11 = true) (n0 : LN q0 = 6) (n1 : LN q1 = 6) (n2 : LN q2 = 6) (n3 : LN q3 = 6) (hz : hI h k 8 = nI M) (hM : M ≤ 6) : ∀ (n i : Nat), i + n = M → Tr sc d 71 (53, [some (.ref k), some (.long (dgS (hI h k 6) (hI h q0) (hI h q1) (hI h q2) (hI h q3) a i)), none, some (.int (nI i))], [], h) Q = Q (some (.long (dgS (hI h k 6) (hI h q0) (hI h q1) (hI h q2) (hI h q3) a M)), h) := by
  intro n
  induction n with
  | zero =>
    intro i hi
    have e : i = M := by omega
    subst e
    rw [x_71_53]
    simp only [x_71_54, x_71_55, x_71_58, x_71_61, x_71_64, x_71_65, x_71_66, x_71_67, x_71_70, x_71_71, x_71_72, x_71_73, x_71_74, x_71_75, x_71_78, x_71_79, x_71_80, x_71_81, x_71_84, x_71_85, x_71_86, x_71_87, x_71_88, x_71_89, x_71_92, x_71_93, x_71_94, x_71_95, x_71_98, x_71_99, x_71_100, x_71_101, x_71_102, x_71_103, x_71_104, x_71_107, x_71_108, x_71_111, x_71_112, x_71_115, x_71_116, x_71_119, x_71_122, x_71_123, x_71_124, x_71_125, x_71_128, x_71_129, x_71_130, x_71_131, x_71_132, x_71_133, x_71_136, x_71_139, x_71_140, ho, true_and, hz]
    rw [if_pos (Int32.le_refl _)]
  | succ n ih =>
    intro i hi
    have hlt : i < M := by omega
    rw [x_71_53]
    simp only [x_71_54, x_71_55, x_71_58, x_71_61, x_71_64, x_71_65, x_71_66, x_71_67, x_71_70, x_71_71, x_71_72, x_71_73, x_71_74, x_71_75, x_71_78, x_71_79, x_71_80, x_71_81, x_71_84, x_71_85, x_71_86, x_71_87, x_71_88, x_71_89, x_71_92, x_71_93, x_71_94, x_71_95, x_71_98, x_71_99, x_71_100, x_71_101, x_71_102, x_71_103, x_71_104, x_71_107, x_71_108, x_71_111, x_71_112, x_71_115, x_71_116, x_71_119, x_71_122, x_71_123, x_71_124, x_71_125, x_71_128, x_71_129, x_71_130, x_71_131, x_71_132, x_71_133, x_71_136, x_71_139, x_71_140, ho, hz, r0, r1, r2, r3, true_and, Option.some.injEq, exists_eq_left', iOk_ok o0, iRd_ok o0, iOk_ok o1, iRd_ok o1, iOk_ok o2, iRd_ok o2, iOk_ok o3, iRd_ok o3, n0, n1, n2, n3, inb_nI (i := i) (n := 6) (by omega) (by decide), nI_clamp (n := i) (by omega), nI_1, cl2_r, cl2_n, cl2_i, cl2_l]
    rw [if_neg (nI_ge hlt (by omega))]
    by_cases e3 : hI h k 6 = 3
    · rw [if_pos e3, ← dgS_y (Or.inl e3)]
      exact ih (i + 1) (by omega)
    · rw [if_neg e3]
      by_cases e4 : hI h k 6 = 4
      · rw [if_pos e4, ← dgS_y (Or.inr e4)]
        exact ih (i + 1) (by omega)
      · rw [if_neg e4, ← dgS_n (e := hI h q3) (fun z => z.elim e3 e4)]
        exact ih (i + 1) (by omega)
theorem c_sd (hw : WF h) (hs : s < 8) (c : CMs h) : Tr sc (d + 1) 71 (ent0 71 [.ref (68 + 7 * s), .long a] h) Q = Q (some (.long (dS h s a)), h) := by
  obtain ⟨w1, w2, ⟨r0, r1, r2, r3, -⟩, ⟨o0, o1, o2, o3, -⟩, ⟨n0, n1, n2, n3, -⟩⟩ := hw.shape hs
  rw [e_71]
  simp only [x_71_0, x_71_1, x_71_4, x_71_7, x_71_10, x_71_11, x_71_12, x_71_13, x_71_14, x_71_15, x_71_18, x_71_19, x_71_20, x_71_21, x_71_24, x_71_25, x_71_26, x_71_27, x_71_30, x_71_31, x_71_32, x_71_33, x_71_36, x_71_37, x_71_38, x_71_39, x_71_42, x_71_43, x_71_44, x_71_45, x_71_48, x_71_49, x_71_50, x_71_51, x_71_52, w2, true_and, c_sMiss w2, tl_s, bI_0, cl2_r, cl2_n, cl2_i, cl2_l]
  unfold dS
  by_cases e : hI h (68 + 7 * s) 6 = -1
  · rw [if_neg (fun z => z e), if_pos e]
  · rw [if_pos e, if_neg e]
    have hsn : ¬ hI h 134 s = 0 := fun z => e (sm_t c hs z)
    obtain ⟨⟨-, -, ⟨m1, m2⟩, -⟩, -⟩ := sh_at c hs hsn
    obtain ⟨M, hM, hz⟩ := nI_of2 (x := hI h (68 + 7 * s) 8) (M := 6) (n := 6) rfl (Int32.not_lt.mpr (i_le0 m1)) m2
    rw [show (hI h (68 + 7 * s) 8).toNatClampNeg = M by rw [hz]; exact nI_clamp (by omega)]
    exact c_sd_loop w2 r0 r1 r2 r3 o0 o1 o2 o3 n0 n1 n2 n3 hz hM M 0 (by omega)
theorem c_d1 (hw : WF h) (c : CMs h) : ∀ (n i : Nat), i + n = 8 → Tr sc (d + 2) 140 (6, [some (.ref 0), some (.long (itr (dS h) a i)), none, some (.int (nI i))], [], h) Q = Tr sc (d + 2) 140 (29, [some (.ref 0), some (.long (itr (dS h) a 8)), none, some (.int (nI 8))], [], h) Q := by
  intro n
  induction n with
  | zero =>
    intro i hi
    have e : i = 8 := by omega
    subst e
    rw [x_140_6]
    simp only [x_140_7, x_140_9, x_140_12, x_140_13, x_140_16, x_140_17, x_140_18, x_140_19, x_140_22, x_140_23, x_140_26]
    rw [if_pos (show (8 : Int32) ≤ nI 8 from Int32.le_refl _)]
  | succ n ih =>
    intro i hi
    have hlt : i < 8 := by omega
    obtain ⟨k1, k2, -⟩ := hw.shape hlt
    rw [x_140_6]
    simp only [x_140_7, x_140_9, x_140_12, x_140_13, x_140_16, x_140_17, x_140_18, x_140_19, x_140_22, x_140_23, x_140_26, o_0 hw, w_0_2 hw, o_3 hw, Bool.or_true, Bool.true_and, Bool.and_self, true_and, k1, k2, inb_nI (n := LN 3) hlt (by decide), nI_clamp (n := i) (by omega), Option.some.injEq, exists_eq_left', c_sd hw hlt c, tl_s, nI_1, cl2_i, cl2_r, cl2_n, cl2_l]
    rw [if_neg (show ¬ (8 : Int32) ≤ nI i from nI_ge hlt (by decide))]
    exact ih (i + 1) (by omega)
theorem rz {r : Nat} (c : CMr h) (hr : r < 6) : (hI h (48 + 2 * r) 1 = nI (hI h (48 + 2 * r) 1).toNatClampNeg ∨ (hI h (48 + 2 * r) 1 < 0 ∧ (hI h (48 + 2 * r) 1).toNatClampNeg = 0)) ∧ (hI h (48 + 2 * r) 1).toNatClampNeg ≤ 40 := by
  rcases (c r hr).1 with ⟨e, -⟩ | ⟨e1, e2, -⟩
  · rw [e]
    exact ⟨Or.inr (by decide), by decide⟩
  · obtain ⟨N, hN, hz⟩ := nI_of2 (x := hI h (48 + 2 * r) 1) (M := 40) (n := 40) rfl (Int32.not_lt.mpr e1) e2
    rw [hz, nI_clamp (by omega)]
    exact ⟨Or.inl rfl, hN⟩
theorem tz {r : Nat} (c : CMt h) (hr : r < 4) : (hI h (60 + 2 * r) 1 = nI (hI h (60 + 2 * r) 1).toNatClampNeg ∨ (hI h (60 + 2 * r) 1 < 0 ∧ (hI h (60 + 2 * r) 1).toNatClampNeg = 0)) ∧ (hI h (60 + 2 * r) 1).toNatClampNeg ≤ 60 := by
  rcases (c r hr).1 with ⟨e, -⟩ | ⟨e1, e2, -⟩
  · rw [e]
    exact ⟨Or.inr (by decide), by decide⟩
  · obtain ⟨N, hN, hz⟩ := nI_of2 (x := hI h (60 + 2 * r) 1) (M := 60) (n := 60) rfl (Int32.not_lt.mpr e1) e2
    rw [hz, nI_clamp (by omega)]
    exact ⟨Or.inl rfl, hN⟩
theorem c_d2 (hw : WF h) (c : CMr h) : ∀ (n i : Nat), i + n = 6 → Tr sc (d + 2) 140 (31, [some (.ref 0), some (.long (itr (dR h) a i)), none, some (.int (nI i))], [], h) Q = Tr sc (d + 2) 140 (54, [some (.ref 0), some (.long (itr (dR h) a 6)), none, some (.int (nI 6))], [], h) Q := by
  intro n
  induction n with
  | zero =>
    intro i hi
    have e : i = 6 := by omega
    subst e
    rw [x_140_31]
    simp only [x_140_32, x_140_34, x_140_37, x_140_38, x_140_41, x_140_42, x_140_43, x_140_44, x_140_47, x_140_48, x_140_51]
    rw [if_pos (show (6 : Int32) ≤ nI 6 from Int32.le_refl _)]
  | succ n ih =>
    intro i hi
    have hlt : i < 6 := by omega
    obtain ⟨k1, k2, k3, k4, k5⟩ := hw.row hlt
    have kz := rz c hlt
    rw [x_140_31]
    simp only [x_140_32, x_140_34, x_140_37, x_140_38, x_140_41, x_140_42, x_140_43, x_140_44, x_140_47, x_140_48, x_140_51, o_0 hw, w_0_0 hw, o_1 hw, Bool.true_or, Bool.true_and, Bool.and_self, true_and, k1, k3, inb_nI (n := LN 1) hlt (by decide), nI_clamp (n := i) (by omega), Option.some.injEq, exists_eq_left', c_rd k3 k2 k4 kz.1 (by rw [k5]; exact kz.2) (by rw [k5]; decide), tl_s, nI_1, cl2_i, cl2_r, cl2_n, cl2_l]
    rw [if_neg (show ¬ (6 : Int32) ≤ nI i from nI_ge hlt (by decide))]
    exact ih (i + 1) (by omega)
theorem c_d3 (hw : WF h) (c : CMt h) : ∀ (n i : Nat), i + n = 4 → Tr sc (d + 2) 140 (56, [some (.ref 0), some (.long (itr (dT h) a i)), none, some (.int (nI i))], [], h) Q = Q (some (.long (itr (dT h) a 4)), h) := by
  intro n
  induction n with
  | zero =>
    intro i hi
    have e : i = 4 := by omega
    subst e
    rw [x_140_56]
    simp only [x_140_57, x_140_58, x_140_61, x_140_62, x_140_65, x_140_66, x_140_67, x_140_68, x_140_71, x_140_72, x_140_75, x_140_78, x_140_79]
    rw [if_pos (show (4 : Int32) ≤ nI 4 from Int32.le_refl _)]
  | succ n ih =>
    intro i hi
    have hlt : i < 4 := by omega
    obtain ⟨k1, k2, k3, k4, k5⟩ := hw.text hlt
    have kz := tz c hlt
    rw [x_140_56]
    simp only [x_140_57, x_140_58, x_140_61, x_140_62, x_140_65, x_140_66, x_140_67, x_140_68, x_140_71, x_140_72, x_140_75, x_140_78, x_140_79, o_0 hw, w_0_1 hw, o_2 hw, Bool.true_or, Bool.true_and, Bool.and_self, true_and, k1, k3, inb_nI (n := LN 2) hlt (by decide), nI_clamp (n := i) (by omega), Option.some.injEq, exists_eq_left', c_rd k3 k2 k4 kz.1 (by rw [k5]; exact kz.2) (by rw [k5]; decide), tl_s, nI_1, cl2_i, cl2_r, cl2_n, cl2_l]
    rw [if_neg (show ¬ (4 : Int32) ≤ nI i from nI_ge hlt (by decide))]
    exact ih (i + 1) (by omega)
def dgst (h : PH) : Int64 := itr (dT h) (itr (dR h) (itr (dS h) 17 8) 6) 4
theorem c_digest (hc : CM h) : Tr sc (d + 2) 140 (ent0 140 [.ref 0] h) Q = Q (some (.long (dgst h)), h) := by
  obtain ⟨hw, -, hr, ht, hs⟩ := hc
  rw [e_140]
  simp only [x_140_0, x_140_3, x_140_4, x_140_5, cl2_r, cl2_n, cl2_i, cl2_l]
  refine (c_d1 hw hs 8 0 rfl).trans ?_
  simp only [x_140_29, x_140_30, cl2_r, cl2_n, cl2_i, cl2_l]
  refine (c_d2 hw hr 6 0 rfl).trans ?_
  simp only [x_140_54, x_140_55, cl2_r, cl2_n, cl2_i, cl2_l]
  exact c_d3 hw ht 4 0 rfl
/-! the model -/
theorem m_mix {v : Int32} (hw : WF h) : Tr sc d 249 (ent0 249 [.ref 124, .int v] (sL h 124 62 a)) Q = Q (none, sL h 124 62 (31 * a + v.toInt64)) := by
  rw [e_249]
  simp only [x_249_0, x_249_1, x_249_4, x_249_5, x_249_8, x_249_9, x_249_10, x_249_11, x_249_12, x_249_15, okp_sL, o_124 hw, true_and, hL_sL, if_true, sL_sL]
theorem m_ms_loop {M : Nat} {kd : Int32} {t x y e : Nat → Int32} (hw : WF h) (hs : s < 8) (hk : hI h 132 s = kd) (hz : hI h 134 s = nI M) (hM : M ≤ 6) (hv : ∀ j, j < M → hI h 135 (6 * s + j) = t j ∧ hI h 136 (6 * s + j) = x j ∧ hI h 137 (6 * s + j) = y j ∧ (kd = 3 ∨ kd = 4 → hI h 138 (6 * s + j) = e j)) : ∀ (n i : Nat) (l3 : Option Value), i + n = M → Tr sc (d + 1) 250 (47, [some (.ref 124), some (.int (nI s)), some (.int (nI i)), l3], [], sL h 124 62 (dgS kd t x y e a i)) Q = Q (none, sL h 124 62 (dgS kd t x y e a M)) := by
  intro n
  induction n with
  | zero =>
    intro i l3 hi
    have e : i = M := by omega
    subst e
    rw [x_250_47]
    simp only [x_250_48, x_250_49, x_250_52, x_250_53, x_250_54, x_250_57, x_250_59, x_250_60, x_250_61, x_250_62, x_250_63, x_250_64, x_250_65, x_250_66, x_250_69, x_250_70, x_250_71, x_250_74, x_250_75, x_250_76, x_250_79, x_250_80, x_250_81, x_250_84, x_250_85, x_250_86, x_250_89, x_250_90, x_250_91, x_250_94, x_250_95, x_250_98, x_250_99, x_250_100, x_250_101, x_250_104, x_250_105, x_250_108, x_250_109, x_250_110, x_250_111, x_250_114, x_250_115, x_250_116, x_250_119, x_250_120, x_250_121, x_250_124, x_250_127, x_250_130, okp_sL, hR_sL, hI_sL, iOk_sL, iRd_sL, o_124 hw, w_124_18 hw, iOk_ok (o_134 hw), iRd_ok (o_134 hw), inb_nI (n := LN 134) hs (by decide), nI_clamp (n := s) (by omega), true_and, hz, Option.some.injEq, exists_eq_left']
    rw [if_pos (Int32.le_refl _)]
  | succ n ih =>
    intro i l3 hi
    have hlt : i < M := by omega
    obtain ⟨v0, v1, v2, v3⟩ := hv i hlt
    have g3 : 6 * s + i < 48 := by omega
    rw [x_250_47]
    simp only [x_250_48, x_250_49, x_250_52, x_250_53, x_250_54, x_250_57, x_250_59, x_250_60, x_250_61, x_250_62, x_250_63, x_250_64, x_250_65, x_250_66, x_250_69, x_250_70, x_250_71, x_250_74, x_250_75, x_250_76, x_250_79, x_250_80, x_250_81, x_250_84, x_250_85, x_250_86, x_250_89, x_250_90, x_250_91, x_250_94, x_250_95, x_250_98, x_250_99, x_250_100, x_250_101, x_250_104, x_250_105, x_250_108, x_250_109, x_250_110, x_250_111, x_250_114, x_250_115, x_250_116, x_250_119, x_250_120, x_250_121, x_250_124, x_250_127, x_250_130, okp_sL, hR_sL, hI_sL, iOk_sL, iRd_sL, o_124 hw, w_124_16 hw, w_124_18 hw, w_124_19 hw, w_124_20 hw, w_124_21 hw, w_124_22 hw, iOk_ok (o_132 hw), iRd_ok (o_132 hw), iOk_ok (o_134 hw), iRd_ok (o_134 hw), iOk_ok (o_135 hw), iRd_ok (o_135 hw), iOk_ok (o_136 hw), iRd_ok (o_136 hw), iOk_ok (o_137 hw), iRd_ok (o_137 hw), iOk_ok (o_138 hw), iRd_ok (o_138 hw), inb_nI (n := LN 132) hs (by decide), inb_nI (n := LN 134) hs (by decide), inb_nI (n := LN 135) g3 (by decide), inb_nI (n := LN 136) g3 (by decide), inb_nI (n := LN 137) g3 (by decide), inb_nI (n := LN 138) g3 (by decide), nI_clamp (n := s) (by omega), nI_clamp (n := 6 * s + i) (by omega), mv_ix hs (show i < 6 by omega), true_and, hz, hk, v0, v1, v2, Option.some.injEq, exists_eq_left', m_mix hw, tl_n, nI_1, cl2_i, cl2_r, cl2_n]
    rw [if_neg (nI_ge hlt (by omega))]
    by_cases e3 : kd = 3
    · rw [if_pos e3, v3 (Or.inl e3), ← dgS_y (Or.inl e3)]
      exact ih (i + 1) _ (by omega)
    · rw [if_neg e3]
      by_cases e4 : kd = 4
      · rw [if_pos e4, v3 (Or.inr e4), ← dgS_y (Or.inr e4)]
        exact ih (i + 1) _ (by omega)
      · rw [if_neg e4, ← dgS_n (e := e) (fun z => z.elim e3 e4)]
        exact ih (i + 1) _ (by omega)
theorem m_ms (hw : WF h) (hs : s < 8) (c : CMs h) : Tr sc (d + 1) 250 (ent0 250 [.ref 124, .int (nI s)] (sL h 124 62 a)) Q = Q (none, sL h 124 62 (dS h s a)) := by
  rw [e_250]
  simp only [x_250_0, x_250_1, x_250_4, x_250_5, x_250_6, x_250_9, x_250_10, x_250_11, x_250_14, x_250_15, x_250_16, x_250_17, x_250_20, x_250_21, x_250_22, x_250_25, x_250_26, x_250_27, x_250_30, x_250_31, x_250_32, x_250_35, x_250_36, x_250_37, x_250_40, x_250_41, x_250_42, x_250_45, x_250_46, okp_sL, hR_sL, hI_sL, iOk_sL, iRd_sL, o_124 hw, w_124_16 hw, w_124_17 hw, w_124_18 hw, iOk_ok (o_132 hw), iRd_ok (o_132 hw), iOk_ok (o_133 hw), iRd_ok (o_133 hw), iOk_ok (o_134 hw), iRd_ok (o_134 hw), inb_nI (n := LN 132) hs (by decide), inb_nI (n := LN 133) hs (by decide), inb_nI (n := LN 134) hs (by decide), nI_clamp (n := s) (by omega), true_and, Option.some.injEq, exists_eq_left', m_mix hw, tl_n, cl2_i, cl2_r, cl2_n]
  unfold dS
  by_cases e : hI h 134 s = 0
  · rw [if_pos e, if_pos (sm_t c hs e), show (31 * a - 1 : Int64) = 31 * a + (-1 : Int32).toInt64 from Int64.sub_eq_add_neg ..]
  · rw [if_neg e, if_neg (sm_f c hs e)]
    obtain ⟨⟨-, -, ⟨m1, m2⟩, -⟩, b1, b2, b3, b4⟩ := sh_at c hs e
    obtain ⟨M, hM, hz⟩ := nI_of2 (x := hI h (68 + 7 * s) 8) (M := 6) (n := 6) rfl (Int32.not_lt.mpr (i_le0 m1)) m2
    rw [show (hI h (68 + 7 * s) 8).toNatClampNeg = M by rw [hz]; exact nI_clamp (by omega), b1, b2, b3]
    exact m_ms_loop hw hs b1 (by rw [b3, hz]) hM (fun j hj => b4 j (by omega) (by rw [hz]; exact nI_lt hj (by omega))) M 0 _ (by omega)
theorem m_d1 (hw : WF h) (c : CMs h) : ∀ (n i : Nat), i + n = 8 → ∀ l2, Tr sc (d + 2) 251 (9, [some (.ref 124), some (.int (nI i)), l2], [], sL h 124 62 (itr (dS h) a i)) Q = Tr sc (d + 2) 251 (26, [some (.ref 124), some (.int (nI 8)), l2], [], sL h 124 62 (itr (dS h) a 8)) Q := by
  intro n
  induction n with
  | zero =>
    intro i hi l2
    have e : i = 8 := by omega
    subst e
    rw [x_251_9]
    simp only [x_251_10, x_251_12, x_251_15, x_251_16, x_251_17, x_251_20, x_251_23]
    rw [if_pos (show (8 : Int32) ≤ nI 8 from Int32.le_refl _)]
  | succ n ih =>
    intro i hi l2
    have hlt : i < 8 := by omega
    rw [x_251_9]
    simp only [x_251_10, x_251_12, x_251_15, x_251_16, x_251_17, x_251_20, x_251_23, okp_sL, o_124 hw, true_and, m_ms hw hlt c, tl_n, nI_1, cl2_i, cl2_r, cl2_n]
    rw [if_neg (show ¬ (8 : Int32) ≤ nI i from nI_ge hlt (by decide))]
    exact ih (i + 1) (by omega) _
theorem m_dr {r N : Nat} {f : Nat → Int32} (hw : WF h) (hr : r < 6) (hN : N ≤ 40) (hz : hI h 126 r = nI N ∨ (hI h 126 r < 0 ∧ N = 0)) (hv : ∀ j, j < 40 → hI h 127 (40 * r + j) = f j) : ∀ (n i : Nat), i + n = N → Tr sc (d + 1) 251 (59, [some (.ref 124), some (.int (nI r)), some (.int (nI i))], [], sL h 124 62 (dgR f a i)) Q = Tr sc (d + 1) 251 (90, [some (.ref 124), some (.int (nI r)), some (.int (nI N))], [], sL h 124 62 (dgR f a N)) Q := by
  intro n
  induction n with
  | zero =>
    intro i hi
    have e : i = N := by omega
    subst e
    rw [x_251_59]
    simp only [x_251_60, x_251_61, x_251_64, x_251_65, x_251_66, x_251_69, x_251_70, x_251_71, x_251_74, x_251_76, x_251_77, x_251_78, x_251_79, x_251_80, x_251_81, x_251_84, x_251_87, okp_sL, hR_sL, hI_sL, iOk_sL, iRd_sL, o_124 hw, w_124_6 hw, iOk_ok (o_126 hw), iRd_ok (o_126 hw), inb_nI (n := LN 126) hr (by decide), nI_clamp (n := r) (by omega), true_and, Option.some.injEq, exists_eq_left']
    rw [if_pos]
    rcases hz with e | ⟨e, e0⟩
    · rw [e]; exact Int32.le_refl _
    · rw [e0]; exact Int32.le_of_lt e
  | succ n ih =>
    intro i hi
    have hlt : i < N := by omega
    have hz1 : hI h 126 r = nI N := hz.resolve_right (fun e => by omega)
    have g3 : 40 * r + i < 240 := by omega
    rw [x_251_59]
    simp only [x_251_60, x_251_61, x_251_64, x_251_65, x_251_66, x_251_69, x_251_70, x_251_71, x_251_74, x_251_76, x_251_77, x_251_78, x_251_79, x_251_80, x_251_81, x_251_84, x_251_87, okp_sL, hR_sL, hI_sL, iOk_sL, iRd_sL, o_124 hw, w_124_6 hw, w_124_7 hw, iOk_ok (o_126 hw), iRd_ok (o_126 hw), iOk_ok (o_127 hw), iRd_ok (o_127 hw), inb_nI (n := LN 126) hr (by decide), inb_nI (n := LN 127) g3 (by decide), nI_clamp (n := r) (by omega), nI_clamp (n := 40 * r + i) (by omega), lay_ix (a := r) (b := i) hr (by omega), hz1, hv i (by omega), true_and, Option.some.injEq, exists_eq_left', m_mix hw, tl_n, nI_1, cl2_i, cl2_r, cl2_n]
    rw [if_neg (nI_ge hlt (by omega))]
    exact ih (i + 1) (by omega)
theorem m_dt {r N : Nat} {f : Nat → Int32} (hw : WF h) (hr : r < 4) (hN : N ≤ 60) (hz : hI h 129 r = nI N ∨ (hI h 129 r < 0 ∧ N = 0)) (hv : ∀ j, j < 60 → hI h 130 (60 * r + j) = f j) : ∀ (n i : Nat), i + n = N → Tr sc (d + 1) 251 (128, [some (.ref 124), some (.int (nI r)), some (.int (nI i))], [], sL h 124 62 (dgR f a i)) Q = Tr sc (d + 1) 251 (159, [some (.ref 124), some (.int (nI r)), some (.int (nI N))], [], sL h 124 62 (dgR f a N)) Q := by
  intro n
  induction n with
  | zero =>
    intro i hi
    have e : i = N := by omega
    subst e
    rw [x_251_128]
    simp only [x_251_129, x_251_130, x_251_133, x_251_134, x_251_135, x_251_138, x_251_139, x_251_140, x_251_143, x_251_145, x_251_146, x_251_147, x_251_148, x_251_149, x_251_150, x_251_153, x_251_156, okp_sL, hR_sL, hI_sL, iOk_sL, iRd_sL, o_124 hw, w_124_9 hw, iOk_ok (o_129 hw), iRd_ok (o_129 hw), inb_nI (n := LN 129) hr (by decide), nI_clamp (n := r) (by omega), true_and, Option.some.injEq, exists_eq_left']
    rw [if_pos]
    rcases hz with e | ⟨e, e0⟩
    · rw [e]; exact Int32.le_refl _
    · rw [e0]; exact Int32.le_of_lt e
  | succ n ih =>
    intro i hi
    have hlt : i < N := by omega
    have hz1 : hI h 129 r = nI N := hz.resolve_right (fun e => by omega)
    have g3 : 60 * r + i < 240 := by omega
    rw [x_251_128]
    simp only [x_251_129, x_251_130, x_251_133, x_251_134, x_251_135, x_251_138, x_251_139, x_251_140, x_251_143, x_251_145, x_251_146, x_251_147, x_251_148, x_251_149, x_251_150, x_251_153, x_251_156, okp_sL, hR_sL, hI_sL, iOk_sL, iRd_sL, o_124 hw, w_124_9 hw, w_124_10 hw, iOk_ok (o_129 hw), iRd_ok (o_129 hw), iOk_ok (o_130 hw), iRd_ok (o_130 hw), inb_nI (n := LN 129) hr (by decide), inb_nI (n := LN 130) g3 (by decide), nI_clamp (n := r) (by omega), nI_clamp (n := 60 * r + i) (by omega), put_ix (a := r) (b := i) hr (by omega), hz1, hv i (by omega), true_and, Option.some.injEq, exists_eq_left', m_mix hw, tl_n, nI_1, cl2_i, cl2_r, cl2_n]
    rw [if_neg (nI_ge hlt (by omega))]
    exact ih (i + 1) (by omega)
theorem m_d2 (hw : WF h) (c : CMr h) : ∀ (n i : Nat), i + n = 6 → ∀ l2, ∃ l2', Tr sc (d + 2) 251 (28, [some (.ref 124), some (.int (nI i)), l2], [], sL h 124 62 (itr (dR h) a i)) Q = Tr sc (d + 2) 251 (96, [some (.ref 124), some (.int (nI 6)), l2'], [], sL h 124 62 (itr (dR h) a 6)) Q := by
  intro n
  induction n with
  | zero =>
    intro i hi l2
    have e : i = 6 := by omega
    subst e
    refine ⟨l2, ?_⟩
    rw [x_251_28]
    simp only [x_251_29, x_251_31, x_251_34, x_251_35, x_251_36, x_251_39, x_251_40, x_251_41, x_251_44, x_251_45, x_251_48, x_251_49, x_251_52, x_251_53, x_251_54, x_251_57, x_251_58]
    rw [if_pos (show (6 : Int32) ≤ nI 6 from Int32.le_refl _)]
  | succ n ih =>
    intro i hi l2
    have hlt : i < 6 := by omega
    obtain ⟨kz, kz2⟩ := rz c hlt
    obtain ⟨l2', hl⟩ := ih (i + 1) (by omega) (some (.int (nI (hI h (48 + 2 * i) 1).toNatClampNeg)))
    refine ⟨l2', ?_⟩
    have sz : (hI h 126 i < 0 ∧ hI h (48 + 2 * i) 1 = -1) ∨ (¬ hI h 126 i < 0 ∧ hI h 126 i = hI h (48 + 2 * i) 1) := by
      rcases (c i hlt).1 with ⟨e, e2⟩ | ⟨e1, e2, e3⟩
      · exact Or.inl ⟨e2, e⟩
      · exact Or.inr ⟨by rw [e3]; exact Int32.not_lt.mpr e1, e3⟩
    have hz : hI h 126 i = nI (hI h (48 + 2 * i) 1).toNatClampNeg ∨ (hI h 126 i < 0 ∧ (hI h (48 + 2 * i) 1).toNatClampNeg = 0) := by
      rcases sz with ⟨e1, e2⟩ | ⟨e1, e2⟩
      · exact Or.inr ⟨e1, by rw [e2]; rfl⟩
      · refine Or.inl ?_
        rw [e2]
        refine kz.resolve_right (fun q => e1 ?_)
        rw [e2]; exact q.1
    have loop := fun a => m_dr (sc := sc) (d := d + 1) (Q := Q) (a := a) hw hlt kz2 hz (fun j hj => (c i hlt).2 j hj) _ 0 (Nat.zero_add _)
    rw [x_251_28]
    simp only [x_251_29, x_251_31, x_251_34, x_251_35, x_251_36, x_251_39, x_251_40, x_251_41, x_251_44, x_251_45, x_251_48, x_251_49, x_251_52, x_251_53, x_251_54, x_251_57, x_251_58, okp_sL, hR_sL, hI_sL, iOk_sL, iRd_sL, o_124 hw, w_124_6 hw, iOk_ok (o_126 hw), iRd_ok (o_126 hw), inb_nI (n := LN 126) hlt (by decide), nI_clamp (n := i) (by omega), true_and, Option.some.injEq, exists_eq_left', m_mix hw, tl_n, cl2_i, cl2_r, cl2_n]
    rw [if_neg (show ¬ (6 : Int32) ≤ nI i from nI_ge hlt (by decide))]
    have tail : Tr sc (d + 2) 251 (59, [some (.ref 124), some (.int (nI i)), some (.int 0)], [], sL h 124 62 (31 * itr (dR h) a i + (hI h (48 + 2 * i) 1).toInt64)) Q = Tr sc (d + 2) 251 (96, [some (.ref 124), some (.int (nI 6)), l2'], [], sL h 124 62 (itr (dR h) a 6)) Q := by
      refine (loop _).trans ?_
      simp only [x_251_90, x_251_93, nI_1, cl2_i, cl2_r, cl2_n]
      exact hl
    rcases sz with ⟨e1, e2⟩ | ⟨e1, e2⟩
    · rw [if_neg (Int32.not_le.mpr e1)]
      rw [e2] at tail
      exact tail
    · rw [if_pos (Int32.not_lt.mp e1), e2]
      exact tail
theorem m_d3 (hw : WF h) (c : CMt h) : ∀ (n i : Nat), i + n = 4 → ∀ l2, Tr sc (d + 2) 251 (98, [some (.ref 124), some (.int (nI i)), l2], [], sL h 124 62 (itr (dT h) a i)) Q = Q (some (.long (itr (dT h) a 4)), sL h 124 62 (itr (dT h) a 4)) := by
  intro n
  induction n with
  | zero =>
    intro i hi l2
    have e : i = 4 := by omega
    subst e
    rw [x_251_98]
    simp only [x_251_99, x_251_100, x_251_103, x_251_104, x_251_105, x_251_108, x_251_109, x_251_110, x_251_113, x_251_114, x_251_117, x_251_118, x_251_121, x_251_122, x_251_123, x_251_126, x_251_127, x_251_165, x_251_166, x_251_169, okp_sL, hL_sL, o_124 hw, true_and, if_true]
    rw [if_pos (show (4 : Int32) ≤ nI 4 from Int32.le_refl _)]
  | succ n ih =>
    intro i hi l2
    have hlt : i < 4 := by omega
    obtain ⟨kz, kz2⟩ := tz c hlt
    have sz : (hI h 129 i < 0 ∧ hI h (60 + 2 * i) 1 = -1) ∨ (¬ hI h 129 i < 0 ∧ hI h 129 i = hI h (60 + 2 * i) 1) := by
      rcases (c i hlt).1 with ⟨e, e2⟩ | ⟨e1, e2, e3⟩
      · exact Or.inl ⟨e2, e⟩
      · exact Or.inr ⟨by rw [e3]; exact Int32.not_lt.mpr e1, e3⟩
    have hz : hI h 129 i = nI (hI h (60 + 2 * i) 1).toNatClampNeg ∨ (hI h 129 i < 0 ∧ (hI h (60 + 2 * i) 1).toNatClampNeg = 0) := by
      rcases sz with ⟨e1, e2⟩ | ⟨e1, e2⟩
      · exact Or.inr ⟨e1, by rw [e2]; rfl⟩
      · refine Or.inl ?_
        rw [e2]
        refine kz.resolve_right (fun q => e1 ?_)
        rw [e2]; exact q.1
    have loop := fun a => m_dt (sc := sc) (d := d + 1) (Q := Q) (a := a) hw hlt kz2 hz (fun j hj => (c i hlt).2 j hj) _ 0 (Nat.zero_add _)
    rw [x_251_98]
    simp only [x_251_99, x_251_100, x_251_103, x_251_104, x_251_105, x_251_108, x_251_109, x_251_110, x_251_113, x_251_114, x_251_117, x_251_118, x_251_121, x_251_122, x_251_123, x_251_126, x_251_127, okp_sL, hR_sL, hI_sL, iOk_sL, iRd_sL, o_124 hw, w_124_9 hw, iOk_ok (o_129 hw), iRd_ok (o_129 hw), inb_nI (n := LN 129) hlt (by decide), nI_clamp (n := i) (by omega), true_and, Option.some.injEq, exists_eq_left', m_mix hw, tl_n, cl2_i, cl2_r, cl2_n]
    rw [if_neg (show ¬ (4 : Int32) ≤ nI i from nI_ge hlt (by decide))]
    have tail : Tr sc (d + 2) 251 (128, [some (.ref 124), some (.int (nI i)), some (.int 0)], [], sL h 124 62 (31 * itr (dT h) a i + (hI h (60 + 2 * i) 1).toInt64)) Q = Q (some (.long (itr (dT h) a 4)), sL h 124 62 (itr (dT h) a 4)) := by
      refine (loop _).trans ?_
      simp only [x_251_159, x_251_162, nI_1, cl2_i, cl2_r, cl2_n]
      exact ih (i + 1) (by omega) _
    rcases sz with ⟨e1, e2⟩ | ⟨e1, e2⟩
    · rw [if_neg (Int32.not_le.mpr e1)]
      rw [e2] at tail
      exact tail
    · rw [if_pos (Int32.not_lt.mp e1), e2]
      exact tail
theorem m_digest (hc : CM h) : Tr sc (d + 2) 251 (ent0 251 [.ref 124] h) Q = Q (some (.long (dgst h)), sL h 124 62 (dgst h)) := by
  obtain ⟨hw, -, hr, ht, hs⟩ := hc
  rw [e_251]
  simp only [x_251_0, x_251_1, x_251_4, x_251_7, x_251_8, cl2_r, cl2_n, cl2_i, cl2_l, o_124 hw, true_and]
  refine (m_d1 hw hs 8 0 rfl _).trans ?_
  simp only [x_251_26, x_251_27, cl2_r, cl2_n, cl2_i, cl2_l]
  obtain ⟨l2', e2⟩ := m_d2 (sc := sc) (d := d) (Q := Q) (a := itr (dS h) 17 8) hw hr 6 0 rfl none
  refine e2.trans ?_
  simp only [x_251_96, x_251_97, cl2_r, cl2_n, cl2_i, cl2_l]
  exact m_d3 hw ht 4 0 rfl _
theorem both_digest (hc : CM h) : Both sc 140 251 [] h := by
  unfold Both
  rw [c_digest hc, m_digest hc]
  have hf3 : Fr (fun x => x = 124) h (sL h 124 62 (dgst h)) := Fr_sL rfl
  refine ⟨⟨_, rfl, rfl⟩, Fr_WF hf3 hc.1, ?_, CMr_fr hf3 (fun x q z => by omega) hc.2.2.1, CMt_fr hf3 (fun x q z => by omega) hc.2.2.2.1, CMs_fr hf3 (fun x q z => by omega) hc.2.2.2.2⟩
  exact hc.2.1
end DG
