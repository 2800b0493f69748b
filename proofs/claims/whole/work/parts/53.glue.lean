/-! ===== shapes as numbers; what refuses alike ===== -/
def IsSh (k : Nat) : Prop := k = 4 ∨ (68 ≤ k ∧ k < 124 ∧ (k - 68) % 7 = 0)
def ShR (h : PH) (k : Nat) : Prop := okp h k 6 = true ∧ hR h k 0 = some (k + 1) ∧ hR h k 1 = some (k + 2) ∧ hR h k 2 = some (k + 3) ∧ hR h k 3 = some (k + 4) ∧ hR h k 4 = some (k + 5) ∧ hR h k 5 = some (k + 6) ∧ okp h (k + 1) 11 = true ∧ okp h (k + 2) 11 = true ∧ okp h (k + 3) 11 = true ∧ okp h (k + 4) 11 = true ∧ okp h (k + 5) 12 = true ∧ okp h (k + 6) 12 = true ∧ LN (k + 1) = 6 ∧ LN (k + 2) = 6 ∧ LN (k + 3) = 6 ∧ LN (k + 4) = 6 ∧ LN (k + 5) = 6 ∧ LN (k + 6) = 6
/-- kind, base, moves, turns, shifts, extras of a shape of the class at cell k; of the model's shape s; what they keep to -/
def ShC (h : PH) (k : Nat) (kd : Int32) (b M : Nat) (tn : Nat → Nat) (sx sy ex : Nat → Int) : Prop := hI h k 6 = kd ∧ hI h k 7 = nI b ∧ hI h k 8 = nI M ∧ ∀ i, i < M → hI h (k + 1) i = nI (tn i) ∧ hI h (k + 2) i = iv (sx i) ∧ hI h (k + 3) i = iv (sy i) ∧ hI h (k + 4) i = iv (ex i)
def ShM (h : PH) (s : Nat) (kd : Int32) (b M : Nat) (tn : Nat → Nat) (sx sy ex : Nat → Int) : Prop := hI h 132 s = kd ∧ hI h 133 s = nI b ∧ hI h 134 s = nI M ∧ ∀ i, i < M → hI h 135 (6 * s + i) = nI (tn i) ∧ hI h 136 (6 * s + i) = iv (sx i) ∧ hI h 137 (6 * s + i) = iv (sy i) ∧ (kd = 3 ∨ kd = 4 → hI h 138 (6 * s + i) = iv (ex i))
def ShW (kd : Int32) (b M : Nat) (tn : Nat → Nat) (sx sy ex : Nat → Int) : Prop := (0 ≤ kd ∧ kd ≤ 4) ∧ (2 ≤ b ∧ b ≤ 4) ∧ (1 ≤ M ∧ M ≤ 6) ∧ ∀ i, i < M → tn i ≤ 7 ∧ (-9 ≤ sx i ∧ sx i ≤ 9) ∧ (-9 ≤ sy i ∧ sy i ≤ 9) ∧ (kd = 1 ∨ kd = 2 → tn i = 0) ∧ (kd = 3 → 1 ≤ ex i ∧ ex i ≤ 99) ∧ (kd = 4 → 0 ≤ ex i ∧ ex i < 2 ^ M)
section GL
variable {sc : Nat × (Nat → Int32)} {d : Nat} {Q : PRes → Prop} {h h' h1 h2 h3 : PH} {k s q r a b M : Nat} {P P' : Nat → Nat → Prop} {kd x t : Int32} {tn : Nat → Nat} {sx sy ex : Nat → Int}
theorem sh_ref (hw : WF h) (hk : IsSh k) : ShR h k := by
  rcases hk with rfl | ⟨h1, h2, h3⟩
  · exact ⟨o_4 hw, w_4_0 hw, w_4_1 hw, w_4_2 hw, w_4_3 hw, w_4_4 hw, w_4_5 hw, o_5 hw, o_6 hw, o_7 hw, o_8 hw, o_9 hw, o_10 hw, rfl, rfl, rfl, rfl, rfl, rfl⟩
  · have hs : (k - 68) / 7 < 8 := by omega
    have e : k = 68 + 7 * ((k - 68) / 7) := by omega
    generalize (k - 68) / 7 = s at hs e
    subst e
    obtain ⟨-, w2, ⟨r0, r1, r2, r3, r4, r5⟩, ⟨o0, o1, o2, o3, o4, o5⟩, n0, n1, n2, n3, n4, n5⟩ := hw.shape hs
    unfold ShR
    rw [show 68 + 7 * s + 1 = 69 + 7 * s by omega, show 68 + 7 * s + 2 = 70 + 7 * s by omega, show 68 + 7 * s + 3 = 71 + 7 * s by omega, show 68 + 7 * s + 4 = 72 + 7 * s by omega, show 68 + 7 * s + 5 = 73 + 7 * s by omega, show 68 + 7 * s + 6 = 74 + 7 * s by omega]
    exact ⟨w2, r0, r1, r2, r3, r4, r5, o0, o1, o2, o3, o4, o5, n0, n1, n2, n3, n4, n5⟩
theorem is_sh (hs : s < 8) : IsSh (68 + 7 * s) := Or.inr ⟨by omega, by omega, by omega⟩
theorem lt_nI (hb : x.toInt = (b : Int)) : x = nI b := by rw [iv_n, iv_of x, hb]
theorem sh_ab (hA : ShAt h s) : ∃ (kd : Int32) (b M : Nat) (tn : Nat → Nat) (sx sy ex : Nat → Int), ShW kd b M tn sx sy ex ∧ ShC h (68 + 7 * s) kd b M tn sx sy ex ∧ ShM h s kd b M tn sx sy ex := by
  obtain ⟨⟨k1, ⟨b1, b2⟩, ⟨m1, m2⟩, kt⟩, e1, e2, e3, e4⟩ := hA
  have c1 : (1 : Int32).toInt = 1 := rfl
  have c2 : (2 : Int32).toInt = 2 := rfl
  have c4 : (4 : Int32).toInt = 4 := rfl
  have c6 : (6 : Int32).toInt = 6 := rfl
  have c0 : (0 : Int32).toInt = 0 := rfl
  have c7 : (7 : Int32).toInt = 7 := rfl
  have c9 : (9 : Int32).toInt = 9 := rfl
  have cm : (-9 : Int32).toInt = -9 := rfl
  have c99 : (99 : Int32).toInt = 99 := rfl
  rw [i_tre] at b1 b2 m1 m2
  rw [c2] at b1
  rw [c4] at b2
  rw [c1] at m1
  rw [c6] at m2
  obtain ⟨b, hb, eb⟩ : ∃ b : Nat, (2 ≤ b ∧ b ≤ 4) ∧ hI h (68 + 7 * s) 7 = nI b := ⟨(hI h (68 + 7 * s) 7).toInt.toNat, by omega, lt_nI (by omega)⟩
  obtain ⟨M, hM, eM⟩ : ∃ M : Nat, (1 ≤ M ∧ M ≤ 6) ∧ hI h (68 + 7 * s) 8 = nI M := ⟨(hI h (68 + 7 * s) 8).toInt.toNat, by omega, lt_nI (by omega)⟩
  rw [eM] at kt e4
  have lt : ∀ i, i < M → nI i < nI M := fun i hi => nI_lt hi (by omega)
  refine ⟨hI h (68 + 7 * s) 6, b, M, fun i => (hI h (69 + 7 * s) i).toInt.toNat, fun i => (hI h (70 + 7 * s) i).toInt, fun i => (hI h (71 + 7 * s) i).toInt, fun i => (hI h (72 + 7 * s) i).toInt, ⟨k1, hb, hM, fun i hi => ?_⟩, ⟨rfl, eb, eM, fun i hi => ?_⟩, e1, by rw [e2]; exact eb, by rw [e3]; exact eM, fun i hi => ?_⟩
  · obtain ⟨⟨t1, t2⟩, ⟨x1, x2⟩, ⟨y1, y2⟩, a1, a2, a3⟩ := kt i (lt i hi) (by omega)
    rw [i_tre] at t1 t2 x1 x2 y1 y2
    rw [c0] at t1
    rw [c7] at t2
    rw [cm] at x1 y1
    rw [c9] at x2 y2
    refine ⟨by show (hI h (69 + 7 * s) i).toInt.toNat ≤ 7; omega, ⟨x1, x2⟩, ⟨y1, y2⟩, fun z => ?_, fun z => ?_, fun z => ?_⟩
    · show (hI h (69 + 7 * s) i).toInt.toNat = 0
      rw [a1 z, c0]; rfl
    · obtain ⟨q1, q2⟩ := a2 z
      rw [i_tre] at q1 q2
      rw [c1] at q1
      rw [c99] at q2
      exact ⟨q1, q2⟩
    · obtain ⟨q1, q2⟩ := a3 z
      rw [sh_M M (by omega)] at q2
      rw [i_tre, c0] at q1
      rw [i_tri, nI_toInt (Nat.lt_of_le_of_lt (Nat.pow_le_pow_right (by decide) hM.2) (by decide))] at q2
      refine ⟨q1, ?_⟩
      rw [show ((2 : Int) ^ M) = ((2 ^ M : Nat) : Int) by norm_cast]
      exact q2
  · obtain ⟨⟨t1, t2⟩, -⟩ := kt i (lt i hi) (by omega)
    rw [i_tre, c0] at t1
    rw [show 68 + 7 * s + 1 = 69 + 7 * s by omega, show 68 + 7 * s + 2 = 70 + 7 * s by omega, show 68 + 7 * s + 3 = 71 + 7 * s by omega, show 68 + 7 * s + 4 = 72 + 7 * s by omega]
    exact ⟨lt_nI (by show _ = (((hI h (69 + 7 * s) i).toInt.toNat : Nat) : Int); omega), iv_of _, iv_of _, iv_of _⟩
  · obtain ⟨⟨t1, t2⟩, -⟩ := kt i (lt i hi) (by omega)
    rw [i_tre, c0] at t1
    obtain ⟨f1, f2, f3, f4⟩ := e4 i (by omega) (lt i hi)
    exact ⟨by rw [f1]; exact lt_nI (by show _ = (((hI h (69 + 7 * s) i).toInt.toNat : Nat) : Int); omega), by rw [f2]; exact iv_of _, by rw [f3]; exact iv_of _, fun z => by rw [f4 z]; exact iv_of _⟩
/-- frames keep what is said of shapes -/
theorem ShC.fr (c : ShC h k kd b M tn sx sy ex) (f : Fq P h h') (hP : ∀ a j, k ≤ a → a < k + 5 → ¬ P a j) : ShC h' k kd b M tn sx sy ex := by
  obtain ⟨c1, c2, c3, c4⟩ := c
  refine ⟨by rw [f.i (hP _ _ (by omega) (by omega))]; exact c1, by rw [f.i (hP _ _ (by omega) (by omega))]; exact c2, by rw [f.i (hP _ _ (by omega) (by omega))]; exact c3, fun i hi => ?_⟩
  rw [f.i (hP _ _ (by omega) (by omega)), f.i (hP _ _ (by omega) (by omega)), f.i (hP _ _ (by omega) (by omega)), f.i (hP _ _ (by omega) (by omega))]
  exact c4 i hi
theorem ShM.fr (c : ShM h s kd b M tn sx sy ex) (f : Fq P h h') (hP : ∀ a j, 132 ≤ a → a < 139 → ¬ P a j) : ShM h' s kd b M tn sx sy ex := by
  obtain ⟨c1, c2, c3, c4⟩ := c
  refine ⟨by rw [f.i (hP _ _ (by omega) (by omega))]; exact c1, by rw [f.i (hP _ _ (by omega) (by omega))]; exact c2, by rw [f.i (hP _ _ (by omega) (by omega))]; exact c3, fun i hi => ?_⟩
  rw [f.i (hP _ _ (by omega) (by omega)), f.i (hP _ _ (by omega) (by omega)), f.i (hP _ _ (by omega) (by omega)), f.i (hP _ _ (by omega) (by omega))]
  exact c4 i hi
theorem g_tw {k lo hi : Int32} {r A B : Prop} [Decidable r] : (if k < lo then A else if hi < k then A else if r then B else A) = if r ∧ (lo ≤ k ∧ k ≤ hi) then B else A := by
  by_cases e1 : k < lo
  · rw [if_pos e1, if_neg (fun z => Int32.not_lt.mpr z.2.1 e1)]
  · rw [if_neg e1]
    by_cases e2 : hi < k
    · rw [if_pos e2, if_neg (fun z => Int32.not_lt.mpr z.2.2 e2)]
    · rw [if_neg e2]
      by_cases e3 : r
      · rw [if_pos e3, if_pos ⟨e3, Int32.not_lt.mp e1, Int32.not_lt.mp e2⟩]
      · rw [if_neg e3, if_neg (fun z => e3 z.1)]
theorem g_nt {p r A B : Prop} [Decidable p] [Decidable r] : (if ¬ p then A else if r then B else A) = if r ∧ p then B else A := by
  by_cases e1 : p
  · by_cases e2 : r
    · simp [e1, e2]
    · simp [e1, e2]
  · simp [e1]
theorem g_tt {p r A B : Prop} [Decidable p] [Decidable r] : (if p then (if r then B else A) else A) = if r ∧ p then B else A := by
  by_cases e1 : p
  · by_cases e2 : r
    · simp [e1, e2]
    · simp [e1, e2]
  · simp [e1]
theorem c_shR (hw : WF h) : Tr sc (d + 1) 146 (ent0 146 [.ref 0, .int x, .int t] h) Q = if (0 ≤ x ∧ x < 8) ∧ ¬ t = 0 then (if hI h (68 + 7 * x.toNatClampNeg) 6 = -1 then Q (some (.int (-3)), refu h 1) else Q (some (.int 0), h)) else Q (some (.int (-1)), h) := by
  by_cases e0 : 0 ≤ x ∧ x < 8
  · obtain ⟨s, hs, rfl⟩ := ir_of (n := 8) (by decide) e0
    rw [c_shRef hw hs, nI_clamp (n := s) (by omega)]
    by_cases e1 : t = 0
    · rw [if_pos e1, if_neg (fun z => z.2 e1)]
    · rw [if_neg e1, if_pos (show (0 ≤ nI s ∧ nI s < 8) ∧ ¬ t = 0 from ⟨e0, e1⟩)]
  · rw [c_shRef_bad e0, if_neg (fun z => e0 z.1)]
theorem m_shR (hw : WF h) : Tr sc (d + 2) 177 (ent0 177 [.ref 124, .int x] h) Q = if 0 ≤ x ∧ x < 8 then (if hI h 134 x.toNatClampNeg = 0 then Q (some (.int (-3)), refm h 1) else Q (some (.int 0), h)) else Q (some (.int (-1)), h) := by
  by_cases e0 : 0 ≤ x ∧ x < 8
  · obtain ⟨s, hs, rfl⟩ := ir_of (n := 8) (by decide) e0
    rw [m_askedShape hw hs, nI_clamp (n := s) (by omega), if_pos e0]
  · rw [m_askedShape_bad e0, if_neg e0]
theorem c_stR (hw : WF h) : Tr sc (d + 2) 147 (ent0 147 [.ref 0, .int x, .int t] h) Q = if (0 ≤ x ∧ x < 8) ∧ ¬ t = 0 then (if hI h (68 + 7 * x.toNatClampNeg) 6 = -1 then Q (some (.int (-3)), refu h 1) else if hI h (68 + 7 * x.toNatClampNeg) 6 = 1 ∨ hI h (68 + 7 * x.toNatClampNeg) 6 = 2 then Q (some (.int 0), h) else Q (some (.int (-3)), refu h 3)) else Q (some (.int (-1)), h) := by
  by_cases e0 : 0 ≤ x ∧ x < 8
  · obtain ⟨s, hs, rfl⟩ := ir_of (n := 8) (by decide) e0
    obtain ⟨w1, w2, -⟩ := hw.shape hs
    rw [e_147]
    simp only [x_147_0, x_147_1, x_147_2, x_147_3, x_147_6, x_147_7, x_147_8, x_147_11, x_147_12, x_147_13, x_147_14, x_147_17, x_147_18, x_147_19, x_147_22, x_147_25, x_147_26, x_147_29, x_147_30, x_147_31, x_147_34, o_0 hw, w_0_2 hw, o_3 hw, show LN 3 = 8 from rfl, cl2_i, cl2_r, cl2_n, cl2_l, tl_s, tl_n, true_and, and_true, Option.some.injEq, exists_eq_left', Bool.and_self, Bool.true_and, Bool.and_true, Bool.or_true, Bool.true_or, i_10, i_00, if_true, if_false, not_true_eq_false, not_false_eq_true, and_false, false_and, okp_sI, okp_sL, okp_aI, okp_aL, hR_sI, hR_sL, hR_aI, hR_aL, c_shR hw, i_1m1, i_3m1, inb_nI (n := 8) hs (by decide), nI_clamp (n := s) (by omega), w1, w2, c_isStr w2, bI_0, c_refuse_3 hw]
    by_cases e1 : hI h (68 + 7 * s) 6 = 1 ∨ hI h (68 + 7 * s) 6 = 2
    · simp only [e1, not_true_eq_false, if_true, if_false]
    · simp only [e1, not_false_eq_true, if_true, if_false]
  · rw [e_147]
    simp only [x_147_0, x_147_1, x_147_2, x_147_3, x_147_6, x_147_7, x_147_8, x_147_11, x_147_12, x_147_13, x_147_14, x_147_17, x_147_18, x_147_19, x_147_22, x_147_25, x_147_26, x_147_29, x_147_30, x_147_31, x_147_34, o_0 hw, w_0_2 hw, o_3 hw, show LN 3 = 8 from rfl, cl2_i, cl2_r, cl2_n, cl2_l, tl_s, tl_n, true_and, and_true, Option.some.injEq, exists_eq_left', Bool.and_self, Bool.true_and, Bool.and_true, Bool.or_true, Bool.true_or, i_10, i_00, if_true, if_false, not_true_eq_false, not_false_eq_true, and_false, false_and, okp_sI, okp_sL, okp_aI, okp_aL, hR_sI, hR_sL, hR_aI, hR_aL, c_shR hw, e0, i_1m1]
theorem m_stR (hw : WF h) : Tr sc (d + 3) 218 (ent0 218 [.ref 124, .int x] h) Q = if 0 ≤ x ∧ x < 8 then (if hI h 134 x.toNatClampNeg = 0 then Q (some (.int (-3)), refm h 1) else if hI h 132 x.toNatClampNeg = 1 ∨ hI h 132 x.toNatClampNeg = 2 then Tr sc (d + 2) 215 (ent0 215 [.ref 124, .int x] h) (fun z => Tr sc (d + 3) 218 (31, [some (.ref 124), some (.int x), some (.int 0)], z.1.toList ++ [], z.2) Q) else Q (some (.int (-3)), refm h 3)) else Q (some (.int (-1)), h) := by
  by_cases e0 : 0 ≤ x ∧ x < 8
  · obtain ⟨s, hs, rfl⟩ := ir_of (n := 8) (by decide) e0
    rw [e_218]
    simp only [x_218_0, x_218_1, x_218_2, x_218_5, x_218_6, x_218_7, x_218_10, x_218_11, x_218_12, x_218_13, x_218_14, x_218_17, x_218_20, x_218_21, x_218_22, x_218_25, x_218_26, x_218_27, x_218_28, o_124 hw, cl2_i, cl2_r, cl2_n, cl2_l, tl_s, tl_n, true_and, and_true, Option.some.injEq, exists_eq_left', Bool.and_self, Bool.true_and, Bool.and_true, Bool.or_true, Bool.true_or, i_10, i_00, if_true, if_false, not_true_eq_false, not_false_eq_true, and_false, false_and, okp_sI, okp_sL, okp_aI, okp_aL, hR_sI, hR_sL, hR_aI, hR_aL, m_shR hw, i_m1, i_m3, i_0, nI_clamp (n := s) (by omega), m_isStr hw hs, bI_0, m_meets_3 hw, x_218_25]
    by_cases e1 : hI h 132 s = 1 ∨ hI h 132 s = 2
    · simp only [e1, not_true_eq_false, if_true, if_false]
    · simp only [e1, not_false_eq_true, if_true, if_false]
  · rw [e_218]
    simp only [x_218_0, x_218_1, x_218_2, x_218_5, x_218_6, x_218_7, x_218_10, x_218_11, x_218_12, x_218_13, x_218_14, x_218_17, x_218_20, x_218_21, x_218_22, x_218_25, x_218_26, x_218_27, x_218_28, o_124 hw, cl2_i, cl2_r, cl2_n, cl2_l, tl_s, tl_n, true_and, and_true, Option.some.injEq, exists_eq_left', Bool.and_self, Bool.true_and, Bool.and_true, Bool.or_true, Bool.true_or, i_10, i_00, if_true, if_false, not_true_eq_false, not_false_eq_true, and_false, false_and, okp_sI, okp_sL, okp_aI, okp_aL, hR_sI, hR_sL, hR_aI, hR_aL, m_shR hw, e0, i_m1]
/-- an op that asks for a shape: class and model refuse alike; what is left is a shape that is there -/
theorem glue_sh {yc ym : Nat} {as : List Value} {T : Prop} [Decidable T] {CC : (PRes → Prop) → Prop} {MC : PH → (PRes → Prop) → Prop} (hc : CM h)
    (Hc : ∀ Q, Tr sc 19 yc (ent0 yc (.ref 0 :: as) h) Q = if (0 ≤ x ∧ x < 8) ∧ T then (if hI h (68 + 7 * x.toNatClampNeg) 6 = -1 then Q (some (.int (-3)), refu h 1) else CC Q) else Q (some (.int (-1)), h))
    (Hm : ∀ h1 Q, WF h1 → Tr sc 19 ym (ent0 ym (.ref 124 :: as) h1) Q = if (0 ≤ x ∧ x < 8) ∧ T then (if hI h1 134 x.toNatClampNeg = 0 then Q (some (.int (-3)), refm h1 1) else MC h1 Q) else Q (some (.int (-1)), h1))
    (main : ∀ s, s < 8 → x = nI s → T → ShAt h s → CC (fun r1 => WF r1.2 ∧ hI r1.2 134 s = hI h 134 s ∧ MC r1.2 (fun r2 => (∃ v, r1.1 = some v ∧ r2.1 = some v) ∧ CM r2.2)))
    (mono : ∀ (A B : PRes → Prop), (∀ r, A r → B r) → CC A → CC B) : Both sc yc ym as h := by
  unfold Both
  obtain ⟨hw, -, -, -, hs⟩ := id hc
  rw [Hc]
  by_cases e : (0 ≤ x ∧ x < 8) ∧ T
  · obtain ⟨s, hsn, hx⟩ := ir_of (n := 8) (by decide) e.1
    have ex : x.toNatClampNeg = s := by rw [hx, nI_clamp (n := s) (by omega)]
    rw [if_pos e]
    by_cases e1 : hI h 134 s = 0
    · rw [ex, if_pos (sm_t hs hsn e1), Hm _ _ (WF_refu hw), if_pos e, ex, if_pos (show hI (refu h 1) 134 s = 0 by rw [refu_I (by decide) (by decide)]; exact e1)]
      exact ⟨⟨_, rfl, rfl⟩, cm_ref (by decide) hc⟩
    · rw [ex, if_neg (sm_f hs hsn e1)]
      refine mono _ _ (fun r1 q => ?_) (main s hsn hx e.2 (sh_at hs hsn e1))
      obtain ⟨q1, q2, q3⟩ := q
      rw [Hm _ _ q1, if_pos e, ex, if_neg (by rw [q2]; exact e1)]
      exact q3
  · rw [if_neg e, Hm _ _ hw, if_neg e]
    exact ⟨⟨_, rfl, rfl⟩, hc⟩
theorem glue_st {yc ym : Nat} {as : List Value} {T : Prop} [Decidable T] {CC : (PRes → Prop) → Prop} {MC : PH → (PRes → Prop) → Prop} (hc : CM h)
    (Hc : ∀ Q, Tr sc 19 yc (ent0 yc (.ref 0 :: as) h) Q = if (0 ≤ x ∧ x < 8) ∧ T then (if hI h (68 + 7 * x.toNatClampNeg) 6 = -1 then Q (some (.int (-3)), refu h 1) else if hI h (68 + 7 * x.toNatClampNeg) 6 = 1 ∨ hI h (68 + 7 * x.toNatClampNeg) 6 = 2 then CC Q else Q (some (.int (-3)), refu h 3)) else Q (some (.int (-1)), h))
    (Hm : ∀ h1 Q, WF h1 → Tr sc 19 ym (ent0 ym (.ref 124 :: as) h1) Q = if (0 ≤ x ∧ x < 8) ∧ T then (if hI h1 134 x.toNatClampNeg = 0 then Q (some (.int (-3)), refm h1 1) else if hI h1 132 x.toNatClampNeg = 1 ∨ hI h1 132 x.toNatClampNeg = 2 then MC h1 Q else Q (some (.int (-3)), refm h1 3)) else Q (some (.int (-1)), h1))
    (main : ∀ s, s < 8 → x = nI s → T → ShAt h s → (hI h (68 + 7 * s) 6 = 1 ∨ hI h (68 + 7 * s) 6 = 2) → CC (fun r1 => WF r1.2 ∧ hI r1.2 134 s = hI h 134 s ∧ hI r1.2 132 s = hI h 132 s ∧ MC r1.2 (fun r2 => (∃ v, r1.1 = some v ∧ r2.1 = some v) ∧ CM r2.2)))
    (mono : ∀ (A B : PRes → Prop), (∀ r, A r → B r) → CC A → CC B) : Both sc yc ym as h := by
  unfold Both
  obtain ⟨hw, -, -, -, hs⟩ := id hc
  rw [Hc]
  by_cases e : (0 ≤ x ∧ x < 8) ∧ T
  · obtain ⟨s, hsn, hx⟩ := ir_of (n := 8) (by decide) e.1
    have ex : x.toNatClampNeg = s := by rw [hx, nI_clamp (n := s) (by omega)]
    rw [if_pos e]
    by_cases e1 : hI h 134 s = 0
    · rw [ex, if_pos (sm_t hs hsn e1), Hm _ _ (WF_refu hw), if_pos e, ex, if_pos (show hI (refu h 1) 134 s = 0 by rw [refu_I (by decide) (by decide)]; exact e1)]
      exact ⟨⟨_, rfl, rfl⟩, cm_ref (by decide) hc⟩
    · have k1 := (sh_at hs hsn e1).2.1
      rw [ex, if_neg (sm_f hs hsn e1)]
      by_cases e2 : hI h (68 + 7 * s) 6 = 1 ∨ hI h (68 + 7 * s) 6 = 2
      · rw [if_pos e2]
        refine mono _ _ (fun r1 q => ?_) (main s hsn hx e.2 (sh_at hs hsn e1) e2)
        obtain ⟨q1, q2, q2', q3⟩ := q
        rw [Hm _ _ q1, if_pos e, ex, if_neg (by rw [q2]; exact e1), if_pos (by rw [q2', k1]; exact e2)]
        exact q3
      · rw [if_neg e2, Hm _ _ (WF_refu hw), if_pos e, ex, if_neg (show ¬ hI (refu h 3) 134 s = 0 by rw [refu_I (by decide) (by decide)]; exact e1), if_neg (show ¬ (hI (refu h 3) 132 s = 1 ∨ hI (refu h 3) 132 s = 2) by rw [refu_I (by decide) (by decide), k1]; exact e2)]
        exact ⟨⟨_, rfl, rfl⟩, cm_ref (by decide) hc⟩
  · rw [if_neg e, Hm _ _ hw, if_neg e]
    exact ⟨⟨_, rfl, rfl⟩, hc⟩
end GL
