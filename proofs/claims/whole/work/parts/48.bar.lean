/-! ===== barred ===== -/
def usI (v n : Int32) : Int32 := (v.toUInt32 >>> (n.toUInt32 &&& Int32.toUInt32 31)).toInt32
def bc1 (v : Int32) : Int32 := v - (usI v 1 &&& 1431655765)
def bc2 (v : Int32) : Int32 := (bc1 v &&& 858993459) + (usI (bc1 v) 2 &&& 858993459)
def bc3 (v : Int32) : Int32 := (bc2 v + usI (bc2 v) 4) &&& 252645135
def bc4 (v : Int32) : Int32 := bc3 v + usI (bc3 v) 8
def bc5 (v : Int32) : Int32 := bc4 v + usI (bc4 v) 16
def bcF (v : Int32) : Int32 := bc5 v &&& 63
def itI (F : Nat → Int32 → Int32) (a : Int32) : Nat → Int32
  | 0 => a
  | n + 1 => F n (itI F a n)
def gB (M : Nat) (v : Int32) : Bool := decide (0 ≤ v ∧ v < (1 : Int32) <<< (nI M &&& 31))
def bit1 (v : Int32) (j : Nat) : Bool := decide ((v >>> (nI j &&& 31)) &&& 1 = 1)
section BR
variable {sc : Nat × (Nat → Int32)} {d : Nat} {Q : PRes → Prop} {h : PH} {k s u r q : Nat} {x y z v : Int32}
theorem c_bitCount : Tr sc d 252 (ent0 252 [.int v] h) Q = Q (some (.int (bcF v)), h) := by
  rw [e_252]
  simp only [x_252_0, x_252_1, x_252_2, x_252_3, x_252_4, x_252_7, x_252_8, x_252_9, x_252_10, x_252_11, x_252_14, x_252_15, x_252_16, x_252_17, x_252_18, x_252_21, x_252_22, x_252_23, x_252_24, x_252_25, x_252_26, x_252_27, x_252_28, x_252_29, x_252_32, x_252_33, x_252_34, x_252_35, x_252_36, x_252_38, x_252_39, x_252_40, x_252_41, x_252_42, x_252_43, x_252_45, x_252_46, x_252_47, x_252_48, x_252_49, x_252_51, x_252_52]
  rfl
theorem sh_M : ∀ M, M < 7 → (1 : Int32) <<< (nI M &&& 31) = nI (2 ^ M) := by decide +kernel
theorem bc_all : ∀ M, M < 7 → ∀ n, n < 2 ^ M → cnP 0 (bit1 (nI n)) M = bcF (nI n) := by decide +kernel
theorem cnP_add {a : Int32} {f : Nat → Bool} : ∀ (n : Nat), cnP a f n = a + cnP 0 f n
  | 0 => (Int32.add_zero a).symm
  | n + 1 => by
    have h1 := cnP_add (a := a) (f := f) n
    by_cases e : f n = true
    · rw [cnP_t e, cnP_t e, h1, Int32.add_assoc]
    · rw [cnP_f e, cnP_f e, h1]
theorem gB_nat {M : Nat} (hM : M ≤ 6) (e : gB M v = true) : ∃ n, n < 2 ^ M ∧ v = nI n := by
  have h1 : 0 ≤ v ∧ v < (1 : Int32) <<< (nI M &&& 31) := decide_eq_true_eq.mp e
  rw [sh_M M (by omega)] at h1
  exact ir_of (n := 2 ^ M) (Nat.lt_of_le_of_lt (Nat.pow_le_pow_right (by decide) hM) (by decide)) h1
theorem gB_hi {M : Nat} (hM : M ≤ 6) : (0 ≤ v ∧ v ≤ (1 : Int32) <<< (nI M &&& 31) - 1) = (gB M v = true) := by
  have e : (gB M v = true) = (0 ≤ v ∧ v < (1 : Int32) <<< (nI M &&& 31)) := decide_eq_true_eq
  rw [e, sh_M M (by omega)]
  have hp : 2 ^ M ≤ 2 ^ 6 := Nat.pow_le_pow_right (by decide) hM
  have hp1 : 1 ≤ 2 ^ M := Nat.one_le_two_pow
  have t1 : (nI (2 ^ M)).toInt = ((2 ^ M : Nat) : Int) := nI_toInt (by omega)
  have t2 : (nI (2 ^ M) - 1).toInt = ((2 ^ M : Nat) : Int) - 1 := by
    rw [Int32.toInt_sub, t1]
    have e1 : (1 : Int32).toInt = 1 := rfl
    rw [e1]
    apply Int.bmod_eq_of_le <;> omega
  apply propext
  rw [i_tre (a := v), i_tri, t1, t2]
  exact ⟨fun q => ⟨q.1, by omega⟩, fun q => ⟨q.1, by omega⟩⟩
theorem c_bp_loop {q3 M : Nat} (ho : okp h k 6 = true) (r3 : hR h k 3 = some q3) (o3 : okp h q3 11 = true) (n3 : LN q3 = 6) (hz : hI h k 8 = nI M) (hM : M ≤ 6) : ∀ (n i : Nat), i + n = M → Tr sc (d + 1) 59 (4, [some (.ref k), some (.int (wtS (fun j => bcF (hI h q3 j)) i)), some (.int (nI i))], [], h) Q = Q (some (.int (wtS (fun j => bcF (hI h q3 j)) M)), h) := by
  intro n
  induction n with
  | zero =>
    intro i hi
    have e : i = M := by omega
    subst e
    rw [x_59_4]
    simp only [x_59_0, x_59_1, x_59_2, x_59_3, x_59_5, x_59_6, x_59_9, x_59_12, x_59_13, x_59_14, x_59_17, x_59_18, x_59_19, x_59_22, x_59_23, x_59_24, x_59_27, x_59_30, x_59_31, ho, true_and, hz]
    rw [if_pos (Int32.le_refl _)]
  | succ n ih =>
    intro i hi
    have hlt : i < M := by omega
    rw [x_59_4]
    simp only [x_59_0, x_59_1, x_59_2, x_59_3, x_59_5, x_59_6, x_59_9, x_59_12, x_59_13, x_59_14, x_59_17, x_59_18, x_59_19, x_59_22, x_59_23, x_59_24, x_59_27, x_59_30, x_59_31, ho, r3, true_and, hz, Option.some.injEq, exists_eq_left', iOk_ok o3, iRd_ok o3, n3, inb_nI (i := i) (n := 6) (by omega) (by decide), nI_clamp (n := i) (by omega), c_bitCount, tl_s, nI_1, cl2_r, cl2_n, cl2_i]
    rw [if_neg (nI_ge hlt (by omega))]
    exact ih (i + 1) (by omega)
theorem c_barredPairs {q3 M : Nat} (ho : okp h k 6 = true) (r3 : hR h k 3 = some q3) (o3 : okp h q3 11 = true) (n3 : LN q3 = 6) (hz : hI h k 8 = nI M) (hM : M ≤ 6) : Tr sc (d + 1) 59 (ent0 59 [.ref k] h) Q = Q (some (.int (wtS (fun j => bcF (hI h q3 j)) M)), h) := by
  rw [e_59]
  simp only [x_59_0, x_59_1, x_59_2, x_59_3, cl2_r, cl2_n, cl2_i]
  exact c_bp_loop ho r3 o3 n3 hz hM M 0 (by omega)
theorem m_isBarred {i j : Nat} (hw : WF h) (hs : s < 8) (hi : i < 6) : Tr sc d 187 (ent0 187 [.ref 124, .int (nI s), .int (nI i), .int (nI j)] h) Q = Q (some (.int (bI (hI h 132 s = 4 ∧ bit1 (hI h 138 (6 * s + i)) j = true))), h) := by
  have g3 : 6 * s + i < 48 := by omega
  have eb : (bit1 (hI h 138 (6 * s + i)) j = true) = (hI h 138 (6 * s + i) >>> (nI j &&& 31) &&& 1 = 1) := decide_eq_true_eq
  rw [e_187]
  simp only [x_187_0, x_187_1, x_187_4, x_187_5, x_187_6, x_187_7, x_187_10, x_187_11, x_187_14, x_187_16, x_187_17, x_187_18, x_187_19, x_187_20, x_187_21, x_187_22, x_187_23, x_187_24, x_187_25, x_187_26, x_187_29, x_187_30, x_187_33, x_187_34, o_124 hw, w_124_16 hw, w_124_22 hw, iOk_ok (o_132 hw), iRd_ok (o_132 hw), iOk_ok (o_138 hw), iRd_ok (o_138 hw), inb_nI (n := LN 132) hs (by decide), inb_nI (n := LN 138) g3 (by decide), nI_clamp (n := s) (by omega), nI_clamp (n := 6 * s + i) (by omega), mv_ix hs hi, true_and, Option.some.injEq, exists_eq_left']
  by_cases e1 : hI h 132 s = 4
  · rw [if_pos e1]
    by_cases e2 : hI h 138 (6 * s + i) >>> (nI j &&& 31) &&& 1 = 1
    · rw [if_pos e2, bI_t ⟨e1, by rw [eb]; exact e2⟩]
      simp only [vp_b1, true_and]
    · rw [if_neg e2, bI_f (fun q => e2 (by rw [← eb]; exact q.2))]
      simp only [vp_b0, true_and]
  · rw [if_neg e1, bI_f (fun q => e1 q.1)]
    simp only [vp_b0, true_and]
theorem m_bo_in {i M : Nat} {a : Int32} (hw : WF h) (hs : s < 8) (hi : i < 6) (hz : hI h 134 s = nI M) (hM : M ≤ 6) (hk : hI h 132 s = 4) : ∀ (n j : Nat), j + n = M → Tr sc (d + 1) 186 (17, [some (.ref 124), some (.int (nI s)), some (.int (cnP a (bit1 (hI h 138 (6 * s + i))) j)), some (.int (nI i)), some (.int (nI j))], [], h) Q = Tr sc (d + 1) 186 (53, [some (.ref 124), some (.int (nI s)), some (.int (cnP a (bit1 (hI h 138 (6 * s + i))) M)), some (.int (nI i)), some (.int (nI M))], [], h) Q := by
  intro n
  induction n with
  | zero =>
    intro j hj
    have e : j = M := by omega
    subst e
    rw [x_186_17]
    simp only [x_186_19, x_186_20, x_186_23, x_186_24, x_186_25, x_186_28, x_186_29, x_186_30, x_186_31, x_186_32, x_186_34, x_186_37, x_186_40, x_186_41, x_186_44, x_186_45, x_186_46, x_186_47, x_186_50, o_124 hw, w_124_18 hw, iOk_ok (o_134 hw), iRd_ok (o_134 hw), inb_nI (n := LN 134) hs (by decide), nI_clamp (n := s) (by omega), true_and, hz, Option.some.injEq, exists_eq_left']
    rw [if_pos (Int32.le_refl _)]
  | succ n ih =>
    intro j hj
    have hlt : j < M := by omega
    rw [x_186_17]
    simp only [x_186_19, x_186_20, x_186_23, x_186_24, x_186_25, x_186_28, x_186_29, x_186_30, x_186_31, x_186_32, x_186_34, x_186_37, x_186_40, x_186_41, x_186_44, x_186_45, x_186_46, x_186_47, x_186_50, o_124 hw, w_124_18 hw, iOk_ok (o_134 hw), iRd_ok (o_134 hw), inb_nI (n := LN 134) hs (by decide), nI_clamp (n := s) (by omega), true_and, hz, Option.some.injEq, exists_eq_left', m_isBarred hw hs hi, hk, tl_s, bI_0, Int32.add_zero, nI_1, cl2_i, cl2_r, cl2_n]
    rw [if_neg (nI_ge hlt (by omega))]
    by_cases e : bit1 (hI h 138 (6 * s + i)) j = true
    · rw [if_neg (fun q => q e), ← cnP_t e]
      exact ih (j + 1) (by omega)
    · rw [if_pos e, ← cnP_f e]
      exact ih (j + 1) (by omega)
theorem m_bo_loop {M : Nat} (hw : WF h) (hs : s < 8) (hz : hI h 134 s = nI M) (hM : M ≤ 6) (hk : hI h 132 s = 4) : ∀ (n i : Nat) (l4 : Option Value), i + n = M → Tr sc (d + 1) 186 (4, [some (.ref 124), some (.int (nI s)), some (.int (itI (fun i a => cnP a (bit1 (hI h 138 (6 * s + i))) M) 0 i)), some (.int (nI i)), l4], [], h) Q = Q (some (.int (itI (fun i a => cnP a (bit1 (hI h 138 (6 * s + i))) M) 0 M)), h) := by
  intro n
  induction n with
  | zero =>
    intro i l4 hi
    have e : i = M := by omega
    subst e
    rw [x_186_4]
    simp only [x_186_5, x_186_6, x_186_9, x_186_10, x_186_11, x_186_14, x_186_15, x_186_59, x_186_60, o_124 hw, w_124_18 hw, iOk_ok (o_134 hw), iRd_ok (o_134 hw), inb_nI (n := LN 134) hs (by decide), nI_clamp (n := s) (by omega), true_and, hz, Option.some.injEq, exists_eq_left']
    rw [if_pos (Int32.le_refl _)]
  | succ n ih =>
    intro i l4 hi
    have hlt : i < M := by omega
    rw [x_186_4]
    simp only [x_186_5, x_186_6, x_186_9, x_186_10, x_186_11, x_186_14, x_186_15, o_124 hw, w_124_18 hw, iOk_ok (o_134 hw), iRd_ok (o_134 hw), inb_nI (n := LN 134) hs (by decide), nI_clamp (n := s) (by omega), true_and, hz, Option.some.injEq, exists_eq_left', cl2_i, cl2_r, cl2_n]
    rw [if_neg (nI_ge hlt (by omega))]
    refine (m_bo_in (i := i) hw hs (by omega) hz hM hk M 0 (by omega)).trans ?_
    simp only [x_186_53, x_186_56, nI_1, cl2_i, cl2_r, cl2_n]
    exact ih (i + 1) _ (by omega)
theorem m_barredOf {M : Nat} (hw : WF h) (hs : s < 8) (hz : hI h 134 s = nI M) (hM : M ≤ 6) (hk : hI h 132 s = 4) : Tr sc (d + 1) 186 (ent0 186 [.ref 124, .int (nI s)] h) Q = Q (some (.int (itI (fun i a => cnP a (bit1 (hI h 138 (6 * s + i))) M) 0 M)), h) := by
  rw [e_186]
  simp only [x_186_0, x_186_1, x_186_2, x_186_3, cl2_r, cl2_n, cl2_i]
  exact m_bo_loop hw hs hz hM hk M 0 _ (by omega)
theorem bo_eq {e f : Nat → Int32} {M : Nat} (hM : M ≤ 6) (hv : ∀ j, j < M → gB M (e j) = true ∧ f j = e j) : ∀ n, n ≤ M → itI (fun i a => cnP a (bit1 (f i)) M) 0 n = wtS (fun j => bcF (e j)) n
  | 0, _ => rfl
  | n + 1, hn => by
    have h1 := bo_eq hM hv n (by omega)
    obtain ⟨g, hg⟩ := hv n (by omega)
    obtain ⟨m, hm, em⟩ := gB_nat hM g
    have h2 : itI (fun i a => cnP a (bit1 (f i)) M) 0 (n + 1) = cnP (itI (fun i a => cnP a (bit1 (f i)) M) 0 n) (bit1 (f n)) M := rfl
    have h3 : wtS (fun j => bcF (e j)) (n + 1) = wtS (fun j => bcF (e j)) n + bcF (e n) := rfl
    rw [h2, h3, h1, cnP_add, hg, em, bc_all M (by omega) m hm]
theorem c_bl {kr pr M : Nat} {l1 l3 l4 : Option Value} (hw : WF h) (hu : u < 8) (hzu : hI h (68 + 7 * u) 8 = nI M) (hor : okp h kr 5 = true) (rr : hR h kr 0 = some pr) (opr : okp h pr 11 = true) (npr : LN pr = 40) (hM : M ≤ 6) (hzr : hI h kr 1 = nI M) : ∀ (n i : Nat), i + n = M → Tr sc (d + 1) 107 (28, [some (.ref 0), l1, some (.int (nI u)), l3, l4, some (.ref kr), some (.int (nI i))], [], h) Q = if allB (fun j => gB M (hI h pr j)) i n = true then Tr sc (d + 1) 107 (83, [some (.ref 0), l1, some (.int (nI u)), l3, l4, some (.ref kr), some (.int (nI M))], [], h) Q else Q (some (.int (-3)), refu h 3) := by
  obtain ⟨u1, u2, -⟩ := hw.shape hu
  intro n
  induction n with
  | zero =>
    intro i hi
    have e : i = M := by omega
    subst e
    rw [x_107_28]
    simp only [x_107_30, x_107_32, x_107_35, x_107_38, x_107_40, x_107_43, x_107_45, x_107_46, x_107_49, x_107_51, x_107_54, x_107_56, x_107_57, x_107_58, x_107_59, x_107_62, x_107_63, x_107_64, x_107_67, x_107_68, x_107_71, x_107_72, x_107_73, x_107_76, x_107_77, x_107_80, hor, true_and, hzr]
    rw [if_pos (Int32.le_refl _)]
    exact (if_pos rfl).symm
  | succ n ih =>
    intro i hi
    have hlt : i < M := by omega
    have st := ih (i + 1) (by omega)
    have ex : allB (fun j => gB M (hI h pr j)) i (n + 1) = (gB M (hI h pr i) && allB (fun j => gB M (hI h pr j)) (i + 1) n) := rfl
    rw [x_107_28]
    simp only [x_107_30, x_107_32, x_107_35, x_107_38, x_107_40, x_107_43, x_107_45, x_107_46, x_107_49, x_107_51, x_107_54, x_107_56, x_107_57, x_107_58, x_107_59, x_107_62, x_107_63, x_107_64, x_107_67, x_107_68, x_107_71, x_107_72, x_107_73, x_107_76, x_107_77, x_107_80, hor, rr, opr, o_0 hw, w_0_2 hw, o_3 hw, u1, u2, hzu, Bool.or_true, Bool.and_self, inb_nI (n := LN 3) hu (by decide), nI_clamp (n := u) (by omega), true_and, hzr, Option.some.injEq, exists_eq_left', iOk_ok opr, iRd_ok opr, npr, inb_nI (i := i) (n := 40) (by omega) (by decide), nI_clamp (n := i) (by omega), c_refuse_3 hw, tl_s, nI_1, cl2_r, cl2_n, cl2_i]
    rw [if_neg (nI_ge hlt (by omega)), ex]
    by_cases e1 : hI h pr i < 0
    · rw [if_pos e1, show gB M (hI h pr i) = false from decide_eq_false (fun q => Int32.not_le.mpr e1 q.1), Bool.false_and, if_neg (by decide)]
    · rw [if_neg e1]
      by_cases e2 : hI h pr i < (1 : Int32) <<< (nI M &&& 31)
      · rw [if_pos e2, show gB M (hI h pr i) = true from decide_eq_true ⟨Int32.not_lt.mp e1, e2⟩, Bool.true_and]
        exact st
      · rw [if_neg e2, show gB M (hI h pr i) = false from decide_eq_false (fun q => e2 q.2), Bool.false_and, if_neg (by decide)]
theorem both_barred (hc : CM h) : Both sc 107 189 [.int x, .int y, .int z] h := by
  unfold Both
  obtain ⟨hw, hf, hr, ht, hs⟩ := id hc
  by_cases e0 : (0 ≤ x ∧ x < 8) ∧ (0 ≤ y ∧ y < 8) ∧ (0 ≤ z ∧ z < 6)
  · obtain ⟨s, hsn, rfl⟩ := ir_of (n := 8) (by decide) e0.1
    obtain ⟨u, hun, rfl⟩ := ir_of (n := 8) (by decide) e0.2.1
    obtain ⟨r, hrn, rfl⟩ := ir_of (n := 6) (by decide) e0.2.2
    obtain ⟨w1, w2, ⟨r0, r1, r2, r3, -⟩, ⟨o0, o1, o2, o3, -⟩, ⟨n0, n1, n2, n3, -⟩⟩ := hw.shape hsn
    obtain ⟨u1, u2, ⟨p0, p1, p2, -⟩, ⟨v0, v1, v2, -⟩, ⟨l0, l1, l2, -⟩⟩ := hw.shape hun
    obtain ⟨a1, a2, a3, a4, a5⟩ := hw.row hrn
    obtain ⟨M, hM, hz⟩ := mz hs hun
    have hg : ∀ j, j < M → (0 ≤ hI h 127 (40 * r + j) ∧ hI h 127 (40 * r + j) ≤ (if 0 ≤ (-1 : Int32) then (-1 : Int32) else (1 : Int32) <<< (nI M &&& 31) - 1)) = (gB M (hI h (49 + 2 * r) j) = true) := fun j hj => by
      rw [if_neg (by decide), (hr r hrn).2 j (by omega)]
      exact gB_hi hM
    have mod : ∀ (H : PH) (QQ : PRes → Prop), WF H → (∀ b, hI H 126 b = hI h 126 b) → (∀ b, hI H 127 b = hI h 127 b) → (∀ b, hI H 134 b = hI h 134 b) → Tr sc 19 189 (ent0 189 [.ref 124, .int (nI s), .int (nI u), .int (nI r)] H) QQ = if hI h 134 u = 0 ∨ hI h 126 r < 0 then QQ (some (.int (-3)), refm H 1) else if hI h 126 r = hI h 134 u then (if allB (fun j => gB M (hI h (49 + 2 * r) j)) 0 M = true then Tr sc 19 189 (19, [some (.ref 124), some (.int (nI s)), some (.int (nI u)), some (.int (nI r)), some (.int 0)], [], H) QQ else QQ (some (.int (-3)), refm H 3)) else QQ (some (.int (-3)), refm H 5) := by
      intro H QQ hwH f6 f7 f4
      rw [e_189]
      simp only [x_189_0, x_189_1, x_189_2, x_189_3, x_189_4, x_189_5, x_189_6, x_189_9, x_189_11, x_189_13, x_189_16, x_189_18, o_124 hwH, true_and, m_am (g := fun j => gB M (hI h (49 + 2 * r) j)) (lo := 0) (hi := -1) (M := M) hwH hsn hun hrn hM (by rw [f4]; exact hz) (fun j hj => by rw [f7]; exact hg j hj), tl_s, cl2_i, cl2_r, cl2_n, i_0, i_m3, if_true, if_false, f4, f6]
    rw [e_107]
    simp only [x_107_0, x_107_1, x_107_2, x_107_3, x_107_4, x_107_7, x_107_9, x_107_11, x_107_14, x_107_16, x_107_17, x_107_18, x_107_21, x_107_22, x_107_23, x_107_25, x_107_26, o_0 hw, true_and, c_told hw hsn hun hrn, tl_s, w_0_0 hw, o_1 hw, Bool.true_or, Bool.and_self, inb_nI (n := LN 1) hrn (by decide), nI_clamp (n := r) (by omega), a1, Option.some.injEq, exists_eq_left', i_00, i_3m1, if_true, if_false, cl2_i, cl2_r, cl2_n]
    by_cases e1 : hI h (68 + 7 * u) 6 = -1 ∨ hI h (48 + 2 * r) 1 < 0
    · rw [if_pos e1, mod _ _ (WF_refu hw) (fun b => refu_I (by decide) (by decide)) (fun b => refu_I (by decide) (by decide)) (fun b => refu_I (by decide) (by decide)), if_pos (by rw [← sm_iff hs hun]; refine e1.imp id (fun q => ?_); rw [sz_neg hr hrn] at q; exact Int32.not_le.mp q)]
      first | exact cm_ref (by decide) hc | exact ⟨rfl, cm_ref (by decide) hc⟩ | exact ⟨⟨_, rfl, rfl⟩, cm_ref (by decide) hc⟩
    · have e2 : ¬ hI h (48 + 2 * r) 1 < 0 := fun q => e1 (Or.inr q)
      have e3 : ¬ hI h 134 u = 0 := fun q => e1 (Or.inl (sm_t hs hun q))
      obtain ⟨s1, s2, s3⟩ := sz_at hr hrn e2
      have e4 : ¬ (hI h 134 u = 0 ∨ hI h 126 r < 0) := fun q => q.elim e3 (by rw [s1]; exact e2)
      obtain ⟨-, b1, b2, b3, -⟩ := sh_at hs hun e3
      rw [if_neg e1]
      by_cases e5 : hI h (48 + 2 * r) 1 = hI h (68 + 7 * u) 8
      · rw [if_pos e5]
        have hzr : hI h (48 + 2 * r) 1 = nI M := by rw [e5, ← b3]; exact hz
        have cl := fun QQ => c_bl (sc := sc) (d := 18) (Q := QQ) (l1 := some (.int (nI s))) (l3 := some (.int (nI r))) (l4 := some (.int 0)) hw hun (by rw [← b3]; exact hz) a3 a2 a4 a5 hM hzr M 0 (by omega)
        refine (cl _).mpr ?_
        by_cases e6 : allB (fun j => gB M (hI h (49 + 2 * r) j)) 0 M = true
        · rw [if_pos e6]
          simp only [x_107_83, x_107_84, x_107_87, x_107_88, x_107_89, x_107_90, x_107_93, x_107_94, x_107_95, o_0 hw, w_0_2 hw, o_3 hw, Bool.or_true, Bool.and_self, inb_nI (n := LN 3) hsn (by decide), inb_nI (n := LN 3) hun (by decide), nI_clamp (n := s) (by omega), nI_clamp (n := u) (by omega), w1, w2, u1, u2, true_and, Option.some.injEq, exists_eq_left']
          refine c_takeMoves w2 u2 r0 r1 r2 p0 p1 p2 o0 o1 o2 v0 v1 v2 n0 n1 n2 l0 l1 l2 (by omega) (by omega) (by omega) (by omega) hM (by rw [← b3]; exact hz) (fun h1 ta => ?_)
          have fa := ta.1
          have hw1 := Fr_WF fa hw
          obtain ⟨w1', w2', ⟨r0', r1', r2', r3', -⟩, ⟨o0', o1', o2', o3', -⟩, -⟩ := hw1.shape hsn
          obtain ⟨a1', a2', a3', a4', -⟩ := hw1.row hrn
          simp only [tl_n, x_107_98, x_107_99, x_107_102, x_107_103, x_107_104, x_107_105, x_107_107, o_0 hw1, w_0_2 hw1, o_3 hw1, Bool.or_true, Bool.and_self, inb_nI (n := LN 3) hsn (by decide), nI_clamp (n := s) (by omega), w1', w2', true_and, Option.some.injEq, exists_eq_left']
          refine c_takeExtras w2' a3' r3' a2' o3' a4' n3 a5 (by omega) hM (by rw [(fa.2.2 _ (by omega) 1).1]; exact hzr) ta.2.2.1 (fun h2 tb => ?_)
          have fb := tb.1
          have hw2 := Fr_WF fb hw1
          obtain ⟨w1'', w2'', ⟨-, -, -, r3'', -⟩, ⟨-, -, -, o3'', -⟩, -⟩ := hw2.shape hsn
          have hz2 : hI h2 (68 + 7 * s) 8 = nI M := by rw [tb.2.2.2.1]; exact ta.2.2.1
          simp only [tl_n, x_107_110, x_107_111, x_107_114, x_107_115, x_107_116, x_107_119, o_0 hw2, w_0_2 hw2, o_3 hw2, Bool.or_true, Bool.and_self, inb_nI (n := LN 3) hsn (by decide), nI_clamp (n := s) (by omega), w1'', w2'', true_and, Option.some.injEq, exists_eq_left', c_barredPairs w2'' r3'' o3'' n3 hz2 hM, tl_s]
          have h21 : ∀ a, ¬ (68 + 7 * s ≤ a ∧ a ≤ 72 + 7 * s) → ∀ b, hI h2 a b = hI h a b := fun a z1 b => (fb.2.2 a (by omega) b).1.trans (fa.2.2 a (by omega) b).1
          rw [mod h2 _ hw2 (h21 126 (by omega)) (h21 127 (by omega)) (h21 134 (by omega)), if_neg e4, if_pos (by rw [s1, e5, b3]), if_pos e6]
          simp only [x_189_19, x_189_20, x_189_21, x_189_22, x_189_23, x_189_24, o_124 hw2, true_and]
          refine m_takeMore hw2 hsn hun hrn hM (by rw [h21 134 (by omega)]; exact hz) (fun h3 tc => ?_)
          have hw3 := Fr_WF tc.1 hw2
          have hk3 : hI h3 132 s = 4 := by rw [tc.2.1, if_pos rfl]
          have hz3 : hI h3 134 s = nI M := by rw [tc.2.2.2.2.1, if_pos rfl, h21 134 (by omega)]; exact hz
          simp only [tl_n, x_189_27, x_189_28, x_189_29, x_189_32, o_124 hw3, true_and, m_barredOf hw3 hsn hz3 hM hk3, tl_s]
          have val : itI (fun i a => cnP a (bit1 (hI h3 138 (6 * s + i))) M) 0 M = wtS (fun j => bcF (hI h2 (72 + 7 * s) j)) M := bo_eq (f := fun i => hI h3 138 (6 * s + i)) hM (fun j hj => by
            have e2 : hI h2 (72 + 7 * s) j = hI h (49 + 2 * r) j := by rw [tb.2.2.2.2 j hj, (fa.2.2 _ (by omega) j).1]
            refine ⟨by rw [e2]; exact allB_at M 0 e6 j (by omega) (by omega), ?_⟩
            rw [e2, tc.2.2.1, if_pos (by omega), h21 127 (by omega), show 6 * s + j - 6 * s = j by omega, (hr r hrn).2 j (by omega)]) M (Nat.le_refl _)
          have fin : CM h3 := cm_more hc hsn hun hrn e3 (Or.inr rfl) hM hz ta tb tc (fun j hj => ⟨fun q => absurd q (by decide), fun _ => decide_eq_true_eq.mp (allB_at M 0 e6 j (by omega) (by omega))⟩)
          rw [val]
          first | exact fin | exact ⟨rfl, fin⟩ | exact ⟨⟨_, rfl, rfl⟩, fin⟩
        · rw [if_neg e6, mod _ _ (WF_refu hw) (fun b => refu_I (by decide) (by decide)) (fun b => refu_I (by decide) (by decide)) (fun b => refu_I (by decide) (by decide)), if_neg e4, if_pos (by rw [s1, e5, b3]), if_neg e6]
          first | exact cm_ref (by decide) hc | exact ⟨rfl, cm_ref (by decide) hc⟩ | exact ⟨⟨_, rfl, rfl⟩, cm_ref (by decide) hc⟩
      · rw [if_neg e5, mod _ _ (WF_refu hw) (fun b => refu_I (by decide) (by decide)) (fun b => refu_I (by decide) (by decide)) (fun b => refu_I (by decide) (by decide)), if_neg e4, if_neg (by rw [s1, b3]; exact e5)]
        first | exact cm_ref (by decide) hc | exact ⟨rfl, cm_ref (by decide) hc⟩ | exact ⟨⟨_, rfl, rfl⟩, cm_ref (by decide) hc⟩
  · have e1 : ¬ (0 ≤ x ∧ x < 8) ∨ ¬ (0 ≤ y ∧ y < 8) ∨ ¬ (0 ≤ z ∧ z < 6) := by
      by_cases q1 : 0 ≤ x ∧ x < 8
      · by_cases q2 : 0 ≤ y ∧ y < 8
        · exact Or.inr (Or.inr (fun q3 => e0 ⟨q1, q2, q3⟩))
        · exact Or.inr (Or.inl q2)
      · exact Or.inl q1
    rw [e_107]
    simp only [x_107_0, x_107_1, x_107_2, x_107_3, x_107_4, x_107_7, x_107_9, x_107_11, x_107_14, x_107_16, o_0 hw, true_and, c_told_bad e1, tl_s, i_1m1, if_false, cl2_i, cl2_r, cl2_n]
    rw [e_189]
    simp only [x_189_0, x_189_1, x_189_2, x_189_3, x_189_4, x_189_5, x_189_6, x_189_9, x_189_11, x_189_13, x_189_16, x_189_18, o_124 hw, true_and, m_am_bad e1, tl_s, i_m1, if_false, cl2_i, cl2_r, cl2_n]
    first | exact hc | exact ⟨rfl, hc⟩ | exact ⟨⟨_, rfl, rfl⟩, hc⟩
end BR
