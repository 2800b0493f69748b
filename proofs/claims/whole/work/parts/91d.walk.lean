/-! ===== in: the places that one comes to ===== -/
def nxP (b : Nat) (q : Int) (sx sy : Nat → Int) (p : Pnt) (i : Nat) : Pnt := (b * p.1 - q * sx i, b * p.2 - q * sy i)
def Wit (b : Nat) (q a1 a2 c1 c2 : Int) (p : Pnt) : Bool := decide ((q * a1 ≤ ((b : Int) - 1) * p.1 ∧ ((b : Int) - 1) * p.1 ≤ q * a2) ∧ (q * c1 ≤ ((b : Int) - 1) * p.2 ∧ ((b : Int) - 1) * p.2 ≤ q * c2))
def adW (wi : Pnt → Bool) (L : List Pnt) (p : Pnt) : List Pnt := if wi p = true then addP L p else L
def inn (wi : Pnt → Bool) (nx : Pnt → Nat → Pnt) (L : List Pnt) (p : Pnt) : Nat → List Pnt
  | 0 => L
  | i + 1 => adW wi (inn wi nx L p i) (nx p i)
def wlk (wi : Pnt → Bool) (nx : Pnt → Nat → Pnt) (M : Nat) : Nat → Nat → List Pnt → List Pnt
  | 0, _, L => L
  | f + 1, k, L => if k < L.length ∧ L.length ≤ 2000 then wlk wi nx M f (k + 1) (inn wi nx L (L.getD k pt0) M) else L
def WkI (h : PH) (b M : Nat) (q a1 a2 c1 c2 : Int) (sx sy : Nat → Int) : Prop := hI h 40 4 = nI M ∧ hI h 40 5 = nI b ∧ hI h 40 6 = iv (q * a1) ∧ hI h 40 7 = iv (q * a2) ∧ hI h 40 8 = iv (q * c1) ∧ hI h 40 9 = iv (q * c2) ∧ ∀ i, i < M → hI h 42 i = iv (q * sx i) ∧ hI h 43 i = iv (q * sy i)
def WkB (b M : Nat) (q a1 a2 c1 c2 : Int) (sx sy : Nat → Int) : Prop := (2 ≤ b ∧ b ≤ 4) ∧ (1 ≤ M ∧ M ≤ 6) ∧ (1 ≤ q ∧ q ≤ 12) ∧ (-9 ≤ a1 ∧ a1 ≤ 9) ∧ (-9 ≤ a2 ∧ a2 ≤ 9) ∧ (-9 ≤ c1 ∧ c1 ≤ 9) ∧ (-9 ≤ c2 ∧ c2 ≤ 9) ∧ ∀ i, i < M → (-9 ≤ sx i ∧ sx i ≤ 9) ∧ (-9 ≤ sy i ∧ sy i ≤ 9)
def Bnd (p : Pnt) : Prop := (-108 ≤ p.1 ∧ p.1 ≤ 108) ∧ (-108 ≤ p.2 ∧ p.2 ≤ 108)
def Bn9 (p : Pnt) : Prop := (-600 ≤ p.1 ∧ p.1 ≤ 600) ∧ (-600 ≤ p.2 ∧ p.2 ≤ 600)
section WK
variable {sc : Nat × (Nat → Int32)} {d : Nat} {Q : PRes → Prop} {h h' h1 H G : PH} {e i j k n t u b M N s f : Nat} {q a1 a2 c1 c2 : Int} {sx sy ex : Nat → Int} {L LL : List Pnt} {p : Pnt} {P : Nat → Nat → Prop} {wi : Pnt → Bool} {nx : Pnt → Nat → Pnt}
theorem WkI.fr (a : WkI h b M q a1 a2 c1 c2 sx sy) (F : Fq P h h') (hP : ∀ x y, (x = 40 ∨ x = 42 ∨ x = 43) → ¬ P x y) : WkI h' b M q a1 a2 c1 c2 sx sy := by
  obtain ⟨x1, x2, x3, x4, x5, x6, x7⟩ := a
  refine ⟨?_, ?_, ?_, ?_, ?_, ?_, fun i hi => ?_⟩
  · rw [F.i (hP _ _ (by omega))]; exact x1
  · rw [F.i (hP _ _ (by omega))]; exact x2
  · rw [F.i (hP _ _ (by omega))]; exact x3
  · rw [F.i (hP _ _ (by omega))]; exact x4
  · rw [F.i (hP _ _ (by omega))]; exact x5
  · rw [F.i (hP _ _ (by omega))]; exact x6
  · rw [F.i (hP _ _ (by omega)), F.i (hP _ _ (by omega))]; exact x7 i hi
theorem q_b {x : Int} (hq : 1 ≤ q ∧ q ≤ 12) (hx : -9 ≤ x ∧ x ≤ 9) : -108 ≤ q * x ∧ q * x ≤ 108 := by
  have h1 := Int.mul_le_mul_of_nonneg_left hx.1 (show 0 ≤ q by omega)
  have h2 := Int.mul_le_mul_of_nonneg_left hx.2 (show 0 ≤ q by omega)
  omega
theorem wit_b (B : WkB b M q a1 a2 c1 c2 sx sy) (hp : Wit b q a1 a2 c1 c2 p = true) : Bnd p := by
  obtain ⟨hb, hM, hq, h1, h2, h3, h4, -⟩ := B
  have e := of_decide_eq_true hp
  have r1 := q_b hq h1
  have r2 := q_b hq h2
  have r3 := q_b hq h3
  have r4 := q_b hq h4
  unfold Bnd
  rcases (show b = 2 ∨ b = 3 ∨ b = 4 by omega) with rfl | rfl | rfl
  · omega
  · omega
  · omega
theorem nx_b (B : WkB b M q a1 a2 c1 c2 sx sy) (hp : Bnd p) (hi : i < M) : Bn9 (nxP b q sx sy p i) := by
  obtain ⟨hb, hM, hq, -, -, -, -, hs⟩ := B
  have r1 := q_b hq (hs i hi).1
  have r2 := q_b hq (hs i hi).2
  unfold Bnd at hp
  unfold Bn9 nxP
  dsimp only
  rcases (show b = 2 ∨ b = 3 ∨ b = 4 by omega) with rfl | rfl | rfl
  · omega
  · omega
  · omega
theorem b9_r (hp : Bn9 p) : R3 p.1 ∧ R3 p.2 := by
  unfold Bn9 at hp
  exact ⟨⟨by omega, by omega⟩, by omega, by omega⟩
theorem bn_g (hp : Bnd p) : Rg p := by
  unfold Bnd at hp
  exact ⟨⟨by omega, by omega⟩, by omega, by omega⟩
theorem bm_r {x : Int} (hb : 2 ≤ b ∧ b ≤ 4) (hx : -600 ≤ x ∧ x ≤ 600) : R3 (((b : Int) - 1) * x) := by
  rcases (show b = 2 ∨ b = 3 ∨ b = 4 by omega) with rfl | rfl | rfl
  · exact ⟨by omega, by omega⟩
  · exact ⟨by omega, by omega⟩
  · exact ⟨by omega, by omega⟩
theorem c_isWithin (hw : WF h) (I : WkI h b M q a1 a2 c1 c2 sx sy) (B : WkB b M q a1 a2 c1 c2 sx sy) (hp : Bn9 p) : Tr sc d 88 (ent0 88 [.ref 40, .int (iv p.1), .int (iv p.2)] h) Q = Q (some (.int (bo (Wit b q a1 a2 c1 c2 p))), h) := by
  obtain ⟨x1, x2, x3, x4, x5, x6, -⟩ := I
  obtain ⟨hb, hM, hq, h1, h2, h3, h4, -⟩ := B
  have r1 := q_b hq h1
  have r2 := q_b hq h2
  have r3 := q_b hq h3
  have r4 := q_b hq h4
  have m1 := bm_r hb hp.1
  have m2 := bm_r hb hp.2
  have eb : nI b - 1 = iv ((b : Int) - 1) := by rw [iv_n, show (1 : Int32) = iv 1 from rfl, iv_sub]
  rw [e_88]
  unfold Wit
  rw [bo_d]
  simp only [x_88_0, x_88_1, x_88_4, x_88_5, x_88_6, x_88_7, x_88_8, x_88_9, x_88_10, x_88_11, x_88_14, x_88_17, x_88_18, x_88_19, x_88_20, x_88_21, x_88_24, x_88_27, x_88_28, x_88_29, x_88_30, x_88_31, x_88_34, x_88_37, x_88_38, x_88_39, x_88_40, x_88_41, x_88_44, x_88_47, x_88_48, x_88_51, x_88_52, o_40 hw, cl2_i, cl2_r, cl2_n, cl2_l, tl_s, tl_n, true_and, and_true, Option.some.injEq, exists_eq_left', Bool.and_self, Bool.true_and, Bool.and_true, Bool.or_true, Bool.true_or, i_10, i_00, if_true, if_false, not_true_eq_false, not_false_eq_true, and_false, false_and, okp_sI, okp_sL, okp_aI, okp_aL, hR_sI, hR_sL, hR_aI, hR_aL, x2, x3, x4, x5, x6, eb, iv_mul, iv_lt m1 (show R3 (q * a1) from ⟨by omega, by omega⟩), iv_lt (show R3 (q * a2) from ⟨by omega, by omega⟩) m1, iv_lt m2 (show R3 (q * c1) from ⟨by omega, by omega⟩), iv_lt (show R3 (q * c2) from ⟨by omega, by omega⟩) m2, vp_b0, vp_b1]
  by_cases z1 : ((b : Int) - 1) * p.1 < q * a1
  · rw [if_pos z1, if_neg (fun w => by omega)]
  · rw [if_neg z1]
    by_cases z2 : q * a2 < ((b : Int) - 1) * p.1
    · rw [if_pos z2, if_neg (fun w => by omega)]
    · rw [if_neg z2]
      by_cases z3 : ((b : Int) - 1) * p.2 < q * c1
      · rw [if_pos z3, if_neg (fun w => by omega)]
      · rw [if_neg z3]
        by_cases z4 : q * c2 < ((b : Int) - 1) * p.2
        · rw [if_pos z4, if_neg (fun w => by omega)]
        · rw [if_neg z4, if_pos ⟨⟨by omega, by omega⟩, by omega, by omega⟩]
theorem c_next (hw : WF h) (I : WkI h b M q a1 a2 c1 c2 sx sy) (hM : M ≤ 6) (C : ClI h 16 e LL) (hk : k < (dd LL).length) (hi : i < M) : (∀ d Q, Tr sc (d + 1) 89 (ent0 89 [.ref 40, .int (nI k), .int (nI i)] h) Q = Q (some (.int (iv (nxP b q sx sy ((dd LL).getD k pt0) i).1)), h)) ∧ ∀ d Q, Tr sc (d + 1) 90 (ent0 90 [.ref 40, .int (nI k), .int (nI i)] h) Q = Q (some (.int (iv (nxP b q sx sy ((dd LL).getD k pt0) i).2)), h) := by
  obtain ⟨x1, x2, x3, x4, x5, x6, x7⟩ := I
  obtain ⟨s1, s2⟩ := x7 i hi
  have cx : ∀ d Q, Tr sc d 14 (ent0 14 [.ref 16, .int (nI k)] h) Q = Q (some (.int (iv ((dd LL).getD k pt0).1)), h) := fun d Q => (c_cxy (sc := sc) (d := d) hw (Or.inl rfl : IsCl 16) C hk).1 Q
  have cy : ∀ d Q, Tr sc d 15 (ent0 15 [.ref 16, .int (nI k)] h) Q = Q (some (.int (iv ((dd LL).getD k pt0).2)), h) := fun d Q => (c_cxy (sc := sc) (d := d) hw (Or.inl rfl : IsCl 16) C hk).2 Q
  constructor
  · intro d Q
    rw [e_89]
    simp only [x_89_0, x_89_1, x_89_4, x_89_5, x_89_8, x_89_9, x_89_12, x_89_13, x_89_14, x_89_17, x_89_18, x_89_19, x_89_20, o_40 hw, w_40_1 hw, w_40_3 hw, o_16 hw, o_42 hw, iOk_lt (k := 42) (by decide), iRd_lt (k := 42) (by decide), show LN 42 = 6 from rfl, cl2_i, cl2_r, cl2_n, cl2_l, tl_s, tl_n, true_and, and_true, Option.some.injEq, exists_eq_left', Bool.and_self, Bool.true_and, Bool.and_true, Bool.or_true, Bool.true_or, i_10, i_00, if_true, if_false, not_true_eq_false, not_false_eq_true, and_false, false_and, okp_sI, okp_sL, okp_aI, okp_aL, hR_sI, hR_sL, hR_aI, hR_aL, x2, cx, inb_nI (n := 6) (show i < 6 by omega) (by decide), nI_clamp (n := i) (by omega), s1, iv_n b, iv_mul, iv_sub]
    rfl
  · intro d Q
    rw [e_90]
    simp only [x_90_0, x_90_1, x_90_4, x_90_5, x_90_8, x_90_9, x_90_12, x_90_13, x_90_14, x_90_17, x_90_18, x_90_19, x_90_20, o_40 hw, w_40_2 hw, w_40_3 hw, o_16 hw, o_43 hw, iOk_lt (k := 43) (by decide), iRd_lt (k := 43) (by decide), show LN 43 = 6 from rfl, cl2_i, cl2_r, cl2_n, cl2_l, tl_s, tl_n, true_and, and_true, Option.some.injEq, exists_eq_left', Bool.and_self, Bool.true_and, Bool.and_true, Bool.or_true, Bool.true_or, i_10, i_00, if_true, if_false, not_true_eq_false, not_false_eq_true, and_false, false_and, okp_sI, okp_sL, okp_aI, okp_aL, hR_sI, hR_sL, hR_aI, hR_aL, x2, cy, inb_nI (n := 6) (show i < 6 by omega) (by decide), nI_clamp (n := i) (by omega), s2, iv_n b, iv_mul, iv_sub]
    rfl
theorem c_addIf (hw : WF h) (I : WkI h b M q a1 a2 c1 c2 sx sy) (B : WkB b M q a1 a2 c1 c2 sx sy) (C : ClI h 16 12 LL) (hl : LL.length < 40000) (hd : (dd LL).length < 4000) (hp : Bn9 p) : ∃ H LL', Fq (Pcl 16) h H ∧ ClI H 16 12 LL' ∧ LL'.length ≤ LL.length + 1 ∧ dd LL' = adW (Wit b q a1 a2 c1 c2) (dd LL) p ∧ ∀ d Q, Tr sc (d + 2) 92 (ent0 92 [.ref 40, .int (iv p.1), .int (iv p.2)] h) Q = Q (none, H) := by
  have e1 : rmC 16 = 7776 := rfl
  cases w : Wit b q a1 a2 c1 c2 p
  · refine ⟨h, LL, Fq.rf, C, by omega, ?_, fun d Q => ?_⟩
    · unfold adW
      rw [w, if_neg (by decide)]
    · rw [e_92]
      simp only [x_92_0, x_92_1, x_92_2, x_92_3, x_92_6, o_40 hw, x_92_18, cl2_i, cl2_r, cl2_n, cl2_l, tl_s, tl_n, true_and, and_true, Option.some.injEq, exists_eq_left', Bool.and_self, Bool.true_and, Bool.and_true, Bool.or_true, Bool.true_or, i_10, i_00, if_true, if_false, not_true_eq_false, not_false_eq_true, and_false, false_and, okp_sI, okp_sL, okp_aI, okp_aL, hR_sI, hR_sL, hR_aI, hR_aL, c_isWithin hw I B hp, w, show bo false = 0 from rfl]
  · obtain ⟨H, F, C', eq⟩ := c_add (sc := sc) hw (Or.inl rfl : IsCl 16) C (bn_g (wit_b B w)) (by omega) (show (dd LL).length < 2 ^ 12 by rw [show (2 : Nat) ^ 12 = 4096 from rfl]; omega) (by omega)
    refine ⟨H, LL ++ [p], F, C', by rw [List.length_append]; exact Nat.le_refl _, ?_, fun d Q => ?_⟩
    · unfold adW
      rw [w, if_pos rfl, dd_s]
    · rw [e_92]
      simp only [x_92_0, x_92_1, x_92_2, x_92_3, x_92_6, x_92_9, x_92_10, x_92_13, x_92_14, x_92_15, x_92_18, o_40 hw, w_40_3 hw, o_16 hw, cl2_i, cl2_r, cl2_n, cl2_l, tl_s, tl_n, true_and, and_true, Option.some.injEq, exists_eq_left', Bool.and_self, Bool.true_and, Bool.and_true, Bool.or_true, Bool.true_or, i_10, i_00, if_true, if_false, not_true_eq_false, not_false_eq_true, and_false, false_and, okp_sI, okp_sL, okp_aI, okp_aL, hR_sI, hR_sL, hR_aI, hR_aL, c_isWithin hw I B hp, w, show bo true = 1 from rfl, eq]
theorem adW_len : (adW wi L p).length ≤ L.length + 1 := by
  unfold adW addP
  split
  · split
    · omega
    · rw [List.length_append, List.length_singleton]; exact Nat.le_refl _
  · omega
theorem adW_gd (hj : j < L.length) : (adW wi L p).getD j pt0 = L.getD j pt0 ∧ j < (adW wi L p).length := by
  unfold adW addP
  split
  · split
    · exact ⟨rfl, hj⟩
    · exact ⟨gd_app1 hj, by rw [List.length_append]; omega⟩
  · exact ⟨rfl, hj⟩
theorem inn_len : ∀ i, (inn wi nx L p i).length ≤ L.length + i ∧ L.length ≤ (inn wi nx L p i).length
  | 0 => ⟨Nat.le_refl _, Nat.le_refl _⟩
  | i + 1 => by
    obtain ⟨h1, h2⟩ := inn_len i
    have h3 := adW_len (wi := wi) (L := inn wi nx L p i) (p := nx p i)
    have h4 : (inn wi nx L p i).length ≤ (adW wi (inn wi nx L p i) (nx p i)).length := by
      unfold adW addP
      split
      · split
        · exact Nat.le_refl _
        · rw [List.length_append]; omega
      · exact Nat.le_refl _
    show (adW wi (inn wi nx L p i) (nx p i)).length ≤ _ ∧ _ ≤ (adW wi (inn wi nx L p i) (nx p i)).length
    omega
theorem inn_gd (hj : j < L.length) : ∀ i, (inn wi nx L p i).getD j pt0 = L.getD j pt0
  | 0 => rfl
  | i + 1 => by
    have ih := inn_gd hj i
    have := (inn_len (wi := wi) (nx := nx) (L := L) (p := p) i).2
    show (adW wi (inn wi nx L p i) (nx p i)).getD j pt0 = _
    rw [(adW_gd (by omega)).1, ih]
/-- every place that is kept is within, and none is kept twice -/
def LsI (wi : Pnt → Bool) (L : List Pnt) : Prop := L.Nodup ∧ ∀ p, p ∈ L → wi p = true
theorem adW_I (h : LsI wi L) : LsI wi (adW wi L p) := by
  unfold adW addP
  split
  · rename_i w
    split
    · exact h
    · rename_i m
      refine ⟨?_, fun x hx => ?_⟩
      · rw [List.nodup_append]
        refine ⟨h.1, by simp, fun a ha b hb e => ?_⟩
        rw [List.mem_singleton.mp hb] at e
        exact m (e ▸ ha)
      · rcases List.mem_append.mp hx with z | z
        · exact h.2 x z
        · rw [List.mem_singleton.mp z]; exact w
  · exact h
theorem inn_I (h : LsI wi L) : ∀ i, LsI wi (inn wi nx L p i)
  | 0 => h
  | i + 1 => adW_I (inn_I h i)
theorem wlk_I : ∀ f k (L : List Pnt), LsI wi L → LsI wi (wlk wi nx M f k L)
  | 0, _, _, h => h
  | f + 1, k, L, h => by
    show LsI wi (if k < L.length ∧ L.length ≤ 2000 then wlk wi nx M f (k + 1) (inn wi nx L (L.getD k pt0) M) else L)
    split
    · exact wlk_I f _ _ (inn_I h M)
    · exact h
theorem wlk_big (hL : 2000 < L.length) : ∀ f k, wlk wi nx M f k L = L
  | 0, _ => rfl
  | f + 1, k => if_neg (fun z => by omega)
end WK
