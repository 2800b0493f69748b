/-! ===== the greatest set that goes on; the class's vectors ===== -/
def Gf {α : Type} (B : α → Prop) (E : α → α → Prop) (v : α) : Prop := ∃ S : α → Prop, S v ∧ ∀ u, S u → B u ∧ ∃ w, E u w ∧ S w
def anyB (g : Nat → Bool) : Nat → Nat → Bool
  | _, 0 => false
  | i, n + 1 => g i || anyB g (i + 1) n
def cnB (g : Nat → Bool) : Nat → Nat
  | 0 => 0
  | n + 1 => cnB g n + (if g n = true then 1 else 0)
def inX (R : Nat) (X Y : Int) : Prop := (-(R : Int) ≤ X ∧ X ≤ R) ∧ (-(R : Int) ≤ Y ∧ Y ≤ R)
def vi (R : Nat) (X Y : Int) : Nat := (X + R).toNat * (2 * R + 1) + (Y + R).toNat
def xo (R v : Nat) : Int := ((v / (2 * R + 1) : Nat) : Int) - R
def yo (R v : Nat) : Int := ((v % (2 * R + 1) : Nat) : Int) - R
def dX (M : Nat) (f : Nat → Int) (p : Nat) : Int := f (p % M) - f (p / M)
def Alv (b M R : Nat) (sx sy : Nat → Int) (X Y : Int) : Prop := Gf (fun p : Int × Int => inX R p.1 p.2) (fun p q => ∃ c, c < M * M ∧ q.1 = b * p.1 + dX M sx c ∧ q.2 = b * p.2 + dX M sy c) (X, Y)
def ShV (b M : Nat) (sx sy : Nat → Int) : Prop := (2 ≤ b ∧ b ≤ 4) ∧ (1 ≤ M ∧ M ≤ 6) ∧ ∀ i, i < M → (-9 ≤ sx i ∧ sx i ≤ 9) ∧ (-9 ≤ sy i ∧ sy i ≤ 9)
def rch (b M : Nat) (sx sy : Nat → Int) : Nat := (wiR (fun j => iv (sx j)) (fun j => iv (sy j)) (M - 1) / (nI b - 1)).toInt.toNat
def VcS (h : PH) (b M R : Nat) (sx sy : Nat → Int) : Prop := hI h 24 9 = nI b ∧ hI h 24 10 = nI R ∧ hI h 24 11 = nI (2 * R + 1) ∧ hI h 24 12 = nI ((2 * R + 1) * (2 * R + 1)) ∧ hI h 24 8 = nI (M * M) ∧ ∀ p, p < M * M → hI h 30 p = iv (dX M sx p) ∧ hI h 31 p = iv (dX M sy p)
def Lv (h : PH) (R : Nat) (X Y : Int) : Prop := inX R X Y ∧ ¬ hI h 25 (vi R X Y) = 0
section VC
variable {sc : Nat × (Nat → Int32)} {d : Nat} {Q : PRes → Prop} {h h' H : PH} {k s r b M R i j v p n : Nat} {kd x y : Int32} {tn : Nat → Nat} {sx sy ex : Nat → Int} {X Y : Int}
theorem Gf_b {α : Type} {B : α → Prop} {E : α → α → Prop} {v : α} (g : Gf B E v) : B v := by
  obtain ⟨S, h1, h2⟩ := g
  exact (h2 v h1).1
theorem Gf_s {α : Type} {B : α → Prop} {E : α → α → Prop} {v : α} (g : Gf B E v) : ∃ w, E v w ∧ Gf B E w := by
  obtain ⟨S, h1, h2⟩ := g
  obtain ⟨-, w, h3, h4⟩ := h2 v h1
  exact ⟨w, h3, S, h4, h2⟩
theorem anyB_iff {g : Nat → Bool} : ∀ (n i : Nat), (anyB g i n = true) = (∃ j, i ≤ j ∧ j < i + n ∧ g j = true) := by
  intro n
  induction n with
  | zero =>
    intro i
    apply propext
    exact ⟨fun q => absurd q (by simp [anyB]), fun ⟨j, h1, h2, _⟩ => by omega⟩
  | succ n ih =>
    intro i
    apply propext
    have e : anyB g i (n + 1) = (g i || anyB g (i + 1) n) := rfl
    rw [e, Bool.or_eq_true, ih (i + 1)]
    constructor
    · rintro (q | ⟨j, h1, h2, h3⟩)
      · exact ⟨i, by omega, by omega, q⟩
      · exact ⟨j, by omega, by omega, h3⟩
    · rintro ⟨j, h1, h2, h3⟩
      by_cases e : j = i
      · exact Or.inl (by rw [← e]; exact h3)
      · exact Or.inr ⟨j, by omega, by omega, h3⟩
theorem cnB_le {g g' : Nat → Bool} : ∀ (n : Nat), (∀ j, j < n → g' j = true → g j = true) → cnB g' n ≤ cnB g n
  | 0, _ => Nat.le_refl _
  | n + 1, hh => by
    have h1 := cnB_le n (fun j hj => hh j (by omega))
    show cnB g' n + (if g' n = true then 1 else 0) ≤ cnB g n + (if g n = true then 1 else 0)
    by_cases q : g' n = true
    · rw [if_pos q, if_pos (hh n (by omega) q)]; omega
    · rw [if_neg q]; omega
theorem cnB_lt {g g' : Nat → Bool} : ∀ (n : Nat), (∀ j, j < n → g' j = true → g j = true) → (∃ j, j < n ∧ g j = true ∧ ¬ g' j = true) → cnB g' n < cnB g n
  | 0, _, ⟨j, hj, _⟩ => by omega
  | n + 1, hh, ⟨j, hj, a, c⟩ => by
    show cnB g' n + (if g' n = true then 1 else 0) < cnB g n + (if g n = true then 1 else 0)
    by_cases e : j = n
    · subst e
      have h1 := cnB_le j (fun i hi => hh i (by omega))
      rw [if_pos a, if_neg c]; omega
    · have h1 := cnB_lt n (fun i hi => hh i (by omega)) ⟨j, by omega, a, c⟩
      by_cases q : g' n = true
      · rw [if_pos q, if_pos (hh n (by omega) q)]; omega
      · rw [if_neg q]; omega
theorem cnB_n {g : Nat → Bool} : ∀ (n : Nat), cnB g n ≤ n
  | 0 => Nat.le_refl _
  | n + 1 => by
    have := cnB_n (g := g) n
    show cnB g n + (if g n = true then 1 else 0) ≤ n + 1
    by_cases q : g n = true
    · rw [if_pos q]; omega
    · rw [if_neg q]; omega
theorem sq_lt {a c S : Nat} (ha : a < S) (hc : c < S) : a * S + c < S * S := by
  have h1 : (a + 1) * S ≤ S * S := Nat.mul_le_mul_right S ha
  rw [Nat.add_mul] at h1
  omega
theorem R_sq (hR : R ≤ 18) : (2 * R + 1) * (2 * R + 1) ≤ 1369 := Nat.mul_le_mul (show 2 * R + 1 ≤ 37 by omega) (show 2 * R + 1 ≤ 37 by omega)
theorem vi_lt (hX : inX R X Y) : vi R X Y < (2 * R + 1) * (2 * R + 1) := by
  obtain ⟨⟨h1, h2⟩, h3, h4⟩ := hX
  exact sq_lt (by omega) (by omega)
theorem vi_xo (hX : inX R X Y) : xo R (vi R X Y) = X ∧ yo R (vi R X Y) = Y := by
  obtain ⟨⟨h1, h2⟩, h3, h4⟩ := hX
  unfold xo yo vi
  have hc : (Y + R).toNat < 2 * R + 1 := by omega
  have e1 : ((X + R).toNat * (2 * R + 1) + (Y + R).toNat) / (2 * R + 1) = (X + R).toNat := by
    rw [Nat.mul_comm, Nat.mul_add_div (by omega), Nat.div_eq_of_lt hc, Nat.add_zero]
  have e2 : ((X + R).toNat * (2 * R + 1) + (Y + R).toNat) % (2 * R + 1) = (Y + R).toNat := by
    rw [Nat.mul_comm, Nat.mul_add_mod, Nat.mod_eq_of_lt hc]
  rw [e1, e2]
  omega
theorem xo_in (hv : v < (2 * R + 1) * (2 * R + 1)) : inX R (xo R v) (yo R v) := by
  have h1 : v / (2 * R + 1) < 2 * R + 1 := Nat.div_lt_of_lt_mul hv
  have h2 : v % (2 * R + 1) < 2 * R + 1 := Nat.mod_lt _ (by omega)
  unfold inX xo yo
  generalize v / (2 * R + 1) = a at *
  generalize v % (2 * R + 1) = c at *
  omega
theorem vi_v (hv : v < (2 * R + 1) * (2 * R + 1)) : vi R (xo R v) (yo R v) = v := by
  unfold vi xo yo
  have e0 : ∀ a : Nat, ((a : Int) - R + R).toNat = a := fun a => by omega
  have e1 := e0 (v / (2 * R + 1))
  have e2 := e0 (v % (2 * R + 1))
  rw [e1, e2, Nat.mul_comm]
  exact Nat.div_add_mod v (2 * R + 1)
theorem vi_i (hX : inX R X Y) : (iv X + nI R) * nI (2 * R + 1) + iv Y + nI R = nI (vi R X Y) := by
  obtain ⟨⟨h1, h2⟩, h3, h4⟩ := hX
  rw [iv_n, iv_n, iv_n, iv_add, iv_mul, iv_add, iv_add]
  congr 1
  unfold vi
  have e1 : (((X + R).toNat : Nat) : Int) = X + R := Int.toNat_of_nonneg (by omega)
  have e2 : (((Y + R).toNat : Nat) : Int) = Y + R := Int.toNat_of_nonneg (by omega)
  rw [Int.natCast_add ((X + R).toNat * (2 * R + 1)), Int.natCast_mul (X + R).toNat, e1, e2, Int.add_assoc]
theorem dX_b {f : Nat → Int} (hf : ∀ i, i < M → -9 ≤ f i ∧ f i ≤ 9) (hM : 1 ≤ M) (hp : p < M * M) : -18 ≤ dX M f p ∧ dX M f p ≤ 18 := by
  have h1 := hf (p % M) (Nat.mod_lt _ (by omega))
  have h2 := hf (p / M) (Nat.div_lt_of_lt_mul hp)
  unfold dX
  omega
theorem VcS.fr {P : Nat → Nat → Prop} (V : VcS h b M R sx sy) (f : Fq P h h') (hP : ∀ a j, a = 24 ∨ a = 30 ∨ a = 31 → ¬ P a j) : VcS h' b M R sx sy := by
  obtain ⟨v1, v2, v3, v4, v5, v6⟩ := V
  refine ⟨by rw [f.i (hP _ _ (by omega))]; exact v1, by rw [f.i (hP _ _ (by omega))]; exact v2, by rw [f.i (hP _ _ (by omega))]; exact v3, by rw [f.i (hP _ _ (by omega))]; exact v4, by rw [f.i (hP _ _ (by omega))]; exact v5, fun p hp => ?_⟩
  rw [f.i (hP _ _ (by omega)), f.i (hP _ _ (by omega))]
  exact v6 p hp
theorem c_vxOf (hw : WF h) (V : VcS h b M R sx sy) (hR : R ≤ 18) (hv : v < 2147483648) : Tr sc d 76 (ent0 76 [.ref 24, .int (nI v)] h) Q = Q (some (.int (iv (xo R v))), h) := by
  obtain ⟨v1, v2, v3, v4, v5, v6⟩ := V
  rw [e_76]
  have e0 : ¬ nI (2 * R + 1) = 0 := nI_ne0 (by omega) (by omega)
  simp only [x_76_0, x_76_1, x_76_2, x_76_5, x_76_6, x_76_7, x_76_10, x_76_11, o_24 hw, cl2_i, cl2_r, cl2_n, cl2_l, tl_s, tl_n, true_and, and_true, Option.some.injEq, exists_eq_left', Bool.and_self, Bool.true_and, Bool.and_true, Bool.or_true, Bool.true_or, i_10, i_00, if_true, if_false, not_true_eq_false, not_false_eq_true, and_false, false_and, okp_sI, okp_sL, okp_aI, okp_aL, hR_sI, hR_sL, hR_aI, hR_aL, v2, v3, e0, pk_div (a := v) (d := 2 * R + 1) (by omega) (by omega) (by omega)]
  rw [iv_n, iv_n, iv_sub]
  rfl
theorem c_vyOf (hw : WF h) (V : VcS h b M R sx sy) (hR : R ≤ 18) (hv : v < 2147483648) : Tr sc d 77 (ent0 77 [.ref 24, .int (nI v)] h) Q = Q (some (.int (iv (yo R v))), h) := by
  obtain ⟨v1, v2, v3, v4, v5, v6⟩ := V
  rw [e_77]
  have e0 : ¬ nI (2 * R + 1) = 0 := nI_ne0 (by omega) (by omega)
  simp only [x_77_0, x_77_1, x_77_2, x_77_5, x_77_6, x_77_7, x_77_10, x_77_11, o_24 hw, cl2_i, cl2_r, cl2_n, cl2_l, tl_s, tl_n, true_and, and_true, Option.some.injEq, exists_eq_left', Bool.and_self, Bool.true_and, Bool.and_true, Bool.or_true, Bool.true_or, i_10, i_00, if_true, if_false, not_true_eq_false, not_false_eq_true, and_false, false_and, okp_sI, okp_sL, okp_aI, okp_aL, hR_sI, hR_sL, hR_aI, hR_aL, v2, v3, e0, pk_rem (a := v) (d := 2 * R + 1) (by omega) (by omega) (by omega)]
  rw [iv_n, iv_n, iv_sub]
  rfl
theorem c_livAt (hw : WF h) (V : VcS h b M R sx sy) (hR : R ≤ 18) (hX : R3 X) (hY : R3 Y) (Qt : Lv h R X Y → Q (some (.int (nI (vi R X Y))), h)) (Qf : ¬ Lv h R X Y → Q (some (.int (-1)), h)) : Tr sc d 78 (ent0 78 [.ref 24, .int (iv X), .int (iv Y)] h) Q := by
  obtain ⟨v1, v2, v3, v4, v5, v6⟩ := V
  have rR : R3 (R : Int) := ⟨by omega, by omega⟩
  have rN : R3 (-(R : Int)) := ⟨by omega, by omega⟩
  rw [e_78]
  simp only [x_78_0, x_78_1, x_78_2, x_78_5, x_78_6, x_78_9, x_78_10, x_78_11, x_78_14, x_78_17, x_78_18, x_78_19, x_78_22, x_78_23, x_78_26, x_78_27, x_78_28, x_78_31, x_78_34, x_78_35, x_78_36, x_78_37, x_78_38, x_78_41, x_78_42, x_78_43, x_78_46, x_78_47, x_78_48, x_78_49, x_78_50, x_78_53, x_78_54, o_24 hw, cl2_i, cl2_r, cl2_n, cl2_l, tl_s, tl_n, true_and, and_true, Option.some.injEq, exists_eq_left', Bool.and_self, Bool.true_and, Bool.and_true, Bool.or_true, Bool.true_or, i_10, i_00, if_true, if_false, not_true_eq_false, not_false_eq_true, and_false, false_and, okp_sI, okp_sL, okp_aI, okp_aL, hR_sI, hR_sL, hR_aI, hR_aL, v2, v3]
  simp only [iv_n R, iv_neg, iv_lt hX rN, iv_lt rR hX, iv_lt hY rN, iv_le hY rR]
  rw [← iv_n R]
  by_cases q1 : X < -(R : Int)
  · rw [if_pos q1]; exact Qf (fun z => by have := z.1.1.1; omega)
  · rw [if_neg q1]
    by_cases q2 : (R : Int) < X
    · rw [if_pos q2]; exact Qf (fun z => by have := z.1.1.2; omega)
    · rw [if_neg q2]
      by_cases q3 : Y < -(R : Int)
      · rw [if_pos q3]; exact Qf (fun z => by have := z.1.2.1; omega)
      · rw [if_neg q3]
        by_cases q4 : Y ≤ (R : Int)
        · rw [if_pos q4]
          have hin : inX R X Y := ⟨by omega, by omega⟩
          have hlt := Nat.lt_of_lt_of_le (vi_lt hin) (R_sq hR)
          rw [vi_i hin]
          simp only [x_78_55, x_78_56, x_78_59, x_78_60, x_78_61, x_78_64, x_78_65, x_78_68, x_78_69, o_24 hw, w_24_0 hw, o_25 hw, show LN 25 = 1369 from rfl, cl2_i, cl2_r, cl2_n, cl2_l, tl_s, tl_n, true_and, and_true, Option.some.injEq, exists_eq_left', Bool.and_self, Bool.true_and, Bool.and_true, Bool.or_true, Bool.true_or, i_10, i_00, if_true, if_false, not_true_eq_false, not_false_eq_true, and_false, false_and, okp_sI, okp_sL, okp_aI, okp_aL, hR_sI, hR_sL, hR_aI, hR_aL, inb_nI hlt (by decide), nI_clamp (n := vi R X Y) (by omega)]
          by_cases q5 : hI h 25 (vi R X Y) = 0
          · rw [if_pos q5]; exact Qf (fun z => z.2 q5)
          · rw [if_neg q5]; exact Qt ⟨hin, q5⟩
        · rw [if_neg q4]; exact Qf (fun z => q4 z.1.2.2)
def Gz (h : PH) (b M R : Nat) (sx sy : Nat → Int) (v : Nat) : Prop := ∃ p, p < M * M ∧ Lv h R (b * xo R v + dX M sx p) (b * yo R v + dX M sy p)
theorem c_go_loop (hw : WF h) (V : VcS h b M R sx sy) (W : ShV b M sx sy) (hR : R ≤ 18) (hv : v < (2 * R + 1) * (2 * R + 1)) (Qt : Gz h b M R sx sy v → Q (some (.int 1), h)) (Qf : ¬ Gz h b M R sx sy v → Q (some (.int 0), h)) : ∀ (n p : Nat), p + n = M * M → (∀ q, q < p → ¬ Lv h R (b * xo R v + dX M sx q) (b * yo R v + dX M sy q)) → Tr sc (d + 1) 75 (25, [some (.ref 24), some (.int (nI v)), some (.int (iv (b * xo R v))), some (.int (iv (b * yo R v))), some (.int (nI p))], [], h) Q := by
  obtain ⟨⟨b1, b2⟩, ⟨m1, m2⟩, wt⟩ := W
  have mm : M * M ≤ 36 := Nat.mul_le_mul m2 m2
  obtain ⟨⟨x1, x2⟩, y1, y2⟩ := xo_in hv
  have bx := mulB (a := (b : Int)) (A := 4) (b := xo R v) (B := 18) (by omega) (by omega)
  have by' := mulB (a := (b : Int)) (A := 4) (b := yo R v) (B := 18) (by omega) (by omega)
  intro n
  induction n with
  | zero =>
    intro p hp a1
    have e : p = M * M := by omega
    subst e
    obtain ⟨v1, v2, v3, v4, v5, v6⟩ := V
    rw [x_75_25]
    simp only [x_75_27, x_75_28, x_75_31, o_24 hw, x_75_67, x_75_68, cl2_i, cl2_r, cl2_n, cl2_l, tl_s, tl_n, true_and, and_true, Option.some.injEq, exists_eq_left', Bool.and_self, Bool.true_and, Bool.and_true, Bool.or_true, Bool.true_or, i_10, i_00, if_true, if_false, not_true_eq_false, not_false_eq_true, and_false, false_and, okp_sI, okp_sL, okp_aI, okp_aL, hR_sI, hR_sL, hR_aI, hR_aL, v5, vp_b0]
    rw [if_pos (Int32.le_refl _)]
    exact Qf (fun ⟨q, hq, z⟩ => a1 q hq z)
  | succ n ih =>
    intro p hp a1
    have hlt : p < M * M := by omega
    have V' := V
    obtain ⟨v1, v2, v3, v4, v5, v6⟩ := V
    have e1 := dX_b (fun i hi => (wt i hi).1) m1 hlt
    have e2 := dX_b (fun i hi => (wt i hi).2) m1 hlt
    rw [x_75_25]
    simp only [x_75_27, x_75_28, x_75_31, x_75_34, x_75_35, x_75_36, x_75_37, x_75_40, x_75_42, x_75_43, x_75_44, x_75_45, x_75_46, x_75_49, x_75_51, x_75_52, x_75_53, o_24 hw, w_24_5 hw, w_24_6 hw, o_30 hw, iOk_lt (k := 30) (by decide), iRd_lt (k := 30) (by decide), show LN 30 = 36 from rfl, o_31 hw, iOk_lt (k := 31) (by decide), iRd_lt (k := 31) (by decide), show LN 31 = 36 from rfl, cl2_i, cl2_r, cl2_n, cl2_l, tl_s, tl_n, true_and, and_true, Option.some.injEq, exists_eq_left', Bool.and_self, Bool.true_and, Bool.and_true, Bool.or_true, Bool.true_or, i_10, i_00, if_true, if_false, not_true_eq_false, not_false_eq_true, and_false, false_and, okp_sI, okp_sL, okp_aI, okp_aL, hR_sI, hR_sL, hR_aI, hR_aL, v5, inb_nI (i := p) (n := 36) (by omega) (by decide), nI_clamp (n := p) (by omega), (v6 p hlt).1, (v6 p hlt).2, iv_add]
    rw [if_neg (nI_ge hlt (by omega))]
    refine c_livAt hw V' hR ⟨by omega, by omega⟩ ⟨by omega, by omega⟩ (fun z => ?_) (fun z => ?_)
    · have hin := vi_lt z.1
      have := R_sq hR
      simp only [x_75_56, x_75_59, x_75_60, cl2_i, cl2_r, cl2_n, cl2_l, tl_s, tl_n, true_and, and_true, Option.some.injEq, exists_eq_left', Bool.and_self, Bool.true_and, Bool.and_true, Bool.or_true, Bool.true_or, i_10, i_00, if_true, if_false, not_true_eq_false, not_false_eq_true, and_false, false_and, okp_sI, okp_sL, okp_aI, okp_aL, hR_sI, hR_sL, hR_aI, hR_aL, vp_b1]
      rw [if_neg (nI_pos (by omega))]
      exact Qt ⟨p, hlt, z⟩
    · simp only [x_75_56, x_75_59, x_75_60, x_75_61, x_75_64, cl2_i, cl2_r, cl2_n, cl2_l, tl_s, tl_n, true_and, and_true, Option.some.injEq, exists_eq_left', Bool.and_self, Bool.true_and, Bool.and_true, Bool.or_true, Bool.true_or, i_10, i_00, if_true, if_false, not_true_eq_false, not_false_eq_true, and_false, false_and, okp_sI, okp_sL, okp_aI, okp_aL, hR_sI, hR_sL, hR_aI, hR_aL, nI_1, show ((-1 : Int32) < 0) = True from eq_true (by decide)]
      refine ih (p + 1) (by omega) (fun q hq => ?_)
      by_cases e : q = p
      · rw [e]; exact z
      · exact a1 q (by omega)
theorem c_goesOn (hw : WF h) (V : VcS h b M R sx sy) (W : ShV b M sx sy) (hR : R ≤ 18) (hv : v < (2 * R + 1) * (2 * R + 1)) (Qt : Gz h b M R sx sy v → Q (some (.int 1), h)) (Qf : ¬ Gz h b M R sx sy v → Q (some (.int 0), h)) : Tr sc (d + 1) 75 (ent0 75 [.ref 24, .int (nI v)] h) Q := by
  have := R_sq hR
  rw [e_75]
  simp only [x_75_0, x_75_1, x_75_4, x_75_5, x_75_6, x_75_9, x_75_10, x_75_11, x_75_12, x_75_15, x_75_16, x_75_17, x_75_20, x_75_21, x_75_22, x_75_23, o_24 hw, cl2_i, cl2_r, cl2_n, cl2_l, tl_s, tl_n, true_and, and_true, Option.some.injEq, exists_eq_left', Bool.and_self, Bool.true_and, Bool.and_true, Bool.or_true, Bool.true_or, i_10, i_00, if_true, if_false, not_true_eq_false, not_false_eq_true, and_false, false_and, okp_sI, okp_sL, okp_aI, okp_aL, hR_sI, hR_sL, hR_aI, hR_aL, c_vxOf hw V hR (show v < 2147483648 by omega), c_vyOf hw V hR (show v < 2147483648 by omega), V.1]
  rw [iv_n b, iv_mul, iv_mul]
  exact c_go_loop hw V W hR hv Qt Qf (M * M) 0 (by omega) (fun q hq => by omega)
def cnL (h : PH) (n : Nat) : Nat := cnB (fun v => decide (¬ hI h 25 v = 0)) n
theorem c_td_loop (hw : WF h) (V : VcS h b M R sx sy) (W : ShV b M sx sy) (hR : R ≤ 18) (hK : ∀ h' (c : Int32), Fq (fun a _ => a = 25) h h' → (∀ X Y, Alv b M R sx sy X Y → Lv h' R X Y) → (c = 0 ∧ (∀ u, hI h' 25 u = hI h 25 u) ∧ (∀ u, u < (2 * R + 1) * (2 * R + 1) → ¬ hI h 25 u = 0 → Gz h b M R sx sy u) ∨ c = 1 ∧ cnL h' ((2 * R + 1) * (2 * R + 1)) < cnL h ((2 * R + 1) * (2 * R + 1))) → Q (some (.int c), h')) : ∀ (n v : Nat) (H : PH) (c : Int32), v + n = (2 * R + 1) * (2 * R + 1) → Fq (fun a _ => a = 25) h H → (∀ X Y, Alv b M R sx sy X Y → Lv H R X Y) → (c = 0 ∧ (∀ u, hI H 25 u = hI h 25 u) ∧ (∀ u, u < v → ¬ hI h 25 u = 0 → Gz h b M R sx sy u) ∨ c = 1 ∧ cnL H ((2 * R + 1) * (2 * R + 1)) < cnL h ((2 * R + 1) * (2 * R + 1))) → Tr sc (d + 2) 74 (4, [some (.ref 24), some (.int c), some (.int (nI v))], [], H) Q := by
  have sq := R_sq hR
  intro n
  induction n with
  | zero =>
    intro v H c hv f sup inv
    have e : v = (2 * R + 1) * (2 * R + 1) := by omega
    subst e
    have hwH := f.WF hw
    obtain ⟨v1, v2, v3, v4, v5, v6⟩ := V.fr f (fun a j q z => by omega)
    rw [x_74_4]
    simp only [x_74_5, x_74_6, x_74_9, o_24 hwH, x_74_44, x_74_45, cl2_i, cl2_r, cl2_n, cl2_l, tl_s, tl_n, true_and, and_true, Option.some.injEq, exists_eq_left', Bool.and_self, Bool.true_and, Bool.and_true, Bool.or_true, Bool.true_or, i_10, i_00, if_true, if_false, not_true_eq_false, not_false_eq_true, and_false, false_and, okp_sI, okp_sL, okp_aI, okp_aL, hR_sI, hR_sL, hR_aI, hR_aL, v4]
    rw [if_pos (Int32.le_refl _)]
    refine ⟨?_, hK H c f sup inv⟩
    rcases inv with ⟨q, -⟩ | ⟨q, -⟩
    · rw [q]; rfl
    · rw [q]; rfl
  | succ n ih =>
    intro v H c hv f sup inv
    have hlt : v < (2 * R + 1) * (2 * R + 1) := by omega
    have hwH := f.WF hw
    have V' := V.fr f (fun a j q z => by omega)
    obtain ⟨v1, v2, v3, v4, v5, v6⟩ := id V'
    rw [x_74_4]
    simp only [x_74_5, x_74_6, x_74_9, x_74_12, x_74_13, x_74_16, x_74_17, x_74_18, x_74_21, x_74_22, x_74_23, o_24 hwH, w_24_0 hwH, o_25 hwH, show LN 25 = 1369 from rfl, cl2_i, cl2_r, cl2_n, cl2_l, tl_s, tl_n, true_and, and_true, Option.some.injEq, exists_eq_left', Bool.and_self, Bool.true_and, Bool.and_true, Bool.or_true, Bool.true_or, i_10, i_00, if_true, if_false, not_true_eq_false, not_false_eq_true, and_false, false_and, okp_sI, okp_sL, okp_aI, okp_aL, hR_sI, hR_sL, hR_aI, hR_aL, v4, inb_nI (i := v) (n := 1369) (by omega) (by decide), nI_clamp (n := v) (by omega)]
    rw [if_neg (nI_ge hlt (by omega))]
    by_cases q1 : hI H 25 v = 0
    · rw [if_pos q1]
      simp only [x_74_38, x_74_41, cl2_i, cl2_r, cl2_n, cl2_l, tl_s, tl_n, true_and, and_true, Option.some.injEq, exists_eq_left', Bool.and_self, Bool.true_and, Bool.and_true, Bool.or_true, Bool.true_or, i_10, i_00, if_true, if_false, not_true_eq_false, not_false_eq_true, and_false, false_and, okp_sI, okp_sL, okp_aI, okp_aL, hR_sI, hR_sL, hR_aI, hR_aL, nI_1]
      refine ih (v + 1) H c (by omega) f sup ?_
      rcases inv with ⟨i1, i2, i3⟩ | i1
      · refine Or.inl ⟨i1, i2, fun u hu z => ?_⟩
        by_cases e : u = v
        · exact absurd (by rw [← i2 u, e]; exact q1) z
        · exact i3 u (by omega) z
      · exact Or.inr i1
    · rw [if_neg q1]
      refine c_goesOn hwH V' W hR hlt (fun z => ?_) (fun z => ?_)
      · simp only [x_74_26, x_74_38, x_74_41, cl2_i, cl2_r, cl2_n, cl2_l, tl_s, tl_n, true_and, and_true, Option.some.injEq, exists_eq_left', Bool.and_self, Bool.true_and, Bool.and_true, Bool.or_true, Bool.true_or, i_10, i_00, if_true, if_false, not_true_eq_false, not_false_eq_true, and_false, false_and, okp_sI, okp_sL, okp_aI, okp_aL, hR_sI, hR_sL, hR_aI, hR_aL, nI_1]
        refine ih (v + 1) H c (by omega) f sup ?_
        rcases inv with ⟨i1, i2, i3⟩ | i1
        · refine Or.inl ⟨i1, i2, fun u hu zz => ?_⟩
          by_cases e : u = v
          · subst e
            obtain ⟨p, hp, l1, l2⟩ := z
            exact ⟨p, hp, l1, by rw [← i2]; exact l2⟩
          · exact i3 u (by omega) zz
        · exact Or.inr i1
      · simp only [x_74_26, x_74_29, x_74_30, x_74_33, x_74_34, x_74_35, x_74_36, x_74_37, x_74_38, x_74_41, o_24 hwH, w_24_0 hwH, o_25 hwH, show LN 25 = 1369 from rfl, cl2_i, cl2_r, cl2_n, cl2_l, tl_s, tl_n, true_and, and_true, Option.some.injEq, exists_eq_left', Bool.and_self, Bool.true_and, Bool.and_true, Bool.or_true, Bool.true_or, i_10, i_00, if_true, if_false, not_true_eq_false, not_false_eq_true, and_false, false_and, okp_sI, okp_sL, okp_aI, okp_aL, hR_sI, hR_sL, hR_aI, hR_aL, inb_nI (i := v) (n := 1369) (by omega) (by decide), nI_clamp (n := v) (by omega), nI_1, vp_b0]
        have hcn : cnL (sI H 25 v 0) ((2 * R + 1) * (2 * R + 1)) < cnL H ((2 * R + 1) * (2 * R + 1)) := by
          refine cnB_lt _ (fun j hj q => ?_) ⟨v, hlt, decide_eq_true q1, fun q => ?_⟩
          · have q2 := of_decide_eq_true q
            refine decide_eq_true (fun e => q2 ?_)
            rw [hI_sI, if_pos rfl]
            by_cases e3 : j = v
            · rw [if_pos e3]
            · rw [if_neg e3]; exact e
          · have q2 := of_decide_eq_true q
            exact q2 (by rw [hI_sI, if_pos rfl, if_pos rfl])
        refine ih (v + 1) _ 1 (by omega) (f.sI rfl) (fun X Y a => ?_) (Or.inr ⟨rfl, ?_⟩)
        · obtain ⟨l1, l2⟩ := sup X Y a
          refine ⟨l1, ?_⟩
          rw [hI_sI, if_pos rfl]
          by_cases e : vi R X Y = v
          · exfalso
            obtain ⟨e1, e2⟩ := vi_xo l1
            obtain ⟨⟨u1, u2⟩, ⟨p, hp, g1, g2⟩, ga⟩ := Gf_s a
            refine z ⟨p, hp, ?_⟩
            rw [← e, e1, e2]
            have g3 := sup u1 u2 ga
            simp only at g1 g2
            rw [g1, g2] at g3
            exact g3
          · rw [if_neg e]; exact l2
        · rcases inv with ⟨i1, i2, i3⟩ | ⟨i1, i2⟩
          · have e : cnL H ((2 * R + 1) * (2 * R + 1)) = cnL h ((2 * R + 1) * (2 * R + 1)) := by
              unfold cnL
              congr 1
              funext u
              rw [i2 u]
            rw [← e]; exact hcn
          · exact Nat.lt_trans hcn i2
theorem c_takeDead (hw : WF h) (V : VcS h b M R sx sy) (W : ShV b M sx sy) (hR : R ≤ 18) (sup : ∀ X Y, Alv b M R sx sy X Y → Lv h R X Y) (hK : ∀ h' (c : Int32), Fq (fun a _ => a = 25) h h' → (∀ X Y, Alv b M R sx sy X Y → Lv h' R X Y) → (c = 0 ∧ (∀ u, hI h' 25 u = hI h 25 u) ∧ (∀ u, u < (2 * R + 1) * (2 * R + 1) → ¬ hI h 25 u = 0 → Gz h b M R sx sy u) ∨ c = 1 ∧ cnL h' ((2 * R + 1) * (2 * R + 1)) < cnL h ((2 * R + 1) * (2 * R + 1))) → Q (some (.int c), h')) : Tr sc (d + 2) 74 (ent0 74 [.ref 24] h) Q := by
  rw [e_74]
  simp only [x_74_0, x_74_1, x_74_2, x_74_3, cl2_i, cl2_r, cl2_n, cl2_l, tl_s, tl_n, true_and, and_true, Option.some.injEq, exists_eq_left', Bool.and_self, Bool.true_and, Bool.and_true, Bool.or_true, Bool.true_or, i_10, i_00, if_true, if_false, not_true_eq_false, not_false_eq_true, and_false, false_and, okp_sI, okp_sL, okp_aI, okp_aL, hR_sI, hR_sL, hR_aI, hR_aL]
  exact c_td_loop hw V W hR hK ((2 * R + 1) * (2 * R + 1)) 0 h 0 (by omega) Fq.rf sup (Or.inl ⟨rfl, fun _ => rfl, fun u hu => by omega⟩)
end VC
