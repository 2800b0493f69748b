/-! ===== reach ===== -/
def mxF (f : Nat → Int32) : Nat → Int32
  | 0 => f 0
  | n + 1 => if mxF f n < f (n + 1) then f (n + 1) else mxF f n
def mnF (f : Nat → Int32) : Nat → Int32
  | 0 => f 0
  | n + 1 => if f (n + 1) < mnF f n then f (n + 1) else mnF f n
def stR (x y : Nat → Int32) (i j : Nat) (v : Int32) : Int32 := if y j - y i ≤ (if x j - x i ≤ v then v else x j - x i) then (if x j - x i ≤ v then v else x j - x i) else y j - y i
def moR (x y : Nat → Int32) (M : Nat) : Int32 := itI (fun i a => itI (fun j v => stR x y i j v) a M) 0 M
def wiR (x y : Nat → Int32) (N : Nat) : Int32 := if mxF x N - mnF x N < mxF y N - mnF y N then mxF y N - mnF y N else mxF x N - mnF x N
section RE
variable {sc : Nat × (Nat → Int32)} {d : Nat} {Q : PRes → Prop} {h : PH} {k s u r q : Nat} {x y : Nat → Int32}
theorem mxF_spec {f : Nat → Int32} : ∀ n, (∃ j, j ≤ n ∧ mxF f n = f j) ∧ ∀ j, j ≤ n → (f j).toInt ≤ (mxF f n).toInt
  | 0 => ⟨⟨0, by omega, rfl⟩, fun j hj => by rw [show j = 0 by omega]; exact Int.le_refl _⟩
  | n + 1 => by
    obtain ⟨⟨j, hj, e⟩, h2⟩ := mxF_spec (f := f) n
    by_cases z : mxF f n < f (n + 1)
    · have e1 : mxF f (n + 1) = f (n + 1) := if_pos z
      have z1 := Int32.lt_iff_toInt_lt.mp z
      rw [e1]
      refine ⟨⟨n + 1, by omega, rfl⟩, fun i hi => ?_⟩
      by_cases q : i = n + 1
      · rw [q]; exact Int.le_refl _
      · have := h2 i (by omega); omega
    · have e1 : mxF f (n + 1) = mxF f n := if_neg z
      have z1 := Int32.le_iff_toInt_le.mp (Int32.not_lt.mp z)
      rw [e1]
      refine ⟨⟨j, by omega, e⟩, fun i hi => ?_⟩
      by_cases q : i = n + 1
      · rw [q]; exact z1
      · exact h2 i (by omega)
theorem mnF_spec {f : Nat → Int32} : ∀ n, (∃ j, j ≤ n ∧ mnF f n = f j) ∧ ∀ j, j ≤ n → (mnF f n).toInt ≤ (f j).toInt
  | 0 => ⟨⟨0, by omega, rfl⟩, fun j hj => by rw [show j = 0 by omega]; exact Int.le_refl _⟩
  | n + 1 => by
    obtain ⟨⟨j, hj, e⟩, h2⟩ := mnF_spec (f := f) n
    by_cases z : f (n + 1) < mnF f n
    · have e1 : mnF f (n + 1) = f (n + 1) := if_pos z
      have z1 := Int32.lt_iff_toInt_lt.mp z
      rw [e1]
      refine ⟨⟨n + 1, by omega, rfl⟩, fun i hi => ?_⟩
      by_cases q : i = n + 1
      · rw [q]; exact Int.le_refl _
      · have := h2 i (by omega); omega
    · have e1 : mnF f (n + 1) = mnF f n := if_neg z
      have z1 := Int32.le_iff_toInt_le.mp (Int32.not_lt.mp z)
      rw [e1]
      refine ⟨⟨j, by omega, e⟩, fun i hi => ?_⟩
      by_cases q : i = n + 1
      · rw [q]; exact z1
      · exact h2 i (by omega)
/-- shifts are small -/
def Sm (x : Nat → Int32) (M : Nat) : Prop := ∀ j, j < M → -9 ≤ (x j).toInt ∧ (x j).toInt ≤ 9
theorem sub_sm {a b : Int32} (ha : -9 ≤ a.toInt ∧ a.toInt ≤ 9) (hb : -9 ≤ b.toInt ∧ b.toInt ≤ 9) : (a - b).toInt = a.toInt - b.toInt := by
  rw [Int32.toInt_sub]
  apply Int.bmod_eq_of_le <;> omega
theorem stR_spec {M i j : Nat} {v : Int32} (hx : Sm x M) (hy : Sm y M) (hi : i < M) (hj : j < M) : v.toInt ≤ (stR x y i j v).toInt ∧ (x j).toInt - (x i).toInt ≤ (stR x y i j v).toInt ∧ (y j).toInt - (y i).toInt ≤ (stR x y i j v).toInt ∧ (stR x y i j v = v ∨ (stR x y i j v).toInt = (x j).toInt - (x i).toInt ∨ (stR x y i j v).toInt = (y j).toInt - (y i).toInt) := by
  have ex := sub_sm (hx j hj) (hx i hi)
  have ey := sub_sm (hy j hj) (hy i hi)
  unfold stR
  by_cases z : x j - x i ≤ v
  · rw [if_pos z]
    have z1 := Int32.le_iff_toInt_le.mp z
    by_cases w : y j - y i ≤ v
    · rw [if_pos w]
      have w1 := Int32.le_iff_toInt_le.mp w
      exact ⟨Int.le_refl _, by omega, by omega, Or.inl rfl⟩
    · rw [if_neg w]
      have w1 := Int32.lt_iff_toInt_lt.mp (Int32.not_le.mp w)
      exact ⟨by omega, by omega, by omega, Or.inr (Or.inr ey)⟩
  · rw [if_neg z]
    have z1 := Int32.lt_iff_toInt_lt.mp (Int32.not_le.mp z)
    by_cases w : y j - y i ≤ x j - x i
    · rw [if_pos w]
      have w1 := Int32.le_iff_toInt_le.mp w
      exact ⟨by omega, by omega, by omega, Or.inr (Or.inl ex)⟩
    · rw [if_neg w]
      have w1 := Int32.lt_iff_toInt_lt.mp (Int32.not_le.mp w)
      exact ⟨by omega, by omega, by omega, Or.inr (Or.inr ey)⟩
theorem inR_spec {M i : Nat} {a : Int32} (hx : Sm x M) (hy : Sm y M) (hi : i < M) : ∀ n, n ≤ M → a.toInt ≤ (itI (fun j v => stR x y i j v) a n).toInt ∧ (∀ j, j < n → (x j).toInt - (x i).toInt ≤ (itI (fun j v => stR x y i j v) a n).toInt ∧ (y j).toInt - (y i).toInt ≤ (itI (fun j v => stR x y i j v) a n).toInt) ∧ (itI (fun j v => stR x y i j v) a n = a ∨ ∃ j, j < n ∧ ((itI (fun j v => stR x y i j v) a n).toInt = (x j).toInt - (x i).toInt ∨ (itI (fun j v => stR x y i j v) a n).toInt = (y j).toInt - (y i).toInt))
  | 0, _ => ⟨Int.le_refl _, fun j hj => by omega, Or.inl rfl⟩
  | n + 1, hn => by
    obtain ⟨h1, h2, h3⟩ := inR_spec hx hy hi (a := a) n (by omega)
    have e : itI (fun j v => stR x y i j v) a (n + 1) = stR x y i n (itI (fun j v => stR x y i j v) a n) := rfl
    rw [e]
    generalize itI (fun j v => stR x y i j v) a n = w at h1 h2 h3
    obtain ⟨s1, s2, s3, s4⟩ := stR_spec (v := w) hx hy hi (show n < M by omega)
    generalize stR x y i n w = w2 at s1 s2 s3 s4
    refine ⟨by omega, fun j hj => ?_, ?_⟩
    · by_cases q : j = n
      · rw [q]; exact ⟨s2, s3⟩
      · have := h2 j (by omega); omega
    · rcases s4 with q | q | q
      · rw [q]
        rcases h3 with p | ⟨j, hj, p⟩
        · exact Or.inl p
        · exact Or.inr ⟨j, by omega, p⟩
      · exact Or.inr ⟨n, by omega, Or.inl q⟩
      · exact Or.inr ⟨n, by omega, Or.inr q⟩
theorem outR_spec {M : Nat} (hx : Sm x M) (hy : Sm y M) : ∀ n, n ≤ M → 0 ≤ (itI (fun i a => itI (fun j v => stR x y i j v) a M) 0 n).toInt ∧ (∀ i, i < n → ∀ j, j < M → (x j).toInt - (x i).toInt ≤ (itI (fun i a => itI (fun j v => stR x y i j v) a M) 0 n).toInt ∧ (y j).toInt - (y i).toInt ≤ (itI (fun i a => itI (fun j v => stR x y i j v) a M) 0 n).toInt) ∧ ((itI (fun i a => itI (fun j v => stR x y i j v) a M) 0 n).toInt = 0 ∨ ∃ i j, i < M ∧ j < M ∧ ((itI (fun i a => itI (fun j v => stR x y i j v) a M) 0 n).toInt = (x j).toInt - (x i).toInt ∨ (itI (fun i a => itI (fun j v => stR x y i j v) a M) 0 n).toInt = (y j).toInt - (y i).toInt))
  | 0, _ => ⟨(show (0 : Int) ≤ (0 : Int32).toInt by decide), fun i hi => by omega, Or.inl rfl⟩
  | n + 1, hn => by
    obtain ⟨h1, h2, h3⟩ := outR_spec hx hy n (by omega)
    have e : itI (fun i a => itI (fun j v => stR x y i j v) a M) 0 (n + 1) = itI (fun j v => stR x y n j v) (itI (fun i a => itI (fun j v => stR x y i j v) a M) 0 n) M := rfl
    rw [e]
    generalize itI (fun i a => itI (fun j v => stR x y i j v) a M) 0 n = w at h1 h2 h3
    obtain ⟨s1, s2, s3⟩ := inR_spec (a := w) hx hy (show n < M by omega) M (Nat.le_refl _)
    generalize itI (fun j v => stR x y n j v) w M = w2 at s1 s2 s3
    refine ⟨by omega, fun i hi j hj => ?_, ?_⟩
    · by_cases q : i = n
      · rw [q]; exact s2 j hj
      · have := h2 i (by omega) j hj; omega
    · rcases s3 with q | ⟨j, hj, p⟩
      · rw [q]; exact h3
      · exact Or.inr ⟨n, j, by omega, hj, p⟩
theorem re_eq {N : Nat} (hx : Sm x (N + 1)) (hy : Sm y (N + 1)) : moR x y (N + 1) = wiR x y N ∧ 0 ≤ (wiR x y N).toInt := by
  obtain ⟨⟨g1, gj1, ge1⟩, gb1⟩ := mxF_spec (f := x) N
  obtain ⟨⟨g2, gj2, ge2⟩, gb2⟩ := mnF_spec (f := x) N
  obtain ⟨⟨g3, gj3, ge3⟩, gb3⟩ := mxF_spec (f := y) N
  obtain ⟨⟨g4, gj4, ge4⟩, gb4⟩ := mnF_spec (f := y) N
  obtain ⟨m1, m2, m3⟩ := outR_spec hx hy (N + 1) (Nat.le_refl _)
  have ew : (mxF x N - mnF x N).toInt = (mxF x N).toInt - (mnF x N).toInt := by rw [ge1, ge2]; exact sub_sm (hx g1 (by omega)) (hx g2 (by omega))
  have eh : (mxF y N - mnF y N).toInt = (mxF y N).toInt - (mnF y N).toInt := by rw [ge3, ge4]; exact sub_sm (hy g3 (by omega)) (hy g4 (by omega))
  have a1 := m2 g2 (by omega) g1 (by omega)
  have a2 := m2 g4 (by omega) g3 (by omega)
  have c1 := gb1 0 (by omega)
  have c2 := gb2 0 (by omega)
  have hW : (wiR x y N).toInt = (mxF x N).toInt - (mnF x N).toInt ∧ (mxF y N).toInt - (mnF y N).toInt ≤ (wiR x y N).toInt ∨ (wiR x y N).toInt = (mxF y N).toInt - (mnF y N).toInt ∧ (mxF x N).toInt - (mnF x N).toInt ≤ (wiR x y N).toInt := by
    unfold wiR
    by_cases z : mxF x N - mnF x N < mxF y N - mnF y N
    · rw [if_pos z]
      have z1 := Int32.lt_iff_toInt_lt.mp z
      exact Or.inr ⟨eh, by omega⟩
    · rw [if_neg z]
      have z1 := Int32.le_iff_toInt_le.mp (Int32.not_lt.mp z)
      exact Or.inl ⟨ew, by omega⟩
  have hW0 : 0 ≤ (wiR x y N).toInt := by omega
  refine ⟨?_, hW0⟩
  apply Int32.toInt_inj.mp
  unfold moR
  rw [ge1, ge2, ge3, ge4] at hW
  generalize (itI (fun i a => itI (fun j v => stR x y i j v) a (N + 1)) 0 (N + 1)).toInt = R at m1 m2 m3 a1 a2
  generalize (wiR x y N).toInt = W at hW hW0
  have up : R ≤ W := by
    rcases m3 with p | ⟨i, j, hi, hj, p⟩
    · omega
    · have b1 := gb1 j (by omega)
      have b2 := gb2 i (by omega)
      have b3 := gb3 j (by omega)
      have b4 := gb4 i (by omega)
      rw [ge1] at b1; rw [ge2] at b2; rw [ge3] at b3; rw [ge4] at b4
      omega
  omega
theorem c_gr_loop {p N : Nat} (ho : okp h k 6 = true) (op : okp h p 11 = true) (np : LN p = 6) (hz : hI h k 8 = nI (N + 1)) (hN : N + 1 ≤ 6) : ∀ (n i : Nat), i + n = N → Tr sc d 63 (6, [some (.ref k), some (.ref p), some (.int (mxF (hI h p) i)), some (.int (nI (i + 1)))], [], h) Q = Q (some (.int (mxF (hI h p) N)), h) := by
  intro n
  induction n with
  | zero =>
    intro i hi
    have e : i = N := by omega
    subst e
    rw [x_63_6]
    simp only [x_63_7, x_63_8, x_63_11, x_63_14, x_63_15, x_63_16, x_63_17, x_63_18, x_63_21, x_63_22, x_63_25, x_63_28, x_63_29, ho, true_and, hz]
    rw [if_pos (Int32.le_refl _)]
  | succ n ih =>
    intro i hi
    have hlt : i + 1 < N + 1 := by omega
    rw [x_63_6]
    simp only [x_63_7, x_63_8, x_63_11, x_63_14, x_63_15, x_63_16, x_63_17, x_63_18, x_63_21, x_63_22, x_63_25, x_63_28, x_63_29, ho, true_and, hz, iOk_ok op, iRd_ok op, np, inb_nI (i := i + 1) (n := 6) (by omega) (by decide), nI_clamp (n := i + 1) (by omega), nI_1, cl2_r, cl2_n, cl2_i]
    rw [if_neg (nI_ge hlt (by omega))]
    exact ih (i + 1) (by omega)
theorem c_greatest {p N : Nat} (ho : okp h k 6 = true) (op : okp h p 11 = true) (np : LN p = 6) (hz : hI h k 8 = nI (N + 1)) (hN : N + 1 ≤ 6) : Tr sc d 63 (ent0 63 [.ref k, .ref p] h) Q = Q (some (.int (mxF (hI h p) N)), h) := by
  rw [e_63]
  simp only [x_63_0, x_63_1, x_63_2, x_63_3, x_63_4, x_63_5, iOk_ok op, iRd_ok op, np, show inb 0 6 = true from rfl, true_and, cl2_r, cl2_n, cl2_i]
  exact c_gr_loop ho op np hz hN N 0 (by omega)
theorem c_le_loop {p N : Nat} (ho : okp h k 6 = true) (op : okp h p 11 = true) (np : LN p = 6) (hz : hI h k 8 = nI (N + 1)) (hN : N + 1 ≤ 6) : ∀ (n i : Nat), i + n = N → Tr sc d 62 (6, [some (.ref k), some (.ref p), some (.int (mnF (hI h p) i)), some (.int (nI (i + 1)))], [], h) Q = Q (some (.int (mnF (hI h p) N)), h) := by
  intro n
  induction n with
  | zero =>
    intro i hi
    have e : i = N := by omega
    subst e
    rw [x_62_6]
    simp only [x_62_7, x_62_8, x_62_11, x_62_14, x_62_15, x_62_16, x_62_17, x_62_18, x_62_21, x_62_22, x_62_25, x_62_28, x_62_29, ho, true_and, hz]
    rw [if_pos (Int32.le_refl _)]
  | succ n ih =>
    intro i hi
    have hlt : i + 1 < N + 1 := by omega
    rw [x_62_6]
    simp only [x_62_7, x_62_8, x_62_11, x_62_14, x_62_15, x_62_16, x_62_17, x_62_18, x_62_21, x_62_22, x_62_25, x_62_28, x_62_29, ho, true_and, hz, iOk_ok op, iRd_ok op, np, inb_nI (i := i + 1) (n := 6) (by omega) (by decide), nI_clamp (n := i + 1) (by omega), nI_1, cl2_r, cl2_n, cl2_i]
    rw [if_neg (nI_ge hlt (by omega))]
    exact ih (i + 1) (by omega)
theorem c_least {p N : Nat} (ho : okp h k 6 = true) (op : okp h p 11 = true) (np : LN p = 6) (hz : hI h k 8 = nI (N + 1)) (hN : N + 1 ≤ 6) : Tr sc d 62 (ent0 62 [.ref k, .ref p] h) Q = Q (some (.int (mnF (hI h p) N)), h) := by
  rw [e_62]
  simp only [x_62_0, x_62_1, x_62_2, x_62_3, x_62_4, x_62_5, iOk_ok op, iRd_ok op, np, show inb 0 6 = true from rfl, true_and, cl2_r, cl2_n, cl2_i]
  exact c_le_loop ho op np hz hN N 0 (by omega)
theorem c_reach {q1 q2 N : Nat} (ho : okp h k 6 = true) (r1 : hR h k 1 = some q1) (r2 : hR h k 2 = some q2) (o1 : okp h q1 11 = true) (o2 : okp h q2 11 = true) (n1 : LN q1 = 6) (n2 : LN q2 = 6) (hz : hI h k 8 = nI (N + 1)) (hN : N + 1 ≤ 6) (hb : 2 ≤ hI h k 7 ∧ hI h k 7 ≤ 4) : Tr sc (d + 1) 64 (ent0 64 [.ref k] h) Q = Q (some (.int (wiR (hI h q1) (hI h q2) N / (hI h k 7 - 1))), h) := by
  have eb : (hI h k 7 - 1).toInt = (hI h k 7).toInt - 1 ∧ 2 ≤ (hI h k 7).toInt := by
    have h1 := Int32.le_iff_toInt_le.mp hb.1
    have h2 := Int32.le_iff_toInt_le.mp hb.2
    have c2 : (2 : Int32).toInt = 2 := rfl
    have c4 : (4 : Int32).toInt = 4 := rfl
    have c1 : (1 : Int32).toInt = 1 := rfl
    refine ⟨?_, by omega⟩
    rw [Int32.toInt_sub, c1]
    apply Int.bmod_eq_of_le <;> omega
  have em : (if 1 < hI h k 7 - 1 then hI h k 7 - 1 else 1) = hI h k 7 - 1 := by
    by_cases e : 1 < hI h k 7 - 1
    · rw [if_pos e]
    · rw [if_neg e]
      apply Int32.toInt_inj.mp
      have e1 := Int32.le_iff_toInt_le.mp (Int32.not_lt.mp e)
      have c1 : (1 : Int32).toInt = 1 := rfl
      omega
  have en : ¬ hI h k 7 - 1 = 0 := fun e => by
    have e1 : (hI h k 7 - 1).toInt = (0 : Int32).toInt := by rw [e]
    have c0 : (0 : Int32).toInt = 0 := rfl
    omega
  rw [e_64]
  simp only [x_64_0, x_64_1, x_64_2, x_64_5, x_64_8, x_64_9, x_64_10, x_64_13, x_64_16, x_64_17, x_64_18, x_64_19, x_64_20, x_64_23, x_64_26, x_64_27, x_64_28, x_64_31, x_64_34, x_64_35, x_64_36, x_64_37, x_64_38, x_64_41, x_64_42, x_64_43, x_64_46, x_64_47, x_64_48, x_64_51, x_64_52, ho, r1, r2, true_and, Option.some.injEq, exists_eq_left', c_greatest ho o1 n1 hz hN, c_greatest ho o2 n2 hz hN, c_least ho o1 n1 hz hN, c_least ho o2 n2 hz hN, tl_s, cl2_i, cl2_r, cl2_n, em, en, not_false_eq_true]
  rfl
end RE
