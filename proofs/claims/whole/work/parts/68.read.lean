/-! ===== reading a text of moves ===== -/
def chF (tx : Nat → Int32) (n p : Nat) : Int32 := if p < n then tx p else -9
def pfQ (ch : Nat → Int32) (p : Nat) : Nat := if ch p = 45 then p + 1 else p
def okF (ch : Nat → Int32) (p : Nat) : Prop := 48 ≤ ch (pfQ ch p) ∧ ch (pfQ ch p) ≤ 57
def vlF (ch : Nat → Int32) (p : Nat) : Int32 := if ch p = 45 then 48 - ch (pfQ ch p) else ch (pfQ ch p) - 48
def mvP (ch : Nat → Int32) (p : Nat) : Bool × Nat × Int32 × Int32 × Int32 :=
  if ch p = 47 then (if 97 ≤ ch (p + 1) ∧ ch (p + 1) ≤ 104 then (if 48 ≤ ch (pfQ ch (p + 2)) ∧ ch (pfQ ch (p + 2)) ≤ 57 then (if 48 ≤ ch (pfQ ch (pfQ ch (p + 2) + 1)) ∧ ch (pfQ ch (pfQ ch (p + 2) + 1)) ≤ 57 then (true, pfQ ch (pfQ ch (p + 2) + 1) + 1, ch (p + 1) - 97, vlF ch (p + 2), vlF ch (pfQ ch (p + 2) + 1)) else (false, pfQ ch (pfQ ch (p + 2) + 1), 0, 0, 0)) else (false, pfQ ch (p + 2), 0, 0, 0)) else (false, p + 1, 0, 0, 0)) else (false, p, 0, 0, 0)
def rdL (ch : Nat → Int32) (n : Nat) : Nat → Nat → Int32 × List (Int32 × Int32 × Int32)
  | 0, p => (if n ≤ p then -9 else nI p, [])
  | k + 1, p => if n ≤ p then (-9, []) else if (mvP ch p).1 = true then ((rdL ch n k (mvP ch p).2.1).1, (mvP ch p).2.2 :: (rdL ch n k (mvP ch p).2.1).2) else (nI (mvP ch p).2.1, [])
def rdA (ch : Nat → Int32) (n : Nat) : Int32 × List (Int32 × Int32 × Int32) := if 50 ≤ ch 0 ∧ ch 0 ≤ 52 then (if (mvP ch 1).1 = true then ((rdL ch n 5 (mvP ch 1).2.1).1, (mvP ch 1).2.2 :: (rdL ch n 5 (mvP ch 1).2.1).2) else (nI (mvP ch 1).2.1, [])) else (0, [])
def Pr (a b : Nat) : Prop := a = 11 ∨ a = 4 ∨ a = 5 ∨ a = 6 ∨ a = 7
def Pz (a b : Nat) : Prop := (a = 124 ∧ 11 ≤ b ∧ b ≤ 15) ∨ a = 131
def TxC (h : PH) (kt pt n : Nat) (tx : Nat → Int32) : Prop := okp h kt 5 = true ∧ hR h kt 0 = some pt ∧ okp h pt 11 = true ∧ LN pt = 60 ∧ hI h kt 1 = nI n ∧ n ≤ 60 ∧ (∀ p, hI h pt p = tx p) ∧ hR h 11 0 = some kt ∧ 60 ≤ kt ∧ 60 ≤ pt
/-- what the class's draft holds -/
def DV (h : PH) (bs : Int32) (ms : List (Int32 × Int32 × Int32)) : Prop := hI h 4 7 = bs ∧ hI h 4 8 = nI ms.length ∧ ∀ i m, ms[i]? = some m → hI h 5 i = m.1 ∧ hI h 6 i = m.2.1 ∧ hI h 7 i = m.2.2
def DM (h : PH) (bs : Int32) (ms : List (Int32 × Int32 × Int32)) : Prop := hI h 124 11 = bs ∧ hI h 124 12 = nI ms.length ∧ ∀ i m, ms[i]? = some m → hI h 131 (3 * i) = m.1 ∧ hI h 131 (3 * i + 1) = m.2.1 ∧ hI h 131 (3 * i + 2) = m.2.2
section RD
variable {sc : Nat × (Nat → Int32)} {d : Nat} {Q : PRes → Prop} {h h' h1 H : PH} {k s r t b M R i j v p q n kt pt : Nat} {x y z w f l bs : Int32} {tx ch : Nat → Int32} {ms : List (Int32 × Int32 × Int32)}
theorem TxC.fr {P : Nat → Nat → Prop} (T : TxC h kt pt n tx) (fr : Fq P h h') (hP : ∀ a j, 60 ≤ a → ¬ P a j) : TxC h' kt pt n tx := by
  obtain ⟨t1, t2, t3, t4, t5, t6, t7, t8, t9, t10⟩ := T
  exact ⟨by rw [fr.ok]; exact t1, by rw [fr.2.1]; exact t2, by rw [fr.ok]; exact t3, t4, by rw [fr.i (hP _ _ t9)]; exact t5, t6, fun p => by rw [fr.i (hP _ _ t10)]; exact t7 p, by rw [fr.2.1]; exact t8, t9, t10⟩
theorem ch_lt (hf : -9 < f) (e : f ≤ chF tx n p) : p < n := Classical.byContradiction (fun q => by
  unfold chF at e
  rw [if_neg q] at e
  exact absurd e (Int32.not_le.mpr hf))
theorem ch_v (e : p < n) : chF tx n p = tx p := if_pos e
theorem c_one (hw : WF h) (T : TxC h kt pt n tx) (hp : hI h 11 1 = nI p) (hp6 : p < 1000) (hf : -9 < f) : Tr sc (d + 1) 39 (ent0 39 [.ref 11, .int f, .int l] h) Q = if f ≤ chF tx n p ∧ chF tx n p ≤ l then Q (some (.int 1), sI h 11 1 (nI (p + 1))) else Q (some (.int 0), h) := by
  obtain ⟨t1, t2, t3, t4, t5, t6, t7, t8, t9, t10⟩ := T
  rw [e_39]
  simp only [x_39_0, x_39_1, x_39_4, x_39_5, x_39_8, x_39_11, o_11 hw, cl2_i, cl2_r, cl2_n, cl2_l, tl_s, tl_n, true_and, and_true, Option.some.injEq, exists_eq_left', Bool.and_self, Bool.true_and, Bool.and_true, Bool.or_true, Bool.true_or, i_10, i_00, if_true, if_false, not_true_eq_false, not_false_eq_true, and_false, false_and, okp_sI, okp_sL, okp_aI, okp_aL, hR_sI, hR_sL, hR_aI, hR_aL, t8, t1, c_hasPlace t1, hp, t5, bI_0]
  by_cases e : p < n
  · rw [if_neg (show ¬ ¬ (0 ≤ nI p ∧ nI p < nI n) from fun z => z ⟨nI_pos' (by omega), nI_lt e (by omega)⟩), ch_v e]
    simp only [x_39_14, x_39_15, x_39_18, x_39_21, x_39_22, x_39_25, x_39_26, x_39_27, x_39_30, x_39_31, x_39_34, x_39_37, x_39_38, x_39_41, x_39_42, x_39_43, x_39_46, x_39_47, x_39_48, x_39_49, x_39_50, x_39_53, x_39_54, x_39_55, x_39_58, x_39_59, o_11 hw, cl2_i, cl2_r, cl2_n, cl2_l, tl_s, tl_n, true_and, and_true, Option.some.injEq, exists_eq_left', Bool.and_self, Bool.true_and, Bool.and_true, Bool.or_true, Bool.true_or, i_10, i_00, if_true, if_false, not_true_eq_false, not_false_eq_true, and_false, false_and, okp_sI, okp_sL, okp_aI, okp_aL, hR_sI, hR_sL, hR_aI, hR_aL, t8, t1, t2, hp, iOk_ok t3, iRd_ok t3, t4, inb_nI (i := p) (n := 60) (by omega) (by decide), nI_clamp (n := p) (by omega), t7, nI_1, vp_b0, vp_b1]
    by_cases e1 : tx p < f
    · rw [if_pos e1, if_neg (fun z => Int32.not_lt.mpr z.1 e1)]
    · rw [if_neg e1]
      by_cases e2 : tx p ≤ l
      · rw [if_pos e2, if_pos ⟨Int32.not_lt.mp e1, e2⟩]
      · rw [if_neg e2, if_neg (fun z => e2 z.2)]
  · rw [if_pos (show ¬ (0 ≤ nI p ∧ nI p < nI n) from fun z => e ((nI_ltI (by omega) (by omega)).mp z.2)), if_neg (fun z => e (ch_lt hf z.1))]
    simp only [x_39_46, x_39_47, cl2_i, cl2_r, cl2_n, cl2_l, tl_s, tl_n, true_and, and_true, Option.some.injEq, exists_eq_left', Bool.and_self, Bool.true_and, Bool.and_true, Bool.or_true, Bool.true_or, i_10, i_00, if_true, if_false, not_true_eq_false, not_false_eq_true, and_false, false_and, okp_sI, okp_sL, okp_aI, okp_aL, hR_sI, hR_sL, hR_aI, hR_aL, vp_b0]
theorem e45 {a : Int32} : (45 ≤ a ∧ a ≤ 45) = (a = 45) := propext ⟨fun q => Int32.le_antisymm q.2 q.1, fun q => by rw [q]; exact ⟨Int32.le_refl _, Int32.le_refl _⟩⟩
theorem e47 {a : Int32} : (47 ≤ a ∧ a ≤ 47) = (a = 47) := propext ⟨fun q => Int32.le_antisymm q.2 q.1, fun q => by rw [q]; exact ⟨Int32.le_refl _, Int32.le_refl _⟩⟩
theorem neg48 {a : Int32} : -(a - 48) = 48 - a := Int32.neg_sub
theorem c_fig (hw : WF h) (T : TxC h kt pt n tx) (hp : hI h 11 1 = nI p) (hp6 : p < 900) (Qt : 48 ≤ chF tx n (pfQ (chF tx n) p) ∧ chF tx n (pfQ (chF tx n) p) ≤ 57 → ∀ h', Fq (fun a _ => a = 11) h h' → hI h' 11 1 = nI (pfQ (chF tx n) p + 1) → hI h' 11 2 = vlF (chF tx n) p → Q (some (.int 1), h')) (Qf : ¬ (48 ≤ chF tx n (pfQ (chF tx n) p) ∧ chF tx n (pfQ (chF tx n) p) ≤ 57) → ∀ h', Fq (fun a _ => a = 11) h h' → hI h' 11 1 = nI (pfQ (chF tx n) p) → Q (some (.int 0), h')) : Tr sc (d + 2) 38 (ent0 38 [.ref 11] h) Q := by
  have part : ∀ (c : Int32) (H : PH), Fq (fun a _ => a = 11) h H → hI H 11 1 = nI (pfQ (chF tx n) p) → ((c = 1 ∧ chF tx n p = 45) ∨ (c = 0 ∧ ¬ chF tx n p = 45)) → Tr sc (d + 2) 38 (9, [some (.ref 11), some (.int c), none], [], H) Q := by
    intro c H fr hq hc
    have hwH := fr.WF hw
    have T' := T.fr fr (fun a j h1 q => by omega)
    have hq6 : pfQ (chF tx n) p < 1000 := by unfold pfQ; split <;> omega
    generalize hqq : pfQ (chF tx n) p = q at *
    simp only [x_38_9, x_38_10, x_38_12, x_38_14, o_11 hwH, cl2_i, cl2_r, cl2_n, cl2_l, tl_s, tl_n, true_and, and_true, Option.some.injEq, exists_eq_left', Bool.and_self, Bool.true_and, Bool.and_true, Bool.or_true, Bool.true_or, i_10, i_00, if_true, if_false, not_true_eq_false, not_false_eq_true, and_false, false_and, okp_sI, okp_sL, okp_aI, okp_aL, hR_sI, hR_sL, hR_aI, hR_aL, c_one hwH T' hq hq6 (show (-9 : Int32) < 48 by decide)]
    by_cases e : 48 ≤ chF tx n q ∧ chF tx n q ≤ 57
    · have hqn : q < n := ch_lt (by decide) e.1
      obtain ⟨t1, t2, t3, t4, t5, t6, t7, t8, t9, t10⟩ := T'
      have e1 : nI (q + 1) - 1 = nI q := nI_pred q
      rw [if_pos e]
      simp only [x_38_17, x_38_20, x_38_21, x_38_22, x_38_23, x_38_26, x_38_29, x_38_30, x_38_33, x_38_34, x_38_35, x_38_36, x_38_38, x_38_39, x_38_40, x_38_41, x_38_42, x_38_45, x_38_46, x_38_47, x_38_50, x_38_51, x_38_54, x_38_55, o_11 hwH, cl2_i, cl2_r, cl2_n, cl2_l, tl_s, tl_n, true_and, and_true, Option.some.injEq, exists_eq_left', Bool.and_self, Bool.true_and, Bool.and_true, Bool.or_true, Bool.true_or, i_10, i_00, if_true, if_false, not_true_eq_false, not_false_eq_true, and_false, false_and, okp_sI, okp_sL, okp_aI, okp_aL, hR_sI, hR_sL, hR_aI, hR_aL, hI_sI, eq_self, t8, t1, t2, iOk_sI, iOk_ok t3, iRd_lt (okp_lt t3), t4, e1, inb_nI (i := q) (n := 60) (by omega) (by decide), nI_clamp (n := q) (by omega), show ¬ pt = 11 by omega, t7, vp_b1]
      have ec := ch_v (tx := tx) hqn
      have vl : vlF (chF tx n) p = if chF tx n p = 45 then 48 - chF tx n q else chF tx n q - 48 := by unfold vlF; rw [hqq]
      rcases hc with ⟨c1, c2⟩ | ⟨c1, c2⟩
      · rw [if_neg (by rw [c1]; decide)]
        refine Qt e _ ((fr.sI rfl).sI rfl) ?_ ?_
        · simp only [hI_sI, if_true, Nat.reduceEqDiff, if_false]
        · simp only [hI_sI, if_true]
          rw [vl, if_pos c2, ec, neg48]
      · rw [if_pos c1]
        refine Qt e _ ((fr.sI rfl).sI rfl) ?_ ?_
        · simp only [hI_sI, if_true, Nat.reduceEqDiff, if_false]
        · simp only [hI_sI, if_true]
          rw [vl, if_neg c2, ec]
    · rw [if_neg e]
      simp only [x_38_17, x_38_20, x_38_21, cl2_i, cl2_r, cl2_n, cl2_l, tl_s, tl_n, true_and, and_true, Option.some.injEq, exists_eq_left', Bool.and_self, Bool.true_and, Bool.and_true, Bool.or_true, Bool.true_or, i_10, i_00, if_true, if_false, not_true_eq_false, not_false_eq_true, and_false, false_and, okp_sI, okp_sL, okp_aI, okp_aL, hR_sI, hR_sL, hR_aI, hR_aL, vp_b0]
      exact Qf e H fr hq
  rw [e_38]
  simp only [x_38_0, x_38_1, x_38_3, x_38_5, o_11 hw, cl2_i, cl2_r, cl2_n, cl2_l, tl_s, tl_n, true_and, and_true, Option.some.injEq, exists_eq_left', Bool.and_self, Bool.true_and, Bool.and_true, Bool.or_true, Bool.true_or, i_10, i_00, if_true, if_false, not_true_eq_false, not_false_eq_true, and_false, false_and, okp_sI, okp_sL, okp_aI, okp_aL, hR_sI, hR_sL, hR_aI, hR_aL, c_one hw T hp (show p < 1000 by omega) (show (-9 : Int32) < 45 by decide), e45]
  by_cases e : chF tx n p = 45
  · rw [if_pos e]
    simp only [x_38_8, cl2_i, cl2_r, cl2_n, cl2_l, tl_s, tl_n, true_and, and_true, Option.some.injEq, exists_eq_left', Bool.and_self, Bool.true_and, Bool.and_true, Bool.or_true, Bool.true_or, i_10, i_00, if_true, if_false, not_true_eq_false, not_false_eq_true, and_false, false_and, okp_sI, okp_sL, okp_aI, okp_aL, hR_sI, hR_sL, hR_aI, hR_aL]
    refine part 1 _ (Fq.rf.sI rfl) ?_ (Or.inl ⟨rfl, e⟩)
    rw [hI_sI, if_pos rfl, if_pos rfl]
    unfold pfQ
    rw [if_pos e]
  · rw [if_neg e]
    simp only [x_38_8, cl2_i, cl2_r, cl2_n, cl2_l, tl_s, tl_n, true_and, and_true, Option.some.injEq, exists_eq_left', Bool.and_self, Bool.true_and, Bool.and_true, Bool.or_true, Bool.true_or, i_10, i_00, if_true, if_false, not_true_eq_false, not_false_eq_true, and_false, false_and, okp_sI, okp_sL, okp_aI, okp_aL, hR_sI, hR_sL, hR_aI, hR_aL]
    refine part 0 _ Fq.rf ?_ (Or.inr ⟨rfl, e⟩)
    unfold pfQ
    rw [if_neg e]
    exact hp
theorem turn7 {a : Int32} (h1 : 97 ≤ a) (h2 : a ≤ 104) : (a - 97) &&& 7 = a - 97 ∧ ∃ j, j ≤ 7 ∧ a - 97 = nI j := by
  have c1 := Int32.le_iff_toInt_le.mp h1
  have c2 := Int32.le_iff_toInt_le.mp h2
  have e1 : (97 : Int32).toInt = 97 := rfl
  have e2 : (104 : Int32).toInt = 104 := rfl
  obtain ⟨j, hj, e⟩ : ∃ j : Nat, j ≤ 7 ∧ a - 97 = nI j := ⟨(a.toInt - 97).toNat, by omega, by
    have e0 : iv (a.toInt - 97) = a - 97 := by rw [← iv_sub, ← iv_of]; rfl
    rw [← e0]
    exact iv_nn (z := a.toInt - 97) (by omega)⟩
  refine ⟨?_, j, hj, e⟩
  rw [e]
  match j, hj with
  | 0, _ => rfl
  | 1, _ => rfl
  | 2, _ => rfl
  | 3, _ => rfl
  | 4, _ => rfl
  | 5, _ => rfl
  | 6, _ => rfl
  | 7, _ => rfl
  | n + 8, hn => omega
theorem pfQ_b : p ≤ pfQ ch p ∧ pfQ ch p ≤ p + 1 := by unfold pfQ; split <;> omega
theorem mvP_b : (mvP ch p).2.1 ≤ p + 6 := by
  have b1 := pfQ_b (ch := ch) (p := p + 2)
  have b2 := pfQ_b (ch := ch) (p := pfQ ch (p + 2) + 1)
  unfold mvP
  split
  · split
    · split
      · split
        · show pfQ ch (pfQ ch (p + 2) + 1) + 1 ≤ p + 6; omega
        · show pfQ ch (pfQ ch (p + 2) + 1) ≤ p + 6; omega
      · show pfQ ch (p + 2) ≤ p + 6; omega
    · show p + 1 ≤ p + 6; omega
  · show p ≤ p + 6; omega
theorem ap_get {m m' : Int32 × Int32 × Int32} (e : (ms ++ [m])[i]? = some m') : (i < ms.length ∧ ms[i]? = some m') ∨ (i = ms.length ∧ m' = m) := by
  rcases Nat.lt_trichotomy i ms.length with q | q | q
  · rw [List.getElem?_append_left q] at e
    exact Or.inl ⟨q, e⟩
  · subst q
    rw [List.getElem?_append_right (Nat.le_refl _), Nat.sub_self] at e
    simp only [List.getElem?_cons_zero, Option.some.injEq] at e
    exact Or.inr ⟨rfl, e.symm⟩
  · rw [List.getElem?_eq_none (by rw [List.length_append, List.length_singleton]; omega)] at e
    cases e
theorem c_mv (hw : WF h) (T : TxC h kt pt n tx) (hp : hI h 11 1 = nI p) (hp6 : p < 800) (hD : DV h bs ms) (hm : ms.length < 6) (Qt : (mvP (chF tx n) p).1 = true → ∀ h', Fq Pr h h' → hI h' 11 1 = nI (mvP (chF tx n) p).2.1 → DV h' bs (ms ++ [(mvP (chF tx n) p).2.2]) → Q (some (.int 1), h')) (Qf : ¬ (mvP (chF tx n) p).1 = true → ∀ h', Fq Pr h h' → hI h' 11 1 = nI (mvP (chF tx n) p).2.1 → Q (some (.int 0), h')) : Tr sc (d + 3) 37 (ent0 37 [.ref 11, .ref 4] h) Q := by
  have f11 : ∀ {a b : Nat}, a = 11 → Pr a b := fun q => Or.inl q
  rw [e_37]
  simp only [x_37_0, x_37_1, x_37_3, x_37_5, o_11 hw, cl2_i, cl2_r, cl2_n, cl2_l, tl_s, tl_n, true_and, and_true, Option.some.injEq, exists_eq_left', Bool.and_self, Bool.true_and, Bool.and_true, Bool.or_true, Bool.true_or, i_10, i_00, if_true, if_false, not_true_eq_false, not_false_eq_true, and_false, false_and, okp_sI, okp_sL, okp_aI, okp_aL, hR_sI, hR_sL, hR_aI, hR_aL, c_one hw T hp (show p < 1000 by omega) (show (-9 : Int32) < 47 by decide), e47]
  by_cases c1 : chF tx n p = 47
  · rw [if_pos c1]
    generalize hh1 : sI h 11 1 (nI (p + 1)) = h1
    have f1 : Fq (fun a _ => a = 11) h h1 := by rw [← hh1]; exact Fq.rf.sI rfl
    have p1 : hI h1 11 1 = nI (p + 1) := by rw [← hh1, hI_sI, if_pos rfl, if_pos rfl]
    have hw1 := f1.WF hw
    have T1 := T.fr f1 (fun a j h1 q => by omega)
    simp only [x_37_8, x_37_11, x_37_12, x_37_14, x_37_16, o_11 hw1, cl2_i, cl2_r, cl2_n, cl2_l, tl_s, tl_n, true_and, and_true, Option.some.injEq, exists_eq_left', Bool.and_self, Bool.true_and, Bool.and_true, Bool.or_true, Bool.true_or, i_10, i_00, if_true, if_false, not_true_eq_false, not_false_eq_true, and_false, false_and, okp_sI, okp_sL, okp_aI, okp_aL, hR_sI, hR_sL, hR_aI, hR_aL, c_one hw1 T1 p1 (show p + 1 < 1000 by omega) (show (-9 : Int32) < 97 by decide)]
    by_cases c2 : 97 ≤ chF tx n (p + 1) ∧ chF tx n (p + 1) ≤ 104
    · rw [if_pos c2]
      have hpn : p + 1 < n := ch_lt (by decide) c2.1
      generalize hh2 : sI h1 11 1 (nI (p + 1 + 1)) = h2
      have f2 : Fq (fun a _ => a = 11) h h2 := by rw [← hh2]; exact f1.sI rfl
      have p2 : hI h2 11 1 = nI (p + 2) := by rw [← hh2, hI_sI, if_pos rfl, if_pos rfl]
      have hw2 := f2.WF hw
      have T2 := T.fr f2 (fun a j h1 q => by omega)
      obtain ⟨t1, t2, t3, t4, t5, t6, t7, t8, t9, t10⟩ := id T2
      have e1 : nI (p + 2) - 1 = nI (p + 1) := nI_pred (p + 1)
      simp only [x_37_19, x_37_22, x_37_23, x_37_24, x_37_25, x_37_28, x_37_31, x_37_32, x_37_35, x_37_36, x_37_37, x_37_38, x_37_40, x_37_41, x_37_42, x_37_43, o_11 hw2, cl2_i, cl2_r, cl2_n, cl2_l, tl_s, tl_n, true_and, and_true, Option.some.injEq, exists_eq_left', Bool.and_self, Bool.true_and, Bool.and_true, Bool.or_true, Bool.true_or, i_10, i_00, if_true, if_false, not_true_eq_false, not_false_eq_true, and_false, false_and, okp_sI, okp_sL, okp_aI, okp_aL, hR_sI, hR_sL, hR_aI, hR_aL, t8, t1, t2, p2, e1, iOk_ok t3, iRd_ok t3, t4, inb_nI (i := p + 1) (n := 60) (by omega) (by decide), nI_clamp (n := p + 1) (by omega), t7]
      rw [← ch_v (tx := tx) hpn]
      have mv0 : mvP (chF tx n) p = (if 48 ≤ chF tx n (pfQ (chF tx n) (p + 2)) ∧ chF tx n (pfQ (chF tx n) (p + 2)) ≤ 57 then (if 48 ≤ chF tx n (pfQ (chF tx n) (pfQ (chF tx n) (p + 2) + 1)) ∧ chF tx n (pfQ (chF tx n) (pfQ (chF tx n) (p + 2) + 1)) ≤ 57 then (true, pfQ (chF tx n) (pfQ (chF tx n) (p + 2) + 1) + 1, chF tx n (p + 1) - 97, vlF (chF tx n) (p + 2), vlF (chF tx n) (pfQ (chF tx n) (p + 2) + 1)) else (false, pfQ (chF tx n) (pfQ (chF tx n) (p + 2) + 1), 0, 0, 0)) else (false, pfQ (chF tx n) (p + 2), 0, 0, 0)) := by unfold mvP; rw [if_pos c1, if_pos c2]
      have bq := pfQ_b (ch := chF tx n) (p := p + 2)
      refine c_fig hw2 T2 p2 (by omega) (fun o1 h3 f3 p3 v3 => ?_) (fun o1 h3 f3 p3 => ?_)
      · have hw3 := f3.WF hw2
        have T3 := T2.fr f3 (fun a j h1 q => by omega)
        simp only [x_37_46, x_37_49, x_37_50, x_37_51, x_37_52, x_37_55, x_37_56, x_37_57, o_11 hw3, cl2_i, cl2_r, cl2_n, cl2_l, tl_s, tl_n, true_and, and_true, Option.some.injEq, exists_eq_left', Bool.and_self, Bool.true_and, Bool.and_true, Bool.or_true, Bool.true_or, i_10, i_00, if_true, if_false, not_true_eq_false, not_false_eq_true, and_false, false_and, okp_sI, okp_sL, okp_aI, okp_aL, hR_sI, hR_sL, hR_aI, hR_aL, v3]
        refine c_fig hw3 T3 p3 (by omega) (fun o2 h4 f4 p4 v4 => ?_) (fun o2 h4 f4 p4 => ?_)
        · have hw4 := f4.WF hw3
          have f04 : Fq (fun a _ => a = 11) h h4 := f2.tr (f3.tr f4)
          have mv1 : mvP (chF tx n) p = (true, pfQ (chF tx n) (pfQ (chF tx n) (p + 2) + 1) + 1, chF tx n (p + 1) - 97, vlF (chF tx n) (p + 2), vlF (chF tx n) (pfQ (chF tx n) (p + 2) + 1)) := by rw [mv0, if_pos o1, if_pos o2]
          obtain ⟨g1, g2, g3⟩ := hD
          have g2' : hI h4 4 8 = nI ms.length := by rw [f04.i (by omega)]; exact g2
          simp only [x_37_60, x_37_63, x_37_64, x_37_65, x_37_66, x_37_67, x_37_68, x_37_69, x_37_72, o_11 hw4, cl2_i, cl2_r, cl2_n, cl2_l, tl_s, tl_n, true_and, and_true, Option.some.injEq, exists_eq_left', Bool.and_self, Bool.true_and, Bool.and_true, Bool.or_true, Bool.true_or, i_10, i_00, if_true, if_false, not_true_eq_false, not_false_eq_true, and_false, false_and, okp_sI, okp_sL, okp_aI, okp_aL, hR_sI, hR_sL, hR_aI, hR_aL, o_4 hw4, v4]
          rw [e_52]
          simp only [x_52_0, x_52_1, x_52_4, x_52_6, x_52_9, x_52_10, x_52_13, x_52_14, x_52_17, x_52_18, x_52_20, x_52_21, x_52_22, x_52_23, x_52_26, x_52_27, x_52_30, x_52_31, x_52_32, x_52_33, x_52_36, x_52_37, x_52_40, x_52_41, x_52_42, x_52_43, x_52_44, x_52_47, x_52_48, x_52_49, x_52_52, o_4 hw4, w_4_0 hw4, w_4_1 hw4, w_4_2 hw4, w_4_3 hw4, w_4_4 hw4, w_4_5 hw4, o_5 hw4, iOk_lt (k := 5) (by decide), iRd_lt (k := 5) (by decide), show LN 5 = 6 from rfl, o_6 hw4, iOk_lt (k := 6) (by decide), iRd_lt (k := 6) (by decide), show LN 6 = 6 from rfl, o_7 hw4, iOk_lt (k := 7) (by decide), iRd_lt (k := 7) (by decide), show LN 7 = 6 from rfl, cl2_i, cl2_r, cl2_n, cl2_l, tl_s, tl_n, true_and, and_true, Option.some.injEq, exists_eq_left', Bool.and_self, Bool.true_and, Bool.and_true, Bool.or_true, Bool.true_or, i_10, i_00, if_true, if_false, not_true_eq_false, not_false_eq_true, and_false, false_and, okp_sI, okp_sL, okp_aI, okp_aL, hR_sI, hR_sL, hR_aI, hR_aL, hI_sI, Nat.reduceEqDiff, g2', inb_nI (i := ms.length) (n := 6) (by omega) (by decide), nI_clamp (n := ms.length) (by omega), (turn7 c2.1 c2.2).1, nI_1]
          rw [if_neg (show ¬ (6 : Int32) ≤ nI ms.length from nI_ge (a := ms.length) (b := 6) (by omega) (by decide))]
          simp only [x_37_75, x_37_76, cl2_i, cl2_r, cl2_n, cl2_l, tl_s, tl_n, true_and, and_true, Option.some.injEq, exists_eq_left', Bool.and_self, Bool.true_and, Bool.and_true, Bool.or_true, Bool.true_or, i_10, i_00, if_true, if_false, not_true_eq_false, not_false_eq_true, and_false, false_and, okp_sI, okp_sL, okp_aI, okp_aL, hR_sI, hR_sL, hR_aI, hR_aL, vp_b1]
          refine Qt (by rw [mv1]) _ ((((Fq.wk f04 (fun a b q => f11 q)).sI (by unfold Pr; omega)).sI (by unfold Pr; omega)).sI (by unfold Pr; omega) |>.sI (by unfold Pr; omega)) ?_ ⟨?_, ?_, fun i m e => ?_⟩
          · rw [mv1]
            simp only [hI_sI, Nat.reduceEqDiff, if_false]
            exact p4
          · simp only [hI_sI, Nat.reduceEqDiff, if_false, if_true]
            rw [f04.i (by omega)]; exact g1
          · simp only [hI_sI, Nat.reduceEqDiff, if_false, if_true]
            rw [List.length_append]; rfl
          · rcases ap_get e with ⟨q1, q2⟩ | ⟨q1, q2⟩
            · obtain ⟨r1, r2, r3⟩ := g3 i m q2
              simp only [hI_sI, Nat.reduceEqDiff, if_false, if_true, if_neg (show ¬ i = ms.length by omega)]
              exact ⟨by rw [f04.i (by omega)]; exact r1, by rw [f04.i (by omega)]; exact r2, by rw [f04.i (by omega)]; exact r3⟩
            · rw [q2, q1, mv1]
              simp only [hI_sI, Nat.reduceEqDiff, if_false, if_true, and_self]
        · simp only [x_37_60, x_37_63, x_37_64, cl2_i, cl2_r, cl2_n, cl2_l, tl_s, tl_n, true_and, and_true, Option.some.injEq, exists_eq_left', Bool.and_self, Bool.true_and, Bool.and_true, Bool.or_true, Bool.true_or, i_10, i_00, if_true, if_false, not_true_eq_false, not_false_eq_true, and_false, false_and, okp_sI, okp_sL, okp_aI, okp_aL, hR_sI, hR_sL, hR_aI, hR_aL, vp_b0]
          have mv1 : mvP (chF tx n) p = (false, pfQ (chF tx n) (pfQ (chF tx n) (p + 2) + 1), 0, 0, 0) := by rw [mv0, if_pos o1, if_neg o2]
          exact Qf (by rw [mv1]; exact Bool.false_ne_true) h4 ((f2.tr (f3.tr f4)).wk (fun a b q => f11 q)) (by rw [mv1]; exact p4)
      · simp only [x_37_46, x_37_49, x_37_50, cl2_i, cl2_r, cl2_n, cl2_l, tl_s, tl_n, true_and, and_true, Option.some.injEq, exists_eq_left', Bool.and_self, Bool.true_and, Bool.and_true, Bool.or_true, Bool.true_or, i_10, i_00, if_true, if_false, not_true_eq_false, not_false_eq_true, and_false, false_and, okp_sI, okp_sL, okp_aI, okp_aL, hR_sI, hR_sL, hR_aI, hR_aL, vp_b0]
        have mv1 : mvP (chF tx n) p = (false, pfQ (chF tx n) (p + 2), 0, 0, 0) := by rw [mv0, if_neg o1]
        exact Qf (by rw [mv1]; exact Bool.false_ne_true) h3 ((f2.tr f3).wk (fun a b q => f11 q)) (by rw [mv1]; exact p3)
    · rw [if_neg c2]
      simp only [x_37_19, x_37_22, x_37_23, cl2_i, cl2_r, cl2_n, cl2_l, tl_s, tl_n, true_and, and_true, Option.some.injEq, exists_eq_left', Bool.and_self, Bool.true_and, Bool.and_true, Bool.or_true, Bool.true_or, i_10, i_00, if_true, if_false, not_true_eq_false, not_false_eq_true, and_false, false_and, okp_sI, okp_sL, okp_aI, okp_aL, hR_sI, hR_sL, hR_aI, hR_aL, vp_b0]
      have mv1 : mvP (chF tx n) p = (false, p + 1, 0, 0, 0) := by unfold mvP; rw [if_pos c1, if_neg c2]
      exact Qf (by rw [mv1]; exact Bool.false_ne_true) h1 (f1.wk (fun a b q => f11 q)) (by rw [mv1]; exact p1)
  · rw [if_neg c1]
    simp only [x_37_8, x_37_22, x_37_23, cl2_i, cl2_r, cl2_n, cl2_l, tl_s, tl_n, true_and, and_true, Option.some.injEq, exists_eq_left', Bool.and_self, Bool.true_and, Bool.and_true, Bool.or_true, Bool.true_or, i_10, i_00, if_true, if_false, not_true_eq_false, not_false_eq_true, and_false, false_and, okp_sI, okp_sL, okp_aI, okp_aL, hR_sI, hR_sL, hR_aI, hR_aL, vp_b0]
    have mv1 : mvP (chF tx n) p = (false, p, 0, 0, 0) := by unfold mvP; rw [if_neg c1]
    exact Qf (by rw [mv1]; exact Bool.false_ne_true) h Fq.rf (by rw [mv1]; exact hp)
theorem nI_m9 (hq : q < 2 ^ 31) : ¬ nI q = -9 := fun e => by
  have := nI_pos (n := q) hq
  rw [e] at this
  exact this (by decide)
theorem c_rl (hw : WF h) : ∀ (k i p : Nat) (H : PH) (acc : List (Int32 × Int32 × Int32)), i + k = 6 → 1 ≤ i → acc.length = i → p ≤ 1 + 6 * i → Fq Pr h H → TxC H kt pt n tx → hI H 11 1 = nI p → DV H bs acc → (∀ H', Fq Pr h H' → ((rdL (chF tx n) n k p).1 = -9 → DV H' bs (acc ++ (rdL (chF tx n) n k p).2)) → Q (some (.int (rdL (chF tx n) n k p).1), H')) → Tr sc (d + 4) 36 (44, [some (.ref 11), some (.ref kt), some (.ref 4), some (.int (nI i))], [], H) Q := by
  intro k
  induction k with
  | zero =>
    intro i p H acc hi h1 ha hp fr T p1 D hK
    have e : i = 6 := by omega
    subst e
    have hwH := fr.WF hw
    obtain ⟨t1, t2, t3, t4, t5, t6, t7, t8, t9, t10⟩ := id T
    have e1 : ((6 : Int32) < nI 6) = False := eq_false (by decide)
    have e2 : (nI 6 ≤ 0) = False := eq_false (by decide)
    have e3 : (nI 6 = 6) = True := eq_true rfl
    rw [x_36_44]
    simp only [x_36_45, x_36_47, x_36_50, x_36_51, x_36_54, x_36_55, x_36_58, x_36_59, x_36_62, x_36_65, x_36_68, x_36_70, x_36_71, x_36_72, x_36_74, x_36_77, x_36_78, x_36_79, x_36_82, x_36_85, x_36_86, x_36_89, o_11 hwH, cl2_i, cl2_r, cl2_n, cl2_l, tl_s, tl_n, true_and, and_true, Option.some.injEq, exists_eq_left', Bool.and_self, Bool.true_and, Bool.and_true, Bool.or_true, Bool.true_or, i_10, i_00, if_true, if_false, not_true_eq_false, not_false_eq_true, and_false, false_and, okp_sI, okp_sL, okp_aI, okp_aL, hR_sI, hR_sL, hR_aI, hR_aL, e1, e2, e3, p1, t8, t1, t5]
    have rd : rdL (chF tx n) n 0 p = (if n ≤ p then -9 else nI p, []) := rfl
    rw [rd] at hK
    by_cases q : n ≤ p
    · rw [if_neg (nI_nlt q (by omega))]
      rw [if_pos q] at hK
      exact hK H fr (fun _ => by rw [List.append_nil]; exact D)
    · rw [if_pos (nI_lt (by omega) (by omega))]
      rw [if_neg q] at hK
      exact hK H fr (fun z => absurd z (nI_m9 (by omega)))
  | succ k ih =>
    intro i p H acc hi h1 ha hp fr T p1 D hK
    have hwH := fr.WF hw
    obtain ⟨t1, t2, t3, t4, t5, t6, t7, t8, t9, t10⟩ := id T
    have e1 : ((6 : Int32) < nI i) = False := eq_false (show ¬ nI 6 < nI i from nI_nlt (by omega) (by omega))
    have e2 : (nI i ≤ 0) = False := eq_false (nI_nle (by omega) (by omega))
    have e3 : (nI i = 6) = False := eq_false (fun z => by have := (nI_eq (a := i) (b := 6) (by omega) (by decide)).mp z; omega)
    have rd : rdL (chF tx n) n (k + 1) p = if n ≤ p then (-9, []) else if (mvP (chF tx n) p).1 = true then ((rdL (chF tx n) n k (mvP (chF tx n) p).2.1).1, (mvP (chF tx n) p).2.2 :: (rdL (chF tx n) n k (mvP (chF tx n) p).2.1).2) else (nI (mvP (chF tx n) p).2.1, []) := rfl
    rw [rd] at hK
    rw [x_36_44]
    simp only [x_36_45, x_36_47, x_36_50, x_36_51, x_36_54, x_36_55, x_36_58, x_36_59, x_36_62, x_36_65, x_36_68, x_36_70, x_36_71, x_36_72, x_36_74, x_36_77, x_36_78, x_36_79, o_11 hwH, cl2_i, cl2_r, cl2_n, cl2_l, tl_s, tl_n, true_and, and_true, Option.some.injEq, exists_eq_left', Bool.and_self, Bool.true_and, Bool.and_true, Bool.or_true, Bool.true_or, i_10, i_00, if_true, if_false, not_true_eq_false, not_false_eq_true, and_false, false_and, okp_sI, okp_sL, okp_aI, okp_aL, hR_sI, hR_sL, hR_aI, hR_aL, e1, e2, e3, p1, t8, t1, t5, o_4 hwH]
    by_cases q : n ≤ p
    · rw [if_neg (nI_nlt q (by omega))]
      rw [if_pos q] at hK
      exact hK H fr (fun _ => by rw [List.append_nil]; exact D)
    · rw [if_pos (nI_lt (by omega) (by omega))]
      rw [if_neg q] at hK
      have mb := mvP_b (ch := chF tx n) (p := p)
      refine c_mv hwH T p1 (by omega) D (by omega) (fun o h' f' p' D' => ?_) (fun o h' f' p' => ?_)
      · rw [if_pos o] at hK
        simp only [x_36_82, x_36_90, x_36_93, cl2_i, cl2_r, cl2_n, cl2_l, tl_s, tl_n, true_and, and_true, Option.some.injEq, exists_eq_left', Bool.and_self, Bool.true_and, Bool.and_true, Bool.or_true, Bool.true_or, i_10, i_00, if_true, if_false, not_true_eq_false, not_false_eq_true, and_false, false_and, okp_sI, okp_sL, okp_aI, okp_aL, hR_sI, hR_sL, hR_aI, hR_aL, nI_1]
        refine ih (i + 1) _ h' _ (by omega) (by omega) (by rw [List.length_append, ha]; rfl) (by omega) (fr.tr f') (T.fr f' (fun a j h1 q => by unfold Pr at q; omega)) p' D' (fun H' f2 z => hK H' f2 (fun w => ?_))
        have := z w
        rw [List.append_assoc] at this
        exact this
      · rw [if_neg o] at hK
        have hw' := f'.WF hwH
        simp only [x_36_82, x_36_85, x_36_86, x_36_89, o_11 hw', cl2_i, cl2_r, cl2_n, cl2_l, tl_s, tl_n, true_and, and_true, Option.some.injEq, exists_eq_left', Bool.and_self, Bool.true_and, Bool.and_true, Bool.or_true, Bool.true_or, i_10, i_00, if_true, if_false, not_true_eq_false, not_false_eq_true, and_false, false_and, okp_sI, okp_sL, okp_aI, okp_aL, hR_sI, hR_sL, hR_aI, hR_aL, p']
        exact hK h' (fr.tr f') (fun z => absurd z (nI_m9 (by omega)))
theorem c_read (hw : WF h) (T : TxC (sR h 11 0 (some kt)) kt pt n tx) (hK : ∀ H, Fq Pr (sR h 11 0 (some kt)) H → ((rdA (chF tx n) n).1 = -9 → DV H (chF tx n 0 - 48) (rdA (chF tx n) n).2) → Q (some (.int (rdA (chF tx n) n).1), H)) : Tr sc (d + 4) 36 (ent0 36 [.ref 11, .ref kt, .ref 4] h) Q := by
  have hw0 : WF (sR h 11 0 (some kt)) := hw.src
  generalize hh0 : sR h 11 0 (some kt) = h0 at *
  have f1 : Fq Pr h0 (sI h0 11 1 0) := Fq.rf.sI (Or.inl rfl)
  have T1 := T.fr f1 (fun a j h1 q => by unfold Pr at q; omega)
  have hw1 := f1.WF hw0
  have p1 : hI (sI h0 11 1 0) 11 1 = nI 0 := by rw [hI_sI, if_pos rfl, if_pos rfl]; rfl
  rw [e_36]
  simp only [x_36_0, x_36_1, x_36_2, o_11 hw, cl2_i, cl2_r, cl2_n, cl2_l, tl_s, tl_n, true_and, and_true, Option.some.injEq, exists_eq_left', Bool.and_self, Bool.true_and, Bool.and_true, Bool.or_true, Bool.true_or, i_10, i_00, if_true, if_false, not_true_eq_false, not_false_eq_true, and_false, false_and, okp_sI, okp_sL, okp_aI, okp_aL, hR_sI, hR_sL, hR_aI, hR_aL, hh0]
  simp only [x_36_5, x_36_6, x_36_7, x_36_10, x_36_11, x_36_13, x_36_15, o_11 hw0, cl2_i, cl2_r, cl2_n, cl2_l, tl_s, tl_n, true_and, and_true, Option.some.injEq, exists_eq_left', Bool.and_self, Bool.true_and, Bool.and_true, Bool.or_true, Bool.true_or, i_10, i_00, if_true, if_false, not_true_eq_false, not_false_eq_true, and_false, false_and, okp_sI, okp_sL, okp_aI, okp_aL, hR_sI, hR_sL, hR_aI, hR_aL, c_one hw1 T1 p1 (by decide) (show (-9 : Int32) < 50 by decide)]
  by_cases c : 50 ≤ chF tx n 0 ∧ chF tx n 0 ≤ 52
  · have hn : 0 < n := ch_lt (by decide) c.1
    rw [if_pos c]
    obtain ⟨t1, t2, t3, t4, t5, t6, t7, t8, t9, t10⟩ := id T
    simp only [x_36_18, x_36_21, x_36_22, x_36_25, x_36_26, x_36_27, x_36_28, x_36_31, x_36_34, x_36_35, x_36_36, x_36_38, x_36_39, o_11 hw0, cl2_i, cl2_r, cl2_n, cl2_l, tl_s, tl_n, true_and, and_true, Option.some.injEq, exists_eq_left', Bool.and_self, Bool.true_and, Bool.and_true, Bool.or_true, Bool.true_or, i_10, i_00, if_true, if_false, not_true_eq_false, not_false_eq_true, and_false, false_and, okp_sI, okp_sL, okp_aI, okp_aL, hR_sI, hR_sL, hR_aI, hR_aL, t8, t1, t2, iOk_sI, iOk_ok t3, iRd_lt (okp_lt t3), t4, show inb 0 60 = true from rfl, cl_0, hI_sI, show ¬ pt = 11 by omega, t7, o_4 hw0]
    rw [← ch_v (tx := tx) hn, e_51]
    simp only [x_51_0, x_51_1, x_51_2, x_51_5, x_51_6, x_51_7, x_51_10, o_4 hw0, w_4_0 hw0, w_4_1 hw0, w_4_2 hw0, w_4_3 hw0, w_4_4 hw0, w_4_5 hw0, cl2_i, cl2_r, cl2_n, cl2_l, tl_s, tl_n, true_and, and_true, Option.some.injEq, exists_eq_left', Bool.and_self, Bool.true_and, Bool.and_true, Bool.or_true, Bool.true_or, i_10, i_00, if_true, if_false, not_true_eq_false, not_false_eq_true, and_false, false_and, okp_sI, okp_sL, okp_aI, okp_aL, hR_sI, hR_sL, hR_aI, hR_aL]
    generalize hh3 : sI (sI (sI (sI h0 11 1 0) 11 1 (nI (0 + 1))) 4 7 (chF tx n 0 - 48)) 4 8 0 = h3
    have f3 : Fq Pr h0 h3 := by rw [← hh3]; exact (((f1.sI (Or.inl rfl)).sI (by unfold Pr; omega)).sI (by unfold Pr; omega))
    have hw3 := f3.WF hw0
    have T3 := T.fr f3 (fun a j h1 q => by unfold Pr at q; omega)
    have p3 : hI h3 11 1 = nI 1 := by rw [← hh3]; rfl
    have D3 : DV h3 (chF tx n 0 - 48) [] := by rw [← hh3]; exact ⟨rfl, rfl, fun i m e => by simp at e⟩
    have e1 : ((6 : Int32) < 0) = False := eq_false (by decide)
    have e2 : ((0 : Int32) ≤ 0) = True := eq_true (by decide)
    have e3 : ((0 : Int32) = 6) = False := eq_false (by decide)
    have rd : rdA (chF tx n) n = if (mvP (chF tx n) 1).1 = true then ((rdL (chF tx n) n 5 (mvP (chF tx n) 1).2.1).1, (mvP (chF tx n) 1).2.2 :: (rdL (chF tx n) n 5 (mvP (chF tx n) 1).2.1).2) else (nI (mvP (chF tx n) 1).2.1, []) := by unfold rdA; rw [if_pos c]
    rw [rd] at hK
    simp only [x_36_42, x_36_43, x_36_44, x_36_45, x_36_47, x_36_50, x_36_51, x_36_54, x_36_55, x_36_58, x_36_59, x_36_62, x_36_65, x_36_68, x_36_70, x_36_71, x_36_72, x_36_74, x_36_77, x_36_78, x_36_79, o_11 hw3, cl2_i, cl2_r, cl2_n, cl2_l, tl_s, tl_n, true_and, and_true, Option.some.injEq, exists_eq_left', Bool.and_self, Bool.true_and, Bool.and_true, Bool.or_true, Bool.true_or, i_10, i_00, if_true, if_false, not_true_eq_false, not_false_eq_true, and_false, false_and, okp_sI, okp_sL, okp_aI, okp_aL, hR_sI, hR_sL, hR_aI, hR_aL, e1, e2, e3, o_4 hw3]
    have mb := mvP_b (ch := chF tx n) (p := 1)
    refine c_mv hw3 T3 p3 (by omega) D3 (by decide) (fun o h' f' p' D' => ?_) (fun o h' f' p' => ?_)
    · rw [if_pos o] at hK
      simp only [x_36_82, x_36_90, x_36_93, cl2_i, cl2_r, cl2_n, cl2_l, tl_s, tl_n, true_and, and_true, Option.some.injEq, exists_eq_left', Bool.and_self, Bool.true_and, Bool.and_true, Bool.or_true, Bool.true_or, i_10, i_00, if_true, if_false, not_true_eq_false, not_false_eq_true, and_false, false_and, okp_sI, okp_sL, okp_aI, okp_aL, hR_sI, hR_sL, hR_aI, hR_aL]
      refine c_rl (h := h0) hw0 5 1 _ h' _ (by omega) (by omega) rfl (by omega) (f3.tr f') (T3.fr f' (fun a j h1 q => by unfold Pr at q; omega)) p' D' (fun H' f2 z => hK H' f2 (fun w => z w))
    · rw [if_neg o] at hK
      have hw' := f'.WF hw3
      simp only [x_36_82, x_36_85, x_36_86, x_36_89, o_11 hw', cl2_i, cl2_r, cl2_n, cl2_l, tl_s, tl_n, true_and, and_true, Option.some.injEq, exists_eq_left', Bool.and_self, Bool.true_and, Bool.and_true, Bool.or_true, Bool.true_or, i_10, i_00, if_true, if_false, not_true_eq_false, not_false_eq_true, and_false, false_and, okp_sI, okp_sL, okp_aI, okp_aL, hR_sI, hR_sL, hR_aI, hR_aL, p']
      exact hK h' (f3.tr f') (fun z => absurd z (nI_m9 (by omega)))
  · rw [if_neg c]
    simp only [x_36_18, x_36_21, x_36_22, x_36_25, o_11 hw0, cl2_i, cl2_r, cl2_n, cl2_l, tl_s, tl_n, true_and, and_true, Option.some.injEq, exists_eq_left', Bool.and_self, Bool.true_and, Bool.and_true, Bool.or_true, Bool.true_or, i_10, i_00, if_true, if_false, not_true_eq_false, not_false_eq_true, and_false, false_and, okp_sI, okp_sL, okp_aI, okp_aL, hR_sI, hR_sL, hR_aI, hR_aL, hI_sI]
    have rd : rdA (chF tx n) n = (0, []) := by unfold rdA; rw [if_neg c]
    rw [rd] at hK
    exact hK _ f1 (fun z => absurd z (by decide))
end RD
