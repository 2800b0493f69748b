/-! ===== weighed, barred: the class ===== -/
def allB (g : Nat → Bool) : Nat → Nat → Bool
  | _, 0 => true
  | i, n + 1 => g i && allB g (i + 1) n
section WG
variable {sc : Nat × (Nat → Int32)} {d : Nat} {Q : PRes → Prop} {h : PH} {k s u r q : Nat} {x y z : Int32}
theorem allB_congr {f g : Nat → Bool} : ∀ (n i : Nat), (∀ j, i ≤ j → j < i + n → f j = g j) → allB f i n = allB g i n
  | 0, _, _ => rfl
  | n + 1, i, hh => by
    unfold allB
    rw [hh i (by omega) (by omega), allB_congr n (i + 1) (fun j h1 h2 => hh j (by omega) (by omega))]
theorem allB_at {g : Nat → Bool} : ∀ (n i : Nat), allB g i n = true → ∀ j, i ≤ j → j < i + n → g j = true
  | 0, _, _, j, h1, h2 => by omega
  | n + 1, i, hh, j, h1, h2 => by
    unfold allB at hh
    have h3 := (Bool.and_eq_true _ _).mp hh
    by_cases e : j = i
    · rw [e]; exact h3.1
    · exact allB_at n (i + 1) h3.2 j (by omega) (by omega)
theorem c_takeMoves {q0 q1 q2 k' p0 p1 p2 M : Nat} (ho : okp h k 6 = true) (ho' : okp h k' 6 = true) (r0 : hR h k 0 = some q0) (r1 : hR h k 1 = some q1) (r2 : hR h k 2 = some q2) (r0' : hR h k' 0 = some p0) (r1' : hR h k' 1 = some p1) (r2' : hR h k' 2 = some p2) (o0 : okp h q0 11 = true) (o1 : okp h q1 11 = true) (o2 : okp h q2 11 = true) (o0' : okp h p0 11 = true) (o1' : okp h p1 11 = true) (o2' : okp h p2 11 = true) (n0 : LN q0 = 6) (n1 : LN q1 = 6) (n2 : LN q2 = 6) (n0' : LN p0 = 6) (n1' : LN p1 = 6) (n2' : LN p2 = 6) (kn : k ≠ q0 ∧ k ≠ q1 ∧ k ≠ q2) (qn : q0 ≠ q1 ∧ q0 ≠ q2 ∧ q1 ≠ q2) (pn : p1 ≠ q0 ∧ p2 ≠ q0 ∧ p2 ≠ q1) (pk : p0 ≠ k ∧ p1 ≠ k ∧ p2 ≠ k) (hM : M ≤ 6) (hz : hI h k' 8 = nI M) (hK : ∀ h', TkM h h' k q0 q1 q2 (hI h k' 7) M (hI h p0) (hI h p1) (hI h p2) → Q (none, h')) : Tr sc d 53 (ent0 53 [.ref k, .ref k'] h) Q := by
  have z8 : hI (sI h k 7 (hI h k' 7)) k' 8 = nI M := by rw [rd_ne (Or.inr (by decide))]; exact hz
  rw [e_53]
  simp only [x_53_0, x_53_1, x_53_2, x_53_5, x_53_8, x_53_9, x_53_10, x_53_13, x_53_16, x_53_17, ho, ho', okp_sI, true_and, z8, cl2_i, cl2_r, cl2_n]
  refine c_tm_loop (h := h) (b := hI h k' 7) (t := hI h p0) (x := hI h p1) (y := hI h p2) ho ho' r0 r1 r2 r0' r1' r2' o0 o1 o2 o0' o1' o2' n0 n1 n2 n0' n1' n2' kn qn pn hM hK M 0 _ (by omega) ((Fr_sI (Or.inl rfl)).tr (Fr_sI (Or.inl rfl))) ?_ ?_ ?_ (fun j hj => by omega) (fun j _ _ => ?_)
  · rw [rd_ne (Or.inr (by decide)), rd_eq]
  · rw [rd_eq]
  · rw [rd_ne (Or.inr (by decide)), rd_ne (Or.inr (by decide))]
  · rw [rd_ne (Or.inl pk.1), rd_ne (Or.inl pk.1), rd_ne (Or.inl pk.2.1), rd_ne (Or.inl pk.2.1), rd_ne (Or.inl pk.2.2), rd_ne (Or.inl pk.2.2)]
    exact ⟨rfl, rfl, rfl⟩
/-- what takeExtras leaves behind -/
def TkE (h h' : PH) (k q3 : Nat) (kd : Int32) (M : Nat) (e : Nat → Int32) : Prop := Fr (fun a => a = k ∨ a = q3) h h' ∧ hI h' k 6 = kd ∧ hI h' k 7 = hI h k 7 ∧ hI h' k 8 = hI h k 8 ∧ ∀ j, j < M → hI h' q3 j = e j
theorem c_te_loop {q3 kr pr M : Nat} {kd : Int32} {e : Nat → Int32} (ho : okp h k 6 = true) (hor : okp h kr 5 = true) (r3 : hR h k 3 = some q3) (rr : hR h kr 0 = some pr) (o3 : okp h q3 11 = true) (opr : okp h pr 11 = true) (n3 : LN q3 = 6) (npr : LN pr = 40) (ne : k ≠ q3 ∧ kr ≠ k ∧ kr ≠ q3 ∧ pr ≠ k ∧ pr ≠ q3) (hM : M ≤ 6) (hzr : hI h kr 1 = nI M) (he : ∀ j, j < M → hI h pr j = e j) (hK : ∀ h', TkE h h' k q3 kd M e → Q (none, h')) : ∀ (n i : Nat) (H : PH), i + n = M → Fr (fun a => a = k ∨ a = q3) h H → hI H k 6 = kd → hI H k 7 = hI h k 7 → hI H k 8 = hI h k 8 → hI h k 8 = nI M → (∀ j, j < i → hI H q3 j = e j) → Tr sc d 54 (7, [some (.ref k), some (.int kd), some (.ref kr), some (.int (nI i))], [], H) Q := by
  intro n
  induction n with
  | zero =>
    intro i H hi fr f6 f7 f8 hz g1
    have e : i = M := by omega
    subst e
    rw [x_54_7]
    simp only [x_54_8, x_54_9, x_54_12, x_54_15, x_54_16, x_54_17, x_54_20, x_54_23, x_54_24, x_54_27, x_54_28, x_54_29, x_54_32, x_54_33, x_54_34, x_54_35, x_54_38, x_54_41, Fr_okp fr, ho, true_and, f8, hz]
    rw [if_pos (Int32.le_refl _)]
    exact hK H ⟨fr, f6, f7, f8, g1⟩
  | succ n ih =>
    intro i H hi fr f6 f7 f8 hz g1
    have hlt : i < M := by omega
    have fr1 : hI H kr 1 = nI M := by rw [(fr.2.2 kr (fun z => z.elim ne.2.1 ne.2.2.1) 1).1]; exact hzr
    have fr2 : hI H pr i = e i := by rw [(fr.2.2 pr (fun z => z.elim ne.2.2.2.1 ne.2.2.2.2) i).1]; exact he i hlt
    have oP : okp H pr 11 = true := by rw [Fr_okp fr]; exact opr
    rw [x_54_7]
    simp only [x_54_8, x_54_9, x_54_12, x_54_15, x_54_16, x_54_17, x_54_20, x_54_23, x_54_24, x_54_27, x_54_28, x_54_29, x_54_32, x_54_33, x_54_34, x_54_35, x_54_38, x_54_41, Fr_okp fr, fr.2.1, ho, hor, r3, rr, o3, opr, true_and, f8, hz, fr1, Option.some.injEq, exists_eq_left', iOk_ok oP, iRd_ok oP, npr, n3, inb_nI (i := i) (n := 40) (by omega) (by decide), inb_nI (i := i) (n := 6) (by omega) (by decide), nI_clamp (n := i) (by omega), fr2, Bool.and_self, nI_1, cl2_r, cl2_n, cl2_i]
    rw [if_neg (nI_ge hlt (by omega)), if_neg (nI_ge hlt (by omega))]
    refine ih (i + 1) _ (by omega) (fr.tr (Fr_sI (Or.inr rfl))) (by rw [rd_ne (Or.inl ne.1)]; exact f6) (by rw [rd_ne (Or.inl ne.1)]; exact f7) (by rw [rd_ne (Or.inl ne.1)]; exact f8) hz (fun j hj => ?_)
    by_cases z : j = i
    · subst z
      exact rd_eq
    · rw [rd_ne (Or.inr z)]
      exact g1 j (by omega)
theorem c_takeExtras {q3 kr pr M : Nat} {kd : Int32} (ho : okp h k 6 = true) (hor : okp h kr 5 = true) (r3 : hR h k 3 = some q3) (rr : hR h kr 0 = some pr) (o3 : okp h q3 11 = true) (opr : okp h pr 11 = true) (n3 : LN q3 = 6) (npr : LN pr = 40) (ne : k ≠ q3 ∧ kr ≠ k ∧ kr ≠ q3 ∧ pr ≠ k ∧ pr ≠ q3) (hM : M ≤ 6) (hzr : hI h kr 1 = nI M) (hz : hI h k 8 = nI M) (hK : ∀ h', TkE h h' k q3 kd M (hI h pr) → Q (none, h')) : Tr sc d 54 (ent0 54 [.ref k, .int kd, .ref kr] h) Q := by
  rw [e_54]
  simp only [x_54_0, x_54_1, x_54_2, x_54_5, x_54_6, ho, true_and, cl2_i, cl2_r, cl2_n]
  refine c_te_loop (h := h) (e := hI h pr) ho hor r3 rr o3 opr n3 npr ne hM hzr (fun _ _ => rfl) hK M 0 _ (by omega) (Fr_sI (Or.inl rfl)) rd_eq ?_ ?_ hz (fun j hj => by omega)
  · rw [rd_ne (Or.inr (by decide))]
  · rw [rd_ne (Or.inr (by decide))]
theorem c_told (hw : WF h) (hs : s < 8) (hu : u < 8) (hr : r < 6) : Tr sc (d + 1) 149 (ent0 149 [.ref 0, .int (nI s), .int (nI u), .int (nI r)] h) Q = if hI h (68 + 7 * u) 6 = -1 ∨ hI h (48 + 2 * r) 1 < 0 then Q (some (.int (-3)), refu h 1) else if hI h (48 + 2 * r) 1 = hI h (68 + 7 * u) 8 then Q (some (.int 0), h) else Q (some (.int (-3)), refu h 5) := by
  obtain ⟨w1, w2, -⟩ := hw.shape hu
  obtain ⟨v1, v2, v3, v4, v5⟩ := hw.row hr
  rw [e_149]
  simp only [x_149_0, x_149_1, x_149_4, x_149_7, x_149_8, x_149_11, x_149_14, x_149_15, x_149_18, x_149_21, x_149_22, x_149_23, x_149_24, x_149_27, x_149_28, x_149_29, x_149_32, x_149_35, x_149_36, x_149_39, x_149_40, x_149_41, x_149_44, x_149_47, x_149_48, x_149_49, x_149_52, x_149_53, x_149_54, x_149_57, x_149_58, x_149_59, x_149_62, x_149_63, x_149_66, x_149_67, x_149_68, x_149_71, x_149_74, x_149_75, x_149_78, x_149_79, x_149_80, x_149_83, c_isShape, c_isRow, isShape_t hs, isShape_t hu, isRow_t hr, i_10, if_false, tl_s, o_0 hw, w_0_0 hw, w_0_2 hw, o_1 hw, o_3 hw, Bool.or_true, Bool.true_or, inb_nI (n := LN 3) hu (by decide), inb_nI (n := LN 1) hr (by decide), Bool.and_self, nI_clamp (n := u) (by omega), nI_clamp (n := r) (by omega), w1, w2, v1, v3, true_and, Option.some.injEq, exists_eq_left', c_sMiss w2, c_isMiss v3, bI_0, c_refuse_1 hw, c_refuse_5 hw]
  by_cases e1 : hI h (68 + 7 * u) 6 = -1
  · rw [if_neg (fun z => z e1), if_pos (Or.inl e1)]
  · rw [if_pos e1]
    by_cases e2 : hI h (48 + 2 * r) 1 < 0
    · rw [if_neg (fun z => z e2), if_pos (Or.inr e2)]
    · rw [if_pos e2, if_neg (fun z : hI h (68 + 7 * u) 6 = -1 ∨ hI h (48 + 2 * r) 1 < 0 => z.elim e1 e2)]
theorem c_told_bad (hb : ¬ (0 ≤ x ∧ x < 8) ∨ ¬ (0 ≤ y ∧ y < 8) ∨ ¬ (0 ≤ z ∧ z < 6)) : Tr sc (d + 1) 149 (ent0 149 [.ref 0, .int x, .int y, .int z] h) Q = Q (some (.int (-1)), h) := by
  rw [e_149]
  simp only [x_149_0, x_149_1, x_149_4, x_149_7, x_149_8, x_149_11, x_149_14, x_149_15, x_149_18, x_149_21, x_149_22, c_isShape, c_isRow, tl_s, bI_0]
  by_cases e1 : 0 ≤ x ∧ x < 8
  · rw [if_neg (fun q => q e1)]
    by_cases e2 : 0 ≤ y ∧ y < 8
    · rw [if_neg (fun q => q e2), if_pos]
      exact (hb.resolve_left (fun q => q e1)).resolve_left (fun q => q e2)
    · rw [if_pos e2]
  · rw [if_pos e1]
def gW (v : Int32) : Bool := decide (1 ≤ v ∧ v ≤ 99)
theorem c_wl {kr pr M : Nat} {l1 l2 l3 l4 : Option Value} (hw : WF h) (hor : okp h kr 5 = true) (rr : hR h kr 0 = some pr) (opr : okp h pr 11 = true) (npr : LN pr = 40) (hM : M ≤ 6) (hzr : hI h kr 1 = nI M) (c4 : cl2 l4 = l4) : ∀ (n i : Nat), i + n = M → Tr sc (d + 1) 106 (28, [some (.ref 0), l1, l2, l3, l4, some (.ref kr), some (.int (nI i))], [], h) Q = if allB (fun j => gW (hI h pr j)) i n = true then Tr sc (d + 1) 106 (75, [some (.ref 0), l1, l2, l3, l4, some (.ref kr), some (.int (nI M))], [], h) Q else Q (some (.int (-3)), refu h 3) := by
  intro n
  induction n with
  | zero =>
    intro i hi
    have e : i = M := by omega
    subst e
    rw [x_106_28]
    simp only [x_106_30, x_106_32, x_106_35, x_106_38, x_106_40, x_106_43, x_106_45, x_106_46, x_106_47, x_106_50, x_106_52, x_106_55, x_106_57, x_106_58, x_106_60, x_106_63, x_106_64, x_106_65, x_106_68, x_106_69, x_106_72, hor, true_and, hzr]
    rw [if_pos (Int32.le_refl _)]
    exact (if_pos rfl).symm
  | succ n ih =>
    intro i hi
    have hlt : i < M := by omega
    have st := ih (i + 1) (by omega)
    have ex : allB (fun j => gW (hI h pr j)) i (n + 1) = (gW (hI h pr i) && allB (fun j => gW (hI h pr j)) (i + 1) n) := rfl
    rw [x_106_28]
    simp only [x_106_30, x_106_32, x_106_35, x_106_38, x_106_40, x_106_43, x_106_45, x_106_46, x_106_47, x_106_50, x_106_52, x_106_55, x_106_57, x_106_58, x_106_60, x_106_63, x_106_64, x_106_65, x_106_68, x_106_69, x_106_72, hor, rr, opr, o_0 hw, true_and, hzr, Option.some.injEq, exists_eq_left', iOk_ok opr, iRd_ok opr, npr, inb_nI (i := i) (n := 40) (by omega) (by decide), nI_clamp (n := i) (by omega), c_refuse_3 hw, tl_s, nI_1, cl2_r, cl2_n, cl2_i]
    rw [if_neg (nI_ge hlt (by omega)), ex]
    by_cases e1 : hI h pr i < 1
    · rw [if_pos e1, show gW (hI h pr i) = false from decide_eq_false (fun q => Int32.not_le.mpr e1 q.1), Bool.false_and, if_neg (by decide)]
    · rw [if_neg e1]
      by_cases e2 : hI h pr i ≤ 99
      · rw [if_pos e2, show gW (hI h pr i) = true from decide_eq_true ⟨Int32.not_lt.mp e1, e2⟩, Bool.true_and]
        exact st
      · rw [if_neg e2, show gW (hI h pr i) = false from decide_eq_false (fun q => e2 q.2), Bool.false_and, if_neg (by decide)]
end WG
