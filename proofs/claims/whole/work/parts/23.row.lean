/-! ===== Row, and Arrays.fill ===== -/
section RW
variable {sc : Nat × (Nat → Int32)} {d : Nat} {Q : PRes → Prop} {h : PH} {k q : Nat}
theorem fillI_loop {v : Int32} (ho : okp h k 11 = true) (hL : LN k < 2 ^ 31) : ∀ (n i : Nat), i + n = LN k → ∀ f : Nat → Int32, Tr sc d 257 (5, [some (.ref k), some (.int v), some (.int (nI i)), some (.int (nI (LN k)))], [], aI h k f) Q = Q (none, aI h k (fun b => if i ≤ b ∧ b < LN k then v else f b)) := by
  intro n
  induction n with
  | zero =>
    intro i hi f
    have e : i = LN k := by omega
    subst e
    rw [x_257_5]
    simp only [x_257_0, x_257_1, x_257_2, x_257_3, x_257_4, x_257_6, x_257_7, x_257_10, x_257_11, x_257_12, x_257_13, x_257_14, x_257_17, x_257_20]
    rw [if_pos (Int32.le_refl _)]
    congr 3
    funext b
    rw [if_neg (by omega)]
  | succ n ih =>
    intro i hi f
    have hlt : i < LN k := by omega
    rw [x_257_5]
    simp only [x_257_0, x_257_1, x_257_2, x_257_3, x_257_4, x_257_6, x_257_7, x_257_10, x_257_11, x_257_12, x_257_13, x_257_14, x_257_17, x_257_20, cl2_i, okp_aI, ho, inb_nI hlt hL, nI_clamp (Nat.lt_trans hlt hL), nI_1, Bool.and_self, true_and, sI_aI]
    rw [if_neg (nI_ge hlt hL), ih (i + 1) (by omega)]
    congr 3
    funext b
    by_cases e1 : b = i
    · rw [if_neg (by omega), if_pos e1, if_pos (by omega)]
    · by_cases e2 : i + 1 ≤ b ∧ b < LN k
      · rw [if_pos e2, if_pos (by omega)]
      · rw [if_neg e2, if_neg e1, if_neg (by omega)]
/-- Arrays.fill(int[], int) -/
theorem c_fillI {v : Int32} (ho : okp h k 11 = true) (hL : LN k < 2 ^ 31) : Tr sc d 257 (ent0 257 [.ref k, .int v] h) Q = Q (none, aI h k (fun b => if b < LN k then v else hI h k b)) := by
  rw [e_257]
  simp only [x_257_0, x_257_1, x_257_4, x_257_6, x_257_7, x_257_10, x_257_11, x_257_12, x_257_13, x_257_14, x_257_17, x_257_20, cl2_i]
  rw [x_257_2, x_257_3 (okp_lt ho), x_257_4]
  have h0 := fillI_loop (sc := sc) (d := d) (Q := Q) (v := v) ho hL (LN k) 0 (by omega) (hI h k)
  rw [aI_id] at h0
  simp only [ho, Bool.true_or, true_and, cl2_i]
  refine Eq.trans h0 ?_
  congr 3
  funext b
  simp
theorem c_Row_isMissing (ho : okp h k 5 = true) : Tr sc d 42 (ent0 42 [.ref k] h) Q = Q (some (.int (if hI h k 1 < 0 then 1 else 0)), h) := by
  rw [e_42]
  simp only [x_42_0, x_42_1, x_42_4, x_42_7, x_42_8, x_42_11, x_42_12, ho, true_and]
  by_cases e : hI h k 1 < 0
  · rw [if_pos e, if_neg (by rw [Int32.not_le]; exact e)]
    simp only [vp_b1, true_and]
  · rw [if_neg e, if_pos (Int32.not_lt.mp e)]
    simp only [vp_b0, true_and]
end RW
