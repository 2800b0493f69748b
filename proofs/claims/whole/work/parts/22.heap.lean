/-! ===== reading a pure heap behind writing; numbers ===== -/
section HP
variable {sc : Nat × (Nat → Int32)} {h : PH} {k j a b c : Nat} {v : Int32} {w : Int64} {r : Option Nat} {f : Nat → Int32} {g : Nat → Int64}
theorem hN_sI : hN (sI h k j v) = hN h := rfl
theorem hN_sL : hN (sL h k j w) = hN h := rfl
theorem hN_sR : hN (sR h k j r) = hN h := rfl
theorem hN_aI : hN (aI h k f) = hN h := rfl
theorem hN_aL : hN (aL h k g) = hN h := rfl
theorem hN_nH : hN (nH h) = hN h + 1 := rfl
theorem hI_sI : hI (sI h k j v) a b = if a = k then (if b = j then v else hI h a b) else hI h a b := rfl
theorem hI_sL : hI (sL h k j w) a b = hI h a b := rfl
theorem hI_sR : hI (sR h k j r) a b = hI h a b := rfl
theorem hI_aI : hI (aI h k f) a b = if a = k then f b else hI h a b := by
  unfold hI aI up1; simp only; split <;> rfl
theorem hI_aL : hI (aL h k g) a b = hI h a b := rfl
theorem hL_sI : hL (sI h k j v) a b = hL h a b := rfl
theorem hL_sL : hL (sL h k j w) a b = if a = k then (if b = j then w else hL h a b) else hL h a b := rfl
theorem hL_sR : hL (sR h k j r) a b = hL h a b := rfl
theorem hL_aI : hL (aI h k f) a b = hL h a b := rfl
theorem hL_aL : hL (aL h k g) a b = if a = k then g b else hL h a b := by
  unfold hL aL up1; simp only; split <;> rfl
theorem hR_sI : hR (sI h k j v) a b = hR h a b := rfl
theorem hR_sL : hR (sL h k j w) a b = hR h a b := rfl
theorem hR_sR : hR (sR h k j r) a b = if a = k then (if b = j then r else hR h a b) else hR h a b := rfl
theorem hR_aI : hR (aI h k f) a b = hR h a b := rfl
theorem hR_aL : hR (aL h k g) a b = hR h a b := rfl
theorem okp_sI : okp (sI h k j v) a c = okp h a c := rfl
theorem okp_sL : okp (sL h k j w) a c = okp h a c := rfl
theorem okp_sR : okp (sR h k j r) a c = okp h a c := rfl
theorem okp_aI : okp (aI h k f) a c = okp h a c := rfl
theorem okp_aL : okp (aL h k g) a c = okp h a c := rfl
theorem okp_lt (e : okp h k c = true) : k < 1000 := (okp_spec e).2.1
theorem okp_of (hn : hN h = 164) (hk : k < 164) (ht : TG k = c) : okp h k c = true := by
  unfold okp
  rw [hn, ht, decide_eq_true hk, decide_eq_true (Nat.lt_trans hk (by decide)), decide_eq_true rfl]
  rfl
theorem iOk_lt {i : Int32} (hk : k < 1000) : iOk sc h k i = (okp h k 11 = true ∧ inb i (LN k) = true) := if_pos hk
theorem iRd_lt {i : Int32} (hk : k < 1000) : iRd sc h k i = hI h k i.toNatClampNeg := if_pos hk
theorem iOk_ok {i : Int32} (ho : okp h k 11 = true) : iOk sc h k i = (inb i (LN k) = true) := by
  rw [iOk_lt (okp_lt ho), ho]; simp
theorem iRd_ok {i : Int32} (ho : okp h k 11 = true) : iRd sc h k i = hI h k i.toNatClampNeg := iRd_lt (okp_lt ho)
theorem inb_iff {i : Int32} {n : Nat} : (inb i n = true) = (0 ≤ i.toInt ∧ i.toInt < n) := by
  apply propext
  rw [← vp_in_iff]
  unfold inb vp_in
  exact decide_eq_true_iff
theorem inb_nI {i n : Nat} (hi : i < n) (hn : n < 2 ^ 31) : inb (nI i) n = true := by
  rw [inb_iff, nI_toInt (Nat.lt_trans hi hn)]
  omega
/-- writing into a row that was written whole -/
theorem sI_aI : sI (aI h k f) k j v = aI h k (fun b => if b = j then v else f b) := by
  unfold sI aI up1 up2
  simp only [Prod.mk.injEq, and_true, true_and]
  funext a b
  by_cases e : a = k
  · simp [e]
  · simp [e]
theorem sL_aL : sL (aL h k g) k j w = aL h k (fun b => if b = j then w else g b) := by
  unfold sL aL up1 up2
  simp only [Prod.mk.injEq, and_true, true_and]
  funext a b
  by_cases e : a = k
  · simp [e]
  · simp [e]
theorem aI_id : aI h k (hI h k) = h := by
  unfold aI up1 hI
  obtain ⟨n, I, L, R⟩ := h
  simp only [Prod.mk.injEq, and_true, true_and]
  funext a
  by_cases e : a = k
  · simp [e]
  · simp [e]
theorem aL_id : aL h k (hL h k) = h := by
  unfold aL up1 hL
  obtain ⟨n, I, L, R⟩ := h
  simp only [Prod.mk.injEq, and_true, true_and]
  funext a
  by_cases e : a = k
  · simp [e]
  · simp [e]
theorem aI_aI {f' : Nat → Int32} : aI (aI h k f) k f' = aI h k f' := by
  unfold aI up1
  simp only [Prod.mk.injEq, and_true, true_and]
  funext a
  by_cases e : a = k
  · simp [e]
  · simp [e]
theorem cl2_i {x : Int32} : cl2 (some (.int x)) = some (.int x) := rfl
theorem cl2_r {x : Nat} : cl2 (some (.ref x)) = some (.ref x) := rfl
theorem cl2_n : cl2 none = none := rfl
theorem cl2_l {x : Int64} : cl2 (some (.long x)) = none := rfl
theorem vp_b0 : vp_nar .boolean 0 = 0 := rfl
theorem vp_b1 : vp_nar .boolean 1 = 1 := rfl
theorem tl_s {v : Value} {l : List Value} : (some v).toList ++ l = v :: l := rfl
theorem tl_n {l : List Value} : (none : Option Value).toList ++ l = l := rfl
end HP
