/-! ===== the two objects agree ===== -/
def CMf (h : PH) : Prop := hI h 0 14 = hI h 124 0 ∧ (∀ f, f < 6 → hI h 47 f = hI h 125 f) ∧ hI h 0 15 = hI h 124 2 ∧ hL h 0 16 = hL h 124 3 ∧ hL h 0 17 = hL h 124 4 ∧ hL h 0 18 = hL h 124 5
def CMr (h : PH) : Prop := ∀ r, r < 6 → ((hI h (48 + 2 * r) 1 = -1 ∧ hI h 126 r < 0) ∨ (0 ≤ hI h (48 + 2 * r) 1 ∧ hI h (48 + 2 * r) 1 ≤ 40 ∧ hI h 126 r = hI h (48 + 2 * r) 1)) ∧ ∀ j, j < 40 → hI h 127 (40 * r + j) = hI h (49 + 2 * r) j
def CMt (h : PH) : Prop := ∀ t, t < 4 → ((hI h (60 + 2 * t) 1 = -1 ∧ hI h 129 t < 0) ∨ (0 ≤ hI h (60 + 2 * t) 1 ∧ hI h (60 + 2 * t) 1 ≤ 60 ∧ hI h 129 t = hI h (60 + 2 * t) 1)) ∧ ∀ j, j < 60 → hI h 130 (60 * t + j) = hI h (61 + 2 * t) j
/-- a shape that is there: base, moves, turns, shifts, and what its kind says of them -/
def ShOk (kd bs mv : Int32) (tn sx sy ex : Nat → Int32) : Prop := (0 ≤ kd ∧ kd ≤ 4) ∧ (2 ≤ bs ∧ bs ≤ 4) ∧ (1 ≤ mv ∧ mv ≤ 6) ∧ (∀ i : Nat, nI i < mv → i < 6 → (0 ≤ tn i ∧ tn i ≤ 7) ∧ (-9 ≤ sx i ∧ sx i ≤ 9) ∧ (-9 ≤ sy i ∧ sy i ≤ 9) ∧ (kd = 1 ∨ kd = 2 → tn i = 0) ∧ (kd = 3 → 1 ≤ ex i ∧ ex i ≤ 99) ∧ (kd = 4 → 0 ≤ ex i ∧ ex i < 1 <<< (mv &&& 31)))
def CMs (h : PH) : Prop := ∀ s, s < 8 → (hI h (68 + 7 * s) 6 = -1 ∧ hI h 134 s = 0) ∨ (ShOk (hI h (68 + 7 * s) 6) (hI h (68 + 7 * s) 7) (hI h (68 + 7 * s) 8) (hI h (69 + 7 * s)) (hI h (70 + 7 * s)) (hI h (71 + 7 * s)) (hI h (72 + 7 * s)) ∧ hI h 132 s = hI h (68 + 7 * s) 6 ∧ hI h 133 s = hI h (68 + 7 * s) 7 ∧ hI h 134 s = hI h (68 + 7 * s) 8 ∧ ∀ i : Nat, i < 6 → nI i < hI h (68 + 7 * s) 8 → hI h 135 (6 * s + i) = hI h (69 + 7 * s) i ∧ hI h 136 (6 * s + i) = hI h (70 + 7 * s) i ∧ hI h 137 (6 * s + i) = hI h (71 + 7 * s) i ∧ (hI h (68 + 7 * s) 6 = 3 ∨ hI h (68 + 7 * s) 6 = 4 → hI h 138 (6 * s + i) = hI h (72 + 7 * s) i))
def CM (h : PH) : Prop := WF h ∧ CMf h ∧ CMr h ∧ CMt h ∧ CMs h
/-- class and model, one behind the other, answer alike and agree again -/
def Both (sc : Nat × (Nat → Int32)) (yc ym : Nat) (as : List Value) (h : PH) : Prop := Tr sc 19 yc (ent0 yc (.ref 0 :: as) h) (fun r1 => Tr sc 19 ym (ent0 ym (.ref 124 :: as) r1.2) (fun r2 => (∃ v, r1.1 = some v ∧ r2.1 = some v) ∧ CM r2.2))
section CM
variable {sc : Nat × (Nat → Int32)} {d : Nat} {Q : PRes → Prop} {h : PH}
theorem both_many (hc : CM h) : Both sc 133 242 [] h := by
  unfold Both
  obtain ⟨hw, hf, -⟩ := id hc
  rw [e_133]
  simp only [x_133_0, x_133_1, x_133_4, o_0 hw, true_and]
  rw [e_242]
  simp only [x_242_0, x_242_1, x_242_4, o_124 hw, true_and, Option.some.injEq, exists_eq_left', Value.long.injEq]
  exact ⟨hf.2.2.2.1.symm, hc⟩
theorem both_asked (hc : CM h) : Both sc 134 243 [] h := by
  unfold Both
  obtain ⟨hw, hf, -⟩ := id hc
  rw [e_134]
  simp only [x_134_0, x_134_1, x_134_4, o_0 hw, true_and]
  rw [e_243]
  simp only [x_243_0, x_243_1, x_243_4, o_124 hw, true_and, Option.some.injEq, exists_eq_left', Value.int.injEq]
  exact ⟨hf.2.2.1.symm, hc⟩
theorem both_upper (hc : CM h) : Both sc 135 244 [] h := by
  unfold Both
  obtain ⟨hw, hf, -⟩ := id hc
  rw [e_135]
  simp only [x_135_0, x_135_1, x_135_4, o_0 hw, true_and]
  rw [e_244]
  simp only [x_244_0, x_244_1, x_244_4, o_124 hw, true_and, Option.some.injEq, exists_eq_left', Value.long.injEq]
  exact ⟨hf.2.2.2.2.1.symm, hc⟩
theorem both_lower (hc : CM h) : Both sc 136 245 [] h := by
  unfold Both
  obtain ⟨hw, hf, -⟩ := id hc
  rw [e_136]
  simp only [x_136_0, x_136_1, x_136_4, o_0 hw, true_and]
  rw [e_245]
  simp only [x_245_0, x_245_1, x_245_4, o_124 hw, true_and, Option.some.injEq, exists_eq_left', Value.long.injEq]
  exact ⟨hf.2.2.2.2.2.symm, hc⟩
theorem both_finding (hc : CM h) : Both sc 138 247 [] h := by
  unfold Both
  obtain ⟨hw, hf, -⟩ := id hc
  rw [e_138]
  simp only [x_138_0, x_138_1, x_138_4, o_0 hw, true_and]
  rw [e_247]
  simp only [x_247_0, x_247_1, x_247_4, o_124 hw, true_and, Option.some.injEq, exists_eq_left', Value.int.injEq]
  exact ⟨hf.1.symm, hc⟩
end CM
