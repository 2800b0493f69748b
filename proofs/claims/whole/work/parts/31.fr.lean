/-! ===== what keeps the agreement ===== -/
section FR
variable {sc : Nat × (Nat → Int32)} {d : Nat} {Q : PRes → Prop} {h h' : PH} {P : Nat → Prop}
theorem CMr_fr (f : Fr P h h') (hp : ∀ a, P a → ¬ ((48 ≤ a ∧ a < 60) ∨ a = 126 ∨ a = 127)) (c : CMr h) : CMr h' := by
  intro r hr
  obtain ⟨c1, c2⟩ := c r hr
  have e1 := (f.2.2 (48 + 2 * r) (fun q => hp _ q (Or.inl (by omega))) 1).1
  have e2 := (f.2.2 126 (fun q => hp _ q (Or.inr (Or.inl rfl))) r).1
  refine ⟨by rw [e1, e2]; exact c1, fun j hj => ?_⟩
  rw [(f.2.2 127 (fun q => hp _ q (Or.inr (Or.inr rfl))) _).1, (f.2.2 (49 + 2 * r) (fun q => hp _ q (Or.inl (by omega))) j).1]
  exact c2 j hj
theorem CMt_fr (f : Fr P h h') (hp : ∀ a, P a → ¬ ((60 ≤ a ∧ a < 68) ∨ a = 129 ∨ a = 130)) (c : CMt h) : CMt h' := by
  intro r hr
  obtain ⟨c1, c2⟩ := c r hr
  have e1 := (f.2.2 (60 + 2 * r) (fun q => hp _ q (Or.inl (by omega))) 1).1
  have e2 := (f.2.2 129 (fun q => hp _ q (Or.inr (Or.inl rfl))) r).1
  refine ⟨by rw [e1, e2]; exact c1, fun j hj => ?_⟩
  rw [(f.2.2 130 (fun q => hp _ q (Or.inr (Or.inr rfl))) _).1, (f.2.2 (61 + 2 * r) (fun q => hp _ q (Or.inl (by omega))) j).1]
  exact c2 j hj
theorem CMs_fr (f : Fr P h h') (hp : ∀ a, P a → ¬ ((68 ≤ a ∧ a < 124) ∨ (132 ≤ a ∧ a < 139))) (c : CMs h) : CMs h' := by
  intro s hs
  have key : ∀ a, (68 ≤ a ∧ a < 124) ∨ (132 ≤ a ∧ a < 139) → ∀ b, hI h' a b = hI h a b := fun a ha b => (f.2.2 a (fun q => hp a q ha) b).1
  have kf : ∀ a, (68 ≤ a ∧ a < 124) ∨ (132 ≤ a ∧ a < 139) → hI h' a = hI h a := fun a ha => funext (key a ha)
  have c1 := c s hs
  rw [kf (68 + 7 * s) (by omega), kf (69 + 7 * s) (by omega), kf (70 + 7 * s) (by omega), kf (71 + 7 * s) (by omega), kf (72 + 7 * s) (by omega), kf 132 (by omega), kf 133 (by omega), kf 134 (by omega), kf 135 (by omega), kf 136 (by omega), kf 137 (by omega), kf 138 (by omega)]
  exact c1
/-- only cells that are told of here have changed, and CMf is seen to directly -/
theorem CM_fr (c : CM h) (f : Fr P h h') (hp : ∀ a, P a → ¬ ((48 ≤ a ∧ a < 124) ∨ a = 126 ∨ a = 127 ∨ a = 129 ∨ a = 130 ∨ (132 ≤ a ∧ a < 139))) (hf : CMf h') : CM h' :=
  ⟨Fr_WF f c.1, hf, CMr_fr f (fun a q z => hp a q (by omega)) c.2.2.1, CMt_fr f (fun a q z => hp a q (by omega)) c.2.2.2.1, CMs_fr f (fun a q z => hp a q (by omega)) c.2.2.2.2⟩
theorem fr_refu {f : Nat} : Fr (fun a => a = 0 ∨ a = 47) h (refu h f) := (Fr_sI (Or.inl rfl)).tr (Fr_sI (Or.inr rfl))
theorem fr_refm {f : Nat} : Fr (fun a => a = 124 ∨ a = 125) h (refm h f) := (Fr_sI (Or.inl rfl)).tr (Fr_sI (Or.inr rfl))
theorem cm_ref {f : Nat} (hf : f < 6) (c : CM h) : CM (refm (refu h f) f) := by
  refine CM_fr (P := fun a => a = 0 ∨ a = 47 ∨ a = 124 ∨ a = 125) c ((fr_refu.wk (fun x q => by omega)).tr (fr_refm.wk (fun x q => by omega))) (fun a q => by omega) ?_
  obtain ⟨f1, f2, f3, f4, f5, f6⟩ := c.2.1
  refine ⟨rfl, fun g hg => ?_, f3, f4, f5, f6⟩
  unfold refm refu
  simp only [hI_sI]
  simp only [if_true, Nat.reduceEqDiff, if_false]
  by_cases e : g = f
  · simp only [e, if_true]
    rw [f2 f hf]
  · simp only [e, if_false]
    exact f2 g hg
end FR
