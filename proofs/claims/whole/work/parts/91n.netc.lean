/-! ===== the class's net: one step of the way down ===== -/
def PNt (a b : Nat) : Prop := (35 ≤ a ∧ a ≤ 39) ∨ (a = 32 ∧ (b = 10 ∨ b = 11))
def PNw (a b : Nat) : Prop := (35 ≤ a ∧ a ≤ 39) ∨ (a = 32 ∧ 10 ≤ b)
theorem PNt_w {a b : Nat} (q : PNt a b) : PNw a b := by unfold PNt at q; unfold PNw; omega
def NtI (h : PH) (n : Nat) (N fr low nx : Nat → Nat) (Rt : Nat → Prop) (cb : Nat → Bool) (k je : Nat) : Prop := hI h 32 9 = nI n ∧ hI h 32 10 = nI k ∧ hI h 32 11 = nI je ∧ (∀ u, u < n → hI h 35 u = nI (N u)) ∧ (∀ u, u < n → N u ≠ 0 → hI h 36 u = nI (low u) ∧ hI h 38 u = nI (nx u) ∧ (Rt u → hI h 37 u = -1) ∧ (¬ Rt u → hI h 37 u = nI (fr u))) ∧ ∀ u, u < n → hI h 39 u = bo (cb u)
def PtC (h : PH) (P : List Pnt) : Prop := ∀ j, j < P.length → hI h 33 j = iv (P.getD j pt0).1 ∧ hI h 34 j = iv (P.getD j pt0).2
def jeS (eC : Nat → Nat → Bool) (n : Nat) (N nx : Nat → Nat) : Nat := sN (fun u => if N u = 0 then 0 else sN (fun w => en eC u w) (nx u)) n
def muS (n : Nat) (N nx : Nat → Nat) (st : List Nat) : Nat := sN (fun u => if N u = 0 then n + 2 else n - nx u) n + st.length
/-- what holds at each step of explore from root r; ch: the root's own that are left behind -/
def XI (h : PH) (eC : Nat → Nat → Bool) (n r : Nat) (Rt : Nat → Prop) (N fr low nx last : Nat → Nat) (cb : Nat → Bool) (k je : Nat) (st ch : List Nat) : Prop := NtI h n N fr low nx Rt cb k je ∧ Jv (EB eC) n N fr last Rt k st ∧ Lst (EB eC) n N fr low nx Rt st (k + 1) ∧ (∀ u, u < n → N u ≠ 0 → nx u ≤ n ∧ low u ≤ k ∧ (¬ u ∈ st → nx u = n) ∧ ∀ x, x < nx u → eC u x = true → N x ≠ 0) ∧ je = jeS eC n N nx ∧ sN (fun u => if N u = 0 then 0 else 1) n = k ∧ (∀ q, q < n → ¬ Rt q → (cb q = true ↔ CutF (EB eC) n N fr last Rt st q)) ∧ (∀ u, u ∈ st → Rt u → u = r) ∧ (r < n ∧ Rt r ∧ cb r = false) ∧ (ch.Nodup ∧ ∀ c, c ∈ ch ↔ c < n ∧ N c ≠ 0 ∧ ¬ Rt c ∧ fr c = r ∧ ¬ c ∈ st) ∧ ∀ r', Rt r' → r' ≠ r → ∃ ch' : List Nat, (ch'.Nodup ∧ ∀ c, c ∈ ch' ↔ c < n ∧ N c ≠ 0 ∧ ¬ Rt c ∧ fr c = r' ∧ ¬ c ∈ st) ∧ (cb r' = true ↔ 1 < ch'.length)
def topV : List Nat → Int32
  | [] => -1
  | u :: _ => nI u
section NC
variable {sc : Nat × (Nat → Int32)} {d : Nat} {Q : PRes → Prop} {h h' h1 H G : PH} {i j k n t u v w a b r R M k je step : Nat} {P : List Pnt} {eC : Nat → Nat → Bool} {X Y : Int} {N fr low nx last : Nat → Nat} {Rt : Nat → Prop} {cb : Nat → Bool} {st ch l : List Nat} {sx sy : Nat → Int} {f g : Nat → Nat} {pv : Int32}
theorem sN_up {g : Nat → Nat} (h : ∀ u, u ≠ i → g u = f u) : ∀ n, i < n → sN g n + f i = sN f n + g i
  | 0, hi => absurd hi (Nat.not_lt_zero _)
  | n + 1, hi => by
    show sN g n + g n + f i = sN f n + f n + g i
    by_cases e : i = n
    · subst e
      rw [sN_cg (h := g) (h' := f) i (fun u hu => h u (by omega))]
      omega
    · have ih := sN_up h n (by omega)
      rw [h n (fun q => e q.symm)]
      omega
theorem sN_1 : ∀ n, (∀ u, u < n → f u ≤ 1) → sN f n ≤ n
  | 0, _ => Nat.le_refl _
  | n + 1, h => by
    have := sN_1 n (fun u hu => h u (by omega))
    have := h n (by omega)
    show sN f n + f n ≤ n + 1
    omega
theorem c_liv_t (hw : WF h) (V : VcS h b M R sx sy) (hR : R ≤ 18) (hX : R3 X) (hY : R3 Y) (l : Lv h R X Y) : ∀ d Q, Tr sc d 78 (ent0 78 [.ref 24, .int (iv X), .int (iv Y)] h) Q = Q (some (.int (nI (vi R X Y))), h) := fun d Q => Tr_val (c_livAt (d := d) (Q := fun z => z = (some (.int (nI (vi R X Y))), h)) hw V hR hX hY (fun _ => rfl) (fun n => absurd l n))
theorem c_liv_f (hw : WF h) (V : VcS h b M R sx sy) (hR : R ≤ 18) (hX : R3 X) (hY : R3 Y) (l : ¬ Lv h R X Y) : ∀ d Q, Tr sc d 78 (ent0 78 [.ref 24, .int (iv X), .int (iv Y)] h) Q = Q (some (.int (-1)), h) := fun d Q => Tr_val (c_livAt (d := d) (Q := fun z => z = (some (.int (-1)), h)) hw V hR hX hY (fun n => absurd n l) (fun _ => rfl))
theorem vi_b (hR : R ≤ 18) (l : Lv h R X Y) : vi R X Y < 2000 := by
  obtain ⟨⟨⟨a, b⟩, c, d⟩, -⟩ := l
  unfold vi
  have h1 : (X + R).toNat ≤ 36 := by omega
  have h2 : (Y + R).toNat ≤ 36 := by omega
  have h3 : (X + R).toNat * (2 * R + 1) ≤ 36 * 37 := Nat.mul_le_mul h1 (by omega)
  omega
theorem c_joined (hw : WF h) (V : VcS h b M R sx sy) (hR : R ≤ 18) (C : PtC h P) (hP : P.length ≤ 216) (rg : ∀ p, p ∈ P → Rg p) (he : ∀ a b, eC a b = true ↔ a ≠ b ∧ Lv h R (dfX P a b) (dfY P a b)) (hv : v < P.length) (hw' : w < P.length) : ∀ d Q, Tr sc (d + 1) 24 (ent0 24 [.ref 32, .int (nI v), .int (nI w)] h) Q = Q (some (.int (bo (eC v w))), h) := by
  intro d Q
  obtain ⟨q1, q2⟩ := C v hv
  obtain ⟨q3, q4⟩ := C w hw'
  obtain ⟨⟨g1, g2⟩, g3, g4⟩ := rg _ (gd_mem hv)
  obtain ⟨⟨g5, g6⟩, g7, g8⟩ := rg _ (gd_mem hw')
  have rX : R3 (dfX P v w) := ⟨by unfold dfX; omega, by unfold dfX; omega⟩
  have rY : R3 (dfY P v w) := ⟨by unfold dfY; omega, by unfold dfY; omega⟩
  have i2 : ∀ v, v < 216 → inb (nI v) 216 = true := fun v hv => inb_nI hv (by decide)
  have cl : ∀ v, v < 216 → (nI v).toNatClampNeg = v := fun v hv => nI_clamp (by omega)
  rw [e_24]
  by_cases z : v = w
  · have ef : eC v w = false := by
      cases ee : eC v w
      · rfl
      · exact absurd z ((he v w).mp ee).1
    simp only [x_24_0, x_24_1, x_24_2, x_24_45, x_24_46, cl2_i, cl2_r, cl2_n, cl2_l, tl_s, tl_n, true_and, and_true, Option.some.injEq, exists_eq_left', Bool.and_self, Bool.true_and, Bool.and_true, Bool.or_true, Bool.true_or, i_10, i_00, if_true, if_false, not_true_eq_false, not_false_eq_true, and_false, false_and, okp_sI, okp_sL, okp_aI, okp_aL, hR_sI, hR_sL, hR_aI, hR_aL, vp_b0]
    rw [if_pos (by rw [z]), ef]; rfl
  · have ne : (nI v = nI w) = False := eq_false (fun q => z ((nI_eq (by omega) (by omega)).mp q))
    by_cases l : Lv h R (dfX P v w) (dfY P v w)
    · have et : eC v w = true := (he v w).mpr ⟨z, l⟩
      have vb := vi_b hR l
      have at' : ∀ d Q, Tr sc d 78 (ent0 78 [.ref 24, .int (iv ((P.getD w pt0).1 - (P.getD v pt0).1)), .int (iv ((P.getD w pt0).2 - (P.getD v pt0).2))] h) Q = Q (some (.int (nI (vi R (dfX P v w) (dfY P v w)))), h) := fun d Q => c_liv_t hw V hR rX rY l d Q
      simp only [x_24_0, x_24_1, x_24_2, x_24_5, x_24_6, x_24_9, x_24_10, x_24_13, x_24_14, x_24_15, x_24_16, x_24_19, x_24_20, x_24_21, x_24_22, x_24_23, x_24_26, x_24_27, x_24_28, x_24_29, x_24_32, x_24_33, x_24_34, x_24_35, x_24_38, x_24_41, x_24_42, x_24_45, x_24_46, o_32 hw, w_32_0 hw, w_32_1 hw, w_32_8 hw, o_24 hw, o_33 hw, iOk_lt (k := 33) (by decide), iRd_lt (k := 33) (by decide), show LN 33 = 216 from rfl, o_34 hw, iOk_lt (k := 34) (by decide), iRd_lt (k := 34) (by decide), show LN 34 = 216 from rfl, cl2_i, cl2_r, cl2_n, cl2_l, tl_s, tl_n, true_and, and_true, Option.some.injEq, exists_eq_left', Bool.and_self, Bool.true_and, Bool.and_true, Bool.or_true, Bool.true_or, i_10, i_00, if_true, if_false, not_true_eq_false, not_false_eq_true, and_false, false_and, okp_sI, okp_sL, okp_aI, okp_aL, hR_sI, hR_sL, hR_aI, hR_aL, ne, i2 v (by omega), i2 w (by omega), cl v (by omega), cl w (by omega), q1, q2, q3, q4, iv_sub, at', show (nI (vi R (dfX P v w) (dfY P v w)) < 0) = False from eq_false (nI_pos (by omega)), vp_b1]
      rw [et]; rfl
    · have et : eC v w = false := by
        cases ee : eC v w
        · rfl
        · exact absurd ((he v w).mp ee).2 l
      have at' : ∀ d Q, Tr sc d 78 (ent0 78 [.ref 24, .int (iv ((P.getD w pt0).1 - (P.getD v pt0).1)), .int (iv ((P.getD w pt0).2 - (P.getD v pt0).2))] h) Q = Q (some (.int (-1)), h) := fun d Q => c_liv_f hw V hR rX rY l d Q
      simp only [x_24_0, x_24_1, x_24_2, x_24_5, x_24_6, x_24_9, x_24_10, x_24_13, x_24_14, x_24_15, x_24_16, x_24_19, x_24_20, x_24_21, x_24_22, x_24_23, x_24_26, x_24_27, x_24_28, x_24_29, x_24_32, x_24_33, x_24_34, x_24_35, x_24_38, x_24_41, x_24_42, x_24_45, x_24_46, o_32 hw, w_32_0 hw, w_32_1 hw, w_32_8 hw, o_24 hw, o_33 hw, iOk_lt (k := 33) (by decide), iRd_lt (k := 33) (by decide), show LN 33 = 216 from rfl, o_34 hw, iOk_lt (k := 34) (by decide), iRd_lt (k := 34) (by decide), show LN 34 = 216 from rfl, cl2_i, cl2_r, cl2_n, cl2_l, tl_s, tl_n, true_and, and_true, Option.some.injEq, exists_eq_left', Bool.and_self, Bool.true_and, Bool.and_true, Bool.or_true, Bool.true_or, i_10, i_00, if_true, if_false, not_true_eq_false, not_false_eq_true, and_false, false_and, okp_sI, okp_sL, okp_aI, okp_aL, hR_sI, hR_sL, hR_aI, hR_aL, ne, i2 v (by omega), i2 w (by omega), cl v (by omega), cl w (by omega), q1, q2, q3, q4, iv_sub, at', show ((-1 : Int32) < 0) = True from eq_true (by decide), vp_b0]
      rw [et]; rfl
def entH (h : PH) (k w : Nat) (pv : Int32) : PH := sI (sI (sI (sI (sI h 32 10 (nI (k + 1))) 35 w (nI (k + 1))) 36 w (nI (k + 1))) 37 w pv) 38 w 0
theorem c_enter (hw : WF h) (hk : hI h 32 10 = nI k) (hw' : w < 216) : ∀ d Q, Tr sc d 27 (ent0 27 [.ref 32, .int (nI w), .int pv] h) Q = Q (none, entH h k w pv) := by
  intro d Q
  rw [e_27]
  simp only [x_27_0, x_27_1, x_27_2, x_27_5, x_27_6, x_27_7, x_27_10, x_27_11, x_27_14, x_27_15, x_27_16, x_27_19, x_27_20, x_27_21, x_27_24, x_27_25, x_27_26, x_27_29, x_27_30, x_27_31, x_27_34, x_27_35, x_27_36, x_27_37, x_27_38, x_27_41, x_27_42, x_27_43, x_27_44, o_32 hw, w_32_2 hw, w_32_3 hw, w_32_4 hw, w_32_5 hw, o_35 hw, iOk_lt (k := 35) (by decide), iRd_lt (k := 35) (by decide), show LN 35 = 216 from rfl, o_36 hw, iOk_lt (k := 36) (by decide), iRd_lt (k := 36) (by decide), show LN 36 = 216 from rfl, o_37 hw, iOk_lt (k := 37) (by decide), iRd_lt (k := 37) (by decide), show LN 37 = 216 from rfl, o_38 hw, iOk_lt (k := 38) (by decide), iRd_lt (k := 38) (by decide), show LN 38 = 216 from rfl, cl2_i, cl2_r, cl2_n, cl2_l, tl_s, tl_n, true_and, and_true, Option.some.injEq, exists_eq_left', Bool.and_self, Bool.true_and, Bool.and_true, Bool.or_true, Bool.true_or, i_10, i_00, if_true, if_false, not_true_eq_false, not_false_eq_true, and_false, false_and, okp_sI, okp_sL, okp_aI, okp_aL, hR_sI, hR_sL, hR_aI, hR_aL, hk, nI_1, rd_eq, rd_ne (q := 35) (a := 32) (Or.inl (by decide)), inb_nI (n := 216) hw' (by decide), nI_clamp (n := w) (by omega)]
  rfl
theorem ent_fr : Fq PNt h (entH h k w pv) := ((((Fq.rf.sI (by unfold PNt; omega)).sI (by unfold PNt; omega)).sI (by unfold PNt; omega)).sI (by unfold PNt; omega)).sI (by unfold PNt; omega)
/-- the state's rows when w gets its number -/
theorem entr_I {Rt' : Nat → Prop} (I : NtI h n N fr low nx Rt cb k je) (hR : ∀ x, x ≠ w → (Rt' x ↔ Rt x)) (p1 : Rt' w → pv = -1) (p2 : ¬ Rt' w → pv = nI v) : NtI (entH h k w pv) n (upN N w (k + 1)) (upN fr w v) (upN low w (k + 1)) (upN nx w 0) Rt' cb (k + 1) je := by
  obtain ⟨i1, i2, i3, i4, i5, i6⟩ := I
  unfold entH
  refine ⟨by rw [rd_ne (by omega), rd_ne (by omega), rd_ne (by omega), rd_ne (by omega), rd_ne (by omega)]; exact i1, by rw [rd_ne (by omega), rd_ne (by omega), rd_ne (by omega), rd_ne (by omega), rd_eq], by rw [rd_ne (by omega), rd_ne (by omega), rd_ne (by omega), rd_ne (by omega), rd_ne (by omega)]; exact i3, fun u hu => ?_, fun u hu h0 => ?_, fun u hu => by rw [rd_ne (by omega), rd_ne (by omega), rd_ne (by omega), rd_ne (by omega), rd_ne (by omega)]; exact i6 u hu⟩
  · unfold upN
    by_cases e : u = w
    · rw [if_pos e, e, rd_ne (by omega), rd_ne (by omega), rd_ne (by omega), rd_eq]
    · rw [if_neg e, rd_ne (by omega), rd_ne (by omega), rd_ne (by omega), rd_ne (by omega), rd_ne (by omega)]; exact i4 u hu
  · unfold upN at h0 ⊢
    by_cases e : u = w
    · rw [if_pos e, if_pos e, if_pos e, e]
      refine ⟨by rw [rd_ne (by omega), rd_ne (by omega), rd_eq], by rw [rd_eq]; rfl, fun q => by rw [rd_ne (by omega), rd_eq]; exact p1 q, fun q => by rw [rd_ne (by omega), rd_eq]; exact p2 q⟩
    · rw [if_neg e] at h0
      rw [if_neg e, if_neg e, if_neg e, rd_ne (by omega), rd_ne (by omega), rd_ne (by omega), rd_ne (by omega), rd_ne (by omega), rd_ne (by omega), rd_ne (by omega), rd_ne (by omega), rd_ne (by omega), rd_ne (by omega), rd_ne (by omega), rd_ne (by omega), rd_ne (by omega), rd_ne (by omega), rd_ne (by omega), hR u e]
      exact i5 u hu h0
end NC
