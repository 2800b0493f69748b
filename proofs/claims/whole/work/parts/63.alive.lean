/-! ===== sums over vectors; alive, meets, beside, hangs ===== -/
noncomputable def cd (p : Prop) : Bool := @decide p (Classical.propDecidable p)
def sZ (f : Nat → Int) : Nat → Int
  | 0 => 0
  | n + 1 => sZ f n + f n
section SU
variable {sc : Nat × (Nat → Int32)} {d : Nat} {Q : PRes → Prop} {h h' h1 H : PH} {k s r b M R i j v p n : Nat} {kd x y z w : Int32} {tn : Nat → Nat} {sx sy ex : Nat → Int} {X Y : Int}
theorem cd_t {p : Prop} : (cd p = true) = p := by
  apply propext
  unfold cd
  exact ⟨fun q => @of_decide_eq_true p (Classical.propDecidable p) q, fun q => @decide_eq_true p (Classical.propDecidable p) q⟩
theorem sZ_congr {f g : Nat → Int} : ∀ n, (∀ j, j < n → f j = g j) → sZ f n = sZ g n
  | 0, _ => rfl
  | n + 1, e => by
    show sZ f n + f n = sZ g n + g n
    rw [sZ_congr n (fun j hj => e j (by omega)), e n (by omega)]
theorem sZ_0 {f : Nat → Int} : ∀ n, (∀ j, j < n → f j = 0) → sZ f n = 0
  | 0, _ => rfl
  | n + 1, e => by
    show sZ f n + f n = 0
    rw [sZ_0 n (fun j hj => e j (by omega)), e n (by omega)]; rfl
theorem sZ_add {f g : Nat → Int} : ∀ n, sZ (fun j => f j + g j) n = sZ f n + sZ g n
  | 0 => rfl
  | n + 1 => by
    show sZ (fun j => f j + g j) n + (f n + g n) = sZ f n + f n + (sZ g n + g n)
    rw [sZ_add n]; omega
theorem sZ_mulc {f : Nat → Int} {c : Int} : ∀ n, sZ (fun j => c * f j) n = c * sZ f n
  | 0 => (Int.mul_zero c).symm
  | n + 1 => by
    show sZ (fun j => c * f j) n + c * f n = c * (sZ f n + f n)
    rw [sZ_mulc n, Int.mul_add]
theorem sZ_app {f : Nat → Int} {a : Nat} : ∀ n, sZ f (a + n) = sZ f a + sZ (fun j => f (a + j)) n
  | 0 => (Int.add_zero _).symm
  | n + 1 => by
    show sZ f (a + n) + f (a + n) = sZ f a + (sZ (fun j => f (a + j)) n + f (a + n))
    rw [sZ_app n]; omega
theorem sZ_dbl {f : Nat → Int} {S : Nat} : ∀ n, sZ f (n * S) = sZ (fun i => sZ (fun j => f (i * S + j)) S) n
  | 0 => by rw [Nat.zero_mul]; rfl
  | n + 1 => by
    show sZ f ((n + 1) * S) = sZ (fun i => sZ (fun j => f (i * S + j)) S) n + sZ (fun j => f (n * S + j)) S
    rw [Nat.add_mul, Nat.one_mul, sZ_app, sZ_dbl n]
theorem sZ_swap {f : Nat → Nat → Int} {m : Nat} : ∀ n, sZ (fun i => sZ (fun j => f i j) m) n = sZ (fun j => sZ (fun i => f i j) n) m
  | 0 => (sZ_0 m (fun _ _ => rfl)).symm
  | n + 1 => by
    show sZ (fun i => sZ (fun j => f i j) m) n + sZ (fun j => f n j) m = sZ (fun j => sZ (fun i => f i j) n + f n j) m
    rw [sZ_add, sZ_swap n]
theorem sZ_shift {g : Int → Int} (hR : R ≤ 18) (hg : ∀ x, ¬ (-(R : Int) ≤ x ∧ x ≤ R) → g x = 0) : sZ (fun j => g ((j : Int) - 18)) 37 = sZ (fun i => g ((i : Int) - R)) (2 * R + 1) := by
  have e : 37 = (18 - R) + ((2 * R + 1) + (18 - R)) := by omega
  rw [e, sZ_app, sZ_app]
  rw [sZ_0 (18 - R) (fun j hj => hg _ (by omega)), sZ_0 (18 - R) (fun j hj => hg _ (by omega)), Int.zero_add, Int.add_zero]
  refine sZ_congr _ (fun j hj => ?_)
  congr 1
  omega
/-- sums over the class's numbers of vectors and over the model's -/
theorem sZ_vec {F : Int → Int → Int} (hR : R ≤ 18) (hF : ∀ x y, ¬ inX R x y → F x y = 0) : sZ (fun v => F (xo R v) (yo R v)) ((2 * R + 1) * (2 * R + 1)) = sZ (fun k => F (xm k) (ym k)) 1369 := by
  rw [sZ_dbl, show 1369 = 37 * 37 from rfl, sZ_dbl]
  have e1 : sZ (fun i => sZ (fun j => F (xo R (i * (2 * R + 1) + j)) (yo R (i * (2 * R + 1) + j))) (2 * R + 1)) (2 * R + 1) = sZ (fun i => sZ (fun j => F ((i : Int) - R) ((j : Int) - R)) (2 * R + 1)) (2 * R + 1) := by
    refine sZ_congr _ (fun i hi => sZ_congr _ (fun j hj => ?_))
    unfold xo yo
    rw [Nat.mul_comm, Nat.mul_add_div (by omega), Nat.div_eq_of_lt hj, Nat.add_zero, Nat.mul_add_mod, Nat.mod_eq_of_lt hj]
  have e2 : sZ (fun i => sZ (fun j => F (xm (i * 37 + j)) (ym (i * 37 + j))) 37) 37 = sZ (fun i => sZ (fun j => F ((j : Int) - 18) ((i : Int) - 18)) 37) 37 := by
    refine sZ_congr _ (fun i hi => sZ_congr _ (fun j hj => ?_))
    unfold xm ym
    rw [show (i * 37 + j) % 37 = j by omega, show (i * 37 + j) / 37 = i by omega]
  rw [e1, e2, sZ_swap (f := fun i j => F ((j : Int) - 18) ((i : Int) - 18))]
  have e3 : sZ (fun j => sZ (fun i => F ((j : Int) - 18) ((i : Int) - 18)) 37) 37 = sZ (fun j => (fun x => sZ (fun i => F x ((i : Int) - R)) (2 * R + 1)) ((j : Int) - 18)) 37 := by
    refine sZ_congr _ (fun j hj => ?_)
    exact sZ_shift (g := fun y => F ((j : Int) - 18) y) hR (fun y hy => hF _ _ (fun q => hy q.2))
  rw [e3]
  exact (sZ_shift (g := fun x => sZ (fun i => F x ((i : Int) - R)) (2 * R + 1)) hR (fun x hx => sZ_0 _ (fun j hj => hF _ _ (fun q => hx q.1)))).symm
theorem cnB_Z {g : Nat → Bool} : ∀ n, ((cnB g n : Nat) : Int) = sZ (fun v => if g v = true then 1 else 0) n
  | 0 => rfl
  | n + 1 => by
    show ((cnB g n + (if g n = true then 1 else 0) : Nat) : Int) = sZ (fun v => if g v = true then 1 else 0) n + (if g n = true then 1 else 0)
    rw [Int.natCast_add, cnB_Z n]
    split <;> rfl
/-- how many vectors are alive, in both numberings -/
theorem cn_eq (hR : R ≤ 18) (c : ∀ X Y, Lv h R X Y ↔ Alv b M R sx sy X Y) (m : ∀ X Y, Lm h1 X Y ↔ Alv b M R sx sy X Y) : cnL h ((2 * R + 1) * (2 * R + 1)) = cnM h1 := by
  have e : ((cnL h ((2 * R + 1) * (2 * R + 1)) : Nat) : Int) = ((cnM h1 : Nat) : Int) := by
    unfold cnL cnM
    rw [cnB_Z, cnB_Z]
    have e1 : sZ (fun v => if decide (¬ hI h 25 v = 0) = true then 1 else 0) ((2 * R + 1) * (2 * R + 1)) = sZ (fun v => (fun X Y => if cd (Alv b M R sx sy X Y) = true then 1 else 0) (xo R v) (yo R v)) ((2 * R + 1) * (2 * R + 1)) := by
      refine sZ_congr _ (fun v hv => ?_)
      have q : (decide (¬ hI h 25 v = 0) = true) = (cd (Alv b M R sx sy (xo R v) (yo R v)) = true) := by
        rw [cd_t, decide_eq_true_eq]
        apply propext
        rw [← c]
        unfold Lv
        rw [vi_v hv]
        exact ⟨fun q => ⟨xo_in hv, q⟩, fun q => q.2⟩
      simp only [q]
    have e2 : sZ (fun v => if decide (¬ hI h1 148 v = 0) = true then 1 else 0) 1369 = sZ (fun v => (fun X Y => if cd (Alv b M R sx sy X Y) = true then 1 else 0) (xm v) (ym v)) 1369 := by
      refine sZ_congr _ (fun v hv => ?_)
      obtain ⟨gv, hx, hy⟩ := vm_xm hv
      have q : (decide (¬ hI h1 148 v = 0) = true) = (cd (Alv b M R sx sy (xm v) (ym v)) = true) := by
        rw [cd_t, decide_eq_true_eq]
        apply propext
        rw [← m]
        unfold Lm
        rw [gv]
        exact ⟨fun q => ⟨⟨hx, hy⟩, q⟩, fun q => q.2⟩
      simp only [q]
    rw [e1, e2]
    exact sZ_vec (F := fun X Y => if cd (Alv b M R sx sy X Y) = true then 1 else 0) hR (fun X Y q => if_neg (fun z => q (by rw [cd_t] at z; exact Gf_b (v := (X, Y)) z)))
  omega
theorem c_cl_loop (hw : WF h) (V : VcS h b M R sx sy) (hR : R ≤ 18) : ∀ (n v : Nat), v + n = (2 * R + 1) * (2 * R + 1) → Tr sc d 79 (4, [some (.ref 24), some (.int (nI (cnL h v))), some (.int (nI v))], [], h) Q = Q (some (.int (nI (cnL h ((2 * R + 1) * (2 * R + 1))))), h) := by
  have sq := R_sq hR
  obtain ⟨v1, v2, v3, v4, v5, v6⟩ := V
  intro n
  induction n with
  | zero =>
    intro v hv
    have e : v = (2 * R + 1) * (2 * R + 1) := by omega
    subst e
    rw [x_79_4]
    simp only [x_79_5, x_79_6, x_79_9, x_79_12, x_79_13, x_79_16, x_79_17, x_79_18, x_79_21, x_79_24, x_79_27, x_79_30, x_79_31, o_24 hw, w_24_0 hw, o_25 hw, show LN 25 = 1369 from rfl, cl2_i, cl2_r, cl2_n, cl2_l, tl_s, tl_n, true_and, and_true, Option.some.injEq, exists_eq_left', Bool.and_self, Bool.true_and, Bool.and_true, Bool.or_true, Bool.true_or, i_10, i_00, if_true, if_false, not_true_eq_false, not_false_eq_true, and_false, false_and, okp_sI, okp_sL, okp_aI, okp_aL, hR_sI, hR_sL, hR_aI, hR_aL, v4]
    rw [if_pos (Int32.le_refl _)]
  | succ n ih =>
    intro v hv
    have hlt : v < (2 * R + 1) * (2 * R + 1) := by omega
    have e3 := cnB_s (g := fun v => decide (¬ hI h 25 v = 0)) (n := v)
    rw [x_79_4]
    simp only [x_79_5, x_79_6, x_79_9, x_79_12, x_79_13, x_79_16, x_79_17, x_79_18, x_79_21, x_79_24, x_79_27, x_79_30, x_79_31, o_24 hw, w_24_0 hw, o_25 hw, show LN 25 = 1369 from rfl, cl2_i, cl2_r, cl2_n, cl2_l, tl_s, tl_n, true_and, and_true, Option.some.injEq, exists_eq_left', Bool.and_self, Bool.true_and, Bool.and_true, Bool.or_true, Bool.true_or, i_10, i_00, if_true, if_false, not_true_eq_false, not_false_eq_true, and_false, false_and, okp_sI, okp_sL, okp_aI, okp_aL, hR_sI, hR_sL, hR_aI, hR_aL, v4, inb_nI (i := v) (n := 1369) (by omega) (by decide), nI_clamp (n := v) (by omega), nI_1]
    rw [if_neg (nI_ge hlt (by omega))]
    have ih' := ih (v + 1) (by omega)
    unfold cnL at ih' ⊢
    rw [e3] at ih'
    by_cases q : hI h 25 v = 0
    · rw [if_pos q]
      rw [if_neg (by simp [q]), Int32.add_zero] at ih'
      exact ih'
    · rw [if_neg q]
      rw [if_pos (by simp [q]), nI_1] at ih'
      exact ih'
theorem c_countLiving (hw : WF h) (V : VcS h b M R sx sy) (hR : R ≤ 18) : Tr sc d 79 (ent0 79 [.ref 24] h) Q = Q (some (.int (nI (cnL h ((2 * R + 1) * (2 * R + 1))))), h) := by
  rw [e_79]
  simp only [x_79_0, x_79_1, x_79_2, x_79_3, cl2_i, cl2_r, cl2_n, cl2_l, tl_s, tl_n, true_and, and_true, Option.some.injEq, exists_eq_left', Bool.and_self, Bool.true_and, Bool.and_true, Bool.or_true, Bool.true_or, i_10, i_00, if_true, if_false, not_true_eq_false, not_false_eq_true, and_false, false_and, okp_sI, okp_sL, okp_aI, okp_aL, hR_sI, hR_sL, hR_aI, hR_aL]
  exact c_cl_loop hw V hR _ 0 (Nat.zero_add _)
theorem m_al_loop (hw : WF h) : ∀ (n v : Nat), v + n = 1369 → Tr sc d 219 (17, [some (.ref 124), some (.int x), some (.int 0), some (.int (nI (cnB (fun v => decide (¬ hI h 148 v = 0)) v))), some (.int (nI v))], [], h) Q = Q (some (.int (nI (cnM h))), h) := by
  intro n
  induction n with
  | zero =>
    intro v hv
    have e : v = 1369 := by omega
    subst e
    rw [x_219_17]
    simp only [x_219_19, x_219_22, x_219_25, x_219_26, x_219_27, x_219_30, x_219_32, x_219_33, x_219_36, x_219_37, x_219_40, x_219_41, x_219_42, x_219_43, x_219_46, x_219_49, x_219_50, o_124 hw, w_124_45 hw, o_148 hw, show LN 148 = 1369 from rfl, cl2_i, cl2_r, cl2_n, cl2_l, tl_s, tl_n, true_and, and_true, Option.some.injEq, exists_eq_left', Bool.and_self, Bool.true_and, Bool.and_true, Bool.or_true, Bool.true_or, i_10, i_00, if_true, if_false, not_true_eq_false, not_false_eq_true, and_false, false_and, okp_sI, okp_sL, okp_aI, okp_aL, hR_sI, hR_sL, hR_aI, hR_aL]
    rw [if_pos (by decide)]
    rfl
  | succ n ih =>
    intro v hv
    have hlt : v < 1369 := by omega
    have e3 := cnB_s (g := fun v => decide (¬ hI h 148 v = 0)) (n := v)
    rw [x_219_17]
    simp only [x_219_19, x_219_22, x_219_25, x_219_26, x_219_27, x_219_30, x_219_32, x_219_33, x_219_36, x_219_37, x_219_40, x_219_41, x_219_42, x_219_43, x_219_46, x_219_49, x_219_50, o_124 hw, w_124_45 hw, o_148 hw, show LN 148 = 1369 from rfl, cl2_i, cl2_r, cl2_n, cl2_l, tl_s, tl_n, true_and, and_true, Option.some.injEq, exists_eq_left', Bool.and_self, Bool.true_and, Bool.and_true, Bool.or_true, Bool.true_or, i_10, i_00, if_true, if_false, not_true_eq_false, not_false_eq_true, and_false, false_and, okp_sI, okp_sL, okp_aI, okp_aL, hR_sI, hR_sL, hR_aI, hR_aL, inb_nI (n := 1369) hlt (by decide), nI_clamp (n := v) (by omega), nI_1]
    rw [if_neg (show ¬ (1369 : Int32) ≤ nI v from nI_ge (a := v) (b := 1369) hlt (by decide))]
    have ih' := ih (v + 1) (by omega)
    rw [e3] at ih'
    by_cases q : hI h 148 v = 0
    · rw [if_pos q]
      rw [if_neg (by simp [q])] at ih'
      exact ih'
    · rw [if_neg q]
      rw [if_pos (by simp [q])] at ih'
      rw [nI_1] at ih'
      exact ih'
theorem st_model {K : PRes → Prop} (hw : WF h1) (hs : s < 8) (D : ShM h1 s kd b M tn sx sy ex) (W : ShV b M sx sy) (hK : ∀ H, Fq Pa h1 H → (∀ X Y, Lm H X Y ↔ Alv b M (rch b M sx sy) sx sy X Y) → K (some (.int 0), H)) : Tr sc 17 215 (ent0 215 [.ref 124, .int (nI s)] h1) (fun z => Tr sc 18 218 (31, [some (.ref 124), some (.int (nI s)), some (.int 0)], z.1.toList ++ [], z.2) K) := by
  refine m_setAlive (d := 14) hw hs D W (fun H f a => ?_)
  simp only [x_218_31, x_218_32, cl2_i, cl2_r, cl2_n, cl2_l, tl_s, tl_n, true_and, and_true, Option.some.injEq, exists_eq_left', Bool.and_self, Bool.true_and, Bool.and_true, Bool.or_true, Bool.true_or, i_10, i_00, if_true, if_false, not_true_eq_false, not_false_eq_true, and_false, false_and, okp_sI, okp_sL, okp_aI, okp_aL, hR_sI, hR_sL, hR_aI, hR_aL]
  exact hK H f a
theorem Pa_Sc {a b : Nat} (q : Pa a b) : Sc a b := by unfold Pa at q; unfold Sc; omega
theorem Pv_Sc {a b : Nat} (q : Pv a b) : Sc a b := by unfold Pv at q; unfold Sc; omega
theorem both_alive (hc : CM h) : Both sc 120 219 [.int x] h := by
  have hw := hc.1
  refine glue_st (x := x) (T := True) (CC := fun Q => Tr sc 19 120 (13, [some (.ref 0), some (.int x), some (.int 0)], [], h) Q) (MC := fun h1 Q => Tr sc 17 215 (ent0 215 [.ref 124, .int x] h1) (fun z => Tr sc 18 218 (31, [some (.ref 124), some (.int x), some (.int 0)], z.1.toList ++ [], z.2) (fun z => Tr sc 19 219 (5, [some (.ref 124), some (.int x), none, none, none], z.1.toList ++ [], z.2) Q))) hc (fun Q => ?_) (fun h1 Q hw1 => ?_) (fun s hs hx hT hA hst => ?_) (fun A B hAB q => Tr_mono q hAB)
  · rw [e_120]
    simp only [x_120_0, x_120_1, x_120_2, x_120_3, x_120_6, x_120_7, x_120_8, x_120_11, x_120_12, o_0 hw, cl2_i, cl2_r, cl2_n, cl2_l, tl_s, tl_n, true_and, and_true, Option.some.injEq, exists_eq_left', Bool.and_self, Bool.true_and, Bool.and_true, Bool.or_true, Bool.true_or, i_10, i_00, if_true, if_false, not_true_eq_false, not_false_eq_true, and_false, false_and, okp_sI, okp_sL, okp_aI, okp_aL, hR_sI, hR_sL, hR_aI, hR_aL, c_stR hw, i_1m1, i_3m1]
  · rw [e_219]
    simp only [x_219_0, x_219_1, x_219_2, o_124 hw1, cl2_i, cl2_r, cl2_n, cl2_l, tl_s, tl_n, true_and, and_true, Option.some.injEq, exists_eq_left', Bool.and_self, Bool.true_and, Bool.and_true, Bool.or_true, Bool.true_or, i_10, i_00, if_true, if_false, not_true_eq_false, not_false_eq_true, and_false, false_and, okp_sI, okp_sL, okp_aI, okp_aL, hR_sI, hR_sL, hR_aI, hR_aL, m_stR (d := 15) hw1]
    simp only [x_219_5, x_219_6, x_219_7, x_219_10, x_219_11, o_124 hw1, cl2_i, cl2_r, cl2_n, cl2_l, tl_s, tl_n, true_and, and_true, Option.some.injEq, exists_eq_left', Bool.and_self, Bool.true_and, Bool.and_true, Bool.or_true, Bool.true_or, i_10, i_00, if_true, if_false, not_true_eq_false, not_false_eq_true, and_false, false_and, okp_sI, okp_sL, okp_aI, okp_aL, hR_sI, hR_sL, hR_aI, hR_aL, i_m1, i_m3]
  · subst hx
    obtain ⟨kd, b, M, tn, sx, sy, ex, W, C, D⟩ := sh_ab hA
    have W' := shv_of W
    obtain ⟨w1, w2, -⟩ := hw.shape hs
    obtain ⟨-, hR⟩ := rch_ok W'
    simp only [x_120_13, x_120_14, x_120_17, x_120_18, x_120_21, x_120_22, x_120_23, o_0 hw, w_0_2 hw, w_0_9 hw, o_24 hw, o_3 hw, show LN 3 = 8 from rfl, cl2_i, cl2_r, cl2_n, cl2_l, tl_s, tl_n, true_and, and_true, Option.some.injEq, exists_eq_left', Bool.and_self, Bool.true_and, Bool.and_true, Bool.or_true, Bool.true_or, i_10, i_00, if_true, if_false, not_true_eq_false, not_false_eq_true, and_false, false_and, okp_sI, okp_sL, okp_aI, okp_aL, hR_sI, hR_sL, hR_aI, hR_aL, inb_nI (n := 8) hs (by decide), nI_clamp (n := s) (by omega), w1, w2]
    refine c_look (d := 15) hw (is_sh hs) C W' (fun H f V a => ?_)
    have hwH := f.WF hw
    have fS : Fq Sc h H := f.wk (fun _ _ => Pv_Sc)
    simp only [x_120_26, x_120_27, x_120_30, x_120_33, o_0 hwH, w_0_9 hwH, o_24 hwH, cl2_i, cl2_r, cl2_n, cl2_l, tl_s, tl_n, true_and, and_true, Option.some.injEq, exists_eq_left', Bool.and_self, Bool.true_and, Bool.and_true, Bool.or_true, Bool.true_or, i_10, i_00, if_true, if_false, not_true_eq_false, not_false_eq_true, and_false, false_and, okp_sI, okp_sL, okp_aI, okp_aL, hR_sI, hR_sL, hR_aI, hR_aL, c_countLiving hwH V hR]
    refine ⟨hwH, fS.i (by unfold Sc; omega), fS.i (by unfold Sc; omega), ?_⟩
    refine st_model hwH hs (D.fr fS (fun a j h1 h2 => by unfold Sc; omega)) W' (fun H2 f2 m => ?_)
    have hw2 := f2.WF hwH
    simp only [x_219_5, x_219_6, x_219_7, x_219_10, x_219_11, x_219_12, x_219_13, x_219_14, x_219_15, cl2_i, cl2_r, cl2_n, cl2_l, tl_s, tl_n, true_and, and_true, Option.some.injEq, exists_eq_left', Bool.and_self, Bool.true_and, Bool.and_true, Bool.or_true, Bool.true_or, i_10, i_00, if_true, if_false, not_true_eq_false, not_false_eq_true, and_false, false_and, okp_sI, okp_sL, okp_aI, okp_aL, hR_sI, hR_sL, hR_aI, hR_aL, i_0]
    refine Eq.mpr (m_al_loop hw2 1369 0 (by omega)) ?_
    rw [cn_eq hR a m]
    first | exact cm_e0 hc (fS.tr (f2.wk (fun _ _ => Pa_Sc))) | exact ⟨rfl, cm_e0 hc (fS.tr (f2.wk (fun _ _ => Pa_Sc)))⟩ | exact ⟨⟨_, rfl, rfl⟩, cm_e0 hc (fS.tr (f2.wk (fun _ _ => Pa_Sc)))⟩
theorem both_meets (hc : CM h) : Both sc 121 220 [.int x, .int y, .int z] h := by
  have hw := hc.1
  refine glue_st (x := x) (T := True) (CC := fun Q => Tr sc 19 121 (16, [some (.ref 0), some (.int x), some (.int y), some (.int z), some (.int 0)], [], h) Q) (MC := fun h1 Q => Tr sc 17 215 (ent0 215 [.ref 124, .int x] h1) (fun u => Tr sc 18 218 (31, [some (.ref 124), some (.int x), some (.int 0)], u.1.toList ++ [], u.2) (fun u => Tr sc 19 220 (5, [some (.ref 124), some (.int x), some (.int y), some (.int z), none], u.1.toList ++ [], u.2) Q))) hc (fun Q => ?_) (fun h1 Q hw1 => ?_) (fun s hs hx hT hA hst => ?_) (fun A B hAB q => Tr_mono q hAB)
  · rw [e_121]
    simp only [x_121_0, x_121_1, x_121_2, x_121_3, x_121_6, x_121_8, x_121_10, x_121_13, x_121_15, o_0 hw, cl2_i, cl2_r, cl2_n, cl2_l, tl_s, tl_n, true_and, and_true, Option.some.injEq, exists_eq_left', Bool.and_self, Bool.true_and, Bool.and_true, Bool.or_true, Bool.true_or, i_10, i_00, if_true, if_false, not_true_eq_false, not_false_eq_true, and_false, false_and, okp_sI, okp_sL, okp_aI, okp_aL, hR_sI, hR_sL, hR_aI, hR_aL, c_stR hw, i_1m1, i_3m1]
  · rw [e_220]
    simp only [x_220_0, x_220_1, x_220_2, o_124 hw1, cl2_i, cl2_r, cl2_n, cl2_l, tl_s, tl_n, true_and, and_true, Option.some.injEq, exists_eq_left', Bool.and_self, Bool.true_and, Bool.and_true, Bool.or_true, Bool.true_or, i_10, i_00, if_true, if_false, not_true_eq_false, not_false_eq_true, and_false, false_and, okp_sI, okp_sL, okp_aI, okp_aL, hR_sI, hR_sL, hR_aI, hR_aL, m_stR (d := 15) hw1]
    simp only [x_220_5, x_220_7, x_220_9, x_220_12, x_220_14, o_124 hw1, x_220_31, cl2_i, cl2_r, cl2_n, cl2_l, tl_s, tl_n, true_and, and_true, Option.some.injEq, exists_eq_left', Bool.and_self, Bool.true_and, Bool.and_true, Bool.or_true, Bool.true_or, i_10, i_00, if_true, if_false, not_true_eq_false, not_false_eq_true, and_false, false_and, okp_sI, okp_sL, okp_aI, okp_aL, hR_sI, hR_sL, hR_aI, hR_aL, i_m1, i_m3]
  · subst hx
    obtain ⟨kd, b, M, tn, sx, sy, ex, W, C, D⟩ := sh_ab hA
    have W' := shv_of W
    obtain ⟨w1, w2, -⟩ := hw.shape hs
    obtain ⟨-, hR⟩ := rch_ok W'
    simp only [x_121_16, x_121_17, x_121_20, x_121_21, x_121_24, x_121_25, x_121_26, o_0 hw, w_0_2 hw, w_0_9 hw, o_24 hw, o_3 hw, show LN 3 = 8 from rfl, cl2_i, cl2_r, cl2_n, cl2_l, tl_s, tl_n, true_and, and_true, Option.some.injEq, exists_eq_left', Bool.and_self, Bool.true_and, Bool.and_true, Bool.or_true, Bool.true_or, i_10, i_00, if_true, if_false, not_true_eq_false, not_false_eq_true, and_false, false_and, okp_sI, okp_sL, okp_aI, okp_aL, hR_sI, hR_sL, hR_aI, hR_aL, inb_nI (n := 8) hs (by decide), nI_clamp (n := s) (by omega), w1, w2]
    refine c_look (d := 15) hw (is_sh hs) C W' (fun H f V a => ?_)
    have hwH := f.WF hw
    have fS : Fq Sc h H := f.wk (fun _ _ => Pv_Sc)
    have mod : ∀ v : Int32, v = (if cd (Alv b M (rch b M sx sy) sx sy y.toInt z.toInt) = true then 1 else 0) → Tr sc 17 215 (ent0 215 [.ref 124, .int (nI s)] H) (fun u => Tr sc 18 218 (31, [some (.ref 124), some (.int (nI s)), some (.int 0)], u.1.toList ++ [], u.2) (fun u => Tr sc 19 220 (5, [some (.ref 124), some (.int (nI s)), some (.int y), some (.int z), none], u.1.toList ++ [], u.2) (fun r2 => r2.1 = some (.int v) ∧ CM r2.2))) := by
      intro v hv
      refine st_model hwH hs (D.fr fS (fun a j h1 h2 => by unfold Sc; omega)) W' (fun H2 f2 m => ?_)
      have hw2 := f2.WF hwH
      have fin := cm_e0 hc (fS.tr (f2.wk (fun _ _ => Pa_Sc)))
      simp only [x_220_5, x_220_7, x_220_9, x_220_12, x_220_14, x_220_17, x_220_18, x_220_19, x_220_20, o_124 hw2, cl2_i, cl2_r, cl2_n, cl2_l, tl_s, tl_n, true_and, and_true, Option.some.injEq, exists_eq_left', Bool.and_self, Bool.true_and, Bool.and_true, Bool.or_true, Bool.true_or, i_10, i_00, if_true, if_false, not_true_eq_false, not_false_eq_true, and_false, false_and, okp_sI, okp_sL, okp_aI, okp_aL, hR_sI, hR_sL, hR_aI, hR_aL, i_0]
      rw [iv_of y, iv_of z]
      refine m_isAlv (d := 17) hw2 (iv_r y) (iv_r z) (fun q => ?_) (fun q => ?_)
      · simp only [x_220_23, x_220_26, x_220_27, x_220_30, x_220_31, cl2_i, cl2_r, cl2_n, cl2_l, tl_s, tl_n, true_and, and_true, Option.some.injEq, exists_eq_left', Bool.and_self, Bool.true_and, Bool.and_true, Bool.or_true, Bool.true_or, i_10, i_00, if_true, if_false, not_true_eq_false, not_false_eq_true, and_false, false_and, okp_sI, okp_sL, okp_aI, okp_aL, hR_sI, hR_sL, hR_aI, hR_aL]
        rw [if_pos (by rw [cd_t]; exact (m _ _).mp q)] at hv
        rw [hv]
        first | exact fin | exact ⟨rfl, fin⟩ | exact ⟨⟨_, rfl, rfl⟩, fin⟩
      · simp only [x_220_23, x_220_26, x_220_27, x_220_30, x_220_31, cl2_i, cl2_r, cl2_n, cl2_l, tl_s, tl_n, true_and, and_true, Option.some.injEq, exists_eq_left', Bool.and_self, Bool.true_and, Bool.and_true, Bool.or_true, Bool.true_or, i_10, i_00, if_true, if_false, not_true_eq_false, not_false_eq_true, and_false, false_and, okp_sI, okp_sL, okp_aI, okp_aL, hR_sI, hR_sL, hR_aI, hR_aL]
        rw [if_neg (by rw [cd_t]; exact fun z => q ((m _ _).mpr z))] at hv
        rw [hv]
        first | exact fin | exact ⟨rfl, fin⟩ | exact ⟨⟨_, rfl, rfl⟩, fin⟩
    simp only [x_121_29, x_121_30, x_121_33, x_121_34, x_121_35, o_0 hwH, w_0_9 hwH, o_24 hwH, cl2_i, cl2_r, cl2_n, cl2_l, tl_s, tl_n, true_and, and_true, Option.some.injEq, exists_eq_left', Bool.and_self, Bool.true_and, Bool.and_true, Bool.or_true, Bool.true_or, i_10, i_00, if_true, if_false, not_true_eq_false, not_false_eq_true, and_false, false_and, okp_sI, okp_sL, okp_aI, okp_aL, hR_sI, hR_sL, hR_aI, hR_aL]
    rw [iv_of y, iv_of z]
    refine c_livAt hwH V hR (iv_r y) (iv_r z) (fun q => ?_) (fun q => ?_)
    · have q2 := vi_lt q.1
      have q3 := R_sq hR
      simp only [x_121_38, x_121_41, x_121_42, x_121_45, x_121_46, cl2_i, cl2_r, cl2_n, cl2_l, tl_s, tl_n, true_and, and_true, Option.some.injEq, exists_eq_left', Bool.and_self, Bool.true_and, Bool.and_true, Bool.or_true, Bool.true_or, i_10, i_00, if_true, if_false, not_true_eq_false, not_false_eq_true, and_false, false_and, okp_sI, okp_sL, okp_aI, okp_aL, hR_sI, hR_sL, hR_aI, hR_aL]
      rw [if_neg (nI_pos (by omega)), ← iv_of y, ← iv_of z]
      refine ⟨hwH, fS.i (by unfold Sc; omega), fS.i (by unfold Sc; omega), ?_⟩
      exact mod 1 (by rw [if_pos (by rw [cd_t]; exact (a _ _).mp q)])
    · simp only [x_121_38, x_121_41, x_121_42, x_121_45, x_121_46, cl2_i, cl2_r, cl2_n, cl2_l, tl_s, tl_n, true_and, and_true, Option.some.injEq, exists_eq_left', Bool.and_self, Bool.true_and, Bool.and_true, Bool.or_true, Bool.true_or, i_10, i_00, if_true, if_false, not_true_eq_false, not_false_eq_true, and_false, false_and, okp_sI, okp_sL, okp_aI, okp_aL, hR_sI, hR_sL, hR_aI, hR_aL, show ((-1 : Int32) < 0) = True from eq_true (by decide)]
      rw [← iv_of y, ← iv_of z]
      refine ⟨hwH, fS.i (by unfold Sc; omega), fS.i (by unfold Sc; omega), ?_⟩
      exact mod 0 (by rw [if_neg (by rw [cd_t]; exact fun z => q ((a _ _).mpr z))])
end SU
