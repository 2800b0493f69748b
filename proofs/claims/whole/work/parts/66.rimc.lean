/-! ===== rim, in the class ===== -/
def Py (a b : Nat) : Prop := a = 28 ∨ a = 29
section RC
variable {sc : Nat × (Nat → Int32)} {d : Nat} {Q : PRes → Prop} {h h' h1 H : PH} {k s r b M R i j v p n t : Nat} {kd x y z w : Int32} {tn : Nat → Nat} {sx sy ex : Nat → Int} {X Y : Int}
theorem c_rc {L : Nat} (hn : n ≤ L) (hL : L < 2 ^ 31) : Tr sc d 254 (ent0 254 [.int (nI L), .int 0, .int (nI n)] h) Q = Q (none, h) := by
  rw [e_254]
  have e1 : ((0 : Int32) ≤ nI n) = True := eq_true (nI_pos' (by omega))
  have e2 : (nI n ≤ nI L) = True := eq_true (nI_le hn hL)
  simp only [x_254_0, x_254_1, x_254_2, x_254_46, x_254_47, x_254_59, x_254_60, x_254_61, x_254_73, cl2_i, cl2_r, cl2_n, cl2_l, tl_s, tl_n, true_and, and_true, Option.some.injEq, exists_eq_left', Bool.and_self, Bool.true_and, Bool.and_true, Bool.or_true, Bool.true_or, i_10, i_00, if_true, if_false, not_true_eq_false, not_false_eq_true, and_false, false_and, okp_sI, okp_sL, okp_aI, okp_aL, hR_sI, hR_sL, hR_aI, hR_aL, e1, e2, i_0]
theorem fillR_loop {u : Int64} (ho : okp h k 12 = true) (hn : n ≤ LN k) (hL : LN k < 2 ^ 31) : ∀ (m i : Nat), i + m = n → ∀ f : Nat → Int64, Tr sc d 256 (10, [some (.ref k), some (.int 0), some (.int (nI n)), some (.long u), none, some (.int (nI i))], [], aL h k f) Q = Q (none, aL h k (fun b => if i ≤ b ∧ b < n then u else f b)) := by
  intro m
  induction m with
  | zero =>
    intro i hi f
    have e : i = n := by omega
    subst e
    rw [x_256_10]
    simp only [x_256_12, x_256_13, x_256_16, x_256_17, x_256_19, x_256_20, x_256_21, x_256_24, x_256_27, cl2_i, cl2_r, cl2_n, cl2_l, tl_s, tl_n, true_and, and_true, Option.some.injEq, exists_eq_left', Bool.and_self, Bool.true_and, Bool.and_true, Bool.or_true, Bool.true_or, i_10, i_00, if_true, if_false, not_true_eq_false, not_false_eq_true, and_false, false_and, okp_sI, okp_sL, okp_aI, okp_aL, hR_sI, hR_sL, hR_aI, hR_aL]
    rw [if_pos (Int32.le_refl _)]
    congr 3
    funext b
    rw [if_neg (by omega)]
  | succ m ih =>
    intro i hi f
    have hlt : i < n := by omega
    rw [x_256_10]
    simp only [x_256_12, x_256_13, x_256_16, x_256_17, x_256_19, x_256_20, x_256_21, x_256_24, x_256_27, cl2_i, cl2_r, cl2_n, cl2_l, tl_s, tl_n, true_and, and_true, Option.some.injEq, exists_eq_left', Bool.and_self, Bool.true_and, Bool.and_true, Bool.or_true, Bool.true_or, i_10, i_00, if_true, if_false, not_true_eq_false, not_false_eq_true, and_false, false_and, okp_sI, okp_sL, okp_aI, okp_aL, hR_sI, hR_sL, hR_aI, hR_aL, ho, inb_nI (show i < LN k by omega) hL, nI_clamp (n := i) (by omega), nI_1, sL_aL]
    rw [if_neg (nI_ge hlt (by omega)), ih (i + 1) (by omega)]
    congr 3
    funext b
    by_cases e1 : b = i
    · rw [if_neg (by omega), if_pos e1, if_pos (by omega)]
    · by_cases e2 : i + 1 ≤ b ∧ b < n
      · rw [if_pos e2, if_pos (by omega)]
      · rw [if_neg e2, if_neg e1, if_neg (by omega)]
/-- Arrays.fill(long[], 0, n, v) -/
theorem c_fillR {u : Int64} (ho : okp h k 12 = true) (hn : n ≤ LN k) (hl : LN k < 2 ^ 31) : Tr sc (d + 1) 256 (ent0 256 [.ref k, .int 0, .int (nI n), .long u] h) Q = Q (none, aL h k (fun b => if b < n then u else hL h k b)) := by
  rw [e_256, x_256_0, x_256_1 (okp_lt ho)]
  have el : Int32.ofNat (LN k) = nI (LN k) := rfl
  simp only [ho, cl2_i, cl2_r, cl2_n, cl2_l, tl_s, tl_n, true_and, and_true, Option.some.injEq, exists_eq_left', Bool.and_self, Bool.true_and, Bool.and_true, Bool.or_true, Bool.true_or, i_10, i_00, if_true, if_false, not_true_eq_false, not_false_eq_true, and_false, false_and, okp_sI, okp_sL, okp_aI, okp_aL, hR_sI, hR_sL, hR_aI, hR_aL, el, x_256_2, x_256_3, x_256_4, x_256_7, x_256_8, c_rc hn hl]
  have h0 := fillR_loop (sc := sc) (d := d + 1) (Q := Q) (u := u) ho hn hl n 0 (by omega) (hL h k)
  rw [aL_id] at h0
  refine Eq.trans h0 ?_
  congr 3
  funext b
  simp
theorem jv_s0 {f : Nat → Int} : ∀ n, (∀ p, p < n → jv (f p) = 0) → jv (sZ f n) = 0
  | 0, _ => rfl
  | n + 1, e => by
    show jv (sZ f n + f n) = 0
    rw [← jv_add, jv_s0 n (fun p hp => e p (by omega)), e n (by omega)]; rfl
/-- which vectors live, by their numbers -/
def AlI (h : PH) (b M R : Nat) (sx sy : Nat → Int) : Prop := ∀ X Y, Lv h R X Y ↔ Alv b M R sx sy X Y
theorem AlI.fr {P : Nat → Nat → Prop} (a : AlI h b M R sx sy) (f : Fq P h h') (hP : ∀ j, ¬ P 25 j) : AlI h' b M R sx sy := fun X Y => by
  rw [← a X Y]
  unfold Lv
  rw [f.i (hP _)]
theorem c_so_p {u : Nat → Int} (hw : WF h) (V : VcS h b M R sx sy) (W : ShV b M sx sy) (al : AlI h b M R sx sy) (hR : R ≤ 18) (hv : v < (2 * R + 1) * (2 * R + 1)) (hu : ∀ j, j < (2 * R + 1) * (2 * R + 1) → hL h 28 j = jv (u j)) (hK : ∀ H l4 l5, cl2 l4 = l4 → Fq (fun a _ => a = 29) h H → (∀ j, j < (2 * R + 1) * (2 * R + 1) → hL H 29 j = jv (psh b M R sx sy u (v + 1) j)) → Tr sc (d + 1) 85 (119, [some (.ref 24), some (.int (nI v)), some (.int (iv (b * xo R v))), some (.int (iv (b * yo R v))), l4, l5], [], H) Q) : ∀ (m p : Nat) (H : PH) (l5 : Option Value), p + m = M * M → Fq (fun a _ => a = 29) h H → (∀ j, j < (2 * R + 1) * (2 * R + 1) → hL H 29 j = jv (psh b M R sx sy u v j + sZ (fun q => if hit b M R sx sy v q j = true then u v else 0) p)) → Tr sc (d + 1) 85 (48, [some (.ref 24), some (.int (nI v)), some (.int (iv (b * xo R v))), some (.int (iv (b * yo R v))), some (.int (nI p)), l5], [], H) Q := by
  obtain ⟨⟨b1, b2⟩, ⟨m1, m2⟩, wt⟩ := id W
  have mm : M * M ≤ 36 := Nat.mul_le_mul m2 m2
  have sq := R_sq hR
  obtain ⟨⟨x1, x2⟩, y1, y2⟩ := xo_in hv
  have bx := mulB (a := (b : Int)) (A := 4) (b := xo R v) (B := 18) (by omega) (by omega)
  have by' := mulB (a := (b : Int)) (A := 4) (b := yo R v) (B := 18) (by omega) (by omega)
  intro m
  induction m with
  | zero =>
    intro p H l5 hp f a1
    have e : p = M * M := by omega
    subst e
    have hwH := f.WF hw
    have V' := V.fr f (fun a j q z => by omega)
    obtain ⟨v1, v2, v3, v4, v5, v6⟩ := id V'
    rw [x_85_48]
    simp only [x_85_50, x_85_51, x_85_54, o_24 hwH, cl2_i, cl2_r, cl2_n, cl2_l, tl_s, tl_n, true_and, and_true, Option.some.injEq, exists_eq_left', Bool.and_self, Bool.true_and, Bool.and_true, Bool.or_true, Bool.true_or, i_10, i_00, if_true, if_false, not_true_eq_false, not_false_eq_true, and_false, false_and, okp_sI, okp_sL, okp_aI, okp_aL, hR_sI, hR_sL, hR_aI, hR_aL, v5]
    rw [if_pos (Int32.le_refl _)]
    exact hK H _ l5 rfl f (fun j hj => a1 j hj)
  | succ m ih =>
    intro p H l5 hp f a1
    have hlt : p < M * M := by omega
    have hwH := f.WF hw
    have V' := V.fr f (fun a j q z => by omega)
    obtain ⟨v1, v2, v3, v4, v5, v6⟩ := id V'
    have e1 := dX_b (fun i hi => (wt i hi).1) m1 hlt
    have e2 := dX_b (fun i hi => (wt i hi).2) m1 hlt
    have uv : hL H 28 v = jv (u v) := by rw [f.l (by omega)]; exact hu v hv
    rw [x_85_48]
    simp only [x_85_50, x_85_51, x_85_54, x_85_57, x_85_58, x_85_61, x_85_62, x_85_63, x_85_64, x_85_65, x_85_68, x_85_69, x_85_70, x_85_71, x_85_74, x_85_76, x_85_77, x_85_78, x_85_79, x_85_80, x_85_83, x_85_85, x_85_86, x_85_87, o_24 hwH, w_24_3 hwH, w_24_5 hwH, w_24_6 hwH, o_28 hwH, show LN 28 = 1369 from rfl, o_30 hwH, iOk_lt (k := 30) (by decide), iRd_lt (k := 30) (by decide), show LN 30 = 36 from rfl, o_31 hwH, iOk_lt (k := 31) (by decide), iRd_lt (k := 31) (by decide), show LN 31 = 36 from rfl, cl2_i, cl2_r, cl2_n, cl2_l, tl_s, tl_n, true_and, and_true, Option.some.injEq, exists_eq_left', Bool.and_self, Bool.true_and, Bool.and_true, Bool.or_true, Bool.true_or, i_10, i_00, if_true, if_false, not_true_eq_false, not_false_eq_true, and_false, false_and, okp_sI, okp_sL, okp_aI, okp_aL, hR_sI, hR_sL, hR_aI, hR_aL, v5, inb_nI (i := v) (n := 1369) (by omega) (by decide), nI_clamp (n := v) (by omega), uv, lcmp_0, inb_nI (i := p) (n := 36) (by omega) (by decide), nI_clamp (n := p) (by omega), (v6 p hlt).1, (v6 p hlt).2, iv_add]
    rw [if_neg (nI_ge hlt (by omega))]
    by_cases q0 : jv (u v) = 0
    · rw [if_pos q0]
      refine hK H _ l5 rfl f (fun j hj => ?_)
      rw [a1 j hj]
      show jv _ = jv (psh b M R sx sy u v j + sZ (fun p => if hit b M R sx sy v p j = true then u v else 0) (M * M))
      have z0 : ∀ m, jv (sZ (fun q => if hit b M R sx sy v q j = true then u v else 0) m) = 0 := fun m => jv_s0 m (fun q _ => by
        show jv (if hit b M R sx sy v q j = true then u v else 0) = 0
        split
        · exact q0
        · rfl)
      rw [← jv_add, ← jv_add, z0, z0]
    · rw [if_neg q0]
      have fe : ∀ j, psh b M R sx sy u v j + sZ (fun q => if hit b M R sx sy v q j = true then u v else 0) (p + 1) = psh b M R sx sy u v j + sZ (fun q => if hit b M R sx sy v q j = true then u v else 0) p + (if hit b M R sx sy v p j = true then u v else 0) := fun j => (Int.add_assoc _ _ _).symm
      have al' : AlI H b M R sx sy := al.fr f (fun j q => by omega)
      refine c_livAt hwH V' hR ⟨by omega, by omega⟩ ⟨by omega, by omega⟩ (fun z => ?_) (fun z => ?_)
      · have hvl := vi_lt z.1
        have za := (al' _ _).mp z
        generalize hj0 : vi R (↑b * xo R v + dX M sx p) (↑b * yo R v + dX M sy p) = j0 at *
        simp only [x_85_90, x_85_92, x_85_94, x_85_97, x_85_98, x_85_101, x_85_103, x_85_104, x_85_105, x_85_106, x_85_109, x_85_110, x_85_111, x_85_112, x_85_113, x_85_116, o_24 hwH, w_24_3 hwH, w_24_4 hwH, o_29 hwH, show LN 29 = 1369 from rfl, o_28 hwH, show LN 28 = 1369 from rfl, cl2_i, cl2_r, cl2_n, cl2_l, tl_s, tl_n, true_and, and_true, Option.some.injEq, exists_eq_left', Bool.and_self, Bool.true_and, Bool.and_true, Bool.or_true, Bool.true_or, i_10, i_00, if_true, if_false, not_true_eq_false, not_false_eq_true, and_false, false_and, okp_sI, okp_sL, okp_aI, okp_aL, hR_sI, hR_sL, hR_aI, hR_aL, inb_nI (i := j0) (n := 1369) (by omega) (by decide), nI_clamp (n := j0) (by omega), inb_nI (i := v) (n := 1369) (by omega) (by decide), nI_clamp (n := v) (by omega), uv, nI_1]
        rw [if_neg (nI_pos (by omega))]
        refine ih (p + 1) _ _ (by omega) (f.sL rfl) (fun j hj => ?_)
        rw [hL_sL, if_pos rfl, fe]
        by_cases e : j = j0
        · rw [if_pos e, if_pos (show hit b M R sx sy v p j = true by unfold hit; rw [cd_t]; exact ⟨za, by rw [hj0, e]⟩), a1 j0 (by omega), jv_add, e]
        · rw [if_neg e, if_neg (show ¬ hit b M R sx sy v p j = true by unfold hit; rw [cd_t]; exact fun q => e (by rw [← q.2, hj0])), a1 j hj, Int.add_zero]
      · simp only [x_85_90, x_85_92, x_85_94, x_85_113, x_85_116, cl2_i, cl2_r, cl2_n, cl2_l, tl_s, tl_n, true_and, and_true, Option.some.injEq, exists_eq_left', Bool.and_self, Bool.true_and, Bool.and_true, Bool.or_true, Bool.true_or, i_10, i_00, if_true, if_false, not_true_eq_false, not_false_eq_true, and_false, false_and, okp_sI, okp_sL, okp_aI, okp_aL, hR_sI, hR_sL, hR_aI, hR_aL, nI_1, show ((-1 : Int32) < 0) = True from eq_true (by decide)]
        refine ih (p + 1) _ _ (by omega) f (fun j hj => ?_)
        rw [fe, if_neg (show ¬ hit b M R sx sy v p j = true by unfold hit; rw [cd_t]; exact fun q => z ((al' _ _).mpr q.1)), Int.add_zero]
        exact a1 j hj
theorem c_so_v {u : Nat → Int} (hw : WF h) (V : VcS h b M R sx sy) (W : ShV b M sx sy) (al : AlI h b M R sx sy) (hR : R ≤ 18) (hu : ∀ j, j < (2 * R + 1) * (2 * R + 1) → hL h 28 j = jv (u j)) (hK : ∀ H l2 l3 l4 l5, Fq (fun a _ => a = 29) h H → (∀ j, j < (2 * R + 1) * (2 * R + 1) → hL H 29 j = jv (psh b M R sx sy u ((2 * R + 1) * (2 * R + 1)) j)) → Tr sc (d + 1) 85 (125, [some (.ref 24), some (.int (nI ((2 * R + 1) * (2 * R + 1)))), l2, l3, l4, l5], [], H) Q) : ∀ (m v : Nat) (H : PH) (l2 l3 l4 l5 : Option Value), cl2 l2 = l2 → cl2 l3 = l3 → cl2 l4 = l4 → v + m = (2 * R + 1) * (2 * R + 1) → Fq (fun a _ => a = 29) h H → (∀ j, j < (2 * R + 1) * (2 * R + 1) → hL H 29 j = jv (psh b M R sx sy u v j)) → Tr sc (d + 1) 85 (15, [some (.ref 24), some (.int (nI v)), l2, l3, l4, l5], [], H) Q := by
  have sq := R_sq hR
  intro m
  induction m with
  | zero =>
    intro v H l2 l3 l4 l5 h2 h3 h4 hv f a1
    have e : v = (2 * R + 1) * (2 * R + 1) := by omega
    subst e
    have hwH := f.WF hw
    obtain ⟨v1, v2, v3, v4, v5, v6⟩ := V.fr f (fun a j q z => by omega)
    rw [x_85_15]
    simp only [x_85_16, x_85_17, x_85_20, o_24 hwH, cl2_i, cl2_r, cl2_n, cl2_l, tl_s, tl_n, true_and, and_true, Option.some.injEq, exists_eq_left', Bool.and_self, Bool.true_and, Bool.and_true, Bool.or_true, Bool.true_or, i_10, i_00, if_true, if_false, not_true_eq_false, not_false_eq_true, and_false, false_and, okp_sI, okp_sL, okp_aI, okp_aL, hR_sI, hR_sL, hR_aI, hR_aL, v4]
    rw [if_pos (Int32.le_refl _)]
    exact hK H _ _ _ _ f a1
  | succ m ih =>
    intro v H l2 l3 l4 l5 h2 h3 h4 hv f a1
    have hlt : v < (2 * R + 1) * (2 * R + 1) := by omega
    have hwH := f.WF hw
    have V' := V.fr f (fun a j q z => by omega)
    obtain ⟨v1, v2, v3, v4, v5, v6⟩ := id V'
    have al' : AlI H b M R sx sy := al.fr f (fun j q => by omega)
    rw [x_85_15]
    simp only [x_85_16, x_85_17, x_85_20, x_85_23, x_85_24, x_85_27, x_85_28, x_85_29, x_85_32, x_85_33, x_85_34, x_85_35, x_85_38, x_85_39, x_85_40, x_85_43, x_85_44, x_85_45, x_85_46, o_24 hwH, cl2_i, cl2_r, cl2_n, cl2_l, tl_s, tl_n, true_and, and_true, Option.some.injEq, exists_eq_left', Bool.and_self, Bool.true_and, Bool.and_true, Bool.or_true, Bool.true_or, i_10, i_00, if_true, if_false, not_true_eq_false, not_false_eq_true, and_false, false_and, okp_sI, okp_sL, okp_aI, okp_aL, hR_sI, hR_sL, hR_aI, hR_aL, v4, v1, h2, h3, h4, c_vxOf hwH V' hR (show v < 2147483648 by omega), c_vyOf hwH V' hR (show v < 2147483648 by omega), iv_n b, iv_mul]
    rw [if_neg (nI_ge hlt (by omega))]
    refine c_so_p (u := u) hwH V' W al' hR hlt (fun j hj => by rw [f.l (by omega)]; exact hu j hj) (fun H2 l4' l5' h4' f2 a2 => ?_) (M * M) 0 H l5 (by omega) Fq.rf (fun j hj => by rw [a1 j hj]; congr 1; exact (Int.add_zero _).symm)
    simp only [x_85_119, x_85_122, cl2_i, cl2_r, cl2_n, cl2_l, tl_s, tl_n, true_and, and_true, Option.some.injEq, exists_eq_left', Bool.and_self, Bool.true_and, Bool.and_true, Bool.or_true, Bool.true_or, i_10, i_00, if_true, if_false, not_true_eq_false, not_false_eq_true, and_false, false_and, okp_sI, okp_sL, okp_aI, okp_aL, hR_sI, hR_sL, hR_aI, hR_aL, nI_1, h4']
    exact ih (v + 1) H2 _ _ _ _ rfl rfl h4' (by omega) (f.tr f2) a2
theorem c_stepOn {u : Nat → Int} (hw : WF h) (V : VcS h b M R sx sy) (W : ShV b M sx sy) (al : AlI h b M R sx sy) (hR : R ≤ 18) (hu : ∀ j, j < (2 * R + 1) * (2 * R + 1) → hL h 28 j = jv (u j)) (hK : ∀ H, Fq Py h H → (∀ j, j < (2 * R + 1) * (2 * R + 1) → hL H 28 j = jv (psh b M R sx sy u ((2 * R + 1) * (2 * R + 1)) j)) → Q (none, H)) : Tr sc (d + 2) 85 (ent0 85 [.ref 24] h) Q := by
  have sq := R_sq hR
  obtain ⟨v1, v2, v3, v4, v5, v6⟩ := id V
  rw [e_85]
  simp only [x_85_0, x_85_1, x_85_4, x_85_5, x_85_6, x_85_9, x_85_10, x_85_13, x_85_14, o_24 hw, w_24_4 hw, o_29 hw, show LN 29 = 1369 from rfl, cl2_i, cl2_r, cl2_n, cl2_l, tl_s, tl_n, true_and, and_true, Option.some.injEq, exists_eq_left', Bool.and_self, Bool.true_and, Bool.and_true, Bool.or_true, Bool.true_or, i_10, i_00, if_true, if_false, not_true_eq_false, not_false_eq_true, and_false, false_and, okp_sI, okp_sL, okp_aI, okp_aL, hR_sI, hR_sL, hR_aI, hR_aL, v4, c_fillR (k := 29) (n := (2 * R + 1) * (2 * R + 1)) (o_29 hw) (show (2 * R + 1) * (2 * R + 1) ≤ LN 29 from sq) (by decide)]
  generalize hh1 : aL h 29 (fun b => if b < (2 * R + 1) * (2 * R + 1) then 0 else hL h 29 b) = h1
  have f1 : Fq (fun a _ => a = 29) h h1 := by rw [← hh1]; exact Fq.rf.aL (fun _ => rfl)
  have hw1 := f1.WF hw
  refine c_so_v (d := d + 1) (u := u) hw1 (V.fr f1 (fun a j q z => by omega)) W (al.fr f1 (fun j q => by omega)) hR (fun j hj => by rw [f1.l (by omega)]; exact hu j hj) (fun H l2 l3 l4 l5 f2 a2 => ?_) _ 0 h1 none none none none rfl rfl rfl (Nat.zero_add _) Fq.rf (fun j hj => ?_)
  · have hwH := f2.WF hw1
    obtain ⟨v1', v2', v3', v4', v5', v6'⟩ := (V.fr f1 (fun a j q z => by omega)).fr f2 (fun a j q z => by omega)
    have n11 : okp H 29 11 = false := by
      cases z : okp H 29 11 with
      | false => rfl
      | true => exact absurd (okp_spec z).2.2 (by decide)
    have np : ((nI ((2 * R + 1) * (2 * R + 1))) < 0) = False := eq_false (nI_pos (by omega))
    simp only [x_85_125, x_85_126, x_85_129, x_85_130, x_85_131, x_85_134, x_85_135, x_85_136, x_85_139, x_85_142, o_24 hwH, w_24_3 hwH, w_24_4 hwH, o_29 hwH, show LN 29 = 1369 from rfl, o_28 hwH, show LN 28 = 1369 from rfl, cl2_i, cl2_r, cl2_n, cl2_l, tl_s, tl_n, true_and, and_true, Option.some.injEq, exists_eq_left', Bool.and_self, Bool.true_and, Bool.and_true, Bool.or_true, Bool.true_or, i_10, i_00, if_true, if_false, not_true_eq_false, not_false_eq_true, and_false, false_and, okp_sI, okp_sL, okp_aI, okp_aL, hR_sI, hR_sL, hR_aI, hR_aL, v4', n11, np, nI_clamp (n := (2 * R + 1) * (2 * R + 1)) (by omega), Bool.false_eq_true, Bool.false_and, cl_0, i_nn0]
    refine ⟨⟨by omega, by omega, by decide⟩, hK _ (((f1.tr f2).wk (fun a b q => Or.inr q)).aL (fun b => Or.inl rfl)) (fun j hj => ?_)⟩
    rw [hL_aL, if_pos rfl, pk_cpy_in (Nat.zero_le _) (by omega), show 0 + (j - 0) = j by omega]
    exact a2 j hj
  · rw [← hh1, hL_aL, if_pos rfl, if_pos hj]; rfl
theorem c_cw_a (hw : WF h) (V : VcS h b M R sx sy) (al : AlI h b M R sx sy) (hR : R ≤ 18) (hK : ∀ H, Fq Py h H → (∀ j, j < (2 * R + 1) * (2 * R + 1) → hL H 28 j = jv (if cd (Alv b M R sx sy (xo R j) (yo R j)) = true then 1 else 0)) → Tr sc d 84 (36, [some (.ref 24), some (.int x), some (.int (nI ((2 * R + 1) * (2 * R + 1)))), none, none], [], H) Q) : ∀ (m v : Nat) (H : PH), v + m = (2 * R + 1) * (2 * R + 1) → Fq Py h H → (∀ j, j < v → hL H 28 j = jv (if cd (Alv b M R sx sy (xo R j) (yo R j)) = true then 1 else 0)) → Tr sc d 84 (2, [some (.ref 24), some (.int x), some (.int (nI v)), none, none], [], H) Q := by
  have sq := R_sq hR
  intro m
  induction m with
  | zero =>
    intro v H hv f a1
    have e : v = (2 * R + 1) * (2 * R + 1) := by omega
    subst e
    have hwH := f.WF hw
    obtain ⟨v1, v2, v3, v4, v5, v6⟩ := V.fr f (fun a j q z => by unfold Py at z; omega)
    rw [x_84_2]
    simp only [x_84_3, x_84_4, x_84_7, o_24 hwH, cl2_i, cl2_r, cl2_n, cl2_l, tl_s, tl_n, true_and, and_true, Option.some.injEq, exists_eq_left', Bool.and_self, Bool.true_and, Bool.and_true, Bool.or_true, Bool.true_or, i_10, i_00, if_true, if_false, not_true_eq_false, not_false_eq_true, and_false, false_and, okp_sI, okp_sL, okp_aI, okp_aL, hR_sI, hR_sL, hR_aI, hR_aL, v4]
    rw [if_pos (Int32.le_refl _)]
    exact hK H f a1
  | succ m ih =>
    intro v H hv f a1
    have hlt : v < (2 * R + 1) * (2 * R + 1) := by omega
    have hwH := f.WF hw
    obtain ⟨v1, v2, v3, v4, v5, v6⟩ := V.fr f (fun a j q z => by unfold Py at z; omega)
    have al' : AlI H b M R sx sy := al.fr f (fun j q => by unfold Py at q; omega)
    have key : ∀ c : Int64, c = jv (if cd (Alv b M R sx sy (xo R v) (yo R v)) = true then 1 else 0) → Tr sc d 84 (29, [some (.ref 24), some (.int x), some (.int (nI v)), none, none], [.long c, .int (nI v), .ref 28], H) Q := by
      intro c hc
      simp only [x_84_29, x_84_30, x_84_33, o_24 hwH, o_28 hwH, show LN 28 = 1369 from rfl, cl2_i, cl2_r, cl2_n, cl2_l, tl_s, tl_n, true_and, and_true, Option.some.injEq, exists_eq_left', Bool.and_self, Bool.true_and, Bool.and_true, Bool.or_true, Bool.true_or, i_10, i_00, if_true, if_false, not_true_eq_false, not_false_eq_true, and_false, false_and, okp_sI, okp_sL, okp_aI, okp_aL, hR_sI, hR_sL, hR_aI, hR_aL, inb_nI (i := v) (n := 1369) (by omega) (by decide), nI_clamp (n := v) (by omega), nI_1]
      refine ih (v + 1) _ (by omega) (f.sL (Or.inl rfl)) (fun j hj => ?_)
      rw [hL_sL, if_pos rfl]
      by_cases e : j = v
      · rw [if_pos e, e, hc]
      · rw [if_neg e]; exact a1 j (by omega)
    rw [x_84_2]
    simp only [x_84_3, x_84_4, x_84_7, x_84_10, x_84_11, x_84_14, x_84_15, x_84_16, x_84_19, x_84_20, x_84_21, x_84_24, x_84_25, x_84_28, o_24 hwH, w_24_0 hwH, w_24_3 hwH, o_28 hwH, show LN 28 = 1369 from rfl, o_25 hwH, show LN 25 = 1369 from rfl, cl2_i, cl2_r, cl2_n, cl2_l, tl_s, tl_n, true_and, and_true, Option.some.injEq, exists_eq_left', Bool.and_self, Bool.true_and, Bool.and_true, Bool.or_true, Bool.true_or, i_10, i_00, if_true, if_false, not_true_eq_false, not_false_eq_true, and_false, false_and, okp_sI, okp_sL, okp_aI, okp_aL, hR_sI, hR_sL, hR_aI, hR_aL, v4, inb_nI (i := v) (n := 1369) (by omega) (by decide), nI_clamp (n := v) (by omega)]
    rw [if_neg (nI_ge hlt (by omega))]
    have lv : ¬ hI H 25 v = 0 ↔ Alv b M R sx sy (xo R v) (yo R v) := by
      rw [← al' (xo R v) (yo R v)]
      unfold Lv
      rw [vi_v hlt]
      exact ⟨fun q => ⟨xo_in hlt, q⟩, fun q => q.2⟩
    by_cases q : hI H 25 v = 0
    · rw [if_pos q]
      exact key 0 (by rw [if_neg (show ¬ cd _ = true by rw [cd_t]; exact fun z => (lv.mpr z) q)]; rfl)
    · rw [if_neg q]
      exact key 1 (by rw [if_pos (show cd _ = true by rw [cd_t]; exact lv.mp q)]; rfl)
theorem c_cw_t {N : Nat} (hw : WF h) (V : VcS h b M R sx sy) (W : ShV b M sx sy) (al : AlI h b M R sx sy) (hR : R ≤ 18) (hN : N ≤ 6) (hK : ∀ H, Fq Py h H → (∀ j, j < (2 * R + 1) * (2 * R + 1) → hL H 28 j = jv (uw b M R sx sy N j)) → Tr sc (d + 3) 84 (65, [some (.ref 24), some (.int (nI N)), some (.int (nI N)), none, none], [], H) Q) : ∀ (m t : Nat) (H : PH), t + m = N → Fq Py h H → (∀ j, j < (2 * R + 1) * (2 * R + 1) → hL H 28 j = jv (uw b M R sx sy t j)) → Tr sc (d + 3) 84 (50, [some (.ref 24), some (.int (nI N)), some (.int (nI t)), none, none], [], H) Q := by
  intro m
  induction m with
  | zero =>
    intro t H ht f a1
    have e : t = N := by omega
    subst e
    rw [x_84_50]
    simp only [x_84_51, x_84_52, cl2_i, cl2_r, cl2_n, cl2_l, tl_s, tl_n, true_and, and_true, Option.some.injEq, exists_eq_left', Bool.and_self, Bool.true_and, Bool.and_true, Bool.or_true, Bool.true_or, i_10, i_00, if_true, if_false, not_true_eq_false, not_false_eq_true, and_false, false_and, okp_sI, okp_sL, okp_aI, okp_aL, hR_sI, hR_sL, hR_aI, hR_aL]
    rw [if_pos (Int32.le_refl _)]
    exact hK H f a1
  | succ m ih =>
    intro t H ht f a1
    have hwH := f.WF hw
    have V' := V.fr f (fun a j q z => by unfold Py at z; omega)
    have al' : AlI H b M R sx sy := al.fr f (fun j q => by unfold Py at q; omega)
    rw [x_84_50]
    simp only [x_84_51, x_84_52, x_84_55, x_84_56, o_24 hwH, cl2_i, cl2_r, cl2_n, cl2_l, tl_s, tl_n, true_and, and_true, Option.some.injEq, exists_eq_left', Bool.and_self, Bool.true_and, Bool.and_true, Bool.or_true, Bool.true_or, i_10, i_00, if_true, if_false, not_true_eq_false, not_false_eq_true, and_false, false_and, okp_sI, okp_sL, okp_aI, okp_aL, hR_sI, hR_sL, hR_aI, hR_aL]
    rw [if_neg (nI_ge (show t < N by omega) (by omega))]
    refine c_stepOn (u := uw b M R sx sy t) hwH V' W al' hR a1 (fun H2 f2 a2 => ?_)
    simp only [x_84_59, x_84_62, cl2_i, cl2_r, cl2_n, cl2_l, tl_s, tl_n, true_and, and_true, Option.some.injEq, exists_eq_left', Bool.and_self, Bool.true_and, Bool.and_true, Bool.or_true, Bool.true_or, i_10, i_00, if_true, if_false, not_true_eq_false, not_false_eq_true, and_false, false_and, okp_sI, okp_sL, okp_aI, okp_aL, hR_sI, hR_sL, hR_aI, hR_aL, nI_1]
    exact ih (t + 1) H2 (by omega) (f.tr f2) a2
theorem c_cw_d {u : Nat → Int} (hw : WF h) (V : VcS h b M R sx sy) (hR : R ≤ 18) (hu : ∀ j, j < (2 * R + 1) * (2 * R + 1) → hL h 28 j = jv (u j)) : ∀ (m v : Nat), v + m = (2 * R + 1) * (2 * R + 1) → Tr sc d 84 (70, [some (.ref 24), some (.int x), some (.long (jv (sZ u v))), none, some (.int (nI v))], [], h) Q = Q (some (.long (jv (sZ u ((2 * R + 1) * (2 * R + 1))))), h) := by
  have sq := R_sq hR
  obtain ⟨v1, v2, v3, v4, v5, v6⟩ := V
  intro m
  induction m with
  | zero =>
    intro v hv
    have e : v = (2 * R + 1) * (2 * R + 1) := by omega
    subst e
    rw [x_84_70]
    simp only [x_84_72, x_84_73, x_84_76, x_84_79, x_84_80, x_84_81, x_84_84, x_84_86, x_84_87, x_84_88, x_84_89, x_84_92, x_84_95, x_84_96, o_24 hw, w_24_3 hw, o_28 hw, show LN 28 = 1369 from rfl, cl2_i, cl2_r, cl2_n, cl2_l, tl_s, tl_n, true_and, and_true, Option.some.injEq, exists_eq_left', Bool.and_self, Bool.true_and, Bool.and_true, Bool.or_true, Bool.true_or, i_10, i_00, if_true, if_false, not_true_eq_false, not_false_eq_true, and_false, false_and, okp_sI, okp_sL, okp_aI, okp_aL, hR_sI, hR_sL, hR_aI, hR_aL, v4]
    rw [if_pos (Int32.le_refl _)]
  | succ m ih =>
    intro v hv
    have hlt : v < (2 * R + 1) * (2 * R + 1) := by omega
    rw [x_84_70]
    simp only [x_84_72, x_84_73, x_84_76, x_84_79, x_84_80, x_84_81, x_84_84, x_84_86, x_84_87, x_84_88, x_84_89, x_84_92, x_84_95, x_84_96, o_24 hw, w_24_3 hw, o_28 hw, show LN 28 = 1369 from rfl, cl2_i, cl2_r, cl2_n, cl2_l, tl_s, tl_n, true_and, and_true, Option.some.injEq, exists_eq_left', Bool.and_self, Bool.true_and, Bool.and_true, Bool.or_true, Bool.true_or, i_10, i_00, if_true, if_false, not_true_eq_false, not_false_eq_true, and_false, false_and, okp_sI, okp_sL, okp_aI, okp_aL, hR_sI, hR_sL, hR_aI, hR_aL, v4, inb_nI (i := v) (n := 1369) (by omega) (by decide), nI_clamp (n := v) (by omega), hu v hlt, jv_add, nI_1]
    rw [if_neg (nI_ge hlt (by omega))]
    exact ih (v + 1) (by omega)
theorem c_countWays {N : Nat} (hw : WF h) (V : VcS h b M R sx sy) (W : ShV b M sx sy) (al : AlI h b M R sx sy) (hR : R ≤ 18) (hN : N ≤ 6) (hK : ∀ H, Fq Py h H → Q (some (.long (jv (sZ (uw b M R sx sy N) ((2 * R + 1) * (2 * R + 1))))), H)) : Tr sc (d + 3) 84 (ent0 84 [.ref 24, .int (nI N)] h) Q := by
  have sq := R_sq hR
  rw [e_84]
  simp only [x_84_0, x_84_1, cl2_i, cl2_r, cl2_n, cl2_l, tl_s, tl_n, true_and, and_true, Option.some.injEq, exists_eq_left', Bool.and_self, Bool.true_and, Bool.and_true, Bool.or_true, Bool.true_or, i_10, i_00, if_true, if_false, not_true_eq_false, not_false_eq_true, and_false, false_and, okp_sI, okp_sL, okp_aI, okp_aL, hR_sI, hR_sL, hR_aI, hR_aL]
  refine c_cw_a hw V al hR (fun H f a1 => ?_) _ 0 h (Nat.zero_add _) Fq.rf (fun j hj => by omega)
  have hwH := f.WF hw
  obtain ⟨v1, v2, v3, v4, v5, v6⟩ := V.fr f (fun a j q z => by unfold Py at z; omega)
  have h0 : inX R 0 0 := ⟨by omega, by omega⟩
  have hvl := vi_lt h0
  have e1 : nI ((2 * R + 1) * (2 * R + 1)) / 2 = nI (vi R 0 0) := by
    have := pk_div (a := (2 * R + 1) * (2 * R + 1)) (d := 2) (by omega) (by decide) (by decide)
    rw [vi_mid] at this
    exact this
  have n2 : ¬ (2 : Int32) = 0 := by decide
  simp only [x_84_36, x_84_37, x_84_40, x_84_41, x_84_44, x_84_45, x_84_46, x_84_47, x_84_48, x_84_49, o_24 hwH, w_24_3 hwH, o_28 hwH, show LN 28 = 1369 from rfl, cl2_i, cl2_r, cl2_n, cl2_l, tl_s, tl_n, true_and, and_true, Option.some.injEq, exists_eq_left', Bool.and_self, Bool.true_and, Bool.and_true, Bool.or_true, Bool.true_or, i_10, i_00, if_true, if_false, not_true_eq_false, not_false_eq_true, and_false, false_and, okp_sI, okp_sL, okp_aI, okp_aL, hR_sI, hR_sL, hR_aI, hR_aL, v4, n2, e1, inb_nI (i := vi R 0 0) (n := 1369) (by omega) (by decide), nI_clamp (n := vi R 0 0) (by omega)]
  refine c_cw_t hw V W al hR hN (fun H2 f2 a2 => ?_) N 0 _ (by omega) (f.sL (Or.inl rfl)) (fun j hj => ?_)
  · have hw2 := f2.WF hw
    simp only [x_84_65, x_84_66, x_84_67, x_84_68, cl2_i, cl2_r, cl2_n, cl2_l, tl_s, tl_n, true_and, and_true, Option.some.injEq, exists_eq_left', Bool.and_self, Bool.true_and, Bool.and_true, Bool.or_true, Bool.true_or, i_10, i_00, if_true, if_false, not_true_eq_false, not_false_eq_true, and_false, false_and, okp_sI, okp_sL, okp_aI, okp_aL, hR_sI, hR_sL, hR_aI, hR_aL]
    exact Eq.mpr (c_cw_d (u := uw b M R sx sy N) hw2 (V.fr f2 (fun a j q z => by unfold Py at z; omega)) hR a2 _ 0 (Nat.zero_add _)) (hK H2 f2)
  · rw [hL_sL, if_pos rfl]
    show _ = jv (if j = vi R 0 0 then 0 else if cd (Alv b M R sx sy (xo R j) (yo R j)) = true then 1 else 0)
    by_cases e : j = vi R 0 0
    · rw [if_pos e, if_pos e]; rfl
    · rw [if_neg e, if_neg e]; exact a1 j hj
end RC
