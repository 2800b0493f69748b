/-! ===== the class's cells: keys, slots, searching, adding ===== -/
def IsCl (k : Nat) : Prop := k = 16 ∨ k = 20
def rmC (k : Nat) : Nat := if k = 16 then 7776 else 1296
def slC (k : Nat) : Nat := if k = 16 then 16384 else 4096
def ClR (h : PH) (k : Nat) : Prop := okp h k 1 = true ∧ hR h k 0 = some (k + 1) ∧ hR h k 1 = some (k + 2) ∧ hR h k 2 = some (k + 3) ∧ okp h (k + 1) 11 = true ∧ okp h (k + 2) 11 = true ∧ okp h (k + 3) 11 = true ∧ LN (k + 1) = rmC k ∧ LN (k + 2) = rmC k ∧ LN (k + 3) = slC k
def Pcl (k : Nat) (a _b : Nat) : Prop := k ≤ a ∧ a ≤ k + 3
/-- cells with a mask of e bits hold the points of L, in the order in which they came first -/
def ClI (h : PH) (k e : Nat) (L : List Pnt) : Prop := (2 ^ e ≤ slC k ∧ (dd L).length ≤ rmC k) ∧ hI h k 3 = nI (2 ^ e - 1) ∧ hI h k 4 = nI (dd L).length ∧ (∃ v, IsMc L v ∧ hI h k 5 = nI v) ∧ (∀ i, i < (dd L).length → hI h (k + 1) i = iv (kyZ ((dd L).getD i pt0)) ∧ hI h (k + 2) i = nI (L.count ((dd L).getD i pt0))) ∧ (∃ σ, (∀ s, s < 2 ^ e → hI h (k + 3) s = nI (σ s)) ∧ Hsp (2 ^ e) σ (dd L)) ∧ (∀ p, p ∈ L → Rg p) ∧ (L ≠ [] → ∃ a b c g, (Lo (·.1) L a ∧ hI h k 6 = iv a) ∧ (Hi (·.1) L b ∧ hI h k 7 = iv b) ∧ (Lo (·.2) L c ∧ hI h k 8 = iv c) ∧ (Hi (·.2) L g ∧ hI h k 9 = iv g))
section CL
variable {sc : Nat × (Nat → Int32)} {d : Nat} {Q : PRes → Prop} {h h' h1 H : PH} {k e i j n t u : Nat} {L : List Pnt} {p : Pnt} {z : Int} {σ : Nat → Nat} {P : Nat → Nat → Prop} {x y : Int32}
theorem cl_ref (hw : WF h) (hk : IsCl k) : ClR h k := by
  rcases hk with rfl | rfl
  · exact ⟨o_16 hw, w_16_0 hw, w_16_1 hw, w_16_2 hw, o_17 hw, o_18 hw, o_19 hw, rfl, rfl, rfl⟩
  · exact ⟨o_20 hw, w_20_0 hw, w_20_1 hw, w_20_2 hw, o_21 hw, o_22 hw, o_23 hw, rfl, rfl, rfl⟩
theorem sl_e (hk : IsCl k) (he : 2 ^ e ≤ slC k) : e ≤ 14 := by
  rcases hk with rfl | rfl
  · have h1 : 2 ^ e ≤ 2 ^ 14 := he
    exact (Nat.pow_le_pow_iff_right (by decide)).mp h1
  · have h1 : 2 ^ e ≤ 2 ^ 12 := he
    have := (Nat.pow_le_pow_iff_right (by decide)).mp h1
    omega
theorem rm_b (hk : IsCl k) : rmC k ≤ 7776 ∧ slC k ≤ 16384 := by
  rcases hk with rfl | rfl
  · exact ⟨by decide, by decide⟩
  · exact ⟨by decide, by decide⟩
theorem ClI.fr (I : ClI h k e L) (f : Fq P h h') (hP : ∀ a b, k ≤ a → a ≤ k + 3 → ¬ P a b) : ClI h' k e L := by
  obtain ⟨i0, i1, i2, ⟨v, m1, m2⟩, i4, ⟨σ, s1, s2⟩, i6, i7⟩ := I
  have ki : ∀ a b, k ≤ a → a ≤ k + 3 → hI h' a b = hI h a b := fun a b h1 h2 => f.i (hP a b h1 h2)
  refine ⟨i0, by rw [ki _ _ (by omega) (by omega)]; exact i1, by rw [ki _ _ (by omega) (by omega)]; exact i2, ⟨v, m1, by rw [ki _ _ (by omega) (by omega)]; exact m2⟩, fun i hi => ?_, ⟨σ, fun s hs => by rw [ki _ _ (by omega) (by omega)]; exact s1 s hs, s2⟩, i6, fun z => ?_⟩
  · rw [ki _ _ (by omega) (by omega), ki _ _ (by omega) (by omega)]; exact i4 i hi
  · obtain ⟨a, b, c, g, q1, q2, q3, q4⟩ := i7 z
    refine ⟨a, b, c, g, ?_⟩
    rw [ki _ _ (by omega) (by omega), ki _ _ (by omega) (by omega), ki _ _ (by omega) (by omega), ki _ _ (by omega) (by omega)]
    exact ⟨q1, q2, q3, q4⟩
theorem iv_4096 : (4096 : Int32) = iv 4096 := rfl
theorem iv_m4096 : (-4096 : Int32) = iv (-4096) := rfl
theorem Rg_r (hp : Rg p) : R3 p.1 ∧ R3 p.2 := by
  obtain ⟨⟨a, b⟩, c, g⟩ := hp
  exact ⟨⟨by omega, by omega⟩, by omega, by omega⟩
theorem c_hasKey_t (hp : Rg p) : Tr sc d 12 (ent0 12 [.int (iv p.1), .int (iv p.2)] h) Q = Q (some (.int 1), h) := by
  obtain ⟨r1, r2⟩ := Rg_r hp
  obtain ⟨⟨a, b⟩, c, g⟩ := hp
  rw [e_12]
  simp only [x_12_0, x_12_1, x_12_4, x_12_7, x_12_8, x_12_11, x_12_14, x_12_15, x_12_18, x_12_21, x_12_22, x_12_25, x_12_28, x_12_29, x_12_32, x_12_33, cl2_i, cl2_r, cl2_n, cl2_l, tl_s, tl_n, true_and, and_true, Option.some.injEq, exists_eq_left', Bool.and_self, Bool.true_and, Bool.and_true, Bool.or_true, Bool.true_or, i_10, i_00, if_true, if_false, not_true_eq_false, not_false_eq_true, and_false, false_and, okp_sI, okp_sL, okp_aI, okp_aL, hR_sI, hR_sL, hR_aI, hR_aL, iv_4096, iv_neg, iv_lt r1 (show R3 (-4096) from ⟨by decide, by decide⟩), iv_lt r2 (show R3 (-4096) from ⟨by decide, by decide⟩), iv_le (show R3 4096 from ⟨by decide, by decide⟩) r1, iv_le (show R3 4096 from ⟨by decide, by decide⟩) r2, vp_b0, vp_b1]
  rw [if_neg (by omega), if_neg (by omega), if_neg (by omega), if_neg (by omega)]
theorem c_hasKey_f (hp : ¬ Rg p) (r1 : R3 p.1) (r2 : R3 p.2) : Tr sc d 12 (ent0 12 [.int (iv p.1), .int (iv p.2)] h) Q = Q (some (.int 0), h) := by
  rw [e_12]
  simp only [x_12_0, x_12_1, x_12_4, x_12_7, x_12_8, x_12_11, x_12_14, x_12_15, x_12_18, x_12_21, x_12_22, x_12_25, x_12_28, x_12_29, x_12_32, x_12_33, cl2_i, cl2_r, cl2_n, cl2_l, tl_s, tl_n, true_and, and_true, Option.some.injEq, exists_eq_left', Bool.and_self, Bool.true_and, Bool.and_true, Bool.or_true, Bool.true_or, i_10, i_00, if_true, if_false, not_true_eq_false, not_false_eq_true, and_false, false_and, okp_sI, okp_sL, okp_aI, okp_aL, hR_sI, hR_sL, hR_aI, hR_aL, iv_4096, iv_neg, iv_lt r1 (show R3 (-4096) from ⟨by decide, by decide⟩), iv_lt r2 (show R3 (-4096) from ⟨by decide, by decide⟩), iv_le (show R3 4096 from ⟨by decide, by decide⟩) r1, iv_le (show R3 4096 from ⟨by decide, by decide⟩) r2, vp_b0, vp_b1]
  by_cases e1 : p.1 < -4096
  · rw [if_pos e1]
  · rw [if_neg e1]
    by_cases e2 : 4096 ≤ p.1
    · rw [if_pos e2]
    · rw [if_neg e2]
      by_cases e3 : p.2 < -4096
      · rw [if_pos e3]
      · rw [if_neg e3]
        by_cases e4 : 4096 ≤ p.2
        · rw [if_pos e4]
        · exact absurd ⟨⟨by omega, by omega⟩, by omega, by omega⟩ hp
theorem c_keyOf : Tr sc d 13 (ent0 13 [.int (iv p.1), .int (iv p.2)] h) Q = Q (some (.int (iv (kyZ p))), h) := by
  rw [e_13]
  simp only [x_13_0, x_13_1, x_13_4, x_13_5, x_13_6, x_13_7, x_13_10, x_13_11, x_13_12, x_13_13, x_13_16, x_13_17, cl2_i, cl2_r, cl2_n, cl2_l, tl_s, tl_n, true_and, and_true, Option.some.injEq, exists_eq_left', Bool.and_self, Bool.true_and, Bool.and_true, Bool.or_true, Bool.true_or, i_10, i_00, if_true, if_false, not_true_eq_false, not_false_eq_true, and_false, false_and, okp_sI, okp_sL, okp_aI, okp_aL, hR_sI, hR_sL, hR_aI, hR_aL, iv_4096, show (2 : Int32) = iv 2 from rfl, iv_add, iv_mul]
  rw [show (p.1 + 4096) * 2 * 4096 + p.2 + 4096 = kyZ p by unfold kyZ; omega]
theorem sg_b (I : ClI h k e L) (hs : ∀ s, s < 2 ^ e → hI h (k + 3) s = nI (σ s)) (S : Hsp (2 ^ e) σ (dd L)) : ∀ s, s < 2 ^ e → σ s ≤ (dd L).length := S.1
/-- a search ends where it must -/
theorem c_slotOf (hw : WF h) (hk : IsCl k) (I : ClI h k e L) (hs : ∀ s, s < 2 ^ e → hI h (k + 3) s = nI (σ s)) (S : Hsp (2 ^ e) σ (dd L)) (hz : 0 ≤ z ∧ z < 67108864) (ht : t < 2 ^ e) (h1 : StpH (2 ^ e) σ (dd L) z t) (h2 : ∀ t', t' < t → ¬ StpH (2 ^ e) σ (dd L) z t') : Tr sc d 16 (ent0 16 [.ref k, .int (iv z)] h) Q = Q (some (.int (nI (slt (2 ^ e) z t))), h) := by
  obtain ⟨ho, r0, r1, r2, o1, o2, o3, n1, n2, n3⟩ := cl_ref hw hk
  obtain ⟨⟨i0, i0'⟩, i1, i2, -, i4, -, i6, -⟩ := id I
  have he := sl_e hk i0
  have hrm := rm_b hk
  have hm : 0 < 2 ^ e := Nat.pow_pos (by decide)
  have lp : ∀ (m u : Nat), u + m = t → Tr sc d 16 (15, [some (.ref k), some (.int (iv z)), some (.int (nI (slt (2 ^ e) z u))), some (.int (nI u))], [], h) Q = Q (some (.int (nI (slt (2 ^ e) z t))), h) := by
    intro m
    induction m with
    | zero =>
      intro u hu
      have eu : u = t := by omega
      subst eu
      have sl := slt_lt (z := z) (t := u) hm
      have sb := S.1 _ sl
      rw [x_16_15]
      simp only [x_16_16, x_16_17, x_16_20, x_16_23, x_16_24, x_16_27, x_16_28, x_16_29, x_16_32, x_16_33, x_16_36, x_16_37, x_16_40, x_16_41, x_16_42, x_16_43, x_16_44, x_16_45, x_16_46, x_16_64, x_16_65, cl2_i, cl2_r, cl2_n, cl2_l, tl_s, tl_n, true_and, and_true, Option.some.injEq, exists_eq_left', Bool.and_self, Bool.true_and, Bool.and_true, Bool.or_true, Bool.true_or, i_10, i_00, if_true, if_false, not_true_eq_false, not_false_eq_true, and_false, false_and, okp_sI, okp_sL, okp_aI, okp_aL, hR_sI, hR_sL, hR_aI, hR_aL, ho, r0, r2, i1, iOk_ok o3, iRd_ok o3, iOk_ok o1, iRd_ok o1, n1, n3, inb_nI (n := slC k) (show slt (2 ^ e) z u < slC k by omega) (by omega), nI_clamp (n := slt (2 ^ e) z u) (by omega), hs _ sl]
      rw [if_neg (nI_nlt (a := 2 ^ e - 1) (b := u) (by omega) (by omega))]
      rcases h1 with q | q
      · rw [q, nI_0, if_pos rfl]
      · by_cases q0 : σ (slt (2 ^ e) z u) = 0
        · rw [q0, nI_0, if_pos rfl]
        · rw [if_neg (nI_ne0 (by omega) (by omega))]
          obtain ⟨w, hw'⟩ : ∃ w, σ (slt (2 ^ e) z u) = w + 1 := ⟨σ (slt (2 ^ e) z u) - 1, by omega⟩
          rw [hw'] at q sb
          rw [Nat.add_sub_cancel] at q
          rw [hw', nI_pred, nI_clamp (n := w) (by omega), (i4 w (by omega)).1, q]
          simp only [inb_nI (n := rmC k) (show w < rmC k by omega) (by omega), if_true, true_and]
    | succ m ih =>
      intro u hu
      have hlt : u < t := by omega
      have sl := slt_lt (z := z) (t := u) hm
      have sb := S.1 _ sl
      have ns := h2 u hlt
      have q0 : σ (slt (2 ^ e) z u) ≠ 0 := fun q => ns (Or.inl q)
      obtain ⟨w, hw'⟩ : ∃ w, σ (slt (2 ^ e) z u) = w + 1 := ⟨σ (slt (2 ^ e) z u) - 1, by omega⟩
      have qn : ¬ kyZ ((dd L).getD w pt0) = z := fun q => ns (Or.inr (by rw [hw', Nat.add_sub_cancel]; exact q))
      have kb := kyZ_b (i6 _ (dd_mem.mp (gd_mem (L := dd L) (i := w) (by omega))))
      have nx : nI (slt (2 ^ e) z u) + 1 &&& nI (2 ^ e - 1) = nI (slt (2 ^ e) z (u + 1)) := by
        rw [nI_1, nx_eq (e := e) rfl (by omega) sl]
        unfold slt
        rw [Nat.mod_add_mod]; rfl
      rw [x_16_15]
      simp only [x_16_16, x_16_17, x_16_20, x_16_23, x_16_24, x_16_27, x_16_28, x_16_29, x_16_32, x_16_33, x_16_36, x_16_37, x_16_40, x_16_41, x_16_42, x_16_43, x_16_44, x_16_45, x_16_46, x_16_49, x_16_50, x_16_51, x_16_52, x_16_53, x_16_56, x_16_57, x_16_58, x_16_61, cl2_i, cl2_r, cl2_n, cl2_l, tl_s, tl_n, true_and, and_true, Option.some.injEq, exists_eq_left', Bool.and_self, Bool.true_and, Bool.and_true, Bool.or_true, Bool.true_or, i_10, i_00, if_true, if_false, not_true_eq_false, not_false_eq_true, and_false, false_and, okp_sI, okp_sL, okp_aI, okp_aL, hR_sI, hR_sL, hR_aI, hR_aL, ho, r0, r2, i1, iOk_ok o3, iRd_ok o3, iOk_ok o1, iRd_ok o1, n1, n3, inb_nI (n := slC k) (show slt (2 ^ e) z u < slC k by omega) (by omega), nI_clamp (n := slt (2 ^ e) z u) (by omega), hs _ sl, hw', nI_pred, nI_clamp (n := w) (show w < 2 ^ 31 by omega), (i4 w (by omega)).1, inb_nI (n := rmC k) (show w < rmC k by omega) (by omega), nx, iv_eq (x := kyZ ((dd L).getD w pt0)) (y := z) ⟨by omega, by omega⟩ ⟨by omega, by omega⟩, qn]
      rw [if_neg (nI_nlt (a := 2 ^ e - 1) (b := u) (by omega) (by omega)), if_neg (nI_ne0 (by omega) (by omega)), nI_1]
      exact ih (u + 1) (by omega)
  have e0 := (hs_eq (m := 2 ^ e) (e := e) (z := z) rfl (by omega))
  have e1 : slt (2 ^ e) z 0 = hsh (2 ^ e) z := by
    unfold slt
    rw [Nat.add_zero, Nat.mod_eq_of_lt e0.2]
  rw [e_16]
  simp only [x_16_0, x_16_1, x_16_3, x_16_4, x_16_6, x_16_7, x_16_8, x_16_11, x_16_12, x_16_13, x_16_14, cl2_i, cl2_r, cl2_n, cl2_l, tl_s, tl_n, true_and, and_true, Option.some.injEq, exists_eq_left', Bool.and_self, Bool.true_and, Bool.and_true, Bool.or_true, Bool.true_or, i_10, i_00, if_true, if_false, not_true_eq_false, not_false_eq_true, and_false, false_and, okp_sI, okp_sL, okp_aI, okp_aL, hR_sI, hR_sL, hR_aI, hR_aL, ho, i1, e0.1]
  rw [← e1]
  exact lp t 0 (by omega)
theorem c_indexOf_in (hw : WF h) (hk : IsCl k) (I : ClI h k e L) (hi : i < (dd L).length) (hp : (dd L).getD i pt0 = p) : Tr sc (d + 1) 17 (ent0 17 [.ref k, .int (iv p.1), .int (iv p.2)] h) Q = Q (some (.int (nI i)), h) := by
  obtain ⟨ho, r0, r1, r2, o1, o2, o3, n1, n2, n3⟩ := cl_ref hw hk
  obtain ⟨⟨i0, i0'⟩, i1, i2, -, i4, ⟨σ, hs, S⟩, i6, -⟩ := id I
  have he := sl_e hk i0
  have hrm := rm_b hk
  have hm : 0 < 2 ^ e := Nat.pow_pos (by decide)
  have hr : ∀ q, q ∈ dd L → Rg q := fun q hq => i6 q (dd_mem.mp hq)
  obtain ⟨t, t1, t2, t3⟩ := find_in hm S dd_nd hr hi
  rw [hp] at t2 t3
  have rp : Rg p := by rw [← hp]; exact hr _ (gd_mem hi)
  have sl := slt_lt (m := 2 ^ e) (z := kyZ p) (t := t) hm
  rw [e_17]
  simp only [x_17_0, x_17_1, x_17_2, x_17_5, x_17_8, x_17_9, x_17_12, x_17_13, x_17_14, x_17_15, x_17_18, x_17_21, x_17_22, x_17_23, x_17_24, x_17_27, x_17_28, cl2_i, cl2_r, cl2_n, cl2_l, tl_s, tl_n, true_and, and_true, Option.some.injEq, exists_eq_left', Bool.and_self, Bool.true_and, Bool.and_true, Bool.or_true, Bool.true_or, i_10, i_00, if_true, if_false, not_true_eq_false, not_false_eq_true, and_false, false_and, okp_sI, okp_sL, okp_aI, okp_aL, hR_sI, hR_sL, hR_aI, hR_aL, ho, r2, c_hasKey_t rp, c_keyOf, c_slotOf hw hk I hs S (kyZ_b rp) t1 (Or.inr (by rw [t2, Nat.add_sub_cancel, hp])) t3, iOk_ok o3, iRd_ok o3, n3, inb_nI (n := slC k) (show slt (2 ^ e) (kyZ p) t < slC k by omega) (by omega), nI_clamp (n := slt (2 ^ e) (kyZ p) t) (by omega), hs _ sl, t2, nI_pred]
theorem c_indexOf_out (hw : WF h) (hk : IsCl k) (I : ClI h k e L) (hl : (dd L).length < 2 ^ e) (hp : ¬ p ∈ L) (r1' : R3 p.1) (r2' : R3 p.2) : Tr sc (d + 1) 17 (ent0 17 [.ref k, .int (iv p.1), .int (iv p.2)] h) Q = Q (some (.int (-1)), h) := by
  obtain ⟨ho, r0, r1, r2, o1, o2, o3, n1, n2, n3⟩ := cl_ref hw hk
  obtain ⟨⟨i0, i0'⟩, i1, i2, -, i4, ⟨σ, hs, S⟩, i6, -⟩ := id I
  have he := sl_e hk i0
  have hrm := rm_b hk
  have hm : 0 < 2 ^ e := Nat.pow_pos (by decide)
  have hr : ∀ q, q ∈ dd L → Rg q := fun q hq => i6 q (dd_mem.mp hq)
  by_cases rp : Rg p
  · obtain ⟨t, t1, t2, t3⟩ := find_out (e := e) rfl (by omega) S hr rp (fun q => hp (dd_mem.mp q)) hl
    have sl := slt_lt (m := 2 ^ e) (z := kyZ p) (t := t) hm
    rw [e_17]
    simp only [x_17_0, x_17_1, x_17_2, x_17_5, x_17_8, x_17_9, x_17_12, x_17_13, x_17_14, x_17_15, x_17_18, x_17_21, x_17_22, x_17_23, x_17_24, x_17_27, x_17_28, cl2_i, cl2_r, cl2_n, cl2_l, tl_s, tl_n, true_and, and_true, Option.some.injEq, exists_eq_left', Bool.and_self, Bool.true_and, Bool.and_true, Bool.or_true, Bool.true_or, i_10, i_00, if_true, if_false, not_true_eq_false, not_false_eq_true, and_false, false_and, okp_sI, okp_sL, okp_aI, okp_aL, hR_sI, hR_sL, hR_aI, hR_aL, ho, r2, c_hasKey_t rp, c_keyOf, c_slotOf hw hk I hs S (kyZ_b rp) t1 (Or.inl t2) t3, iOk_ok o3, iRd_ok o3, n3, inb_nI (n := slC k) (show slt (2 ^ e) (kyZ p) t < slC k by omega) (by omega), nI_clamp (n := slt (2 ^ e) (kyZ p) t) (by omega), hs _ sl, t2]
    rfl
  · rw [e_17]
    simp only [x_17_0, x_17_1, x_17_2, x_17_5, x_17_8, x_17_9, x_17_12, x_17_13, x_17_14, x_17_15, x_17_18, x_17_21, x_17_22, x_17_23, x_17_24, x_17_27, x_17_28, cl2_i, cl2_r, cl2_n, cl2_l, tl_s, tl_n, true_and, and_true, Option.some.injEq, exists_eq_left', Bool.and_self, Bool.true_and, Bool.and_true, Bool.or_true, Bool.true_or, i_10, i_00, if_true, if_false, not_true_eq_false, not_false_eq_true, and_false, false_and, okp_sI, okp_sL, okp_aI, okp_aL, hR_sI, hR_sL, hR_aI, hR_aL, c_hasKey_f rp r1' r2']
theorem c_cxy (hw : WF h) (hk : IsCl k) (I : ClI h k e L) (hi : i < (dd L).length) : (∀ Q, Tr sc d 14 (ent0 14 [.ref k, .int (nI i)] h) Q = Q (some (.int (iv ((dd L).getD i pt0).1)), h)) ∧ ∀ Q, Tr sc d 15 (ent0 15 [.ref k, .int (nI i)] h) Q = Q (some (.int (iv ((dd L).getD i pt0).2)), h) := by
  obtain ⟨ho, r0, r1, r2, o1, o2, o3, n1, n2, n3⟩ := cl_ref hw hk
  obtain ⟨⟨i0, i0'⟩, i1, i2, -, i4, -, i6, -⟩ := id I
  have hrm := rm_b hk
  have rp := i6 _ (dd_mem.mp (gd_mem (L := dd L) hi))
  have e1 := (i4 i hi).1
  generalize (dd L).getD i pt0 = p at *
  have kb := kyZ_b rp
  obtain ⟨⟨a, b⟩, c, g⟩ := rp
  have ez : iv (kyZ p) = nI (kyZ p).toNat := iv_nn kb.1
  have ed := pk_div (a := (kyZ p).toNat) (d := 8192) (by omega) (by decide) (by decide)
  have er := pk_rem (a := (kyZ p).toNat) (d := 8192) (by omega) (by decide) (by decide)
  rw [show nI 8192 = 8192 from rfl] at ed er
  constructor
  · intro Q
    rw [e_14]
    simp only [x_14_0, x_14_1, x_14_4, x_14_5, x_14_6, x_14_9, x_14_10, x_14_13, x_14_14, cl2_i, cl2_r, cl2_n, cl2_l, tl_s, tl_n, true_and, and_true, Option.some.injEq, exists_eq_left', Bool.and_self, Bool.true_and, Bool.and_true, Bool.or_true, Bool.true_or, i_10, i_00, if_true, if_false, not_true_eq_false, not_false_eq_true, and_false, false_and, okp_sI, okp_sL, okp_aI, okp_aL, hR_sI, hR_sL, hR_aI, hR_aL, ho, r0, iOk_ok o1, iRd_ok o1, n1, inb_nI (n := rmC k) (show i < rmC k by omega) (by omega), nI_clamp (n := i) (by omega), e1, ez, ed, show ¬ ((8192 : Int32) = 0) by decide]
    rw [iv_n, iv_4096, iv_sub, show (((kyZ p).toNat / 8192 : Nat) : Int) - 4096 = p.1 by unfold kyZ; omega]
  · intro Q
    rw [e_15]
    simp only [x_15_0, x_15_1, x_15_4, x_15_5, x_15_6, x_15_9, x_15_10, x_15_13, x_15_14, cl2_i, cl2_r, cl2_n, cl2_l, tl_s, tl_n, true_and, and_true, Option.some.injEq, exists_eq_left', Bool.and_self, Bool.true_and, Bool.and_true, Bool.or_true, Bool.true_or, i_10, i_00, if_true, if_false, not_true_eq_false, not_false_eq_true, and_false, false_and, okp_sI, okp_sL, okp_aI, okp_aL, hR_sI, hR_sL, hR_aI, hR_aL, ho, r0, iOk_ok o1, iRd_ok o1, n1, inb_nI (n := rmC k) (show i < rmC k by omega) (by omega), nI_clamp (n := i) (by omega), e1, ez, er, show ¬ ((8192 : Int32) = 0) by decide]
    rw [iv_n, iv_4096, iv_sub, show (((kyZ p).toNat % 8192 : Nat) : Int) - 4096 = p.2 by unfold kyZ; omega]
theorem c_widen_1 (ho : okp h k 1 = true) (h4 : hI h k 4 = 1) : Tr sc d 19 (ent0 19 [.ref k, .int x, .int y] h) Q = Q (none, sI (sI (sI (sI h k 6 x) k 7 x) k 8 y) k 9 y) := by
  rw [e_19]
  simp only [x_19_0, x_19_1, x_19_2, x_19_5, x_19_6, x_19_9, x_19_10, x_19_13, x_19_14, x_19_17, x_19_18, x_19_21, x_19_24, x_19_25, x_19_26, x_19_29, x_19_30, x_19_33, x_19_34, x_19_37, x_19_38, x_19_41, x_19_42, x_19_45, x_19_48, x_19_49, x_19_50, x_19_53, x_19_54, x_19_57, x_19_58, x_19_61, x_19_62, x_19_65, x_19_66, x_19_69, x_19_72, x_19_73, x_19_74, x_19_77, x_19_78, x_19_81, x_19_82, x_19_85, x_19_86, x_19_89, x_19_90, x_19_93, x_19_96, cl2_i, cl2_r, cl2_n, cl2_l, tl_s, tl_n, true_and, and_true, Option.some.injEq, exists_eq_left', Bool.and_self, Bool.true_and, Bool.and_true, Bool.or_true, Bool.true_or, i_10, i_00, if_true, if_false, not_true_eq_false, not_false_eq_true, and_false, false_and, okp_sI, okp_sL, okp_aI, okp_aL, hR_sI, hR_sL, hR_aI, hR_aL, ho, hI_sI, Nat.reduceEqDiff, h4]
theorem c_widen_n (ho : okp h k 1 = true) (h4 : ¬ hI h k 4 = 1) : Tr sc d 19 (ent0 19 [.ref k, .int x, .int y] h) Q = Q (none, sI (sI (sI (sI h k 6 (if x < hI h k 6 then x else hI h k 6)) k 7 (if hI h k 7 < x then x else hI h k 7)) k 8 (if y < hI h k 8 then y else hI h k 8)) k 9 (if hI h k 9 < y then y else hI h k 9)) := by
  rw [e_19]
  simp only [x_19_0, x_19_1, x_19_2, x_19_5, x_19_6, x_19_9, x_19_10, x_19_13, x_19_14, x_19_17, x_19_18, x_19_21, x_19_24, x_19_25, x_19_26, x_19_29, x_19_30, x_19_33, x_19_34, x_19_37, x_19_38, x_19_41, x_19_42, x_19_45, x_19_48, x_19_49, x_19_50, x_19_53, x_19_54, x_19_57, x_19_58, x_19_61, x_19_62, x_19_65, x_19_66, x_19_69, x_19_72, x_19_73, x_19_74, x_19_77, x_19_78, x_19_81, x_19_82, x_19_85, x_19_86, x_19_89, x_19_90, x_19_93, x_19_96, cl2_i, cl2_r, cl2_n, cl2_l, tl_s, tl_n, true_and, and_true, Option.some.injEq, exists_eq_left', Bool.and_self, Bool.true_and, Bool.and_true, Bool.or_true, Bool.true_or, i_10, i_00, if_true, if_false, not_true_eq_false, not_false_eq_true, and_false, false_and, okp_sI, okp_sL, okp_aI, okp_aL, hR_sI, hR_sL, hR_aI, hR_aL, ho, hI_sI, Nat.reduceEqDiff, h4]
theorem iv_min {a b : Int} (ha : R3 a) (hb : R3 b) : (if iv b < iv a then iv b else iv a) = iv (min a b) := by
  have e := iv_lt hb ha
  by_cases q : b < a
  · rw [if_pos (by rw [e]; exact q), Int.min_eq_right (by omega)]
  · rw [if_neg (by rw [e]; exact q), Int.min_eq_left (by omega)]
theorem iv_max {a b : Int} (ha : R3 a) (hb : R3 b) : (if iv a < iv b then iv b else iv a) = iv (max a b) := by
  have e := iv_lt ha hb
  by_cases q : a < b
  · rw [if_pos (by rw [e]; exact q), Int.max_eq_right (by omega)]
  · rw [if_neg (by rw [e]; exact q), Int.max_eq_left (by omega)]
theorem nI_max {a b : Nat} (ha : a < 2 ^ 31) (hb : b < 2 ^ 31) : (if nI a < nI b then nI b else nI a) = nI (max a b) := by
  by_cases q : a < b
  · rw [if_pos (nI_lt q hb), Nat.max_eq_right (by omega)]
  · rw [if_neg (nI_nlt (by omega) ha), Nat.max_eq_left (by omega)]
/-- the end of add: one more of the point with this number -/
theorem c_add_t {l1 l2 l4 : Option Value} {s v c : Nat} (ho : okp h k 1 = true) (r1 : hR h k 1 = some (k + 2)) (r2 : hR h k 2 = some (k + 3)) (o2 : okp h (k + 2) 11 = true) (o3 : okp h (k + 3) 11 = true) (hl : cl2 l1 = l1 ∧ cl2 l2 = l2) (hs1 : s < LN (k + 3)) (hs2 : LN (k + 3) ≤ 16384) (hs : hI h (k + 3) s = nI (i + 1)) (hi : i < LN (k + 2)) (hn : LN (k + 2) ≤ 7776) (hc : hI h (k + 2) i = nI c) (hv : hI h k 5 = nI v) (bc : c < 100000) (bv : v < 100000) : Tr sc d 18 (91, [some (.ref k), l1, l2, some (.int (nI s)), l4], [], h) Q = Q (none, sI (sI h (k + 2) i (nI (c + 1))) k 5 (nI (max v (c + 1)))) := by
  simp only [x_18_91, x_18_92, x_18_95, x_18_96, x_18_97, x_18_98, x_18_99, x_18_101, x_18_102, x_18_105, x_18_107, x_18_108, x_18_109, x_18_110, x_18_111, x_18_112, x_18_113, x_18_114, x_18_117, x_18_118, x_18_121, x_18_123, x_18_124, x_18_127, x_18_130, cl2_i, cl2_r, cl2_n, cl2_l, tl_s, tl_n, true_and, and_true, Option.some.injEq, exists_eq_left', Bool.and_self, Bool.true_and, Bool.and_true, Bool.or_true, Bool.true_or, i_10, i_00, if_true, if_false, not_true_eq_false, not_false_eq_true, and_false, false_and, okp_sI, okp_sL, okp_aI, okp_aL, hR_sI, hR_sL, hR_aI, hR_aL, hl.1, hl.2, ho, r1, r2, iOk_ok (h := h) o3, iRd_ok (h := h) o3, inb_nI (n := LN (k + 3)) hs1 (by omega), nI_clamp (n := s) (by omega), hs, nI_pred, iOk_ok (h := h) o2, iRd_ok (h := h) o2, inb_nI (n := LN (k + 2)) hi (by omega), nI_clamp (n := i) (by omega), hc, nI_1, o2, iOk_ok (h := sI h (k + 2) i (nI (c + 1))) (k := k + 2) o2, iRd_ok (h := sI h (k + 2) i (nI (c + 1))) (k := k + 2) o2, rd_eq, rd_ne (H := h) (q := k + 2) (a := k) (i := i) (j := 5) (v := nI (c + 1)) (Or.inl (by omega)), hv, nI_max (a := v) (b := c + 1) (by omega) (by omega)]
end CL
