/-! ===== words grown from one; weighs ===== -/
def Gs (b M : Nat) (tn : Nat → Nat) (sx sy : Nat → Int) (kd : Int32) (ex : Nat → Int) : Nat → Nat → Wrd → List Wrd
  | 0, _, w => [w]
  | l + 1, n, w => (kids b M tn sx sy kd ex n w).flatMap (Gs b M tn sx sy kd ex l (n + 1))
def lS (f : Wrd → Int) : List Wrd → Int
  | [] => 0
  | u :: l => f u + lS f l
def vW (b M : Nat) (tn : Nat → Nat) (sx sy : Nat → Int) (kd : Int32) (ex : Nat → Int) (X Y : Int32) : Nat → Nat → Int → Int → Int
  | 0, _, x, y => if iv x = X ∧ iv y = Y then 1 else 0
  | l + 1, n, x, y => sZ (fun i => wgt kd ex i * vW b M tn sx sy kd ex X Y l (n + 1) (tX (tn i) x y + (b : Int) ^ n * sx i) (tY (tn i) x y + (b : Int) ^ n * sy i)) M
def fW (X Y : Int32) (u : Wrd) : Int := if iv u.1 = X ∧ iv u.2.1 = Y then u.2.2.2 else 0
section WG
variable {sc : Nat × (Nat → Int32)} {d : Nat} {Q : PRes → Prop} {h h' H : PH} {s b M n i j k l N : Nat} {kd x y z w X Y : Int32} {tn : Nat → Nat} {sx sy ex : Nat → Int} {L : List Wrd} {f g : Wrd → Int} {px py : Int}
theorem Ws_G : ∀ l n, (Ws b M tn sx sy kd ex n).flatMap (Gs b M tn sx sy kd ex l n) = Ws b M tn sx sy kd ex (n + l)
  | 0, n => by
    show (Ws b M tn sx sy kd ex n).flatMap (fun w => [w]) = _
    rw [Nat.add_zero]; simp
  | l + 1, n => by
    have ih := Ws_G l (n + 1)
    show (Ws b M tn sx sy kd ex n).flatMap (fun w => (kids b M tn sx sy kd ex n w).flatMap (Gs b M tn sx sy kd ex l (n + 1))) = _
    rw [← List.flatMap_assoc]
    rw [show n + (l + 1) = n + 1 + l by omega]
    exact ih
theorem Ws_G0 (n : Nat) : Gs b M tn sx sy kd ex n 0 w0 = Ws b M tn sx sy kd ex n := by
  have := Ws_G (b := b) (M := M) (tn := tn) (sx := sx) (sy := sy) (kd := kd) (ex := ex) n 0
  rw [Nat.zero_add] at this
  rw [← this]
  show _ = [w0].flatMap _
  simp
theorem lS_app : ∀ (a c : List Wrd), lS f (a ++ c) = lS f a + lS f c
  | [], c => (Int.zero_add _).symm
  | u :: a, c => by
    show f u + lS f (a ++ c) = f u + lS f a + lS f c
    rw [lS_app a c, Int.add_assoc]
theorem lS_fm (gg : Wrd → List Wrd) : ∀ (a : List Wrd), lS f (a.flatMap gg) = lS (fun u => lS f (gg u)) a
  | [] => rfl
  | u :: a => by
    rw [List.flatMap_cons, lS_app, lS_fm gg a]; rfl
theorem lS_rng (kk : Nat → Wrd) : ∀ m, lS f ((List.range m).map kk) = sZ (fun i => f (kk i)) m
  | 0 => rfl
  | m + 1 => by
    rw [List.range_succ, List.map_append, lS_app, lS_rng kk m]
    show _ + (f (kk m) + 0) = _
    rw [Int.add_zero]; rfl
theorem lS_congr : ∀ (a : List Wrd), (∀ u, u ∈ a → f u = g u) → lS f a = lS g a
  | [], _ => rfl
  | u :: a, e => by
    show f u + lS f a = g u + lS g a
    rw [e u (List.mem_cons_self ..), lS_congr a (fun v hv => e v (List.mem_cons_of_mem _ hv))]
theorem lS_sZ : ∀ n, n ≤ L.length → sZ (fun j => f (L.getD j w0)) n = lS f (L.take n)
  | 0, _ => by rw [List.take_zero]; rfl
  | n + 1, hn => by
    show sZ (fun j => f (L.getD j w0)) n + f (L.getD n w0) = _
    rw [lS_sZ n (by omega), List.take_succ, lS_app, List.getElem?_eq_getElem (by omega)]
    show _ = _ + (f L[n] + 0)
    rw [Int.add_zero, show L.getD n w0 = L[n] by rw [List.getD_eq_getElem?_getD, List.getElem?_eq_getElem (by omega)]; rfl]
theorem kids3 (hk : kd = 3) (w : Wrd) : kids b M tn sx sy kd ex n w = (List.range M).map (kid b tn sx sy kd ex n w) := by
  unfold kids
  rw [List.filter_eq_self.mpr]
  intro i _
  unfold okK bF
  rw [decide_eq_false (p := kd = 4 ∧ _) (fun q => by rw [hk] at q; exact absurd q.1 (by decide))]
  simp
theorem vW_G (hk : kd = 3) : ∀ l n w, lS (fW X Y) (Gs b M tn sx sy kd ex l n w) = w.2.2.2 * vW b M tn sx sy kd ex X Y l n w.1 w.2.1
  | 0, n, w => by
    show fW X Y w + 0 = w.2.2.2 * (if iv w.1 = X ∧ iv w.2.1 = Y then 1 else 0)
    unfold fW
    rw [Int.add_zero]
    split
    · rw [Int.mul_one]
    · rw [Int.mul_zero]
  | l + 1, n, w => by
    show lS (fW X Y) ((kids b M tn sx sy kd ex n w).flatMap (Gs b M tn sx sy kd ex l (n + 1))) = w.2.2.2 * sZ (fun i => wgt kd ex i * vW b M tn sx sy kd ex X Y l (n + 1) (tX (tn i) w.1 w.2.1 + (b : Int) ^ n * sx i) (tY (tn i) w.1 w.2.1 + (b : Int) ^ n * sy i)) M
    rw [lS_fm, kids3 hk, lS_rng, ← sZ_mulc]
    refine sZ_congr M (fun i hi => ?_)
    rw [vW_G hk l (n + 1) (kid b tn sx sy kd ex n w i)]
    show w.2.2.2 * wgt kd ex i * _ = _
    rw [Int.mul_assoc]; rfl
theorem c_aheadX {S : Int} (hw : WF h) (hk : IsSh k) (C : ShC h k kd b M tn sx sy ex) (W : ShW kd b M tn sx sy ex) (hi : i < M) : Tr sc d 65 (ent0 65 [.ref k, .int (nI i), .int (iv px), .int (iv py), .int (iv S)] h) Q = Q (some (.int (iv (tX (tn i) px py + S * sx i))), h) := by
  obtain ⟨ho, r0, r1, r2, r3, r4, r5, o0, o1, o2, o3, o4, o5, n0, n1, n2, n3, n4, n5⟩ := sh_ref hw hk
  have hM := W.2.2.1
  obtain ⟨t7, -⟩ := W.2.2.2 i hi
  obtain ⟨c1, c2, c3, c4⟩ := C
  obtain ⟨q1, q2, q3, -⟩ := c4 i hi
  obtain ⟨⟨u1, v1⟩, ⟨u2, v2⟩, ⟨u3, v3⟩, ⟨u4, v4⟩⟩ := tb_ok (sc := sc) (h := h) t7
  rw [e_65]
  simp only [x_65_0, x_65_3, x_65_4, x_65_7, x_65_8, x_65_9, x_65_10, x_65_11, x_65_12, x_65_15, x_65_16, x_65_19, x_65_20, x_65_21, x_65_22, x_65_23, x_65_24, x_65_25, x_65_27, x_65_28, x_65_31, x_65_32, x_65_33, x_65_34, x_65_35, cl2_i, cl2_r, cl2_n, cl2_l, tl_s, tl_n, true_and, and_true, Option.some.injEq, exists_eq_left', Bool.and_self, Bool.true_and, Bool.and_true, Bool.or_true, Bool.true_or, i_10, i_00, if_true, if_false, not_true_eq_false, not_false_eq_true, and_false, false_and, okp_sI, okp_sL, okp_aI, okp_aL, hR_sI, hR_sL, hR_aI, hR_aL, ho, r0, r1, iOk_ok o0, iRd_ok o0, iOk_ok o1, iRd_ok o1, n0, n1, inb_nI (n := 6) (show i < 6 by omega) (by decide), nI_clamp (n := i) (by omega), q1, q2, Nat.add_zero, Nat.reduceAdd, u1, u2, v1, v2, iv_mul, iv_add]
  rfl
theorem c_aheadY {S : Int} (hw : WF h) (hk : IsSh k) (C : ShC h k kd b M tn sx sy ex) (W : ShW kd b M tn sx sy ex) (hi : i < M) : Tr sc d 66 (ent0 66 [.ref k, .int (nI i), .int (iv px), .int (iv py), .int (iv S)] h) Q = Q (some (.int (iv (tY (tn i) px py + S * sy i))), h) := by
  obtain ⟨ho, r0, r1, r2, r3, r4, r5, o0, o1, o2, o3, o4, o5, n0, n1, n2, n3, n4, n5⟩ := sh_ref hw hk
  have hM := W.2.2.1
  obtain ⟨t7, -⟩ := W.2.2.2 i hi
  obtain ⟨c1, c2, c3, c4⟩ := C
  obtain ⟨q1, q2, q3, -⟩ := c4 i hi
  obtain ⟨⟨u1, v1⟩, ⟨u2, v2⟩, ⟨u3, v3⟩, ⟨u4, v4⟩⟩ := tb_ok (sc := sc) (h := h) t7
  rw [e_66]
  simp only [x_66_0, x_66_3, x_66_4, x_66_7, x_66_8, x_66_9, x_66_10, x_66_11, x_66_12, x_66_15, x_66_16, x_66_19, x_66_20, x_66_21, x_66_22, x_66_23, x_66_24, x_66_25, x_66_27, x_66_28, x_66_31, x_66_32, x_66_33, x_66_34, x_66_35, cl2_i, cl2_r, cl2_n, cl2_l, tl_s, tl_n, true_and, and_true, Option.some.injEq, exists_eq_left', Bool.and_self, Bool.true_and, Bool.and_true, Bool.or_true, Bool.true_or, i_10, i_00, if_true, if_false, not_true_eq_false, not_false_eq_true, and_false, false_and, okp_sI, okp_sL, okp_aI, okp_aL, hR_sI, hR_sL, hR_aI, hR_aL, ho, r0, r2, iOk_ok o0, iRd_ok o0, iOk_ok o2, iRd_ok o2, n0, n2, inb_nI (n := 6) (show i < 6 by omega) (by decide), nI_clamp (n := i) (by omega), q1, q3, Nat.add_zero, Nat.reduceAdd, u3, u4, v3, v4, iv_mul, iv_add]
  rfl
theorem c_weightAhead (hw : WF h) (hk : IsSh k) (C : ShC h k kd b M tn sx sy ex) (W : ShW kd b M tn sx sy ex) : ∀ (l n d : Nat) (px py : Int) (Q : PRes → Prop), l < 100 → Tr sc (d + l + 1) 70 (ent0 70 [.ref k, .int (nI l), .int (iv px), .int (iv py), .int (iv ((b : Int) ^ n)), .int X, .int Y] h) Q = Q (some (.long (jv (vW b M tn sx sy kd ex X Y l n px py))), h) := by
  obtain ⟨ho, -⟩ := sh_ref hw hk
  have hM := W.2.2.1
  intro l
  induction l with
  | zero =>
    intro n d px py Q _
    rw [e_70]
    simp only [x_70_0, x_70_1, x_70_4, x_70_5, x_70_7, x_70_10, x_70_11, x_70_13, x_70_16, x_70_17, x_70_20, x_70_21, cl2_i, cl2_r, cl2_n, cl2_l, tl_s, tl_n, true_and, and_true, Option.some.injEq, exists_eq_left', Bool.and_self, Bool.true_and, Bool.and_true, Bool.or_true, Bool.true_or, i_10, i_00, if_true, if_false, not_true_eq_false, not_false_eq_true, and_false, false_and, okp_sI, okp_sL, okp_aI, okp_aL, hR_sI, hR_sL, hR_aI, hR_aL, nI_0, i_nn0]
    show _ = Q (some (.long (jv (if iv px = X ∧ iv py = Y then 1 else 0))), h)
    by_cases q1 : iv px = X
    · rw [if_pos q1]
      by_cases q2 : iv py = Y
      · rw [if_pos q2, if_pos ⟨q1, q2⟩]; rfl
      · rw [if_neg q2, if_neg (fun z => q2 z.2)]; rfl
    · rw [if_neg q1, if_neg (fun z => q1 z.1)]; rfl
  | succ l ih =>
    intro n d px py Q hl
    have lp : ∀ (m i : Nat) (l10 l11 : Option Value), cl2 l10 = l10 → i + m = M → Tr sc (d + (l + 1) + 1) 70 (28, [some (.ref k), some (.int (nI (l + 1))), some (.int (iv px)), some (.int (iv py)), some (.int (iv ((b : Int) ^ n))), some (.int X), some (.int Y), some (.long (jv (sZ (fun i => wgt kd ex i * vW b M tn sx sy kd ex X Y l (n + 1) (tX (tn i) px py + (b : Int) ^ n * sx i) (tY (tn i) px py + (b : Int) ^ n * sy i)) i))), none, some (.int (nI i)), l10, l11], [], h) Q = Q (some (.long (jv (vW b M tn sx sy kd ex X Y (l + 1) n px py))), h) := by
      intro m
      induction m with
      | zero =>
        intro i l10 l11 h10 hi
        have e : i = M := by omega
        subst e
        rw [x_70_28]
        simp only [x_70_30, x_70_31, x_70_34, x_70_102, x_70_104, cl2_i, cl2_r, cl2_n, cl2_l, tl_s, tl_n, true_and, and_true, Option.some.injEq, exists_eq_left', Bool.and_self, Bool.true_and, Bool.and_true, Bool.or_true, Bool.true_or, i_10, i_00, if_true, if_false, not_true_eq_false, not_false_eq_true, and_false, false_and, okp_sI, okp_sL, okp_aI, okp_aL, hR_sI, hR_sL, hR_aI, hR_aL, ho, C.2.2.1]
        rw [if_pos (Int32.le_refl _)]
        rfl
      | succ m ihm =>
        intro i l10 l11 h10 hi
        have hlt : i < M := by omega
        have wb := wgt_b W hlt
        have e1 : nI (l + 1) - 1 = nI l := nI_pred l
        have e2 : iv ((b : Int) ^ n) * nI b = iv ((b : Int) ^ (n + 1)) := by rw [iv_n b, iv_mul, Int.pow_succ]
        have ih' : ∀ (px py : Int) (Q : PRes → Prop), Tr sc (d + (l + 1)) 70 (ent0 70 [.ref k, .int (nI l), .int (iv px), .int (iv py), .int (iv ((b : Int) ^ (n + 1))), .int X, .int Y] h) Q = Q (some (.long (jv (vW b M tn sx sy kd ex X Y l (n + 1) px py))), h) := fun px py Q => ih (n + 1) d px py Q (show l < 100 by omega)
        rw [x_70_28]
        simp only [x_70_30, x_70_31, x_70_34, x_70_37, x_70_38, x_70_40, x_70_41, x_70_42, x_70_44, x_70_47, x_70_49, x_70_50, x_70_52, x_70_53, x_70_54, x_70_56, x_70_59, x_70_61, x_70_63, x_70_64, x_70_66, x_70_69, x_70_70, x_70_71, x_70_72, x_70_73, x_70_74, x_70_76, x_70_78, x_70_80, x_70_81, x_70_84, x_70_85, x_70_87, x_70_89, x_70_92, x_70_93, x_70_94, x_70_96, x_70_99, cl2_i, cl2_r, cl2_n, cl2_l, tl_s, tl_n, true_and, and_true, Option.some.injEq, exists_eq_left', Bool.and_self, Bool.true_and, Bool.and_true, Bool.or_true, Bool.true_or, i_10, i_00, if_true, if_false, not_true_eq_false, not_false_eq_true, and_false, false_and, okp_sI, okp_sL, okp_aI, okp_aL, hR_sI, hR_sL, hR_aI, hR_aL, h10, ho, C.2.1, C.2.2.1, c_aheadX hw hk C W hlt, c_aheadY hw hk C W hlt, wgt_c W hlt hw hk C, iv_l (z := wgt kd ex i) ⟨by omega, by omega⟩, e1, e2, ih', jv_mul, jv_add, nI_1]
        rw [if_neg (nI_ge hlt (by omega))]
        exact ihm (i + 1) (some (.int (iv (tX (tn i) px py + (b : Int) ^ n * sx i)))) (some (.int (iv (tY (tn i) px py + (b : Int) ^ n * sy i)))) rfl (by omega)
    rw [e_70]
    simp only [x_70_0, x_70_1, x_70_22, x_70_23, x_70_25, x_70_26, cl2_i, cl2_r, cl2_n, cl2_l, tl_s, tl_n, true_and, and_true, Option.some.injEq, exists_eq_left', Bool.and_self, Bool.true_and, Bool.and_true, Bool.or_true, Bool.true_or, i_10, i_00, if_true, if_false, not_true_eq_false, not_false_eq_true, and_false, false_and, okp_sI, okp_sL, okp_aI, okp_aL, hR_sI, hR_sL, hR_aI, hR_aL]
    rw [if_pos (show 0 < nI (l + 1) from nI_lt (a := 0) (by omega) (by omega))]
    exact lp M 0 none none rfl (by omega)
theorem c_weightAt (hw : WF h) (hk : IsSh k) (C : ShC h k kd b M tn sx sy ex) (W : ShW kd b M tn sx sy ex) (l d : Nat) (Q : PRes → Prop) (hl : l < 100) : Tr sc (d + l + 1 + 1) 69 (ent0 69 [.ref k, .int (nI l), .int X, .int Y] h) Q = Q (some (.long (jv (vW b M tn sx sy kd ex X Y l 0 0 0))), h) := by
  obtain ⟨ho, -⟩ := sh_ref hw hk
  have wa := fun Q => c_weightAhead (sc := sc) (X := X) (Y := Y) hw hk C W l 0 d 0 0 Q hl
  have wa' : ∀ (Q : PRes → Prop), Tr sc (d + l + 1) 70 (ent0 70 [.ref k, .int (nI l), .int 0, .int 0, .int 1, .int X, .int Y] h) Q = Q (some (.long (jv (vW b M tn sx sy kd ex X Y l 0 0 0))), h) := fun Q => wa Q
  rw [e_69]
  simp only [x_69_0, x_69_1, x_69_2, x_69_3, x_69_4, x_69_5, x_69_6, x_69_7, x_69_10, cl2_i, cl2_r, cl2_n, cl2_l, tl_s, tl_n, true_and, and_true, Option.some.injEq, exists_eq_left', Bool.and_self, Bool.true_and, Bool.and_true, Bool.or_true, Bool.true_or, i_10, i_00, if_true, if_false, not_true_eq_false, not_false_eq_true, and_false, false_and, okp_sI, okp_sL, okp_aI, okp_aL, hR_sI, hR_sL, hR_aI, hR_aL, ho, wa']
  try rfl
theorem m_aStep {m : Int32} (hw : WF h) : Tr sc (d + 3) 206 (ent0 206 [.ref 124, .int x, .int y, .int m] h) Q = if (0 ≤ x ∧ x < 8) ∧ (0 ≤ y ∧ y ≤ m) then (if hI h 134 x.toNatClampNeg = 0 then Q (some (.int (-3)), refm h 1) else Q (some (.int 0), h)) else Q (some (.int (-1)), h) := by
  rw [e_206]
  simp only [x_206_0, x_206_1, x_206_2, x_206_3, x_206_6, x_206_9, x_206_10, x_206_13, x_206_14, x_206_15, x_206_18, o_124 hw, cl2_i, cl2_r, cl2_n, cl2_l, tl_s, tl_n, true_and, and_true, Option.some.injEq, exists_eq_left', Bool.and_self, Bool.true_and, Bool.and_true, Bool.or_true, Bool.true_or, i_10, i_00, if_true, if_false, not_true_eq_false, not_false_eq_true, and_false, false_and, okp_sI, okp_sL, okp_aI, okp_aL, hR_sI, hR_sL, hR_aI, hR_aL, m_in, bI_0, m_shR hw, g_nt]
theorem m_wg_s (hw : WF h) (hl : L.length ≤ 7776) (hA : ∀ j, j < L.length → WA h j (L.getD j w0)) (hc : hI h 124 31 = nI L.length) (hK : ∀ H, Fq (fun a j => a = 124 ∧ j = 3) h H → hL H 124 3 = jv (lS (fW z w) L) → Q (some (.int 1), H)) : ∀ (m j : Nat) (H : PH), j + m = L.length → Fq (fun a j => a = 124 ∧ j = 3) h H → hL H 124 3 = jv (sZ (fun j => fW z w (L.getD j w0)) j) → Tr sc d 237 (47, [some (.ref 124), some (.int x), some (.int y), some (.int z), some (.int w), some (.int 0), some (.int (nI j))], [], H) Q := by
  intro m
  induction m with
  | zero =>
    intro j H hj f a1
    have e : j = L.length := by omega
    subst e
    have hwH := f.WF hw
    have c' : hI H 124 31 = nI L.length := by rw [f.i (by omega)]; exact hc
    rw [x_237_47]
    simp only [x_237_49, x_237_50, x_237_53, o_124 hwH, x_237_105, x_237_106, cl2_i, cl2_r, cl2_n, cl2_l, tl_s, tl_n, true_and, and_true, Option.some.injEq, exists_eq_left', Bool.and_self, Bool.true_and, Bool.and_true, Bool.or_true, Bool.true_or, i_10, i_00, if_true, if_false, not_true_eq_false, not_false_eq_true, and_false, false_and, okp_sI, okp_sL, okp_aI, okp_aL, hR_sI, hR_sL, hR_aI, hR_aL, c']
    rw [if_pos (Int32.le_refl _)]
    refine hK H f ?_
    rw [a1, lS_sZ _ (Nat.le_refl _), List.take_length]
  | succ m ih =>
    intro j H hj f a1
    have hlt : j < L.length := by omega
    have hwH := f.WF hw
    have c' : hI H 124 31 = nI L.length := by rw [f.i (by omega)]; exact hc
    obtain ⟨b1, b2, b3, b4⟩ := (hA j hlt).kp f (fun a h1 h2 q => by omega)
    have es : sZ (fun j => fW z w (L.getD j w0)) (j + 1) = sZ (fun j => fW z w (L.getD j w0)) j + fW z w (L.getD j w0) := rfl
    have key : ∀ c : Int64, c = jv (fW z w (L.getD j w0)) → Tr sc d 237 (95, [some (.ref 124), some (.int x), some (.int y), some (.int z), some (.int w), some (.int 0), some (.int (nI j))], [.long c, .long (hL H 124 3), .ref 124], H) Q := by
      intro c hcc
      rw [hcc, a1]
      simp only [x_237_95, x_237_96, x_237_99, x_237_102, o_124 hwH, cl2_i, cl2_r, cl2_n, cl2_l, tl_s, tl_n, true_and, and_true, Option.some.injEq, exists_eq_left', Bool.and_self, Bool.true_and, Bool.and_true, Bool.or_true, Bool.true_or, i_10, i_00, if_true, if_false, not_true_eq_false, not_false_eq_true, and_false, false_and, okp_sI, okp_sL, okp_aI, okp_aL, hR_sI, hR_sL, hR_aI, hR_aL, nI_1, jv_add]
      refine ih (j + 1) _ (by omega) (f.sL ⟨rfl, rfl⟩) ?_
      rw [hL_sL, if_pos rfl, if_pos rfl, es]
    rw [x_237_47]
    simp only [x_237_49, x_237_50, x_237_53, x_237_56, x_237_57, x_237_58, x_237_61, x_237_62, x_237_65, x_237_67, x_237_68, x_237_69, x_237_72, x_237_73, x_237_76, x_237_78, x_237_79, x_237_81, x_237_84, x_237_85, x_237_88, x_237_90, x_237_91, x_237_94, o_124 hwH, w_124_32 hwH, w_124_33 hwH, w_124_35 hwH, o_141 hwH, iOk_lt (k := 141) (by decide), iRd_lt (k := 141) (by decide), show LN 141 = 7776 from rfl, o_142 hwH, iOk_lt (k := 142) (by decide), iRd_lt (k := 142) (by decide), show LN 142 = 7776 from rfl, o_144 hwH, show LN 144 = 7776 from rfl, cl2_i, cl2_r, cl2_n, cl2_l, tl_s, tl_n, true_and, and_true, Option.some.injEq, exists_eq_left', Bool.and_self, Bool.true_and, Bool.and_true, Bool.or_true, Bool.true_or, i_10, i_00, if_true, if_false, not_true_eq_false, not_false_eq_true, and_false, false_and, okp_sI, okp_sL, okp_aI, okp_aL, hR_sI, hR_sL, hR_aI, hR_aL, c', inb_nI (n := 7776) (show j < 7776 by omega) (by decide), nI_clamp (n := j) (by omega), b1, b2, b4]
    rw [if_neg (nI_ge hlt (by omega))]
    have ef : fW z w (L.getD j w0) = if iv (L.getD j w0).1 = z ∧ iv (L.getD j w0).2.1 = w then (L.getD j w0).2.2.2 else 0 := rfl
    by_cases q1 : iv (L.getD j w0).1 = z
    · rw [if_pos q1]
      by_cases q2 : iv (L.getD j w0).2.1 = w
      · rw [if_pos q2]
        rw [if_pos ⟨q1, q2⟩] at ef
        exact key _ (by rw [ef])
      · rw [if_neg q2]
        rw [if_neg (fun z => q2 z.2)] at ef
        exact key 0 (by rw [ef]; rfl)
    · rw [if_neg q1]
      rw [if_neg (fun z => q1 z.1)] at ef
      exact key 0 (by rw [ef]; rfl)
theorem P4_Sc {a b : Nat} (q : P4 a b) : Sc a b := by unfold P4 at q; unfold Sc; omega
theorem both_weighs (hc : CM h) : Both sc 129 237 [.int x, .int y, .int z, .int w] h := by
  have hw := hc.1
  refine glue_sh (x := x) (T := 0 ≤ y ∧ y ≤ 5) (CC := fun Q => Tr sc 19 129 (20, [some (.ref 0), some (.int x), some (.int y), some (.int z), some (.int w), some (.int 0)], [], h) Q) (MC := fun h1 Q => Tr sc 19 237 (17, [some (.ref 124), some (.int x), some (.int y), some (.int z), some (.int w), some (.int 0), none], [], h1) Q) hc (fun Q => ?_) (fun h1 Q hw1 => ?_) (fun s hs hx hT hA => ?_) (fun A B hAB q => Tr_mono q hAB)
  · rw [e_129]
    simp only [x_129_0, x_129_1, x_129_2, x_129_3, x_129_4, x_129_7, x_129_10, x_129_12, x_129_14, x_129_17, x_129_19, o_0 hw, cl2_i, cl2_r, cl2_n, cl2_l, tl_s, tl_n, true_and, and_true, Option.some.injEq, exists_eq_left', Bool.and_self, Bool.true_and, Bool.and_true, Bool.or_true, Bool.true_or, i_10, i_00, if_true, if_false, not_true_eq_false, not_false_eq_true, and_false, false_and, okp_sI, okp_sL, okp_aI, okp_aL, hR_sI, hR_sL, hR_aI, hR_aL, c_isStep, c_shR hw, bI_0, Classical.not_not, i_1m1, i_3m1]
  · rw [e_237]
    simp only [x_237_0, x_237_1, x_237_2, x_237_3, x_237_4, x_237_7, x_237_9, x_237_11, x_237_14, x_237_16, o_124 hw1, cl2_i, cl2_r, cl2_n, cl2_l, tl_s, tl_n, true_and, and_true, Option.some.injEq, exists_eq_left', Bool.and_self, Bool.true_and, Bool.and_true, Bool.or_true, Bool.true_or, i_10, i_00, if_true, if_false, not_true_eq_false, not_false_eq_true, and_false, false_and, okp_sI, okp_sL, okp_aI, okp_aL, hR_sI, hR_sL, hR_aI, hR_aL, m_aStep (d := 15) hw1, i_m1, i_m3, i_0]
  · subst hx
    obtain ⟨N, hN, rfl⟩ := ir_of (n := 6) (by decide) (show 0 ≤ y ∧ y < 6 from ⟨hT.1, by have h1 := Int32.le_iff_toInt_le.mp hT.2; have e6 : (5 : Int32).toInt = 5 := rfl; have e7 : (6 : Int32).toInt = 6 := rfl; exact Int32.lt_iff_toInt_lt.mpr (by omega)⟩)
    obtain ⟨kd, b, M, tn, sx, sy, ex, W, C, D⟩ := sh_ab hA
    have hM := W.2.2.1
    obtain ⟨w1, w2, -⟩ := hw.shape hs
    simp only [x_129_20, x_129_21, x_129_24, x_129_25, x_129_26, x_129_29, x_129_30, x_129_33, x_129_34, x_129_35, o_0 hw, w_0_2 hw, o_3 hw, show LN 3 = 8 from rfl, cl2_i, cl2_r, cl2_n, cl2_l, tl_s, tl_n, true_and, and_true, Option.some.injEq, exists_eq_left', Bool.and_self, Bool.true_and, Bool.and_true, Bool.or_true, Bool.true_or, i_10, i_00, if_true, if_false, not_true_eq_false, not_false_eq_true, and_false, false_and, okp_sI, okp_sL, okp_aI, okp_aL, hR_sI, hR_sL, hR_aI, hR_aL, inb_nI (n := 8) hs (by decide), nI_clamp (n := s) (by omega), w1, w2, C.1, c_refuse_3 hw]
    by_cases q : kd = 3
    · rw [if_pos q]
      have wa := c_weightAt (sc := sc) (X := z) (Y := w) hw (is_sh hs) C W N (16 - N)
      rw [show 16 - N + N + 1 + 1 = 18 by omega] at wa
      have wa' : ∀ (Q : PRes → Prop), Tr sc 18 69 (ent0 69 [.ref (68 + 7 * s), .int (nI N), .int z, .int w] h) Q = Q (some (.long (jv (vW b M tn sx sy kd ex z w N 0 0 0))), h) := fun Q => wa Q (by omega)
      simp only [x_129_39, x_129_40, x_129_41, x_129_44, x_129_45, x_129_46, x_129_47, x_129_48, x_129_50, x_129_53, x_129_56, x_129_57, o_0 hw, w_0_2 hw, o_3 hw, show LN 3 = 8 from rfl, cl2_i, cl2_r, cl2_n, cl2_l, tl_s, tl_n, true_and, and_true, Option.some.injEq, exists_eq_left', Bool.and_self, Bool.true_and, Bool.and_true, Bool.or_true, Bool.true_or, i_10, i_00, if_true, if_false, not_true_eq_false, not_false_eq_true, and_false, false_and, okp_sI, okp_sL, okp_aI, okp_aL, hR_sI, hR_sL, hR_aI, hR_aL, inb_nI (n := 8) hs (by decide), nI_clamp (n := s) (by omega), w1, w2, wa']
      have ev : lS (fW z w) (Ws b M tn sx sy kd ex N) = vW b M tn sx sy kd ex z w N 0 0 0 := by
        rw [← Ws_G0, vW_G q]
        exact Int.one_mul _
      rw [← ev]
      refine ⟨hw, rfl, ?_⟩
      generalize hh3 : sL h 0 16 (jv (lS (fW z w) (Ws b M tn sx sy kd ex N))) = h3
      have hw3 : WF h3 := by rw [← hh3]; exact hw
      have D3 : ShM h3 s kd b M tn sx sy ex := by rw [← hh3]; exact D
      simp only [x_237_17, x_237_18, x_237_21, x_237_22, x_237_23, x_237_24, x_237_27, x_237_28, x_237_29, x_237_32, x_237_33, x_237_34, x_237_35, x_237_36, o_124 hw3, w_124_16 hw3, o_132 hw3, iOk_lt (k := 132) (by decide), iRd_lt (k := 132) (by decide), show LN 132 = 8 from rfl, cl2_i, cl2_r, cl2_n, cl2_l, tl_s, tl_n, true_and, and_true, Option.some.injEq, exists_eq_left', Bool.and_self, Bool.true_and, Bool.and_true, Bool.or_true, Bool.true_or, i_10, i_00, if_true, if_false, not_true_eq_false, not_false_eq_true, and_false, false_and, okp_sI, okp_sL, okp_aI, okp_aL, hR_sI, hR_sL, hR_aI, hR_aL, inb_nI (n := 8) hs (by decide), nI_clamp (n := s) (by omega), D3.1, q]
      rw [q] at D3 W
      refine m_setWords (d := 17) hw3 hs D3 W (by omega) (fun H f c1 c2 => ?_)
      have hwH := f.WF hw3
      have wl := Ws_len (b := b) (tn := tn) (sx := sx) (sy := sy) (kd := 3) (ex := ex) hM.1 N
      have hl : (Ws b M tn sx sy 3 ex N).length ≤ 7776 := by
        refine Nat.le_trans wl ?_
        have h2 := Nat.pow_le_pow_left hM.2 N
        have h3 := Nat.pow_le_pow_right (show 0 < 6 by decide) (show N ≤ 5 by omega)
        have h4 : (6 : Nat) ^ 5 = 7776 := by decide
        omega
      simp only [x_237_39, x_237_40, x_237_41, x_237_44, x_237_45, o_124 hwH, cl2_i, cl2_r, cl2_n, cl2_l, tl_s, tl_n, true_and, and_true, Option.some.injEq, exists_eq_left', Bool.and_self, Bool.true_and, Bool.and_true, Bool.or_true, Bool.true_or, i_10, i_00, if_true, if_false, not_true_eq_false, not_false_eq_true, and_false, false_and, okp_sI, okp_sL, okp_aI, okp_aL, hR_sI, hR_sL, hR_aI, hR_aL]
      refine m_wg_s (h := H) hwH hl c2 c1 (fun H2 f2 a2 => ?_) _ 0 _ (Nat.zero_add _) (Fq.rf.sL ⟨rfl, rfl⟩) rfl
      refine ⟨by first | rfl | exact ⟨_, rfl, rfl⟩, ?_⟩
      rw [← hh3, q] at f
      exact cm_eN hc Fq.rf ((f.wk (fun a b q => Or.inl (P4_Sc q))).tr (f2.wk (fun a b q => Or.inr q))) a2
    · rw [if_neg q]
      simp only [x_129_38, cl2_i, cl2_r, cl2_n, cl2_l, tl_s, tl_n, true_and, and_true, Option.some.injEq, exists_eq_left', Bool.and_self, Bool.true_and, Bool.and_true, Bool.or_true, Bool.true_or, i_10, i_00, if_true, if_false, not_true_eq_false, not_false_eq_true, and_false, false_and, okp_sI, okp_sL, okp_aI, okp_aL, hR_sI, hR_sL, hR_aI, hR_aL]
      have hwu := WF_refu (f := 3) hw
      refine ⟨hwu, refu_I (by decide) (by decide), ?_⟩
      simp only [x_237_17, x_237_18, x_237_21, x_237_22, x_237_23, x_237_24, x_237_27, x_237_28, x_237_29, x_237_32, o_124 hwu, w_124_16 hwu, o_132 hwu, iOk_lt (k := 132) (by decide), iRd_lt (k := 132) (by decide), show LN 132 = 8 from rfl, cl2_i, cl2_r, cl2_n, cl2_l, tl_s, tl_n, true_and, and_true, Option.some.injEq, exists_eq_left', Bool.and_self, Bool.true_and, Bool.and_true, Bool.or_true, Bool.true_or, i_10, i_00, if_true, if_false, not_true_eq_false, not_false_eq_true, and_false, false_and, okp_sI, okp_sL, okp_aI, okp_aL, hR_sI, hR_sL, hR_aI, hR_aL, inb_nI (n := 8) hs (by decide), nI_clamp (n := s) (by omega), m_meets_3 hwu]
      rw [if_neg (show ¬ hI (refu h 3) 132 s = 3 by rw [refu_I (by decide) (by decide), D.1]; exact q)]
      first | exact cm_ref (by decide) hc | exact ⟨rfl, cm_ref (by decide) hc⟩ | exact ⟨⟨_, rfl, rfl⟩, cm_ref (by decide) hc⟩
end WG
