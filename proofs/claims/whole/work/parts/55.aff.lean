/-! ===== words as maps: turns, the class's Affine, the model's setWord ===== -/
def xxT (t : Nat) : Int := match t with | 0 => 1 | 1 => 0 | 2 => -1 | 3 => 0 | 4 => 0 | 5 => -1 | 6 => 0 | _ => 1
def xyT (t : Nat) : Int := match t with | 0 => 0 | 1 => -1 | 2 => 0 | 3 => 1 | 4 => 1 | 5 => 0 | 6 => -1 | _ => 0
def yxT (t : Nat) : Int := match t with | 0 => 0 | 1 => 1 | 2 => 0 | 3 => -1 | 4 => 1 | 5 => 0 | 6 => -1 | _ => 0
def yyT (t : Nat) : Int := match t with | 0 => 1 | 1 => 0 | 2 => -1 | 3 => 0 | 4 => 0 | 5 => 1 | 6 => 0 | _ => -1
def tX (t : Nat) (x y : Int) : Int := xxT t * x + xyT t * y
def tY (t : Nat) (x y : Int) : Int := yxT t * x + yyT t * y
/-- xx, xy, yx, yy, px, py behind m moves, the m-th put ahead being u m -/
def afs (b : Nat) (tn : Nat → Nat) (sx sy : Nat → Int) (u : Nat → Nat) : Nat → Int × Int × Int × Int × Int × Int
  | 0 => (1, 0, 0, 1, 0, 0)
  | m + 1 => match afs b tn sx sy u m with
    | (xx, xy, yx, yy, px, py) => (tX (tn (u m)) xx yx, tX (tn (u m)) xy yy, tY (tn (u m)) xx yx, tY (tn (u m)) xy yy, tX (tn (u m)) px py + (b : Int) ^ m * sx (u m), tY (tn (u m)) px py + (b : Int) ^ m * sy (u m))
section AF
variable {sc : Nat × (Nat → Int32)} {d : Nat} {Q : PRes → Prop} {h h' H : PH} {k s r b M i j t : Nat} {kd x y : Int32} {tn : Nat → Nat} {sx sy ex : Nat → Int}
theorem tb_ok (ht : t ≤ 7) : (iOk sc h 1000 (nI t) ∧ iRd sc h 1000 (nI t) = iv (xxT t)) ∧ (iOk sc h 1001 (nI t) ∧ iRd sc h 1001 (nI t) = iv (xyT t)) ∧ (iOk sc h 1002 (nI t) ∧ iRd sc h 1002 (nI t) = iv (yxT t)) ∧ (iOk sc h 1003 (nI t) ∧ iRd sc h 1003 (nI t) = iv (yyT t)) := by
  match t, ht with
  | 0, _ => exact ⟨⟨rfl, rfl⟩, ⟨rfl, rfl⟩, ⟨rfl, rfl⟩, ⟨rfl, rfl⟩⟩
  | 1, _ => exact ⟨⟨rfl, rfl⟩, ⟨rfl, rfl⟩, ⟨rfl, rfl⟩, ⟨rfl, rfl⟩⟩
  | 2, _ => exact ⟨⟨rfl, rfl⟩, ⟨rfl, rfl⟩, ⟨rfl, rfl⟩, ⟨rfl, rfl⟩⟩
  | 3, _ => exact ⟨⟨rfl, rfl⟩, ⟨rfl, rfl⟩, ⟨rfl, rfl⟩, ⟨rfl, rfl⟩⟩
  | 4, _ => exact ⟨⟨rfl, rfl⟩, ⟨rfl, rfl⟩, ⟨rfl, rfl⟩, ⟨rfl, rfl⟩⟩
  | 5, _ => exact ⟨⟨rfl, rfl⟩, ⟨rfl, rfl⟩, ⟨rfl, rfl⟩, ⟨rfl, rfl⟩⟩
  | 6, _ => exact ⟨⟨rfl, rfl⟩, ⟨rfl, rfl⟩, ⟨rfl, rfl⟩, ⟨rfl, rfl⟩⟩
  | 7, _ => exact ⟨⟨rfl, rfl⟩, ⟨rfl, rfl⟩, ⟨rfl, rfl⟩, ⟨rfl, rfl⟩⟩
  | n + 8, hn => omega
theorem tb_R (ht : t ≤ 7) : (-1 ≤ xxT t ∧ xxT t ≤ 1) ∧ (-1 ≤ xyT t ∧ xyT t ≤ 1) ∧ (-1 ≤ yxT t ∧ yxT t ≤ 1) ∧ (-1 ≤ yyT t ∧ yyT t ≤ 1) := by
  match t, ht with
  | 0, _ => decide
  | 1, _ => decide
  | 2, _ => decide
  | 3, _ => decide
  | 4, _ => decide
  | 5, _ => decide
  | 6, _ => decide
  | 7, _ => decide
  | n + 8, hn => omega
theorem tb_j (ht : t ≤ 7) : (iv (xxT t)).toInt64 = jv (xxT t) ∧ (iv (xyT t)).toInt64 = jv (xyT t) ∧ (iv (yxT t)).toInt64 = jv (yxT t) ∧ (iv (yyT t)).toInt64 = jv (yyT t) := by
  obtain ⟨a1, a2, a3, a4⟩ := tb_R ht
  exact ⟨iv_l ⟨by omega, by omega⟩, iv_l ⟨by omega, by omega⟩, iv_l ⟨by omega, by omega⟩, iv_l ⟨by omega, by omega⟩⟩
theorem k_turnedX_1 : lk 178 1 = some (.tableswitch 55 0 7 #[47, 49, 52, 55, 55, 52, 49, 47], 48, 0, 0, .null) := by decide +kernel
theorem k_turnedY_1 : lk 179 1 = some (.tableswitch 54 0 7 #[47, 49, 51, 54, 49, 47, 54, 51], 48, 0, 0, .null) := by decide +kernel
theorem m_turnedX {X Y : Int} (ht : t ≤ 7) : Tr sc d 178 (ent0 178 [.int (nI t), .int (iv X), .int (iv Y)] h) Q = Q (some (.int (iv (tX t X Y))), h) := by
  rw [e_178, x_178_0]
  match t, ht with
  | 0, _ =>
    rw [t_go (g' := (48, [some (.int (nI 0)), some (.int (iv X)), some (.int (iv Y))], [], h)) k_turnedX_1 rfl]
    simp only [x_178_48, x_178_49, x_178_50, x_178_51, x_178_52, x_178_53, x_178_54, x_178_55, x_178_56, x_178_57, show tX 0 X Y = X by simp [tX, xxT, xyT]]
  | 1, _ =>
    rw [t_go (g' := (50, [some (.int (nI 1)), some (.int (iv X)), some (.int (iv Y))], [], h)) k_turnedX_1 rfl]
    simp only [x_178_48, x_178_49, x_178_50, x_178_51, x_178_52, x_178_53, x_178_54, x_178_55, x_178_56, x_178_57, show tX 1 X Y = -Y by simp [tX, xxT, xyT], iv_neg]
  | 2, _ =>
    rw [t_go (g' := (53, [some (.int (nI 2)), some (.int (iv X)), some (.int (iv Y))], [], h)) k_turnedX_1 rfl]
    simp only [x_178_48, x_178_49, x_178_50, x_178_51, x_178_52, x_178_53, x_178_54, x_178_55, x_178_56, x_178_57, show tX 2 X Y = -X by simp [tX, xxT, xyT], iv_neg]
  | 3, _ =>
    rw [t_go (g' := (56, [some (.int (nI 3)), some (.int (iv X)), some (.int (iv Y))], [], h)) k_turnedX_1 rfl]
    simp only [x_178_48, x_178_49, x_178_50, x_178_51, x_178_52, x_178_53, x_178_54, x_178_55, x_178_56, x_178_57, show tX 3 X Y = Y by simp [tX, xxT, xyT]]
  | 4, _ =>
    rw [t_go (g' := (56, [some (.int (nI 4)), some (.int (iv X)), some (.int (iv Y))], [], h)) k_turnedX_1 rfl]
    simp only [x_178_48, x_178_49, x_178_50, x_178_51, x_178_52, x_178_53, x_178_54, x_178_55, x_178_56, x_178_57, show tX 4 X Y = Y by simp [tX, xxT, xyT]]
  | 5, _ =>
    rw [t_go (g' := (53, [some (.int (nI 5)), some (.int (iv X)), some (.int (iv Y))], [], h)) k_turnedX_1 rfl]
    simp only [x_178_48, x_178_49, x_178_50, x_178_51, x_178_52, x_178_53, x_178_54, x_178_55, x_178_56, x_178_57, show tX 5 X Y = -X by simp [tX, xxT, xyT], iv_neg]
  | 6, _ =>
    rw [t_go (g' := (50, [some (.int (nI 6)), some (.int (iv X)), some (.int (iv Y))], [], h)) k_turnedX_1 rfl]
    simp only [x_178_48, x_178_49, x_178_50, x_178_51, x_178_52, x_178_53, x_178_54, x_178_55, x_178_56, x_178_57, show tX 6 X Y = -Y by simp [tX, xxT, xyT], iv_neg]
  | 7, _ =>
    rw [t_go (g' := (48, [some (.int (nI 7)), some (.int (iv X)), some (.int (iv Y))], [], h)) k_turnedX_1 rfl]
    simp only [x_178_48, x_178_49, x_178_50, x_178_51, x_178_52, x_178_53, x_178_54, x_178_55, x_178_56, x_178_57, show tX 7 X Y = X by simp [tX, xxT, xyT]]
  | n + 8, hn => omega
theorem m_turnedY {X Y : Int} (ht : t ≤ 7) : Tr sc d 179 (ent0 179 [.int (nI t), .int (iv X), .int (iv Y)] h) Q = Q (some (.int (iv (tY t X Y))), h) := by
  rw [e_179, x_179_0]
  match t, ht with
  | 0, _ =>
    rw [t_go (g' := (48, [some (.int (nI 0)), some (.int (iv X)), some (.int (iv Y))], [], h)) k_turnedY_1 rfl]
    simp only [x_179_48, x_179_49, x_179_50, x_179_51, x_179_52, x_179_53, x_179_54, x_179_55, x_179_56, x_179_57, show tY 0 X Y = Y by simp [tY, yxT, yyT]]
  | 1, _ =>
    rw [t_go (g' := (50, [some (.int (nI 1)), some (.int (iv X)), some (.int (iv Y))], [], h)) k_turnedY_1 rfl]
    simp only [x_179_48, x_179_49, x_179_50, x_179_51, x_179_52, x_179_53, x_179_54, x_179_55, x_179_56, x_179_57, show tY 1 X Y = X by simp [tY, yxT, yyT]]
  | 2, _ =>
    rw [t_go (g' := (52, [some (.int (nI 2)), some (.int (iv X)), some (.int (iv Y))], [], h)) k_turnedY_1 rfl]
    simp only [x_179_48, x_179_49, x_179_50, x_179_51, x_179_52, x_179_53, x_179_54, x_179_55, x_179_56, x_179_57, show tY 2 X Y = -Y by simp [tY, yxT, yyT], iv_neg]
  | 3, _ =>
    rw [t_go (g' := (55, [some (.int (nI 3)), some (.int (iv X)), some (.int (iv Y))], [], h)) k_turnedY_1 rfl]
    simp only [x_179_48, x_179_49, x_179_50, x_179_51, x_179_52, x_179_53, x_179_54, x_179_55, x_179_56, x_179_57, show tY 3 X Y = -X by simp [tY, yxT, yyT], iv_neg]
  | 4, _ =>
    rw [t_go (g' := (50, [some (.int (nI 4)), some (.int (iv X)), some (.int (iv Y))], [], h)) k_turnedY_1 rfl]
    simp only [x_179_48, x_179_49, x_179_50, x_179_51, x_179_52, x_179_53, x_179_54, x_179_55, x_179_56, x_179_57, show tY 4 X Y = X by simp [tY, yxT, yyT]]
  | 5, _ =>
    rw [t_go (g' := (48, [some (.int (nI 5)), some (.int (iv X)), some (.int (iv Y))], [], h)) k_turnedY_1 rfl]
    simp only [x_179_48, x_179_49, x_179_50, x_179_51, x_179_52, x_179_53, x_179_54, x_179_55, x_179_56, x_179_57, show tY 5 X Y = Y by simp [tY, yxT, yyT]]
  | 6, _ =>
    rw [t_go (g' := (55, [some (.int (nI 6)), some (.int (iv X)), some (.int (iv Y))], [], h)) k_turnedY_1 rfl]
    simp only [x_179_48, x_179_49, x_179_50, x_179_51, x_179_52, x_179_53, x_179_54, x_179_55, x_179_56, x_179_57, show tY 6 X Y = -X by simp [tY, yxT, yyT], iv_neg]
  | 7, _ =>
    rw [t_go (g' := (52, [some (.int (nI 7)), some (.int (iv X)), some (.int (iv Y))], [], h)) k_turnedY_1 rfl]
    simp only [x_179_48, x_179_49, x_179_50, x_179_51, x_179_52, x_179_53, x_179_54, x_179_55, x_179_56, x_179_57, show tY 7 X Y = -Y by simp [tY, yxT, yyT], iv_neg]
  | n + 8, hn => omega
def AfC (h : PH) (k : Nat) (z : Int × Int × Int × Int × Int × Int) (S : Int) : Prop := hL h k 0 = jv z.1 ∧ hL h k 1 = jv z.2.1 ∧ hL h k 2 = jv z.2.2.1 ∧ hL h k 3 = jv z.2.2.2.1 ∧ hL h k 4 = jv z.2.2.2.2.1 ∧ hL h k 5 = jv z.2.2.2.2.2 ∧ hL h k 6 = jv S
def stepA (t : Nat) (S x y : Int) (z : Int × Int × Int × Int × Int × Int) : Int × Int × Int × Int × Int × Int := (tX t z.1 z.2.2.1, tX t z.2.1 z.2.2.2.1, tY t z.1 z.2.2.1, tY t z.2.1 z.2.2.2.1, tX t z.2.2.2.2.1 z.2.2.2.2.2 + S * x, tY t z.2.2.2.2.1 z.2.2.2.2.2 + S * y)
theorem afs_s {u : Nat → Nat} {m : Nat} : afs b tn sx sy u (m + 1) = stepA (tn (u m)) ((b : Int) ^ m) (sx (u m)) (sy (u m)) (afs b tn sx sy u m) := rfl
theorem c_putAhead {a : Nat} {z : Int × Int × Int × Int × Int × Int} {S : Int} (hw : WF h) (ha : okp h a 0 = true) (hk : IsSh k) (C : ShC h k kd b M tn sx sy ex) (W : ShW kd b M tn sx sy ex) (hi : i < M) (A : AfC h a z S) (hK : ∀ h', Fq (fun x _ => x = a) h h' → AfC h' a (stepA (tn i) S (sx i) (sy i) z) (S * b) → Q (none, h')) : Tr sc d 3 (ent0 3 [.ref a, .ref k, .int (nI i)] h) Q := by
  obtain ⟨ho, r0, r1, r2, r3, r4, r5, o0, o1, o2, o3, o4, o5, n0, n1, n2, n3, n4, n5⟩ := sh_ref hw hk
  obtain ⟨-, ⟨b1, b2⟩, ⟨m1, m2⟩, wt⟩ := W
  obtain ⟨t7, ⟨x1, x2⟩, ⟨y1, y2⟩, -⟩ := wt i hi
  obtain ⟨c1, c2, c3, c4⟩ := C
  obtain ⟨q1, q2, q3, -⟩ := c4 i hi
  obtain ⟨⟨u1, v1⟩, ⟨u2, v2⟩, ⟨u3, v3⟩, ⟨u4, v4⟩⟩ := tb_ok (sc := sc) (h := h) t7
  obtain ⟨j1, j2, j3, j4⟩ := tb_j t7
  obtain ⟨a0, a1, a2, a3, a4, a5, a6⟩ := A
  rw [e_3]
  simp only [x_3_0, x_3_1, x_3_4, x_3_5, x_3_6, x_3_7, x_3_10, x_3_11, x_3_12, x_3_13, x_3_15, x_3_18, x_3_19, x_3_20, x_3_21, x_3_23, x_3_26, x_3_27, x_3_28, x_3_29, x_3_31, x_3_34, x_3_35, x_3_36, x_3_37, x_3_39, x_3_40, x_3_43, x_3_45, x_3_46, x_3_49, x_3_51, x_3_52, x_3_55, x_3_57, x_3_58, x_3_60, x_3_62, x_3_63, x_3_65, x_3_66, x_3_69, x_3_70, x_3_71, x_3_74, x_3_75, x_3_77, x_3_79, x_3_80, x_3_82, x_3_83, x_3_86, x_3_87, x_3_88, x_3_91, x_3_92, x_3_94, x_3_96, x_3_97, x_3_99, x_3_100, x_3_103, x_3_104, x_3_105, x_3_108, x_3_109, x_3_111, x_3_113, x_3_114, x_3_116, x_3_117, x_3_120, x_3_121, x_3_122, x_3_125, x_3_126, x_3_128, x_3_130, x_3_131, x_3_133, x_3_134, x_3_137, x_3_138, x_3_139, x_3_140, x_3_143, x_3_144, x_3_147, x_3_148, x_3_149, x_3_150, x_3_151, x_3_152, x_3_155, x_3_156, x_3_158, x_3_160, x_3_161, x_3_163, x_3_164, x_3_167, x_3_168, x_3_169, x_3_170, x_3_173, x_3_174, x_3_177, x_3_178, x_3_179, x_3_180, x_3_181, x_3_182, x_3_185, x_3_186, x_3_187, x_3_190, x_3_191, x_3_194, x_3_195, x_3_196, x_3_199, cl2_i, cl2_r, cl2_n, cl2_l, tl_s, tl_n, true_and, and_true, Option.some.injEq, exists_eq_left', Bool.and_self, Bool.true_and, Bool.and_true, Bool.or_true, Bool.true_or, i_10, i_00, if_true, if_false, not_true_eq_false, not_false_eq_true, and_false, false_and, okp_sI, okp_sL, okp_aI, okp_aL, hR_sI, hR_sL, hR_aI, hR_aL, ha, ho, r0, r1, r2, iOk_sL, iRd_sL, hI_sL, iOk_ok o0, iRd_ok o0, iOk_ok o1, iRd_ok o1, iOk_ok o2, iRd_ok o2, n0, n1, n2, inb_nI (n := 6) (show i < 6 by omega) (by decide), nI_clamp (n := i) (by omega), q1, q2, q3, Nat.add_zero, Nat.reduceAdd, u1, u2, u3, u4, v1, v2, v3, v4, j1, j2, j3, j4, c2, nI_j (n := b) (by omega), iv_l (z := sx i) ⟨by omega, by omega⟩, iv_l (z := sy i) ⟨by omega, by omega⟩, hL_sL, eq_self, Nat.reduceEqDiff, a0, a1, a2, a3, a4, a5, a6, jv_mul, jv_add]
  refine hK _ (by
    iterate 7 (refine Fq.sL ?_ rfl)
    exact Fq.rf) ⟨?_, ?_, ?_, ?_, ?_, ?_, ?_⟩ <;> simp only [hL_sL, eq_self, if_true, if_false, Nat.reduceEqDiff] <;> rfl
theorem AfC.fr {P : Nat → Nat → Prop} {a : Nat} {z : Int × Int × Int × Int × Int × Int} {S : Int} (A : AfC h a z S) (f : Fq P h h') (hP : ∀ j, ¬ P a j) : AfC h' a z S := by
  obtain ⟨a0, a1, a2, a3, a4, a5, a6⟩ := A
  exact ⟨by rw [f.l (hP _)]; exact a0, by rw [f.l (hP _)]; exact a1, by rw [f.l (hP _)]; exact a2, by rw [f.l (hP _)]; exact a3, by rw [f.l (hP _)]; exact a4, by rw [f.l (hP _)]; exact a5, by rw [f.l (hP _)]; exact a6⟩
theorem c_fol_loop {a kr pr fr n : Nat} {w : Nat → Nat} (hw : WF h) (ha : okp h a 0 = true) (hk : IsSh k) (C : ShC h k kd b M tn sx sy ex) (W : ShW kd b M tn sx sy ex) (hak : ¬ (k ≤ a ∧ a < k + 5)) (hap : a ≠ pr) (or : okp h kr 5 = true) (rr : hR h kr 0 = some pr) (op : okp h pr 11 = true) (np : LN pr = 40) (hn : fr + n ≤ 40) (hwd : ∀ j, j < n → hI h pr (fr + j) = nI (w j) ∧ w j < M) (hK : ∀ h', Fq (fun x _ => x = a) h h' → AfC h' a (afs b tn sx sy (fun m => w (n - 1 - m)) n) ((b : Int) ^ n) → Q (none, h')) : ∀ (m' m : Nat) (H : PH), m + m' = n → Fq (fun x _ => x = a) h H → AfC H a (afs b tn sx sy (fun m => w (n - 1 - m)) m) ((b : Int) ^ m) → Tr sc (d + 1) 1 (12, [some (.ref a), some (.ref k), some (.ref kr), some (.int (nI fr)), some (.int (nI n)), some (.int (iv ((fr : Int) + n - 1 - m)))], [], H) Q := by
  intro m'
  induction m' with
  | zero =>
    intro m H hm f A
    have e : m = n := by omega
    subst e
    rw [x_1_12]
    simp only [x_1_14, x_1_15, x_1_18, x_1_19, x_1_20, x_1_21, x_1_24, x_1_26, x_1_27, x_1_30, x_1_33, x_1_36, cl2_i, cl2_r, cl2_n, cl2_l, tl_s, tl_n, true_and, and_true, Option.some.injEq, exists_eq_left', Bool.and_self, Bool.true_and, Bool.and_true, Bool.or_true, Bool.true_or, i_10, i_00, if_true, if_false, not_true_eq_false, not_false_eq_true, and_false, false_and, okp_sI, okp_sL, okp_aI, okp_aL, hR_sI, hR_sL, hR_aI, hR_aL]
    rw [if_pos (by rw [iv_n, iv_lt ⟨by omega, by omega⟩ ⟨by omega, by omega⟩]; omega)]
    exact hK H f A
  | succ m' ih =>
    intro m H hm f A
    have hwH := f.WF hw
    have ei : iv ((fr : Int) + n - 1 - m) = nI (fr + (n - 1 - m)) := by rw [iv_n]; congr 1; omega
    have or' : okp H kr 5 = true := by rw [f.ok]; exact or
    have op' : okp H pr 11 = true := by rw [f.ok]; exact op
    have ha' : okp H a 0 = true := by rw [f.ok]; exact ha
    have rr' : hR H kr 0 = some pr := by rw [f.2.1]; exact rr
    obtain ⟨d1, d2⟩ := hwd (n - 1 - m) (by omega)
    have d1' : hI H pr (fr + (n - 1 - m)) = nI (w (n - 1 - m)) := by rw [f.i (fun q => hap q.symm)]; exact d1
    rw [x_1_12]
    simp only [x_1_14, x_1_15, x_1_18, x_1_19, x_1_20, x_1_21, x_1_24, x_1_26, cl2_i, cl2_r, cl2_n, cl2_l, tl_s, tl_n, true_and, and_true, Option.some.injEq, exists_eq_left', Bool.and_self, Bool.true_and, Bool.and_true, Bool.or_true, Bool.true_or, i_10, i_00, if_true, if_false, not_true_eq_false, not_false_eq_true, and_false, false_and, okp_sI, okp_sL, okp_aI, okp_aL, hR_sI, hR_sL, hR_aI, hR_aL]
    rw [if_neg (by rw [iv_n, iv_lt ⟨by omega, by omega⟩ ⟨by omega, by omega⟩]; omega)]
    rw [ei]
    simp only [or', rr', cl2_i, cl2_r, cl2_n, cl2_l, tl_s, tl_n, true_and, and_true, Option.some.injEq, exists_eq_left', Bool.and_self, Bool.true_and, Bool.and_true, Bool.or_true, Bool.true_or, i_10, i_00, if_true, if_false, not_true_eq_false, not_false_eq_true, and_false, false_and, okp_sI, okp_sL, okp_aI, okp_aL, hR_sI, hR_sL, hR_aI, hR_aL, iOk_ok op', iRd_ok op', np, inb_nI (n := 40) (show fr + (n - 1 - m) < 40 by omega) (by decide), nI_clamp (n := fr + (n - 1 - m)) (by omega), d1', x_1_26, x_1_27, ha']
    refine c_putAhead hwH ha' hk (C.fr f (fun c j h1 h2 q => hak (by omega))) W d2 A (fun h' f' A' => ?_)
    simp only [x_1_27, x_1_30, x_1_33, cl2_i, cl2_r, cl2_n, cl2_l, tl_s, tl_n, true_and, and_true, Option.some.injEq, exists_eq_left', Bool.and_self, Bool.true_and, Bool.and_true, Bool.or_true, Bool.true_or, i_10, i_00, if_true, if_false, not_true_eq_false, not_false_eq_true, and_false, false_and, okp_sI, okp_sL, okp_aI, okp_aL, hR_sI, hR_sL, hR_aI, hR_aL]
    have e2 : nI (fr + (n - 1 - m)) + -1 = iv ((fr : Int) + n - 1 - (m + 1 : Nat)) := by
      rw [iv_n, show (-1 : Int32) = iv (-1) from rfl, iv_add]; congr 1; omega
    rw [e2]
    refine ih (m + 1) h' (by omega) (f.tr f') ?_
    rw [afs_s, Int.pow_succ]
    exact A'
theorem c_rest {a : Nat} (ha : okp h a 0 = true) : Tr sc d 2 (ent0 2 [.ref a] h) Q = Q (none, sL (sL (sL (sL (sL (sL (sL h a 0 1) a 1 0) a 2 0) a 3 1) a 4 0) a 5 0) a 6 1) := by
  rw [e_2]
  simp only [x_2_0, x_2_1, x_2_2, x_2_5, x_2_6, x_2_7, x_2_10, x_2_11, x_2_12, x_2_15, x_2_16, x_2_17, x_2_20, x_2_21, x_2_22, x_2_25, x_2_26, x_2_27, x_2_30, x_2_31, x_2_32, x_2_35, cl2_i, cl2_r, cl2_n, cl2_l, tl_s, tl_n, true_and, and_true, Option.some.injEq, exists_eq_left', Bool.and_self, Bool.true_and, Bool.and_true, Bool.or_true, Bool.true_or, i_10, i_00, if_true, if_false, not_true_eq_false, not_false_eq_true, and_false, false_and, okp_sI, okp_sL, okp_aI, okp_aL, hR_sI, hR_sL, hR_aI, hR_aL, ha]
theorem c_follow {a kr pr fr n : Nat} {w : Nat → Nat} (hw : WF h) (ha : okp h a 0 = true) (hk : IsSh k) (C : ShC h k kd b M tn sx sy ex) (W : ShW kd b M tn sx sy ex) (hak : ¬ (k ≤ a ∧ a < k + 5)) (hap : a ≠ pr) (or : okp h kr 5 = true) (rr : hR h kr 0 = some pr) (op : okp h pr 11 = true) (np : LN pr = 40) (hn : fr + n ≤ 40) (hwd : ∀ j, j < n → hI h pr (fr + j) = nI (w j) ∧ w j < M) (hK : ∀ h', Fq (fun x _ => x = a) h h' → AfC h' a (afs b tn sx sy (fun m => w (n - 1 - m)) n) ((b : Int) ^ n) → Q (none, h')) : Tr sc (d + 1) 1 (ent0 1 [.ref a, .ref k, .ref kr, .int (nI fr), .int (nI n)] h) Q := by
  rw [e_1]
  simp only [x_1_0, x_1_1, x_1_4, x_1_5, x_1_7, x_1_8, x_1_9, x_1_10, cl2_i, cl2_r, cl2_n, cl2_l, tl_s, tl_n, true_and, and_true, Option.some.injEq, exists_eq_left', Bool.and_self, Bool.true_and, Bool.and_true, Bool.or_true, Bool.true_or, i_10, i_00, if_true, if_false, not_true_eq_false, not_false_eq_true, and_false, false_and, okp_sI, okp_sL, okp_aI, okp_aL, hR_sI, hR_sL, hR_aI, hR_aL, ha, c_rest ha]
  have f : Fq (fun x _ => x = a) h (sL (sL (sL (sL (sL (sL (sL h a 0 1) a 1 0) a 2 0) a 3 1) a 4 0) a 5 0) a 6 1) := by
    iterate 7 (refine Fq.sL ?_ rfl)
    exact Fq.rf
  have e2 : nI fr + nI n - 1 = iv ((fr : Int) + n - 1 - (0 : Nat)) := by
    rw [iv_n, iv_n, show (1 : Int32) = iv 1 from rfl, iv_add, iv_sub]; congr 1; omega
  rw [e2]
  refine c_fol_loop hw ha hk C W hak hap or rr op np hn hwd hK n 0 _ (by omega) f ⟨?_, ?_, ?_, ?_, ?_, ?_, ?_⟩ <;> simp only [hL_sL, eq_self, if_true, if_false, Nat.reduceEqDiff] <;> rfl
theorem m_pow_loop {n : Nat} (hn : n < 100) : ∀ (m i : Nat), i + m = n → Tr sc d 196 (4, [some (.int (nI b)), some (.int (nI n)), some (.int (iv ((b : Int) ^ i))), some (.int (nI i))], [], h) Q = Q (some (.int (iv ((b : Int) ^ n))), h) := by
  intro m
  induction m with
  | zero =>
    intro i hi
    have e : i = n := by omega
    subst e
    rw [x_196_4]
    simp only [x_196_5, x_196_6, x_196_9, x_196_10, x_196_11, x_196_12, x_196_13, x_196_16, x_196_19, x_196_20, cl2_i, cl2_r, cl2_n, cl2_l, tl_s, tl_n, true_and, and_true, Option.some.injEq, exists_eq_left', Bool.and_self, Bool.true_and, Bool.and_true, Bool.or_true, Bool.true_or, i_10, i_00, if_true, if_false, not_true_eq_false, not_false_eq_true, and_false, false_and, okp_sI, okp_sL, okp_aI, okp_aL, hR_sI, hR_sL, hR_aI, hR_aL]
    rw [if_pos (Int32.le_refl _)]
  | succ m ih =>
    intro i hi
    rw [x_196_4]
    simp only [x_196_5, x_196_6, x_196_9, x_196_10, x_196_11, x_196_12, x_196_13, x_196_16, x_196_19, x_196_20, cl2_i, cl2_r, cl2_n, cl2_l, tl_s, tl_n, true_and, and_true, Option.some.injEq, exists_eq_left', Bool.and_self, Bool.true_and, Bool.and_true, Bool.or_true, Bool.true_or, i_10, i_00, if_true, if_false, not_true_eq_false, not_false_eq_true, and_false, false_and, okp_sI, okp_sL, okp_aI, okp_aL, hR_sI, hR_sL, hR_aI, hR_aL, nI_1]
    rw [if_neg (nI_ge (by omega) (by omega))]
    have e := ih (i + 1) (by omega)
    rw [Int.pow_succ, ← iv_mul, ← iv_n] at e
    exact e
theorem m_power {n : Nat} (hn : n < 100) : Tr sc d 196 (ent0 196 [.int (nI b), .int (nI n)] h) Q = Q (some (.int (iv ((b : Int) ^ n))), h) := by
  rw [e_196]
  simp only [x_196_0, x_196_1, x_196_2, x_196_3, cl2_i, cl2_r, cl2_n, cl2_l, tl_s, tl_n, true_and, and_true, Option.some.injEq, exists_eq_left', Bool.and_self, Bool.true_and, Bool.and_true, Bool.or_true, Bool.true_or, i_10, i_00, if_true, if_false, not_true_eq_false, not_false_eq_true, and_false, false_and, okp_sI, okp_sL, okp_aI, okp_aL, hR_sI, hR_sL, hR_aI, hR_aL]
  exact m_pow_loop hn n 0 (by omega)
def MdC (h : PH) (z : Int × Int × Int × Int × Int × Int) : Prop := hI h 124 25 = iv z.1 ∧ hI h 124 27 = iv z.2.1 ∧ hI h 124 26 = iv z.2.2.1 ∧ hI h 124 28 = iv z.2.2.2.1 ∧ hI h 124 23 = iv z.2.2.2.2.1 ∧ hI h 124 24 = iv z.2.2.2.2.2
def Pq (a b : Nat) : Prop := a = 124 ∧ 23 ≤ b ∧ b ≤ 28
theorem m_sw_loop {fr n : Nat} {w : Nat → Nat} (hw : WF h) (hs : s < 8) (hr : r < 6) (C : ShM h s kd b M tn sx sy ex) (W : ShW kd b M tn sx sy ex) (hn : fr + n ≤ 40) (hwd : ∀ j, j < n → hI h 127 (40 * r + (fr + j)) = nI (w j) ∧ w j < M) (hK : ∀ h', Fq Pq h h' → MdC h' (afs b tn sx sy (fun m => w (n - 1 - m)) n) → Q (none, h')) : ∀ (m' m : Nat) (H : PH) (l6 l7 l8 l9 : Option Value), cl2 l6 = l6 → cl2 l7 = l7 → cl2 l8 = l8 → m + m' = n → Fq Pq h H → MdC H (afs b tn sx sy (fun m => w (n - 1 - m)) m) → Tr sc (d + 1) 197 (33, [some (.ref 124), some (.int (nI s)), some (.int (nI r)), some (.int (nI fr)), some (.int (nI n)), some (.int (nI (m + 1))), l6, l7, l8, l9], [], H) Q := by
  intro m'
  induction m' with
  | zero =>
    intro m H l6 l7 l8 l9 h6 h7 h8 hm f A
    have e : m = n := by omega
    subst e
    rw [x_197_33]
    simp only [x_197_35, x_197_37, x_197_230, cl2_i, cl2_r, cl2_n, cl2_l, tl_s, tl_n, true_and, and_true, Option.some.injEq, exists_eq_left', Bool.and_self, Bool.true_and, Bool.and_true, Bool.or_true, Bool.true_or, i_10, i_00, if_true, if_false, not_true_eq_false, not_false_eq_true, and_false, false_and, okp_sI, okp_sL, okp_aI, okp_aL, hR_sI, hR_sL, hR_aI, hR_aL]
    rw [if_pos (nI_lt (by omega) (by omega))]
    exact hK H f A
  | succ m' ih =>
    intro m H l6 l7 l8 l9 h6 h7 h8 hm f A
    have hwH := f.WF hw
    obtain ⟨d1, d2⟩ := hwd (n - 1 - m) (by omega)
    have d1' : hI H 127 (40 * r + (fr + (n - 1 - m))) = nI (w (n - 1 - m)) := by rw [f.i (by unfold Pq; omega)]; exact d1
    have C' := C.fr f (fun a j h1 h2 q => by unfold Pq at q; omega)
    obtain ⟨-, ⟨b1, b2⟩, ⟨m1, m2⟩, wt⟩ := W
    obtain ⟨t7, ⟨x1, x2⟩, ⟨y1, y2⟩, -⟩ := wt _ d2
    obtain ⟨c1, c2, c3, c4⟩ := C'
    obtain ⟨q1, q2, q3, -⟩ := c4 _ d2
    obtain ⟨a0, a1, a2, a3, a4, a5⟩ := A
    have e1 : 40 * nI r + nI fr + nI n - nI (m + 1) = nI (40 * r + (fr + (n - 1 - m))) := by
      rw [show (40 : Int32) = nI 40 from rfl, pk_mul, nI_add, nI_add, pk_sub (by omega)]; congr 1; omega
    have e2 : 6 * nI s + nI (w (n - 1 - m)) = nI (6 * s + w (n - 1 - m)) := by
      rw [show (6 : Int32) = nI 6 from rfl, pk_mul, nI_add]
    have e3 : nI (m + 1) - 1 = nI m := nI_pred m
    rw [x_197_33]
    simp only [x_197_35, x_197_37, o_124 hwH, cl2_i, cl2_r, cl2_n, cl2_l, tl_s, tl_n, true_and, and_true, Option.some.injEq, exists_eq_left', Bool.and_self, Bool.true_and, Bool.and_true, Bool.or_true, Bool.true_or, i_10, i_00, if_true, if_false, not_true_eq_false, not_false_eq_true, and_false, false_and, okp_sI, okp_sL, okp_aI, okp_aL, hR_sI, hR_sL, hR_aI, hR_aL]
    rw [if_neg (nI_nlt (by omega) (by omega))]
    simp only [x_197_40, x_197_42, x_197_43, x_197_44, x_197_45, x_197_48, x_197_50, x_197_51, x_197_52, x_197_53, x_197_54, x_197_56, x_197_57, x_197_59, x_197_60, x_197_61, x_197_62, x_197_64, x_197_65, x_197_68, x_197_70, x_197_71, x_197_73, x_197_74, x_197_77, x_197_78, x_197_79, x_197_81, x_197_82, x_197_83, x_197_86, x_197_88, x_197_90, x_197_91, x_197_94, x_197_95, x_197_98, x_197_101, x_197_103, x_197_104, x_197_107, x_197_109, x_197_110, x_197_111, x_197_112, x_197_114, x_197_115, x_197_117, x_197_118, x_197_121, x_197_122, x_197_125, x_197_128, x_197_130, x_197_131, x_197_134, x_197_136, x_197_137, x_197_138, x_197_139, x_197_142, x_197_143, x_197_145, x_197_148, x_197_150, x_197_151, x_197_154, x_197_155, x_197_158, x_197_161, x_197_163, x_197_164, x_197_166, x_197_167, x_197_170, x_197_171, x_197_174, x_197_177, x_197_180, x_197_181, x_197_183, x_197_186, x_197_188, x_197_189, x_197_192, x_197_193, x_197_196, x_197_199, x_197_201, x_197_202, x_197_204, x_197_205, x_197_208, x_197_209, x_197_212, x_197_215, x_197_218, x_197_219, x_197_221, x_197_224, x_197_227, o_124 hwH, w_124_7 hwH, w_124_17 hwH, w_124_19 hwH, w_124_20 hwH, w_124_21 hwH, o_127 hwH, iOk_lt (k := 127) (by decide), iRd_lt (k := 127) (by decide), show LN 127 = 240 from rfl, o_135 hwH, iOk_lt (k := 135) (by decide), iRd_lt (k := 135) (by decide), show LN 135 = 48 from rfl, o_133 hwH, iOk_lt (k := 133) (by decide), iRd_lt (k := 133) (by decide), show LN 133 = 8 from rfl, o_136 hwH, iOk_lt (k := 136) (by decide), iRd_lt (k := 136) (by decide), show LN 136 = 48 from rfl, o_137 hwH, iOk_lt (k := 137) (by decide), iRd_lt (k := 137) (by decide), show LN 137 = 48 from rfl, cl2_i, cl2_r, cl2_n, cl2_l, tl_s, tl_n, true_and, and_true, Option.some.injEq, exists_eq_left', Bool.and_self, Bool.true_and, Bool.and_true, Bool.or_true, Bool.true_or, i_10, i_00, if_true, if_false, not_true_eq_false, not_false_eq_true, and_false, false_and, okp_sI, okp_sL, okp_aI, okp_aL, hR_sI, hR_sL, hR_aI, hR_aL, h6, h7, h8, e1, e2, e3, inb_nI (n := 240) (show 40 * r + (fr + (n - 1 - m)) < 240 by omega) (by decide), nI_clamp (n := 40 * r + (fr + (n - 1 - m))) (by omega), d1', inb_nI (n := 48) (show 6 * s + w (n - 1 - m) < 48 by omega) (by decide), nI_clamp (n := 6 * s + w (n - 1 - m)) (by omega), q1, q2, q3, inb_nI (n := 8) hs (by decide), nI_clamp (n := s) (by omega), c2, m_power (b := b) (n := m) (by omega), iOk_sI, hI_sI, Nat.reduceEqDiff, a0, a1, a2, a3, a4, a5, m_turnedX t7, m_turnedY t7, iv_mul, iv_add, nI_1]
    refine ih (m + 1) _ _ _ _ _ rfl rfl rfl (by omega) ((((((f.sI (by unfold Pq; omega)).sI (by unfold Pq; omega)).sI (by unfold Pq; omega)).sI (by unfold Pq; omega)).sI (by unfold Pq; omega)).sI (by unfold Pq; omega)) ⟨?_, ?_, ?_, ?_, ?_, ?_⟩ <;> simp only [hI_sI, eq_self, if_true, if_false, Nat.reduceEqDiff] <;> rfl
theorem m_setWord {fr n : Nat} {w : Nat → Nat} (hw : WF h) (hs : s < 8) (hr : r < 6) (C : ShM h s kd b M tn sx sy ex) (W : ShW kd b M tn sx sy ex) (hn : fr + n ≤ 40) (hwd : ∀ j, j < n → hI h 127 (40 * r + (fr + j)) = nI (w j) ∧ w j < M) (hK : ∀ h', Fq Pq h h' → MdC h' (afs b tn sx sy (fun m => w (n - 1 - m)) n) → Q (none, h')) : Tr sc (d + 1) 197 (ent0 197 [.ref 124, .int (nI s), .int (nI r), .int (nI fr), .int (nI n)] h) Q := by
  rw [e_197]
  simp only [x_197_0, x_197_1, x_197_2, x_197_5, x_197_6, x_197_7, x_197_10, x_197_11, x_197_12, x_197_15, x_197_16, x_197_17, x_197_20, x_197_21, x_197_22, x_197_25, x_197_26, x_197_27, x_197_30, x_197_31, o_124 hw, cl2_i, cl2_r, cl2_n, cl2_l, tl_s, tl_n, true_and, and_true, Option.some.injEq, exists_eq_left', Bool.and_self, Bool.true_and, Bool.and_true, Bool.or_true, Bool.true_or, i_10, i_00, if_true, if_false, not_true_eq_false, not_false_eq_true, and_false, false_and, okp_sI, okp_sL, okp_aI, okp_aL, hR_sI, hR_sL, hR_aI, hR_aL]
  refine m_sw_loop hw hs hr C W hn hwd hK n 0 _ none none none none rfl rfl rfl (by omega) ((((((Fq.rf.sI (by unfold Pq; omega)).sI (by unfold Pq; omega)).sI (by unfold Pq; omega)).sI (by unfold Pq; omega)).sI (by unfold Pq; omega)).sI (by unfold Pq; omega)) ⟨?_, ?_, ?_, ?_, ?_, ?_⟩ <;> simp only [hI_sI, eq_self, if_true, if_false, Nat.reduceEqDiff] <;> rfl
end AF
