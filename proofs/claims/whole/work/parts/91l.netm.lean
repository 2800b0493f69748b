/-! ===== the model's net: joints, what hangs together ===== -/
def JA (h : PH) (eM : Nat → Nat → Bool) (n : Nat) : Prop := ∀ a b, a < n → b < n → hI h 150 (216 * a + b) = bo (eM a b)
def en (eM : Nat → Nat → Bool) (a b : Nat) : Nat := if eM a b = true then 1 else 0
def gin (eM : Nat → Nat → Bool) (v n : Nat) (s : Fst) : Fst := (List.range' 0 n).foldl (fun s b => opn (eM v b) b s) s
def gfs (eM : Nat → Nat → Bool) (n : Nat) : Nat → Nat → Fst → Fst
  | 0, _, s => s
  | f + 1, i, s => if i < s.2.length then gfs eM n f (i + 1) (gin eM (s.2.getD i 0) n s) else s
def rts (eM : Nat → Nat → Bool) (n : Nat) : Nat → Nat → (Nat → Bool) → List Nat
  | 0, _, _ => []
  | m + 1, a, F => if F a = true then rts eM n m (a + 1) F else a :: rts eM n m (a + 1) (gfs eM n (n + 1) 0 (opn true a (F, []))).1
def MG (h : PH) (n : Nat) (s : Fst) : Prop := (∀ x, x < n → hI h 151 x = bo (s.1 x)) ∧ QA h 152 s.2 ∧ SIv n s
def PGm (a _b : Nat) : Prop := a = 151 ∨ a = 152
section NM
variable {sc : Nat × (Nat → Int32)} {d : Nat} {Q : PRes → Prop} {h h' h1 H G : PH} {i j k n t u v w a b f : Nat} {L P : List Pnt} {eM : Nat → Nat → Bool} {s : Fst} {F : Nat → Bool} {X Y : Int} {ok : Bool}
theorem m_alv_t (hw : WF h) (hX : R3 X) (hY : R3 Y) (l : Lm h X Y) : ∀ d Q, Tr sc (d + 1) 213 (ent0 213 [.ref 124, .int (iv X), .int (iv Y)] h) Q = Q (some (.int 1), h) := fun d Q => Tr_val (m_isAlv (d := d) (Q := fun z => z = (some (.int 1), h)) hw hX hY (fun _ => rfl) (fun n => absurd l n))
theorem m_alv_f (hw : WF h) (hX : R3 X) (hY : R3 Y) (l : ¬ Lm h X Y) : ∀ d Q, Tr sc (d + 1) 213 (ent0 213 [.ref 124, .int (iv X), .int (iv Y)] h) Q = Q (some (.int 0), h) := fun d Q => Tr_val (m_isAlv (d := d) (Q := fun z => z = (some (.int 0), h)) hw hX hY (fun n => absurd n l) (fun _ => rfl))
def dfX (P : List Pnt) (a b : Nat) : Int := (P.getD b pt0).1 - (P.getD a pt0).1
def dfY (P : List Pnt) (a b : Nat) : Int := (P.getD b pt0).2 - (P.getD a pt0).2
theorem Lm_fr {P : Nat → Nat → Prop} (f : Fq P h h') (hP : ∀ j, ¬ P 148 j) : Lm h' X Y ↔ Lm h X Y := by
  unfold Lm
  rw [f.i (hP _)]
theorem m_sj_b (hw : WF h) (hn : P.length ≤ 216) (hR : ∀ p, p ∈ P → Rg p) (hc : hI h 124 36 = nI P.length) (hA : ∀ j, j < P.length → hI h 146 j = iv (P.getD j pt0).1 ∧ hI h 147 j = iv (P.getD j pt0).2) (he : ∀ a b, eM a b = true ↔ a ≠ b ∧ Lm h (dfX P a b) (dfY P a b)) (ha : a < P.length) : ∀ (m b S : Nat) (H : PH), b + m = P.length → S ≤ 46656 → Fq (fun x _ => x = 150) h H → (∀ a' b', a' < P.length → b' < P.length → (a' < a ∨ (a' = a ∧ b' < b)) → hI H 150 (216 * a' + b') = bo (eM a' b')) → ∃ H', Fq (fun x _ => x = 150) h H' ∧ (∀ a' b', a' < P.length → b' < P.length → a' < a + 1 → hI H' 150 (216 * a' + b') = bo (eM a' b')) ∧ ∀ d Q l4, Tr sc (d + 2) 224 (14, [some (.ref 124), some (.int (nI (S + sN (fun b => if a < b then en eM a b else 0) b))), some (.int (nI a)), some (.int (nI b)), l4], [], H) Q = Tr sc (d + 2) 224 (4, [some (.ref 124), some (.int (nI (S + sN (fun b => if a < b then en eM a b else 0) P.length))), some (.int (nI (a + 1))), some (.int (nI P.length)), (if m = 0 then l4 else some (.int (bo (eM a (P.length - 1)))))], [], H') Q := by
  intro m
  induction m with
  | zero =>
    intro b S H hb hS F A
    have e : b = P.length := by omega
    subst e
    have hwH := F.WF hw
    refine ⟨H, F, fun a' b' h1 h2 h3 => A a' b' h1 h2 (by omega), fun d Q l4 => ?_⟩
    rw [x_224_14]
    simp only [x_224_15, x_224_16, x_224_19, o_124 hwH, x_224_105, x_224_108, cl2_i, cl2_r, cl2_n, cl2_l, tl_s, tl_n, true_and, and_true, Option.some.injEq, exists_eq_left', Bool.and_self, Bool.true_and, Bool.and_true, Bool.or_true, Bool.true_or, i_10, i_00, if_true, if_false, not_true_eq_false, not_false_eq_true, and_false, false_and, okp_sI, okp_sL, okp_aI, okp_aL, hR_sI, hR_sL, hR_aI, hR_aL, F.i (a := 124) (b := 36) (by omega), hc, nI_1, if_true]
    rw [if_pos (Int32.le_refl _)]
  | succ m ih =>
    intro b S H hb hS F A
    have hlt : b < P.length := by omega
    have hwH := F.WF hw
    obtain ⟨q1, q2⟩ := hA a ha
    obtain ⟨q3, q4⟩ := hA b hlt
    have q1' : hI H 146 a = iv (P.getD a pt0).1 := by rw [F.i (by omega)]; exact q1
    have q2' : hI H 147 a = iv (P.getD a pt0).2 := by rw [F.i (by omega)]; exact q2
    have q3' : hI H 146 b = iv (P.getD b pt0).1 := by rw [F.i (by omega)]; exact q3
    have q4' : hI H 147 b = iv (P.getD b pt0).2 := by rw [F.i (by omega)]; exact q4
    obtain ⟨⟨g1, g2⟩, g3, g4⟩ := hR _ (gd_mem ha)
    obtain ⟨⟨g5, g6⟩, g7, g8⟩ := hR _ (gd_mem hlt)
    have rX : R3 (dfX P a b) := ⟨by unfold dfX; omega, by unfold dfX; omega⟩
    have rY : R3 (dfY P a b) := ⟨by unfold dfY; omega, by unfold dfY; omega⟩
    have i7 : ∀ v, v < 216 → inb (nI v) 7776 = true := fun v hv => inb_nI (by omega) (by decide)
    have cl : ∀ v, v < 46656 → (nI v).toNatClampNeg = v := fun v hv => nI_clamp (by omega)
    have ix : (216 : Int32) * nI a + nI b = nI (216 * a + b) := by rw [show (216 : Int32) = nI 216 from rfl, pk_mul, nI_add]
    have sS : sN (fun b => if a < b then en eM a b else 0) (b + 1) = sN (fun b => if a < b then en eM a b else 0) b + (if a < b then en eM a b else 0) := rfl
    have sb : ∀ c, sN (fun b => if a < b then en eM a b else 0) c ≤ c := by
      intro c
      induction c with
      | zero => exact Nat.le_refl _
      | succ c ihc =>
        show sN (fun b => if a < b then en eM a b else 0) c + (if a < c then en eM a c else 0) ≤ c + 1
        have e1 : en eM a c ≤ 1 := by unfold en; split <;> decide
        by_cases z : a < c
        · rw [if_pos z]; omega
        · rw [if_neg z]; omega
    have sbb := sb b
    obtain ⟨H', F', A', eq'⟩ := ih (b + 1) S (sI H 150 (216 * a + b) (bo (eM a b))) (by omega) hS (F.sI rfl) (fun a' b' h1 h2 h3 => by
      by_cases z : 216 * a' + b' = 216 * a + b
      · have e1 : a' = a := by omega
        have e2 : b' = b := by omega
        rw [e1, e2, rd_eq]
      · rw [rd_ne (Or.inr z)]; exact A a' b' h1 h2 (by omega))
    refine ⟨H', F', A', fun d Q l4 => ?_⟩
    have nb : (vp_nar .boolean (bo (eM a b)) = bo (eM a b)) := by cases eM a b <;> rfl
    have tail : ∀ l4, Tr sc (d + 2) 224 (65, [some (.ref 124), some (.int (nI (S + sN (fun b => if a < b then en eM a b else 0) b))), some (.int (nI a)), some (.int (nI b)), l4], [.int (bo (eM a b))], H) Q = Tr sc (d + 2) 224 (14, [some (.ref 124), some (.int (nI (S + sN (fun b => if a < b then en eM a b else 0) (b + 1)))), some (.int (nI a)), some (.int (nI (b + 1))), some (.int (bo (eM a b)))], [], sI H 150 (216 * a + b) (bo (eM a b))) Q := by
      intro l4
      simp only [x_224_65, x_224_67, x_224_68, x_224_71, x_224_74, x_224_75, x_224_76, x_224_77, x_224_78, x_224_80, x_224_81, x_224_82, x_224_84, o_124 hwH, w_124_47 hwH, o_150 hwH, show LN 150 = 46656 from rfl, cl2_i, cl2_r, cl2_n, cl2_l, tl_s, tl_n, true_and, and_true, Option.some.injEq, exists_eq_left', Bool.and_self, Bool.true_and, Bool.and_true, Bool.or_true, Bool.true_or, i_10, i_00, if_true, if_false, not_true_eq_false, not_false_eq_true, and_false, false_and, okp_sI, okp_sL, okp_aI, okp_aL, hR_sI, hR_sL, hR_aI, hR_aL, ix, inb_nI (n := 46656) (show 216 * a + b < 46656 by omega) (by decide), cl (216 * a + b) (by omega), nb]
      cases ee : eM a b
      · simp only [x_224_96, x_224_97, x_224_98, x_224_99, x_224_102, cl2_i, cl2_r, cl2_n, cl2_l, tl_s, tl_n, true_and, and_true, Option.some.injEq, exists_eq_left', Bool.and_self, Bool.true_and, Bool.and_true, Bool.or_true, Bool.true_or, i_10, i_00, if_true, if_false, not_true_eq_false, not_false_eq_true, and_false, false_and, okp_sI, okp_sL, okp_aI, okp_aL, hR_sI, hR_sL, hR_aI, hR_aL, show bo false = 0 from rfl, nI_1, Int32.add_zero]
        have en0 : en eM a b = 0 := by unfold en; rw [ee]; rfl
        rw [sS, en0, ite_self]
        simp only [Nat.add_zero]
      · simp only [x_224_87, x_224_88, x_224_89, x_224_92, x_224_93, x_224_96, x_224_97, x_224_98, x_224_99, x_224_102, cl2_i, cl2_r, cl2_n, cl2_l, tl_s, tl_n, true_and, and_true, Option.some.injEq, exists_eq_left', Bool.and_self, Bool.true_and, Bool.and_true, Bool.or_true, Bool.true_or, i_10, i_00, if_true, if_false, not_true_eq_false, not_false_eq_true, and_false, false_and, okp_sI, okp_sL, okp_aI, okp_aL, hR_sI, hR_sL, hR_aI, hR_aL, show bo true = 1 from rfl, nI_1, Int32.add_zero]
        rw [sS]
        unfold en
        rw [ee, if_pos rfl]
        by_cases z : a < b
        · rw [if_neg (nI_ge z (by omega)), if_pos z]; rfl
        · rw [if_pos (nI_le (by omega) (by omega)), if_neg z]; rfl
    rw [x_224_14]
    simp only [x_224_15, x_224_16, x_224_19, x_224_22, x_224_23, x_224_24, o_124 hwH, cl2_i, cl2_r, cl2_n, cl2_l, tl_s, tl_n, true_and, and_true, Option.some.injEq, exists_eq_left', Bool.and_self, Bool.true_and, Bool.and_true, Bool.or_true, Bool.true_or, i_10, i_00, if_true, if_false, not_true_eq_false, not_false_eq_true, and_false, false_and, okp_sI, okp_sL, okp_aI, okp_aL, hR_sI, hR_sL, hR_aI, hR_aL, F.i (a := 124) (b := 36) (by omega), hc]
    rw [if_neg (nI_ge hlt (by omega))]
    have fin : ∀ l4, Tr sc (d + 2) 224 (14, [some (.ref 124), some (.int (nI (S + sN (fun b => if a < b then en eM a b else 0) (b + 1)))), some (.int (nI a)), some (.int (nI (b + 1))), some (.int l4)], [], sI H 150 (216 * a + b) (bo (eM a b))) Q = Tr sc (d + 2) 224 (4, [some (.ref 124), some (.int (nI (S + sN (fun b => if a < b then en eM a b else 0) P.length))), some (.int (nI (a + 1))), some (.int (nI P.length)), (if m = 0 then some (.int l4) else some (.int (bo (eM a (P.length - 1)))))], [], H') Q := fun l4 => eq' d Q _
    have fin2 : (if m = 0 then some (.int (bo (eM a b))) else some (Value.int (bo (eM a (P.length - 1))))) = some (Value.int (bo (eM a (P.length - 1)))) := by
      by_cases z : m = 0
      · rw [if_pos z, show P.length - 1 = b by omega]
      · rw [if_neg z]
    rw [if_neg (Nat.succ_ne_zero m), ← fin2, ← fin]
    by_cases z : a = b
    · have ef : eM a b = false := by
        cases ee : eM a b
        · rfl
        · exact absurd z ((he a b).mp ee).1
      rw [if_pos (by rw [z])]
      simp only [x_224_64, cl2_i, cl2_r, cl2_n, cl2_l, tl_s, tl_n, true_and, and_true, Option.some.injEq, exists_eq_left', Bool.and_self, Bool.true_and, Bool.and_true, Bool.or_true, Bool.true_or, i_10, i_00, if_true, if_false, not_true_eq_false, not_false_eq_true, and_false, false_and, okp_sI, okp_sL, okp_aI, okp_aL, hR_sI, hR_sL, hR_aI, hR_aL]
      rw [← tail l4, ef]; rfl
    · rw [if_neg (fun q => z ((nI_eq (by omega) (by omega)).mp q))]
      simp only [x_224_27, x_224_28, x_224_29, x_224_32, x_224_33, x_224_34, x_224_35, x_224_38, x_224_39, x_224_40, x_224_41, x_224_42, x_224_45, x_224_46, x_224_47, x_224_48, x_224_51, x_224_52, x_224_53, o_124 hwH, w_124_39 hwH, w_124_40 hwH, o_146 hwH, iOk_lt (k := 146) (by decide), iRd_lt (k := 146) (by decide), show LN 146 = 7776 from rfl, o_147 hwH, iOk_lt (k := 147) (by decide), iRd_lt (k := 147) (by decide), show LN 147 = 7776 from rfl, cl2_i, cl2_r, cl2_n, cl2_l, tl_s, tl_n, true_and, and_true, Option.some.injEq, exists_eq_left', Bool.and_self, Bool.true_and, Bool.and_true, Bool.or_true, Bool.true_or, i_10, i_00, if_true, if_false, not_true_eq_false, not_false_eq_true, and_false, false_and, okp_sI, okp_sL, okp_aI, okp_aL, hR_sI, hR_sL, hR_aI, hR_aL, i7 a (by omega), i7 b (by omega), cl a (by omega), cl b (by omega), q1', q2', q3', q4', iv_sub]
      by_cases l : Lm h (dfX P a b) (dfY P a b)
      · have et : eM a b = true := (he a b).mpr ⟨z, l⟩
        have at' : ∀ Q, Tr sc (d + 1) 213 (ent0 213 [.ref 124, .int (iv ((P.getD b pt0).1 - (P.getD a pt0).1)), .int (iv ((P.getD b pt0).2 - (P.getD a pt0).2))] H) Q = Q (some (.int 1), H) := fun Q => m_alv_t hwH rX rY ((Lm_fr F (fun j => by omega)).mpr l) d Q
        simp only [x_224_54, x_224_57, x_224_60, x_224_61, o_124 hwH, cl2_i, cl2_r, cl2_n, cl2_l, tl_s, tl_n, true_and, and_true, Option.some.injEq, exists_eq_left', Bool.and_self, Bool.true_and, Bool.and_true, Bool.or_true, Bool.true_or, i_10, i_00, if_true, if_false, not_true_eq_false, not_false_eq_true, and_false, false_and, okp_sI, okp_sL, okp_aI, okp_aL, hR_sI, hR_sL, hR_aI, hR_aL, at']
        rw [← tail l4, et]; rfl
      · have et : eM a b = false := by
          cases ee : eM a b
          · rfl
          · exact absurd ((he a b).mp ee).2 l
        have at' : ∀ Q, Tr sc (d + 1) 213 (ent0 213 [.ref 124, .int (iv ((P.getD b pt0).1 - (P.getD a pt0).1)), .int (iv ((P.getD b pt0).2 - (P.getD a pt0).2))] H) Q = Q (some (.int 0), H) := fun Q => m_alv_f hwH rX rY (fun q => l ((Lm_fr F (fun j => by omega)).mp q)) d Q
        simp only [x_224_54, x_224_57, o_124 hwH, x_224_64, cl2_i, cl2_r, cl2_n, cl2_l, tl_s, tl_n, true_and, and_true, Option.some.injEq, exists_eq_left', Bool.and_self, Bool.true_and, Bool.and_true, Bool.or_true, Bool.true_or, i_10, i_00, if_true, if_false, not_true_eq_false, not_false_eq_true, and_false, false_and, okp_sI, okp_sL, okp_aI, okp_aL, hR_sI, hR_sL, hR_aI, hR_aL, at']
        rw [← tail l4, et]; rfl
theorem m_setJoints (hw : WF h) (hn : P.length ≤ 216) (hR : ∀ p, p ∈ P → Rg p) (hc : hI h 124 36 = nI P.length) (hA : ∀ j, j < P.length → hI h 146 j = iv (P.getD j pt0).1 ∧ hI h 147 j = iv (P.getD j pt0).2) (he : ∀ a b, eM a b = true ↔ a ≠ b ∧ Lm h (dfX P a b) (dfY P a b)) : ∃ H, Fq (fun x _ => x = 150) h H ∧ JA H eM P.length ∧ ∀ d Q, Tr sc (d + 2) 224 (ent0 224 [.ref 124] h) Q = Q (some (.int (nI (sN (fun a => sN (fun b => if a < b then en eM a b else 0) P.length) P.length))), H) := by
  have sb : ∀ a c, sN (fun b => if a < b then en eM a b else 0) c ≤ c := by
    intro a c
    induction c with
    | zero => exact Nat.le_refl _
    | succ c ihc =>
      show sN (fun b => if a < b then en eM a b else 0) c + (if a < c then en eM a c else 0) ≤ c + 1
      have e1 : en eM a c ≤ 1 := by unfold en; split <;> decide
      by_cases z : a < c
      · rw [if_pos z]; omega
      · rw [if_neg z]; omega
  have sa : ∀ c, sN (fun a => sN (fun b => if a < b then en eM a b else 0) P.length) c ≤ c * 216 := by
    intro c
    induction c with
    | zero => exact Nat.le_refl _
    | succ c ihc =>
      have := sb c P.length
      show sN _ c + sN (fun b => if c < b then en eM c b else 0) P.length ≤ (c + 1) * 216
      omega
  have key : ∀ (m a : Nat) (H : PH), a + m = P.length → Fq (fun x _ => x = 150) h H → (∀ a' b', a' < P.length → b' < P.length → a' < a → hI H 150 (216 * a' + b') = bo (eM a' b')) → ∃ H', Fq (fun x _ => x = 150) h H' ∧ JA H' eM P.length ∧ ∀ d Q l3 l4, cl2 l3 = l3 → Tr sc (d + 2) 224 (4, [some (.ref 124), some (.int (nI (sN (fun a => sN (fun b => if a < b then en eM a b else 0) P.length) a))), some (.int (nI a)), l3, l4], [], H) Q = Q (some (.int (nI (sN (fun a => sN (fun b => if a < b then en eM a b else 0) P.length) P.length))), H') := by
    intro m
    induction m with
    | zero =>
      intro a H ha F A
      have e : a = P.length := by omega
      subst e
      have hwH := F.WF hw
      refine ⟨H, F, fun a b h1 h2 => A a b h1 h2 h1, fun d Q l3 l4 h3 => ?_⟩
      rw [x_224_4]
      simp only [x_224_5, x_224_6, x_224_9, o_124 hwH, x_224_111, x_224_112, cl2_i, cl2_r, cl2_n, cl2_l, tl_s, tl_n, true_and, and_true, Option.some.injEq, exists_eq_left', Bool.and_self, Bool.true_and, Bool.and_true, Bool.or_true, Bool.true_or, i_10, i_00, if_true, if_false, not_true_eq_false, not_false_eq_true, and_false, false_and, okp_sI, okp_sL, okp_aI, okp_aL, hR_sI, hR_sL, hR_aI, hR_aL, F.i (a := 124) (b := 36) (by omega), hc]
      rw [if_pos (Int32.le_refl _)]
    | succ m ih =>
      intro a H ha F A
      have hlt : a < P.length := by omega
      have hwH := F.WF hw
      have saa := sa a
      have hcH : hI H 124 36 = nI P.length := by rw [F.i (by omega)]; exact hc
      obtain ⟨H1, F1, A1, eq1⟩ := m_sj_b (sc := sc) (eM := eM) (a := a) hwH hn hR hcH (fun j hj => by rw [F.i (by omega), F.i (by omega)]; exact hA j hj) (fun a b => by rw [Lm_fr F (fun j => by omega)]; exact he a b) hlt P.length 0 (sN (fun a => sN (fun b => if a < b then en eM a b else 0) P.length) a) H (by omega) (by omega) Fq.rf (fun a' b' h1 h2 h3 => A a' b' h1 h2 (by omega))
      obtain ⟨H', F', A', eq'⟩ := ih (a + 1) H1 (by omega) (F.tr F1) A1
      refine ⟨H', F', A', fun d Q l3 l4 h3 => ?_⟩
      rw [x_224_4]
      simp only [x_224_5, x_224_6, x_224_9, x_224_12, x_224_13, o_124 hwH, cl2_i, cl2_r, cl2_n, cl2_l, tl_s, tl_n, true_and, and_true, Option.some.injEq, exists_eq_left', Bool.and_self, Bool.true_and, Bool.and_true, Bool.or_true, Bool.true_or, i_10, i_00, if_true, if_false, not_true_eq_false, not_false_eq_true, and_false, false_and, okp_sI, okp_sL, okp_aI, okp_aL, hR_sI, hR_sL, hR_aI, hR_aL, hcH]
      rw [if_neg (nI_ge hlt (by omega))]
      exact (eq1 d Q l4).trans (eq' d Q _ _ rfl)
  obtain ⟨H', F', A', eq'⟩ := key P.length 0 h (by omega) Fq.rf (fun a' b' h1 h2 h3 => absurd h3 (Nat.not_lt_zero _))
  refine ⟨H', F', A', fun d Q => ?_⟩
  rw [e_224]
  simp only [x_224_0, x_224_1, x_224_2, x_224_3, cl2_i, cl2_r, cl2_n, cl2_l, tl_s, tl_n, true_and, and_true, Option.some.injEq, exists_eq_left', Bool.and_self, Bool.true_and, Bool.and_true, Bool.or_true, Bool.true_or, i_10, i_00, if_true, if_false, not_true_eq_false, not_false_eq_true, and_false, false_and, okp_sI, okp_sL, okp_aI, okp_aL, hR_sI, hR_sL, hR_aI, hR_aL]
  exact eq' d Q none none rfl
theorem MG_fr {P : Nat → Nat → Prop} (g : MG h n s) (f : Fq P h h') (hP : ∀ a b, (a = 151 ∨ a = 152) → ¬ P a b) : MG h' n s := ⟨fun x hx => by rw [f.i (hP _ _ (by omega))]; exact g.1 x hx, fun j hj => by rw [f.i (hP _ _ (by omega))]; exact g.2.1 j hj, g.2.2⟩
/-- from one point: all that it is joined to -/
theorem m_gf_b (hw : WF h) (hn : n ≤ 216) (hc : hI h 124 36 = nI n) (J : JA h eM n) (hv : v < n) : ∀ (m b : Nat) (s : Fst) (H : PH), b + m = n → Fq PGm h H → MG H n s → i < s.2.length → s.2.getD i 0 = v → ∃ H', Fq PGm h H' ∧ MG H' n ((List.range' b m).foldl (fun s b => opn (eM v b) b s) s) ∧ ∀ d Q l1, cl2 l1 = l1 → Tr sc d 226 (26, [some (.ref 124), l1, some (.int (nI s.2.length)), some (.int (nI i)), some (.int (nI b))], [], H) Q = Tr sc d 226 (91, [some (.ref 124), l1, some (.int (nI ((List.range' b m).foldl (fun s b => opn (eM v b) b s) s).2.length)), some (.int (nI i)), some (.int (nI n))], [], H') Q := by
  intro m
  induction m with
  | zero =>
    intro b s H hb F S hi hvi
    have e : b = n := by omega
    subst e
    have hwH := F.WF hw
    refine ⟨H, F, S, fun d Q l1 g1 => ?_⟩
    rw [x_226_26]
    simp only [x_226_28, x_226_29, x_226_32, o_124 hwH, cl2_i, cl2_r, cl2_n, cl2_l, tl_s, tl_n, true_and, and_true, Option.some.injEq, exists_eq_left', Bool.and_self, Bool.true_and, Bool.and_true, Bool.or_true, Bool.true_or, i_10, i_00, if_true, if_false, not_true_eq_false, not_false_eq_true, and_false, false_and, okp_sI, okp_sL, okp_aI, okp_aL, hR_sI, hR_sL, hR_aI, hR_aL, F.i (a := 124) (b := 36) (by unfold PGm; omega), hc]
    rw [if_pos (Int32.le_refl _)]
    rfl
  | succ m ih =>
    intro b s H hb F S hi hvi
    have hlt : b < n := by omega
    have hwH := F.WF hw
    have hcH : hI H 124 36 = nI n := by rw [F.i (by unfold PGm; omega)]; exact hc
    have ll := iv_len S.2.2
    have ri := S.2.1 i hi
    rw [hvi] at ri
    have ix : (216 : Int32) * nI v + nI b = nI (216 * v + b) := by rw [show (216 : Int32) = nI 216 from rfl, pk_mul, nI_add]
    have Jb : hI H 150 (216 * v + b) = bo (eM v b) := by rw [F.i (by unfold PGm; omega)]; exact J v b hv hlt
    have Sb := S.1 b hlt
    have es : (List.range' b (m + 1)).foldl (fun s b => opn (eM v b) b s) s = (List.range' (b + 1) m).foldl (fun s b => opn (eM v b) b s) (opn (eM v b) b s) := by rw [List.range'_succ, List.foldl_cons]
    have stp : ∃ H1, Fq PGm H H1 ∧ MG H1 n (opn (eM v b) b s) ∧ i < (opn (eM v b) b s).2.length ∧ (opn (eM v b) b s).2.getD i 0 = v ∧ ∀ d Q l1, cl2 l1 = l1 → Tr sc d 226 (26, [some (.ref 124), l1, some (.int (nI s.2.length)), some (.int (nI i)), some (.int (nI b))], [], H) Q = Tr sc d 226 (26, [some (.ref 124), l1, some (.int (nI (opn (eM v b) b s).2.length)), some (.int (nI i)), some (.int (nI (b + 1)))], [], H1) Q := by
      have pre : ∀ d Q l1, Tr sc d 226 (26, [some (.ref 124), l1, some (.int (nI s.2.length)), some (.int (nI i)), some (.int (nI b))], [], H) Q = if bo (eM v b) = 0 then Tr sc d 226 (26, [some (.ref 124), l1, some (.int (nI s.2.length)), some (.int (nI i)), some (.int (nI (b + 1)))], [], H) Q else Tr sc d 226 (56, [some (.ref 124), l1, some (.int (nI s.2.length)), some (.int (nI i)), some (.int (nI b))], [], H) Q := by
        intro d Q l1
        rw [x_226_26]
        simp only [x_226_28, x_226_29, x_226_32, x_226_35, x_226_36, x_226_39, x_226_42, x_226_43, x_226_46, x_226_47, x_226_48, x_226_49, x_226_51, x_226_52, x_226_53, o_124 hwH, w_124_47 hwH, w_124_49 hwH, o_150 hwH, show LN 150 = 46656 from rfl, o_152 hwH, iOk_lt (k := 152) (by decide), iRd_lt (k := 152) (by decide), show LN 152 = 216 from rfl, x_226_85, x_226_88, cl2_i, cl2_r, cl2_n, cl2_l, tl_s, tl_n, true_and, and_true, Option.some.injEq, exists_eq_left', Bool.and_self, Bool.true_and, Bool.and_true, Bool.or_true, Bool.true_or, i_10, i_00, if_true, if_false, not_true_eq_false, not_false_eq_true, and_false, false_and, okp_sI, okp_sL, okp_aI, okp_aL, hR_sI, hR_sL, hR_aI, hR_aL, hcH, inb_nI (n := 216) (show i < 216 by omega) (by decide), nI_clamp (n := i) (by omega), ri, ix, inb_nI (n := 46656) (show 216 * v + b < 46656 by omega) (by decide), nI_clamp (n := 216 * v + b) (by omega), Jb, nI_1]
        rw [if_neg (nI_ge hlt (by omega))]
      cases ee : eM v b
      · refine ⟨H, Fq.rf, ?_, ?_, ?_, fun d Q l1 g1 => ?_⟩
        · rw [opn_f (fun w => by cases w.1)]; exact S
        · rw [opn_f (fun w => by cases w.1)]; exact hi
        · rw [opn_f (fun w => by cases w.1)]; exact hvi
        · rw [opn_f (fun w => by cases w.1), pre, ee, if_pos (show bo false = 0 from rfl)]
      · cases fb : s.1 b
        · have sl := iv_lt' S.2.2 hlt fb
          have lw : (s.2 ++ [b]).length = s.2.length + 1 := by rw [List.length_append]; rfl
          have ot : opn true b s = (fun x => if x = b then true else s.1 x, s.2 ++ [b]) := opn_t rfl fb
          refine ⟨sI (sI H 151 b 1) 152 s.2.length (nI b), (Fq.rf.sI (by unfold PGm; omega)).sI (by unfold PGm; omega), ?_, ?_, ?_, fun d Q l1 g1 => ?_⟩
          · have iv' := opn_iv (ok := true) (c := b) S.2.2 (fun _ => hlt)
            rw [ot] at iv' ⊢
            refine ⟨fun x hx => ?_, fun j hj => ?_, iv'⟩
            · show _ = bo (if x = b then true else s.1 x)
              by_cases e : x = b
              · rw [if_pos e, e, rd_ne (by omega), rd_eq]; rfl
              · rw [if_neg e, rd_ne (by omega), rd_ne (by omega)]; exact S.1 x hx
            · change j < (s.2 ++ [b]).length at hj
              show _ = nI ((s.2 ++ [b]).getD j 0)
              rw [lw] at hj
              by_cases e : j = s.2.length
              · rw [e, gN_2, rd_eq]
              · rw [gN_1 (by omega), rd_ne (by omega), rd_ne (by omega)]; exact S.2.1 j (by omega)
          · rw [ot]; show i < (s.2 ++ [b]).length; omega
          · rw [ot]; show (s.2 ++ [b]).getD i 0 = v; rw [gN_1 hi]; exact hvi
          · rw [fb] at Sb
            rw [pre, ee, if_neg (by decide), ot]
            simp only [x_226_56, x_226_57, x_226_60, x_226_62, x_226_63, x_226_66, x_226_67, x_226_70, x_226_72, x_226_73, x_226_74, x_226_75, x_226_78, x_226_79, x_226_81, x_226_82, x_226_85, x_226_88, o_124 hwH, w_124_48 hwH, w_124_49 hwH, o_151 hwH, show LN 151 = 216 from rfl, o_152 hwH, iOk_lt (k := 152) (by decide), iRd_lt (k := 152) (by decide), show LN 152 = 216 from rfl, cl2_i, cl2_r, cl2_n, cl2_l, tl_s, tl_n, true_and, and_true, Option.some.injEq, exists_eq_left', Bool.and_self, Bool.true_and, Bool.and_true, Bool.or_true, Bool.true_or, i_10, i_00, if_true, if_false, not_true_eq_false, not_false_eq_true, and_false, false_and, okp_sI, okp_sL, okp_aI, okp_aL, hR_sI, hR_sL, hR_aI, hR_aL, g1, inb_nI (n := 216) (show b < 216 by omega) (by decide), nI_clamp (n := b) (by omega), Sb, show bo false = 0 from rfl, vp_b1, inb_nI (n := 216) (show s.2.length < 216 by omega) (by decide), nI_clamp (n := s.2.length) (by omega), nI_1, lw]
        · have of' : opn true b s = s := opn_f (fun w => by rw [fb] at w; cases w.2)
          refine ⟨H, Fq.rf, by rw [of']; exact S, by rw [of']; exact hi, by rw [of']; exact hvi, fun d Q l1 g1 => ?_⟩
          rw [fb] at Sb
          rw [pre, ee, if_neg (by decide), of']
          simp only [x_226_56, x_226_57, x_226_60, x_226_62, x_226_63, o_124 hwH, w_124_48 hwH, o_151 hwH, show LN 151 = 216 from rfl, x_226_85, x_226_88, cl2_i, cl2_r, cl2_n, cl2_l, tl_s, tl_n, true_and, and_true, Option.some.injEq, exists_eq_left', Bool.and_self, Bool.true_and, Bool.and_true, Bool.or_true, Bool.true_or, i_10, i_00, if_true, if_false, not_true_eq_false, not_false_eq_true, and_false, false_and, okp_sI, okp_sL, okp_aI, okp_aL, hR_sI, hR_sL, hR_aI, hR_aL, inb_nI (n := 216) (show b < 216 by omega) (by decide), nI_clamp (n := b) (by omega), Sb, show bo true = 1 from rfl, nI_1]
    obtain ⟨H1, f1, S1, hi1, hv1, eq1⟩ := stp
    obtain ⟨H', F', S', eq'⟩ := ih (b + 1) (opn (eM v b) b s) H1 (by omega) (F.tr f1) S1 hi1 hv1
    refine ⟨H', F', by rw [es]; exact S', fun d Q l1 g1 => ?_⟩
    rw [es]
    exact (eq1 d Q l1 g1).trans (eq' d Q l1 g1)
end NM
