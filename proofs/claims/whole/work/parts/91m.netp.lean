/-! ===== the model's net: parts without a point ===== -/
section NP
variable {sc : Nat × (Nat → Int32)} {d : Nat} {Q : PRes → Prop} {h h' h1 H G : PH} {i j k n t u v w a b f : Nat} {eM : Nat → Nat → Bool} {s : Fst} {F F0 : Nat → Bool} {ok : Bool} {E : Nat → Nat → Prop} {Pp : Nat → Prop} {x : Int32} {q : List Nat}
theorem m_gf_l (hw : WF h) (hn : n ≤ 216) (hc : hI h 124 36 = nI n) (J : JA h eM n) : ∀ (f i : Nat) (s : Fst) (H : PH), n < i + f → i ≤ n → Fq PGm h H → MG H n s → ∃ H', Fq PGm h H' ∧ MG H' n (gfs eM n f i s) ∧ ∀ d Q l1 l4, cl2 l1 = l1 → Tr sc d 226 (18, [some (.ref 124), l1, some (.int (nI s.2.length)), some (.int (nI i)), l4], [], H) Q = Q (none, H') := by
  intro f
  induction f with
  | zero =>
    intro i s H hf hi F S
    omega
  | succ f ih =>
    intro i s H hf hi F S
    have hwH := F.WF hw
    have ll := iv_len S.2.2
    by_cases z : i < s.2.length
    · have hcH : hI H 124 36 = nI n := by rw [F.i (by unfold PGm; omega)]; exact hc
      have JH : JA H eM n := fun a b h1 h2 => by rw [F.i (by unfold PGm; omega)]; exact J a b h1 h2
      obtain ⟨H1, F1, S1, eq1⟩ := m_gf_b (sc := sc) (i := i) (v := s.2.getD i 0) hwH hn hcH JH (S.2.2.2 _ (gN_m z)).1 n 0 s H (by omega) Fq.rf S z rfl
      obtain ⟨H', F', S', eq'⟩ := ih (i + 1) (gin eM (s.2.getD i 0) n s) H1 (by omega) (by omega) (F.tr F1) S1
      refine ⟨H', F', ?_, fun d Q l1 l4 g1 => ?_⟩
      · rw [show gfs eM n (f + 1) i s = gfs eM n f (i + 1) (gin eM (s.2.getD i 0) n s) from if_pos z]; exact S'
      · rw [x_226_18]
        simp only [x_226_19, x_226_20, x_226_23, x_226_24, cl2_i, cl2_r, cl2_n, cl2_l, tl_s, tl_n, true_and, and_true, Option.some.injEq, exists_eq_left', Bool.and_self, Bool.true_and, Bool.and_true, Bool.or_true, Bool.true_or, i_10, i_00, if_true, if_false, not_true_eq_false, not_false_eq_true, and_false, false_and, okp_sI, okp_sL, okp_aI, okp_aL, hR_sI, hR_sL, hR_aI, hR_aL]
        rw [if_neg (nI_ge z (by omega))]
        refine (eq1 d Q l1 g1).trans ?_
        simp only [x_226_91, x_226_94, cl2_i, cl2_r, cl2_n, cl2_l, tl_s, tl_n, true_and, and_true, Option.some.injEq, exists_eq_left', Bool.and_self, Bool.true_and, Bool.and_true, Bool.or_true, Bool.true_or, i_10, i_00, if_true, if_false, not_true_eq_false, not_false_eq_true, and_false, false_and, okp_sI, okp_sL, okp_aI, okp_aL, hR_sI, hR_sL, hR_aI, hR_aL, nI_1]
        exact eq' d Q _ _ g1
    · refine ⟨H, F, ?_, fun d Q l1 l4 g1 => ?_⟩
      · rw [show gfs eM n (f + 1) i s = s from if_neg z]; exact S
      · rw [x_226_18]
        simp only [x_226_19, x_226_20, x_226_97, cl2_i, cl2_r, cl2_n, cl2_l, tl_s, tl_n, true_and, and_true, Option.some.injEq, exists_eq_left', Bool.and_self, Bool.true_and, Bool.and_true, Bool.or_true, Bool.true_or, i_10, i_00, if_true, if_false, not_true_eq_false, not_false_eq_true, and_false, false_and, okp_sI, okp_sL, okp_aI, okp_aL, hR_sI, hR_sL, hR_aI, hR_aL]
        rw [if_pos (nI_le (by omega) (by omega))]
theorem m_goFrom (hw : WF h) (hn : n ≤ 216) (hc : hI h 124 36 = nI n) (J : JA h eM n) (B : ∀ x, x < n → hI h 151 x = bo (F x)) (ha : a < n) (hF : F a = false) : ∃ H, Fq PGm h H ∧ (∀ x, x < n → hI H 151 x = bo ((gfs eM n (n + 1) 0 (opn true a (F, []))).1 x)) ∧ ∀ d Q, Tr sc d 226 (ent0 226 [.ref 124, .int (nI a)] h) Q = Q (none, H) := by
  have f0 : Fq PGm h (sI (sI h 152 0 (nI a)) 151 a 1) := (Fq.rf.sI (by unfold PGm; omega)).sI (by unfold PGm; omega)
  have hw0 := f0.WF hw
  have S0 : MG (sI (sI h 152 0 (nI a)) 151 a 1) n (opn true a (F, [])) := by
    have iv' := opn_iv (A := n) (ok := true) (c := a) (s := (F, [])) ⟨List.nodup_nil, fun x hx => by cases hx⟩ (fun _ => ha)
    rw [opn_t rfl hF] at iv' ⊢
    refine ⟨fun x hx => ?_, fun j hj => ?_, iv'⟩
    · show _ = bo (if x = a then true else F x)
      by_cases e : x = a
      · rw [if_pos e, e, rd_eq]; rfl
      · rw [if_neg e, rd_ne (by omega), rd_ne (by omega)]; exact B x hx
    · have ej : j = 0 := Nat.lt_one_iff.mp hj
      subst ej
      rw [rd_ne (by omega), rd_eq]; rfl
  have l0 : (opn true a (F, [])).2.length = 1 := by rw [opn_t rfl hF]; rfl
  obtain ⟨H2, f2, S2, eq2⟩ := m_gf_l (sc := sc) hw0 hn (by rw [f0.i (by unfold PGm; omega)]; exact hc) (fun a b h1 h2 => by rw [f0.i (by unfold PGm; omega)]; exact J a b h1 h2) (n + 1) 0 (opn true a (F, [])) _ (by omega) (Nat.zero_le _) Fq.rf S0
  rw [l0] at eq2
  refine ⟨H2, f0.tr f2, S2.1, fun d Q => ?_⟩
  rw [e_226]
  simp only [x_226_0, x_226_1, x_226_2, x_226_3, x_226_6, x_226_7, x_226_8, x_226_9, x_226_10, x_226_13, x_226_14, x_226_15, x_226_16, x_226_17, o_124 hw, w_124_48 hw, w_124_49 hw, o_152 hw, iOk_lt (k := 152) (by decide), iRd_lt (k := 152) (by decide), show LN 152 = 216 from rfl, o_151 hw, show LN 151 = 216 from rfl, cl2_i, cl2_r, cl2_n, cl2_l, tl_s, tl_n, true_and, and_true, Option.some.injEq, exists_eq_left', Bool.and_self, Bool.true_and, Bool.and_true, Bool.or_true, Bool.true_or, i_10, i_00, if_true, if_false, not_true_eq_false, not_false_eq_true, and_false, false_and, okp_sI, okp_sL, okp_aI, okp_aL, hR_sI, hR_sL, hR_aI, hR_aL, show inb 0 216 = true from rfl, cl_0, inb_nI (n := 216) (show a < 216 by omega) (by decide), nI_clamp (n := a) (by omega), vp_b1]
  exact eq2 d Q _ _ rfl
theorem m_pw_l (hw : WF h) (hn : n ≤ 216) (hc : hI h 124 36 = nI n) (J : JA h eM n) : ∀ (m a : Nat) (F : Nat → Bool) (p : Nat) (H : PH), a + m = n → p + m ≤ 300 → Fq PGm h H → (∀ x, x < n → hI H 151 x = bo (F x)) → ∃ H', Fq PGm h H' ∧ ∀ d Q, Tr sc (d + 1) 225 (36, [some (.ref 124), some (.int x), some (.int (nI p)), some (.int (nI a))], [], H) Q = Q (some (.int (nI (p + (rts eM n m a F).length))), H') := by
  intro m
  induction m with
  | zero =>
    intro a F p H ha hp f B
    have e : a = n := by omega
    subst e
    have hwH := f.WF hw
    refine ⟨H, f, fun d Q => ?_⟩
    rw [x_225_36]
    simp only [x_225_37, x_225_38, x_225_41, o_124 hwH, x_225_67, x_225_68, cl2_i, cl2_r, cl2_n, cl2_l, tl_s, tl_n, true_and, and_true, Option.some.injEq, exists_eq_left', Bool.and_self, Bool.true_and, Bool.and_true, Bool.or_true, Bool.true_or, i_10, i_00, if_true, if_false, not_true_eq_false, not_false_eq_true, and_false, false_and, okp_sI, okp_sL, okp_aI, okp_aL, hR_sI, hR_sL, hR_aI, hR_aL, f.i (a := 124) (b := 36) (by unfold PGm; omega), hc]
    rw [if_pos (Int32.le_refl _)]
    rfl
  | succ m ih =>
    intro a F p H ha hp f B
    have hlt : a < n := by omega
    have hwH := f.WF hw
    have hcH : hI H 124 36 = nI n := by rw [f.i (by unfold PGm; omega)]; exact hc
    have JH : JA H eM n := fun a b h1 h2 => by rw [f.i (by unfold PGm; omega)]; exact J a b h1 h2
    have Ba := B a hlt
    cases z : F a
    · obtain ⟨H1, f1, B1, eq1⟩ := m_goFrom (sc := sc) hwH hn hcH JH B hlt z
      obtain ⟨H', f', eq'⟩ := ih (a + 1) _ (p + 1) H1 (by omega) (by omega) (f.tr f1) B1
      refine ⟨H', f', fun d Q => ?_⟩
      have rs : rts eM n (m + 1) a F = a :: rts eM n m (a + 1) (gfs eM n (n + 1) 0 (opn true a (F, []))).1 := if_neg (by rw [z]; decide)
      rw [z] at Ba
      rw [x_225_36]
      simp only [x_225_37, x_225_38, x_225_41, x_225_44, x_225_45, x_225_48, x_225_49, x_225_50, x_225_53, x_225_56, x_225_57, x_225_58, x_225_61, x_225_64, o_124 hwH, w_124_48 hwH, o_151 hwH, show LN 151 = 216 from rfl, cl2_i, cl2_r, cl2_n, cl2_l, tl_s, tl_n, true_and, and_true, Option.some.injEq, exists_eq_left', Bool.and_self, Bool.true_and, Bool.and_true, Bool.or_true, Bool.true_or, i_10, i_00, if_true, if_false, not_true_eq_false, not_false_eq_true, and_false, false_and, okp_sI, okp_sL, okp_aI, okp_aL, hR_sI, hR_sL, hR_aI, hR_aL, hcH, inb_nI (n := 216) (show a < 216 by omega) (by decide), nI_clamp (n := a) (by omega), Ba, show bo false = 0 from rfl, nI_1, eq1]
      rw [if_neg (nI_ge hlt (by omega)), rs, List.length_cons]
      refine (eq' d Q).trans ?_
      rw [show p + 1 + (rts eM n m (a + 1) (gfs eM n (n + 1) 0 (opn true a (F, []))).1).length = p + ((rts eM n m (a + 1) (gfs eM n (n + 1) 0 (opn true a (F, []))).1).length + 1) by omega]
    · obtain ⟨H', f', eq'⟩ := ih (a + 1) F p H (by omega) (by omega) f B
      refine ⟨H', f', fun d Q => ?_⟩
      have rs : rts eM n (m + 1) a F = rts eM n m (a + 1) F := if_pos z
      rw [z] at Ba
      rw [x_225_36]
      simp only [x_225_37, x_225_38, x_225_41, x_225_44, x_225_45, x_225_48, x_225_49, x_225_50, o_124 hwH, w_124_48 hwH, o_151 hwH, show LN 151 = 216 from rfl, x_225_61, x_225_64, cl2_i, cl2_r, cl2_n, cl2_l, tl_s, tl_n, true_and, and_true, Option.some.injEq, exists_eq_left', Bool.and_self, Bool.true_and, Bool.and_true, Bool.or_true, Bool.true_or, i_10, i_00, if_true, if_false, not_true_eq_false, not_false_eq_true, and_false, false_and, okp_sI, okp_sL, okp_aI, okp_aL, hR_sI, hR_sL, hR_aI, hR_aL, hcH, inb_nI (n := 216) (show a < 216 by omega) (by decide), nI_clamp (n := a) (by omega), Ba, show bo true = 1 from rfl, nI_1]
      rw [if_neg (nI_ge hlt (by omega)), rs]
      exact eq' d Q
/-- parts of the net without the point that x names, if it names one -/
theorem m_partsWithout (hw : WF h) (hn : n ≤ 216) (hc : hI h 124 36 = nI n) (J : JA h eM n) (F0 : Nat → Bool) (hx : ∀ a, a < n → (nI a = x ↔ F0 a = true)) : ∃ H, Fq PGm h H ∧ ∀ d Q, Tr sc (d + 1) 225 (ent0 225 [.ref 124, .int x] h) Q = Q (some (.int (nI (rts eM n n 0 F0).length)), H) := by
  have z : ∀ (m i : Nat) (H : PH), i + m = n → Fq PGm h H → (∀ x, x < i → hI H 151 x = bo (F0 x)) → ∃ H', Fq PGm h H' ∧ (∀ x, x < n → hI H' 151 x = bo (F0 x)) ∧ ∀ d Q, Tr sc d 225 (4, [some (.ref 124), some (.int x), some (.int 0), some (.int (nI i))], [], H) Q = Tr sc d 225 (34, [some (.ref 124), some (.int x), some (.int 0), some (.int (nI n))], [], H') Q := by
    intro m
    induction m with
    | zero =>
      intro i H hi f B
      have e : i = n := by omega
      subst e
      have hwH := f.WF hw
      refine ⟨H, f, B, fun d Q => ?_⟩
      rw [x_225_4]
      simp only [x_225_5, x_225_6, x_225_9, o_124 hwH, cl2_i, cl2_r, cl2_n, cl2_l, tl_s, tl_n, true_and, and_true, Option.some.injEq, exists_eq_left', Bool.and_self, Bool.true_and, Bool.and_true, Bool.or_true, Bool.true_or, i_10, i_00, if_true, if_false, not_true_eq_false, not_false_eq_true, and_false, false_and, okp_sI, okp_sL, okp_aI, okp_aL, hR_sI, hR_sL, hR_aI, hR_aL, f.i (a := 124) (b := 36) (by unfold PGm; omega), hc]
      rw [if_pos (Int32.le_refl _)]
    | succ m ih =>
      intro i H hi f B
      have hlt : i < n := by omega
      have hwH := f.WF hw
      obtain ⟨H', f', B', eq'⟩ := ih (i + 1) (sI H 151 i (bo (F0 i))) (by omega) (f.sI (by unfold PGm; omega)) (fun y hy => by
        by_cases e : y = i
        · rw [e, rd_eq]
        · rw [rd_ne (by omega)]; exact B y (by omega))
      refine ⟨H', f', B', fun d Q => ?_⟩
      rw [x_225_4]
      simp only [x_225_5, x_225_6, x_225_9, x_225_12, x_225_13, x_225_16, x_225_17, x_225_18, x_225_19, x_225_22, x_225_23, x_225_26, x_225_27, x_225_28, x_225_31, o_124 hwH, w_124_48 hwH, o_151 hwH, show LN 151 = 216 from rfl, cl2_i, cl2_r, cl2_n, cl2_l, tl_s, tl_n, true_and, and_true, Option.some.injEq, exists_eq_left', Bool.and_self, Bool.true_and, Bool.and_true, Bool.or_true, Bool.true_or, i_10, i_00, if_true, if_false, not_true_eq_false, not_false_eq_true, and_false, false_and, okp_sI, okp_sL, okp_aI, okp_aL, hR_sI, hR_sL, hR_aI, hR_aL, f.i (a := 124) (b := 36) (by unfold PGm; omega), hc, inb_nI (n := 216) (show i < 216 by omega) (by decide), nI_clamp (n := i) (by omega), vp_b0, vp_b1, nI_1]
      rw [if_neg (nI_ge hlt (by omega))]
      cases ef : F0 i
      · rw [ef] at eq'
        rw [if_neg (fun z => by have := (hx i hlt).mp z; rw [ef] at this; cases this)]
        exact eq' d Q
      · rw [ef] at eq'
        rw [if_pos ((hx i hlt).mpr ef)]
        exact eq' d Q
  obtain ⟨H1, f1, B1, eq1⟩ := z n 0 h (by omega) Fq.rf (fun y hy => absurd hy (Nat.not_lt_zero _))
  have hw1 := f1.WF hw
  obtain ⟨H2, f2, eq2⟩ := m_pw_l (sc := sc) (x := x) hw1 hn (by rw [f1.i (by unfold PGm; omega)]; exact hc) (fun a b h1 h2 => by rw [f1.i (by unfold PGm; omega)]; exact J a b h1 h2) n 0 F0 0 H1 (by omega) (by omega) Fq.rf B1
  refine ⟨H2, f1.tr f2, fun d Q => ?_⟩
  rw [e_225]
  simp only [x_225_0, x_225_1, x_225_2, x_225_3, cl2_i, cl2_r, cl2_n, cl2_l, tl_s, tl_n, true_and, and_true, Option.some.injEq, exists_eq_left', Bool.and_self, Bool.true_and, Bool.and_true, Bool.or_true, Bool.true_or, i_10, i_00, if_true, if_false, not_true_eq_false, not_false_eq_true, and_false, false_and, okp_sI, okp_sL, okp_aI, okp_aL, hR_sI, hR_sL, hR_aI, hR_aL]
  refine (eq1 (d + 1) Q).trans ?_
  simp only [x_225_34, x_225_35, cl2_i, cl2_r, cl2_n, cl2_l, tl_s, tl_n, true_and, and_true, Option.some.injEq, exists_eq_left', Bool.and_self, Bool.true_and, Bool.and_true, Bool.or_true, Bool.true_or, i_10, i_00, if_true, if_false, not_true_eq_false, not_false_eq_true, and_false, false_and, okp_sI, okp_sL, okp_aI, okp_aL, hR_sI, hR_sL, hR_aI, hR_aL]
  refine (eq2 d Q).trans ?_
  rw [Nat.zero_add]
/-! what the roots mean -/
def EB (eM : Nat → Nat → Bool) (u v : Nat) : Prop := eM u v = true
/-- F0 is all that was found before; what holds while one part is found from a -/
def GIv (eM : Nat → Nat → Bool) (n : Nat) (Pp : Nat → Prop) (F0 : Nat → Bool) (a i : Nat) (s : Fst) : Prop := SIv n s ∧ (∀ x, F0 x = true → s.1 x = true) ∧ (∀ x, x ∈ s.2 → Way (EB eM) Pp a x) ∧ (∀ x, s.1 x = true → F0 x = true ∨ x ∈ s.2) ∧ s.1 a = true ∧ ∀ j, j < i → j < s.2.length → ∀ w, w < n → eM (s.2.getD j 0) w = true → s.1 w = true
theorem opn_gd (hj : j < s.2.length) : (opn ok b s).2.getD j 0 = s.2.getD j 0 ∧ j < (opn ok b s).2.length := by
  by_cases z : ok = true ∧ s.1 b = false
  · rw [opn_t z.1 z.2]
    exact ⟨gN_1 hj, by show j < (s.2 ++ [b]).length; rw [List.length_append]; omega⟩
  · rw [opn_f z]; exact ⟨rfl, hj⟩
theorem opn_up (hx : s.1 u = true) : (opn ok b s).1 u = true := by
  by_cases z : ok = true ∧ s.1 b = false
  · rw [opn_t z.1 z.2]
    show (if u = b then true else s.1 u) = true
    split
    · rfl
    · exact hx
  · rw [opn_f z]; exact hx
theorem opn_b (hk : ok = true) : (opn ok b s).1 b = true := by
  by_cases z : s.1 b = false
  · rw [opn_t hk z]; exact if_pos rfl
  · rw [opn_f (fun w => z w.2)]
    cases w : s.1 b
    · exact absurd w z
    · rfl
/-- all joints of one point are tried -/
theorem gin_s (hF : ∀ x, x < n → F0 x = false → Pp x) : ∀ (m b : Nat) (s : Fst), b + m = n → i < s.2.length → GIv eM n Pp F0 a i s → (∀ w, w < b → eM (s.2.getD i 0) w = true → s.1 w = true) → GIv eM n Pp F0 a i ((List.range' b m).foldl (fun t c => opn (eM (s.2.getD i 0) c) c t) s) ∧ i < ((List.range' b m).foldl (fun t c => opn (eM (s.2.getD i 0) c) c t) s).2.length ∧ ((List.range' b m).foldl (fun t c => opn (eM (s.2.getD i 0) c) c t) s).2.getD i 0 = s.2.getD i 0 ∧ ∀ w, w < n → eM (s.2.getD i 0) w = true → ((List.range' b m).foldl (fun t c => opn (eM (s.2.getD i 0) c) c t) s).1 w = true := by
  intro m
  induction m with
  | zero =>
    intro b s hb hi G D
    exact ⟨G, hi, rfl, fun w hw => D w (by omega)⟩
  | succ m ih =>
    intro b s hb hi G D
    obtain ⟨g1, g2, g3, g4, g5, g6⟩ := G
    have hlt : b < n := by omega
    have og := opn_gd (ok := eM (s.2.getD i 0) b) (b := b) hi
    rw [List.range'_succ, List.foldl_cons]
    have G' : GIv eM n Pp F0 a i (opn (eM (s.2.getD i 0) b) b s) := by
      refine ⟨opn_iv g1 (fun _ => hlt), fun x hx => opn_up (g2 x hx), fun x hx => ?_, fun x hx => ?_, opn_up g5, fun j h1 h2 w h3 h4 => ?_⟩
      · by_cases z : eM (s.2.getD i 0) b = true ∧ s.1 b = false
        · rw [opn_t z.1 z.2] at hx
          rcases List.mem_append.mp hx with y | y
          · exact g3 x y
          · rw [List.mem_singleton.mp y]
            have nf : F0 b = false := by
              cases w : F0 b
              · rfl
              · have := g2 b w
                rw [z.2] at this; cases this
            exact (g3 _ (gN_m hi)).more z.1 (hF b hlt nf)
        · rw [opn_f z] at hx; exact g3 x hx
      · by_cases z : eM (s.2.getD i 0) b = true ∧ s.1 b = false
        · rw [opn_t z.1 z.2] at hx ⊢
          change (if x = b then true else s.1 x) = true at hx
          show _ ∨ x ∈ s.2 ++ [b]
          by_cases e : x = b
          · exact Or.inr (by rw [e]; simp)
          · rw [if_neg e] at hx
            exact (g4 x hx).elim Or.inl (fun y => Or.inr (List.mem_append_left _ y))
        · rw [opn_f z] at hx ⊢; exact g4 x hx
      · have hj : j < s.2.length := by omega
        rw [(opn_gd hj).1] at h4
        exact opn_up (g6 j h1 hj w h3 h4)
    have r := ih (b + 1) (opn (eM (s.2.getD i 0) b) b s) (by omega) og.2 G' (fun w hw h4 => by
      rw [og.1] at h4
      by_cases e : w = b
      · rw [e] at h4 ⊢; exact opn_b h4
      · exact opn_up (D w (by omega) h4))
    rw [og.1] at r
    exact r
theorem gfs_s (hF : ∀ x, x < n → F0 x = false → Pp x) : ∀ (f i : Nat) (s : Fst), n < i + f → i ≤ n → GIv eM n Pp F0 a i s → GIv eM n Pp F0 a n (gfs eM n f i s)
  | 0, i, s, hf, hi, G => by omega
  | f + 1, i, s, hf, hi, G => by
    have ll := iv_len G.1
    show GIv eM n Pp F0 a n (if i < s.2.length then gfs eM n f (i + 1) (gin eM (s.2.getD i 0) n s) else s)
    split
    · rename_i z
      obtain ⟨r1, r2, r3, r4⟩ := gin_s (eM := eM) (a := a) (i := i) hF n 0 s (by omega) z G (fun w hw => absurd hw (Nat.not_lt_zero _))
      change GIv eM n Pp F0 a i (gin eM (s.2.getD i 0) n s) at r1
      change (gin eM (s.2.getD i 0) n s).2.getD i 0 = s.2.getD i 0 at r3
      change ∀ w, w < n → eM (s.2.getD i 0) w = true → (gin eM (s.2.getD i 0) n s).1 w = true at r4
      refine gfs_s hF f (i + 1) _ (by omega) (by omega) ?_
      obtain ⟨g1, g2, g3, g4, g5, g6⟩ := r1
      refine ⟨g1, g2, g3, g4, g5, fun j h1 h2 w h3 h4 => ?_⟩
      by_cases e : j = i
      · rw [e, r3] at h4
        exact r4 w h3 h4
      · exact g6 j (by omega) h2 w h3 h4
    · rename_i z
      obtain ⟨g1, g2, g3, g4, g5, g6⟩ := G
      exact ⟨g1, g2, g3, g4, g5, fun j h1 h2 => g6 j (by omega) h2⟩
theorem rts_r (sy : ∀ x y, EB eM x y → EB eM y x) (hPn : ∀ x, Pp x → x < n) : ∀ (m a : Nat) (F : Nat → Bool) (rs : List Nat), a + m = n → (∀ x, x < n → ¬ Pp x → F x = true) → (∀ x, x < n → F x = true → ¬ Pp x ∨ ∃ y, y ∈ rs ∧ Way (EB eM) Pp y x) → (∀ v w, Pp v → w < n → F v = true → eM v w = true → F w = true) → (∀ x, x < a → F x = true) → rs.Pairwise (fun x y => ¬ Way (EB eM) Pp x y) → (∀ y, y ∈ rs → Pp y ∧ F y = true) → Reps (EB eM) Pp (rs ++ rts eM n m a F) := by
  intro m
  induction m with
  | zero =>
    intro a F rs ha h1 h2 h3 h4 h5 h6
    show Reps (EB eM) Pp (rs ++ [])
    rw [List.append_nil]
    refine ⟨h5, fun x hx => (h6 x hx).1, fun x hx => ?_⟩
    have hn := hPn x hx
    rcases h2 x hn (h4 x (by omega)) with z | ⟨y, y1, y2⟩
    · exact absurd hx z
    · exact ⟨y, y1, y2.sy sy⟩
  | succ m ih =>
    intro a F rs ha h1 h2 h3 h4 h5 h6
    have hlt : a < n := by omega
    cases z : F a
    · have es : rts eM n (m + 1) a F = a :: rts eM n m (a + 1) (gfs eM n (n + 1) 0 (opn true a (F, []))).1 := if_neg (by rw [z]; decide)
      rw [es, List.append_cons]
      have hF : ∀ x, x < n → F x = false → Pp x := fun x hx hf => by
        apply Classical.byContradiction
        intro w
        have := h1 x hx w
        rw [hf] at this; cases this
      have pa := hF a hlt z
      have ot : opn true a (F, []) = (fun x => if x = a then true else F x, [a]) := opn_t rfl z
      have G0 : GIv eM n Pp F a 0 (opn true a (F, [])) := by
        refine ⟨opn_iv ⟨List.nodup_nil, fun x hx => by cases hx⟩ (fun _ => hlt), fun x hx => opn_up hx, fun x hx => ?_, fun x hx => ?_, opn_b rfl, fun j h => absurd h (Nat.not_lt_zero _)⟩
        · rw [ot] at hx
          rw [List.mem_singleton.mp hx]
          exact Way.here pa
        · rw [ot] at hx ⊢
          change (if x = a then true else F x) = true at hx
          by_cases e : x = a
          · exact Or.inr (by rw [e]; exact List.mem_singleton.mpr rfl)
          · rw [if_neg e] at hx; exact Or.inl hx
      obtain ⟨g1, g2, g3, g4, g5, g6⟩ := gfs_s (eM := eM) (a := a) hF (n + 1) 0 _ (by omega) (Nat.zero_le _) G0
      generalize gfs eM n (n + 1) 0 (opn true a (F, [])) = s at *
      have ll := iv_len g1
      refine ih (a + 1) s.1 (rs ++ [a]) (by omega) (fun x hx hp => g2 x (h1 x hx hp)) (fun x hx hs => ?_) (fun v w hv hw hs he => ?_) (fun x hx => ?_) ?_ (fun y hy => ?_)
      · rcases g4 x hs with q | q
        · rcases h2 x hx q with r | ⟨y, y1, y2⟩
          · exact Or.inl r
          · exact Or.inr ⟨y, List.mem_append_left _ y1, y2⟩
        · exact Or.inr ⟨a, List.mem_append_right _ (List.mem_singleton.mpr rfl), g3 x q⟩
      · rcases g4 v hs with q | q
        · exact g2 w (h3 v w hv hw q he)
        · obtain ⟨j, hj, ej⟩ := List.mem_iff_getElem.mp q
          refine g6 j (by omega) hj w hw ?_
          rw [show s.2.getD j 0 = v by rw [List.getD_eq_getElem?_getD, List.getElem?_eq_getElem hj]; exact ej]
          exact he
      · by_cases e : x = a
        · rw [e]; exact g5
        · exact g2 x (h4 x (by omega))
      · rw [List.pairwise_append]
        refine ⟨h5, List.pairwise_singleton .., fun y hy b hb w => ?_⟩
        rw [List.mem_singleton.mp hb] at w
        have fa : F a = true := w.ind (fun x => F x = true) (fun _ => (h6 y hy).2) (fun v u q ih e p => h3 v u q.r (hPn u p) ih e)
        rw [z] at fa; cases fa
      · rcases List.mem_append.mp hy with q | q
        · exact ⟨(h6 y q).1, g2 y (h6 y q).2⟩
        · rw [List.mem_singleton.mp q]; exact ⟨pa, g5⟩
    · have es : rts eM n (m + 1) a F = rts eM n m (a + 1) F := if_pos z
      rw [es]
      refine ih (a + 1) F rs (by omega) h1 h2 h3 (fun x hx => ?_) h5 h6
      by_cases e : x = a
      · rw [e]; exact z
      · exact h4 x (by omega)
/-- all parts -/
theorem rts_all (sy : ∀ x y, EB eM x y → EB eM y x) : Reps (EB eM) (fun x => x < n) (rts eM n n 0 (fun _ => false)) := by
  have := rts_r (n := n) (Pp := fun x => x < n) sy (fun x hx => hx) n 0 (fun _ => false) [] (by omega) (fun x hx hp => absurd hx hp) (fun x hx hf => by cases hf) (fun v w _ _ hf => by cases hf) (fun x hx => absurd hx (Nat.not_lt_zero _)) List.Pairwise.nil (fun y hy => by cases hy)
  rw [List.nil_append] at this
  exact this
/-- all parts without a -/
theorem rts_out (sy : ∀ x y, EB eM x y → EB eM y x) (ha : a < n) : Reps (EB eM) (fun x => x < n ∧ x ≠ a) (rts eM n n 0 (fun x => decide (x = a))) := by
  have := rts_r (n := n) (Pp := fun x => x < n ∧ x ≠ a) sy (fun x hx => hx.1) n 0 (fun x => decide (x = a)) [] (by omega) (fun x hx hp => decide_eq_true (by
    apply Classical.byContradiction
    intro z
    exact hp ⟨hx, z⟩)) (fun x hx hf => Or.inl (fun q => q.2 (of_decide_eq_true hf))) (fun v w hv _ hf => absurd (of_decide_eq_true hf) hv.2) (fun x hx => absurd hx (Nat.not_lt_zero _)) List.Pairwise.nil (fun y hy => by cases hy)
  rw [List.nil_append] at this
  exact this
end NP
