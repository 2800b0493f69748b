/-! ===== the class's net: the whole way, and what is counted ===== -/
/-- between two parts: nothing is on the stack -/
def BI (h : PH) (eC : Nat → Nat → Bool) (n : Nat) (Rt : Nat → Prop) (N fr low nx last : Nat → Nat) (cb : Nat → Bool) (k je : Nat) : Prop := NtI h n N fr low nx Rt cb k je ∧ Jv (EB eC) n N fr last Rt k [] ∧ (∀ u, u < n → N u ≠ 0 → nx u ≤ n ∧ low u ≤ k ∧ nx u = n) ∧ je = jeS eC n N nx ∧ sN (fun u => if N u = 0 then 0 else 1) n = k ∧ (∀ q, q < n → ¬ Rt q → (cb q = true ↔ CutF (EB eC) n N fr last Rt [] q)) ∧ ∀ r', Rt r' → ∃ ch' : List Nat, (ch'.Nodup ∧ ∀ c, c ∈ ch' ↔ c < n ∧ N c ≠ 0 ∧ ¬ Rt c ∧ fr c = r') ∧ (cb r' = true ↔ 1 < ch'.length)
section WV
variable {sc : Nat × (Nat → Int32)} {d : Nat} {Q : PRes → Prop} {h h' h0 h1 H G : PH} {i j k n t u v w a b r p je step R M x : Nat} {eC : Nat → Nat → Bool} {N fr low nx last : Nat → Nat} {Rt : Nat → Prop} {cb : Nat → Bool} {st ch l rs : List Nat} {P : List Pnt}
theorem sN_le {f : Nat → Nat} {c : Nat} : ∀ n, (∀ u, u < n → f u ≤ c) → sN f n ≤ n * c
  | 0, _ => by rw [Nat.zero_mul]; exact Nat.le_refl _
  | n + 1, h => by
    have h1 := sN_le n (fun u hu => h u (by omega))
    have h2 := h n (by omega)
    show sN f n + f n ≤ (n + 1) * c
    rw [Nat.add_mul, Nat.one_mul]; omega
theorem en_1 : en eC u v ≤ 1 := by unfold en; split <;> omega
theorem je_b (hn : n ≤ 216) (B : ∀ u, u < n → N u ≠ 0 → nx u ≤ n) : jeS eC n N nx ≤ 216 * 216 := by
  unfold jeS
  refine Nat.le_trans (sN_le (c := 216) n (fun u hu => ?_)) (Nat.mul_le_mul_right _ hn)
  try dsimp only
  split
  · omega
  · rename_i h0
    have := B u hu h0
    have h1 := sN_1 (f := fun w => en eC u w) (nx u) (fun w _ => en_1)
    omega
theorem mu_b (hn : n ≤ 216) : sN (fun u => if N u = 0 then n + 2 else n - nx u) n ≤ 216 * 218 := by
  refine Nat.le_trans (sN_le (c := 218) n (fun u hu => ?_)) (Nat.mul_le_mul_right _ hn)
  try dsimp only
  split <;> omega
theorem c_ex_l (NWh : NW h0 P eC) (hn : n = P.length) (sye : ∀ x y, EB eC x y → EB eC y x) : ∀ (μ : Nat) (st ch : List Nat) (step : Nat) (H : PH) (N fr low nx last : Nat → Nat) (cb : Nat → Bool) (k je : Nat), muS n N nx st ≤ μ → step + μ < 1000000 → Fq PNw h0 H → XI H eC n r Rt N fr low nx last cb k je st ch → ∃ H' N' fr' low' nx' last' cb' k' je' ch' step', Fq PNt H H' ∧ XI H' eC n r Rt N' fr' low' nx' last' cb' k' je' [] ch' ∧ (∀ u, N u ≠ 0 → N' u ≠ 0) ∧ ∀ d Q, Tr sc (d + 3) 26 (13, [some (.ref 32), some (.int (nI r)), some (.int (nI ch.length)), some (.int (topV st)), some (.int (nI step))], [], H) Q = Tr sc (d + 3) 26 (83, [some (.ref 32), some (.int (nI r)), some (.int (nI ch'.length)), some (.int (-1)), some (.int (nI step'))], [], H') Q := by
  intro μ
  induction μ with
  | zero =>
    intro st ch step H N fr low nx last cb k je hm hs F X
    rcases st with _ | ⟨v, l⟩
    · refine ⟨H, N, fr, low, nx, last, cb, k, je, ch, step, Fq.rf, X, fun u hu => hu, fun d Q => ?_⟩
      rw [show topV [] = -1 from rfl, x_26_13]
      simp only [x_26_15, x_26_17, x_26_20, x_26_21, cl2_i, cl2_r, cl2_n, cl2_l, tl_s, tl_n, true_and, and_true, Option.some.injEq, exists_eq_left', Bool.and_self, Bool.true_and, Bool.and_true, Bool.or_true, Bool.true_or, i_10, i_00, if_true, if_false, not_true_eq_false, not_false_eq_true, and_false, false_and, okp_sI, okp_sL, okp_aI, okp_aL, hR_sI, hR_sL, hR_aI, hR_aL, show ((-1 : Int32) < 0) = True from eq_true (by decide), ite_self]
    · unfold muS at hm
      rw [List.length_cons] at hm
      omega
  | succ μ ih =>
    intro st ch step H N fr low nx last cb k je hm hs F X
    rcases st with _ | ⟨v, l⟩
    · refine ⟨H, N, fr, low, nx, last, cb, k, je, ch, step, Fq.rf, X, fun u hu => hu, fun d Q => ?_⟩
      rw [show topV [] = -1 from rfl, x_26_13]
      simp only [x_26_15, x_26_17, x_26_20, x_26_21, cl2_i, cl2_r, cl2_n, cl2_l, tl_s, tl_n, true_and, and_true, Option.some.injEq, exists_eq_left', Bool.and_self, Bool.true_and, Bool.and_true, Bool.or_true, Bool.true_or, i_10, i_00, if_true, if_false, not_true_eq_false, not_false_eq_true, and_false, false_and, okp_sI, okp_sL, okp_aI, okp_aL, hR_sI, hR_sL, hR_aI, hR_aL, show ((-1 : Int32) < 0) = True from eq_true (by decide), ite_self]
    · have jb : je < 100000 := by
        have e := X.2.2.2.2.1
        have := je_b (eC := eC) (N := N) (nx := nx) (n := n) (by rw [hn]; exact NWh.2.2.1) (fun u hu h0 => (X.2.2.2.1 u hu h0).1)
        omega
      obtain ⟨H1, N1, fr1, low1, nx1, last1, cb1, k1, je1, st1, ch1, F1, X1, m1, n1, eq1⟩ := c_ex_1 (sc := sc) (step := step) NWh hn sye X F (by omega) jb
      obtain ⟨H', N', fr', low', nx', last', cb', k', je', ch', step', F', X', n', eq'⟩ := ih st1 ch1 (step + 1) H1 N1 fr1 low1 nx1 last1 cb1 k1 je1 (by omega) (by omega) (F.tr (F1.wk (fun a b q => PNt_w q))) X1
      exact ⟨H', N', fr', low', nx', last', cb', k', je', ch', step', F1.tr F', X', fun u hu => n' u (n1 u hu), fun d Q => (eq1 d Q).trans (eq' d Q)⟩
/-- a new part is explored whole -/
theorem c_explore (NWh : NW h0 P eC) (hn : n = P.length) (sye : ∀ x y, EB eC x y → EB eC y x) (F : Fq PNw h0 H) (X : BI H eC n Rt N fr low nx last cb k je) (hr : r < n) (hr0 : N r = 0) : ∃ H' N' fr' low' nx' last' cb' k' je', Fq PNt H H' ∧ BI H' eC n (fun x => Rt x ∨ x = r) N' fr' low' nx' last' cb' k' je' ∧ (N' r ≠ 0 ∧ ∀ u, N u ≠ 0 → N' u ≠ 0) ∧ ∀ d Q, Tr sc (d + 3) 26 (ent0 26 [.ref 32, .int (nI r)] H) Q = Q (none, H') := by
  obtain ⟨I, J, B, je', kk, cu, oth⟩ := X
  have hwH := F.WF NWh.1
  have pl := NWh.2.2.1
  have nr : ¬ Rt r := fun q => (J.2.2.2.2.2.2.2.2 r q).2 hr0
  have nfr : ∀ c, c < n → N c ≠ 0 → ¬ Rt c → fr c ≠ r := fun c h1 h2 h3 e => (J.2.2.1 c h1 h2 h3).2.1 (by rw [e]; exact hr0)
  have cbr : cb r = false := by
    cases z : cb r
    · rfl
    · obtain ⟨c, c1, c2, -, c4, c5, -⟩ := (cu r hr nr).mp z
      exact absurd c5 (nfr c c1 c2 c4)
  have I0 : NtI (entH H k r (-1)) n (upN N r (k + 1)) fr (upN low r (k + 1)) (upN nx r 0) (fun x => Rt x ∨ x = r) cb (k + 1) je := by
    have := entr_I (w := r) (v := fr r) (pv := -1) (Rt' := fun x => Rt x ∨ x = r) I (fun x hx => ⟨fun q => q.elim id (fun y => absurd y hx), Or.inl⟩) (fun _ => rfl) (fun q => absurd (Or.inr rfl) q)
    rw [upN_id] at this
    exact this
  have chm : ∀ r' c, r' ≠ r → ((c < n ∧ upN N r (k + 1) c ≠ 0 ∧ ¬ (Rt c ∨ c = r) ∧ fr c = r' ∧ ¬ c ∈ [r]) ↔ (c < n ∧ N c ≠ 0 ∧ ¬ Rt c ∧ fr c = r')) := by
    intro r' c _
    by_cases e : c = r
    · subst e
      exact ⟨fun q => absurd (Or.inr rfl) q.2.2.1, fun q => absurd hr0 q.2.1⟩
    · rw [upN_n e]
      exact ⟨fun q => ⟨q.1, q.2.1, fun y => q.2.2.1 (Or.inl y), q.2.2.2.1⟩, fun q => ⟨q.1, q.2.1, fun y => y.elim q.2.2.1 e, q.2.2.2, fun y => e (List.mem_singleton.mp y)⟩⟩
  have X0 : XI (entH H k r (-1)) eC n r (fun x => Rt x ∨ x = r) (upN N r (k + 1)) fr (upN low r (k + 1)) (upN nx r 0) last cb (k + 1) je [r] [] := by
    refine ⟨I0, jv_root J hr hr0, ⟨fun q => absurd (Or.inr rfl) q, trivial⟩, fun u hu h0 => ?_, ?_, ?_, fun q hq hn => ?_, fun u hu _ => List.mem_singleton.mp hu, ⟨hr, Or.inr rfl, cbr⟩, ⟨List.nodup_nil, fun c => ⟨fun q => (by cases q), fun q => ?_⟩⟩, fun r' h1 h2 => ?_⟩
    · by_cases e : u = r
      · subst e
        rw [upN_e, upN_e]
        exact ⟨Nat.zero_le _, Nat.le_refl _, fun q => absurd (List.mem_singleton.mpr rfl) q, fun x hx => absurd hx (Nat.not_lt_zero _)⟩
      · rw [upN_n e] at h0
        obtain ⟨c1, c2, c3⟩ := B u hu h0
        rw [upN_n e, upN_n e]
        refine ⟨c1, by omega, fun _ => c3, fun x hx he => ?_⟩
        have cl := (J.2.2.2.2.2.2.1 u hu h0 (fun q => by cases q)).2.2 u hu (Nat.le_refl _) (J.2.2.2.2.2.2.1 u hu h0 (fun q => by cases q)).1
        have nz := (cl.2.2 x (by omega) he).1
        by_cases ex : x = r
        · rw [ex, upN_e]; omega
        · rw [upN_n ex]; exact nz
    · rw [je']
      unfold jeS
      refine sN_cg n (fun u hu => ?_)
      by_cases e : u = r
      · subst e
        rw [upN_e, upN_e, if_pos hr0, if_neg (by omega)]; rfl
      · rw [upN_n e, upN_n e]
    · have s1 := sN_up (f := fun u => if N u = 0 then 0 else 1) (g := fun u => if upN N r (k + 1) u = 0 then 0 else 1) (i := r) (fun u hu => by rw [upN_n hu]) n hr
      try dsimp only at s1
      rw [if_pos hr0, upN_e, if_neg (by omega)] at s1
      omega
    · rw [cut_n (Rt := Rt) (st := []) J hr0 (fun x _ => rfl) (fun x hx => ⟨fun q => q.elim id (fun y => absurd y hx), Or.inl⟩) (fun x hx => ⟨fun q => absurd (List.mem_singleton.mp q) hx, fun q => by cases q⟩) (List.mem_singleton.mpr rfl)]
      exact cu q hq (fun y => hn (Or.inl y))
    · exfalso
      by_cases e : c = r
      · exact q.2.2.1 (Or.inr e)
      · have q2 := q.2.1
        rw [upN_n e] at q2
        exact nfr c q.1 q2 (fun y => q.2.2.1 (Or.inl y)) q.2.2.2.1
    · obtain ⟨ch', ⟨q1, q2⟩, q3⟩ := oth r' (h1.elim id (fun y => absurd y h2))
      exact ⟨ch', ⟨q1, fun c => by rw [chm r' c h2]; exact q2 c⟩, q3⟩
  have m0 := mu_b (n := n) (N := upN N r (k + 1)) (nx := upN nx r 0) (by omega)
  obtain ⟨H1, N1, fr1, low1, nx1, last1, cb1, k1, je1, ch1, step1, F1, X1, n1, eq1⟩ := c_ex_l (sc := sc) (r := r) NWh hn sye 50000 [r] [] 0 _ _ _ _ _ _ _ _ _ (by unfold muS; rw [List.length_singleton]; omega) (by omega) (F.tr (ent_fr.wk (fun a b q => PNt_w q))) X0
  obtain ⟨I1, J1, L1, B1, je1', kk1, cu1, rt1, rr1, cc1, oth1⟩ := X1
  have hw1 := F1.WF (ent_fr.WF hwH)
  have cl1 : ch1.length ≤ n := nd_lt cc1.1 (fun c hc => ((cc1.2 c).mp hc).1)
  refine ⟨sI H1 39 r (bo (decide (1 < ch1.length))), N1, fr1, low1, nx1, last1, fun x => if x = r then decide (1 < ch1.length) else cb1 x, k1, je1, (ent_fr.tr F1).sI (by unfold PNt; omega), ⟨nt_cut I1, J1, fun u hu h0 => ⟨(B1 u hu h0).1, (B1 u hu h0).2.1, (B1 u hu h0).2.2.1 (fun q => by cases q)⟩, je1', kk1, fun q hq hn => ?_, fun r' h1 => ?_⟩, ⟨n1 r (by rw [upN_e]; omega), fun u hu => n1 u (by
    by_cases e : u = r
    · rw [e, upN_e]; omega
    · rw [upN_n e]; exact hu)⟩, fun d Q => ?_⟩
  · show ((if q = r then decide (1 < ch1.length) else cb1 q) = true) ↔ _
    rw [if_neg (fun e => hn (Or.inr e))]
    exact cu1 q hq hn
  · by_cases e : r' = r
    · subst e
      rw [show ((fun x => if x = r' then decide (1 < ch1.length) else cb1 x) r') = decide (1 < ch1.length) from if_pos rfl, decide_eq_true_eq]
      exact ⟨ch1, ⟨cc1.1, fun c => by rw [cc1.2 c]; exact ⟨fun q => ⟨q.1, q.2.1, q.2.2.1, q.2.2.2.1⟩, fun q => ⟨q.1, q.2.1, q.2.2.1, q.2.2.2, fun y => by cases y⟩⟩⟩, Iff.rfl⟩
    · rw [show ((fun x => if x = r then decide (1 < ch1.length) else cb1 x) r') = cb1 r' from if_neg e]
      obtain ⟨ch', ⟨q1, q2⟩, q3⟩ := oth1 r' h1 e
      exact ⟨ch', ⟨q1, fun c => by rw [q2 c]; exact ⟨fun q => ⟨q.1, q.2.1, q.2.2.1, q.2.2.2.1⟩, fun q => ⟨q.1, q.2.1, q.2.2.1, q.2.2.2, fun y => by cases y⟩⟩⟩, q3⟩
  · have en1 : ∀ d Q, Tr sc d 27 (ent0 27 [.ref 32, .int (nI r), .int (-1)] H) Q = Q (none, entH H k r (-1)) := c_enter hwH I.2.1 (by omega)
    rw [e_26]
    simp only [x_26_0, x_26_1, x_26_2, x_26_3, x_26_4, x_26_5, x_26_6, x_26_7, x_26_10, x_26_11, o_32 hwH, cl2_i, cl2_r, cl2_n, cl2_l, tl_s, tl_n, true_and, and_true, Option.some.injEq, exists_eq_left', Bool.and_self, Bool.true_and, Bool.and_true, Bool.or_true, Bool.true_or, i_10, i_00, if_true, if_false, not_true_eq_false, not_false_eq_true, and_false, false_and, okp_sI, okp_sL, okp_aI, okp_aL, hR_sI, hR_sL, hR_aI, hR_aL, en1]
    refine (eq1 d Q).trans ?_
    rw [bo_d]
    simp only [x_26_83, x_26_84, x_26_87, x_26_88, x_26_89, x_26_90, x_26_93, x_26_94, x_26_97, x_26_98, x_26_99, o_32 hw1, w_32_6 hw1, o_39 hw1, show LN 39 = 216 from rfl, cl2_i, cl2_r, cl2_n, cl2_l, tl_s, tl_n, true_and, and_true, Option.some.injEq, exists_eq_left', Bool.and_self, Bool.true_and, Bool.and_true, Bool.or_true, Bool.true_or, i_10, i_00, if_true, if_false, not_true_eq_false, not_false_eq_true, and_false, false_and, okp_sI, okp_sL, okp_aI, okp_aL, hR_sI, hR_sL, hR_aI, hR_aL, inb_nI (n := 216) (show r < 216 by omega) (by decide), nI_clamp (n := r) (by omega), vp_b0, vp_b1]
    by_cases z : 1 < ch1.length
    · rw [if_neg (show ¬ nI ch1.length ≤ 1 from nI_ge (a := 1) z (by omega)), if_pos z]
    · rw [if_pos (show nI ch1.length ≤ 1 from nI_le (b := 1) (by omega) (by decide)), if_neg z]
theorem BI_fr {P' : Nat → Nat → Prop} (X : BI H eC n Rt N fr low nx last cb k je) (f : Fq P' H G) (hP : ∀ a b, ((35 ≤ a ∧ a ≤ 39) ∨ (a = 32 ∧ 9 ≤ b ∧ b ≤ 11)) → ¬ P' a b) : BI G eC n Rt N fr low nx last cb k je := by
  obtain ⟨⟨i1, i2, i3, i4, i5, i6⟩, X'⟩ := X
  refine ⟨⟨by rw [f.i (hP _ _ (by omega))]; exact i1, by rw [f.i (hP _ _ (by omega))]; exact i2, by rw [f.i (hP _ _ (by omega))]; exact i3, fun u hu => by rw [f.i (hP _ _ (by omega))]; exact i4 u hu, fun u hu h0 => ?_, fun u hu => by rw [f.i (hP _ _ (by omega))]; exact i6 u hu⟩, X'⟩
  obtain ⟨c1, c2, c3, c4⟩ := i5 u hu h0
  exact ⟨by rw [f.i (hP _ _ (by omega))]; exact c1, by rw [f.i (hP _ _ (by omega))]; exact c2, fun q => by rw [f.i (hP _ _ (by omega))]; exact c3 q, fun q => by rw [f.i (hP _ _ (by omega))]; exact c4 q⟩
theorem c_wv_l (NWh : NW h0 P eC) (hn : n = P.length) (sye : ∀ x y, EB eC x y → EB eC y x) : ∀ (m v : Nat) (H : PH) (Rt : Nat → Prop) (N fr low nx last : Nat → Nat) (cb : Nat → Bool) (k je : Nat) (rs : List Nat), v + m = n → Fq PNw h0 H → BI H eC n Rt N fr low nx last cb k je → (∀ u, u < v → N u ≠ 0) → (rs.Nodup ∧ ∀ r, r ∈ rs ↔ r < n ∧ Rt r) → hI H 32 13 = nI rs.length → ∃ (H' : PH) (Rt' : Nat → Prop) (N' fr' low' nx' last' : Nat → Nat) (cb' : Nat → Bool) (k' je' : Nat) (rs' : List Nat), Fq PNw h0 H' ∧ BI H' eC n Rt' N' fr' low' nx' last' cb' k' je' ∧ (∀ u, u < n → N' u ≠ 0) ∧ (rs'.Nodup ∧ ∀ r, r ∈ rs' ↔ r < n ∧ Rt' r) ∧ hI H' 32 13 = nI rs'.length ∧ ∀ d Q, Tr sc (d + 4) 23 (92, [some (.ref 32), some (.int (nI v))], [], H) Q = Tr sc (d + 4) 23 (130, [some (.ref 32), some (.int (nI n))], [], H') Q := by
  have pl := NWh.2.2.1
  intro m
  induction m with
  | zero =>
    intro v H Rt N fr low nx last cb k je rs hv F X A rr hp
    have e : v = n := by omega
    subst e
    have hwH := F.WF NWh.1
    refine ⟨H, Rt, N, fr, low, nx, last, cb, k, je, rs, F, X, A, rr, hp, fun d Q => ?_⟩
    rw [x_23_92]
    simp only [x_23_93, x_23_94, x_23_97, o_32 hwH, cl2_i, cl2_r, cl2_n, cl2_l, tl_s, tl_n, true_and, and_true, Option.some.injEq, exists_eq_left', Bool.and_self, Bool.true_and, Bool.and_true, Bool.or_true, Bool.true_or, i_10, i_00, if_true, if_false, not_true_eq_false, not_false_eq_true, and_false, false_and, okp_sI, okp_sL, okp_aI, okp_aL, hR_sI, hR_sL, hR_aI, hR_aL, X.1.1]
    rw [if_pos (Int32.le_refl _)]
  | succ m ih =>
    intro v H Rt N fr low nx last cb k je rs hv F X A rr hp
    have hlt : v < n := by omega
    have hwH := F.WF NWh.1
    have Nv := X.1.2.2.2.1 v hlt
    have Nb := X.2.1.1 v hlt
    have kn : k ≤ n := by rw [← X.2.2.2.2.1]; exact sN_1 n (fun u _ => by (try dsimp only); split <;> omega)
    by_cases z : N v = 0
    · have f1 : Fq (fun a b => a = 32 ∧ b = 13) H (sI H 32 13 (nI (rs.length + 1))) := Fq.rf.sI ⟨rfl, rfl⟩
      have F1 : Fq PNw h0 (sI H 32 13 (nI (rs.length + 1))) := F.sI (by unfold PNw; omega)
      have hw1 := F1.WF NWh.1
      have nv : ¬ Rt v := fun q => (X.2.1.2.2.2.2.2.2.2.2 v q).2 z
      obtain ⟨H2, N2, fr2, low2, nx2, last2, cb2, k2, je2, F2, X2, ⟨nv2, n2⟩, eq2⟩ := c_explore (sc := sc) (r := v) NWh hn sye F1 (BI_fr X f1 (fun a b q1 q2 => by omega)) hlt z
      obtain ⟨H', Rt', N', fr', low', nx', last', cb', k', je', rs', F', X', A', rr', hp', eq'⟩ := ih (v + 1) H2 _ N2 fr2 low2 nx2 last2 cb2 k2 je2 (rs ++ [v]) (by omega) (F1.tr (F2.wk (fun a b q => PNt_w q))) X2 (fun u hu => by
        by_cases e : u = v
        · rw [e]; exact nv2
        · exact n2 u (A u (by omega))) ⟨by
        rw [List.nodup_append]
        refine ⟨rr.1, by simp, fun a ha b hb e => ?_⟩
        rw [List.mem_singleton.mp hb] at e
        exact nv (e ▸ ((rr.2 a).mp ha).2), fun r => by
        rw [List.mem_append, List.mem_singleton, rr.2 r]
        constructor
        · rintro (q | q)
          · exact ⟨q.1, Or.inl q.2⟩
          · rw [q]; exact ⟨hlt, Or.inr rfl⟩
        · rintro ⟨q1, q2 | q2⟩
          · exact Or.inl ⟨q1, q2⟩
          · exact Or.inr q2⟩ (by rw [F2.i (by unfold PNt; omega), rd_eq, List.length_append]; rfl)
      have rl : rs.length ≤ n := nd_lt rr.1 (fun a ha => ((rr.2 a).mp ha).1)
      refine ⟨H', Rt', N', fr', low', nx', last', cb', k', je', rs', F', X', A', rr', hp', fun d Q => ?_⟩
      rw [z, nI_0] at Nv
      rw [x_23_92]
      simp only [x_23_93, x_23_94, x_23_97, x_23_100, x_23_101, x_23_104, x_23_105, x_23_106, x_23_109, x_23_110, x_23_111, x_23_114, x_23_115, x_23_116, x_23_119, x_23_120, x_23_121, o_32 hwH, w_32_2 hwH, o_35 hwH, iOk_lt (k := 35) (by decide), iRd_lt (k := 35) (by decide), show LN 35 = 216 from rfl, x_23_124, x_23_127, cl2_i, cl2_r, cl2_n, cl2_l, tl_s, tl_n, true_and, and_true, Option.some.injEq, exists_eq_left', Bool.and_self, Bool.true_and, Bool.and_true, Bool.or_true, Bool.true_or, i_10, i_00, if_true, if_false, not_true_eq_false, not_false_eq_true, and_false, false_and, okp_sI, okp_sL, okp_aI, okp_aL, hR_sI, hR_sL, hR_aI, hR_aL, X.1.1, inb_nI (n := 216) (show v < 216 by omega) (by decide), nI_clamp (n := v) (by omega), Nv, hp, nI_1, eq2]
      rw [if_neg (nI_ge hlt (by omega))]
      exact eq' d Q
    · obtain ⟨H', Rt', N', fr', low', nx', last', cb', k', je', rs', F', X', A', rr', hp', eq'⟩ := ih (v + 1) H Rt N fr low nx last cb k je rs (by omega) F X (fun u hu => by
        by_cases e : u = v
        · rw [e]; exact z
        · exact A u (by omega)) rr hp
      refine ⟨H', Rt', N', fr', low', nx', last', cb', k', je', rs', F', X', A', rr', hp', fun d Q => ?_⟩
      rw [x_23_92]
      simp only [x_23_93, x_23_94, x_23_97, x_23_100, x_23_101, x_23_104, x_23_105, x_23_106, o_32 hwH, w_32_2 hwH, o_35 hwH, iOk_lt (k := 35) (by decide), iRd_lt (k := 35) (by decide), show LN 35 = 216 from rfl, x_23_124, x_23_127, cl2_i, cl2_r, cl2_n, cl2_l, tl_s, tl_n, true_and, and_true, Option.some.injEq, exists_eq_left', Bool.and_self, Bool.true_and, Bool.and_true, Bool.or_true, Bool.true_or, i_10, i_00, if_true, if_false, not_true_eq_false, not_false_eq_true, and_false, false_and, okp_sI, okp_sL, okp_aI, okp_aL, hR_sI, hR_sL, hR_aI, hR_aL, X.1.1, inb_nI (n := 216) (show v < 216 by omega) (by decide), nI_clamp (n := v) (by omega), Nv, show (nI (N v) = 0) = False from eq_false (nI_ne0 (by omega) (by omega)), nI_1]
      rw [if_neg (nI_ge hlt (by omega))]
      exact eq' d Q
theorem c_cuts (hw : WF h) (hn : n ≤ 216) (h9 : hI h 32 9 = nI n) (h39 : ∀ u, u < n → hI h 39 u = bo (cb u)) : ∀ (m i : Nat) (H : PH), i + m = n → Fq (fun a b => a = 32 ∧ b = 14) h H → hI H 32 14 = nI (sN (fun q => if cb q = true then 1 else 0) i) → ∃ H', Fq (fun a b => a = 32 ∧ b = 14) h H' ∧ hI H' 32 14 = nI (sN (fun q => if cb q = true then 1 else 0) n) ∧ ∀ d Q, Tr sc d 25 (7, [some (.ref 32), some (.int (nI i))], [], H) Q = Q (none, H') := by
  intro m
  induction m with
  | zero =>
    intro i H hi F a
    have e : i = n := by omega
    subst e
    have hwH := F.WF hw
    refine ⟨H, F, a, fun d Q => ?_⟩
    rw [x_25_7]
    simp only [x_25_8, x_25_9, x_25_12, o_32 hwH, x_25_40, cl2_i, cl2_r, cl2_n, cl2_l, tl_s, tl_n, true_and, and_true, Option.some.injEq, exists_eq_left', Bool.and_self, Bool.true_and, Bool.and_true, Bool.or_true, Bool.true_or, i_10, i_00, if_true, if_false, not_true_eq_false, not_false_eq_true, and_false, false_and, okp_sI, okp_sL, okp_aI, okp_aL, hR_sI, hR_sL, hR_aI, hR_aL, F.i (a := 32) (b := 9) (by omega), h9]
    rw [if_pos (Int32.le_refl _)]
  | succ m ih =>
    intro i H hi F a
    have hlt : i < n := by omega
    have hwH := F.WF hw
    have c9 : hI H 39 i = bo (cb i) := by rw [F.i (by omega)]; exact h39 i hlt
    have es : sN (fun q => if cb q = true then 1 else 0) (i + 1) = sN (fun q => if cb q = true then 1 else 0) i + (if cb i = true then 1 else 0) := rfl
    cases z : cb i
    · obtain ⟨H', F', a', eq'⟩ := ih (i + 1) H (by omega) F (by rw [es, z]; exact a)
      refine ⟨H', F', a', fun d Q => ?_⟩
      rw [z] at c9
      rw [x_25_7]
      simp only [x_25_8, x_25_9, x_25_12, x_25_15, x_25_16, x_25_19, x_25_20, x_25_21, o_32 hwH, w_32_6 hwH, o_39 hwH, show LN 39 = 216 from rfl, x_25_34, x_25_37, cl2_i, cl2_r, cl2_n, cl2_l, tl_s, tl_n, true_and, and_true, Option.some.injEq, exists_eq_left', Bool.and_self, Bool.true_and, Bool.and_true, Bool.or_true, Bool.true_or, i_10, i_00, if_true, if_false, not_true_eq_false, not_false_eq_true, and_false, false_and, okp_sI, okp_sL, okp_aI, okp_aL, hR_sI, hR_sL, hR_aI, hR_aL, F.i (a := 32) (b := 9) (by omega), h9, inb_nI (n := 216) (show i < 216 by omega) (by decide), nI_clamp (n := i) (by omega), c9, show bo false = 0 from rfl, nI_1]
      rw [if_neg (nI_ge hlt (by omega))]
      exact eq' d Q
    · obtain ⟨H', F', a', eq'⟩ := ih (i + 1) (sI H 32 14 (nI (sN (fun q => if cb q = true then 1 else 0) i + 1))) (by omega) (F.sI ⟨rfl, rfl⟩) (by rw [rd_eq, es, z]; rfl)
      refine ⟨H', F', a', fun d Q => ?_⟩
      rw [z] at c9
      rw [x_25_7]
      simp only [x_25_8, x_25_9, x_25_12, x_25_15, x_25_16, x_25_19, x_25_20, x_25_21, x_25_24, x_25_25, x_25_26, x_25_29, x_25_30, x_25_31, x_25_34, x_25_37, o_32 hwH, w_32_6 hwH, o_39 hwH, show LN 39 = 216 from rfl, cl2_i, cl2_r, cl2_n, cl2_l, tl_s, tl_n, true_and, and_true, Option.some.injEq, exists_eq_left', Bool.and_self, Bool.true_and, Bool.and_true, Bool.or_true, Bool.true_or, i_10, i_00, if_true, if_false, not_true_eq_false, not_false_eq_true, and_false, false_and, okp_sI, okp_sL, okp_aI, okp_aL, hR_sI, hR_sL, hR_aI, hR_aL, F.i (a := 32) (b := 9) (by omega), h9, inb_nI (n := 216) (show i < 216 by omega) (by decide), nI_clamp (n := i) (by omega), c9, show bo true = 1 from rfl, a, nI_1]
      rw [if_neg (nI_ge hlt (by omega))]
      exact eq' d Q
end WV
