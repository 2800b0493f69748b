/-! ===== the model's setPoints: runs, points, board ===== -/
def BdM (h : PH) (L : List Pnt) : Prop := ∃ a b c g, (Lo (·.1) L a ∧ hI h 124 41 = iv a) ∧ (Hi (·.1) L b ∧ hI h 124 42 = iv b) ∧ (Lo (·.2) L c ∧ hI h 124 43 = iv c) ∧ (Hi (·.2) L g ∧ hI h 124 44 = iv g)
def P36 (a b : Nat) : Prop := a = 146 ∨ a = 147 ∨ (a = 124 ∧ 36 ≤ b ∧ b ≤ 44)
def RnS (h : PH) (g : Nat → Int) (w : Nat) : Prop := hI h 124 36 = nI (mPt g w).length ∧ hI h 124 37 = nI (rM g w) ∧ (∀ j, j < (mPt g w).length → hI h 146 j = iv ((mPt g w).getD j pt0).1 ∧ hI h 147 j = iv ((mPt g w).getD j pt0).2) ∧ (mPt g w ≠ [] → BdM h (mPt g w))
/-- what the model keeps of the points of a step: L all words' points, P those that are unlike, in order -/
def PtM (h : PH) (L P : List Pnt) : Prop := hI h 124 36 = nI P.length ∧ (∃ v, IsMc L v ∧ hI h 124 37 = nI v) ∧ (∀ j, j < P.length → hI h 146 j = iv (P.getD j pt0).1 ∧ hI h 147 j = iv (P.getD j pt0).2) ∧ (P ≠ [] → BdM h P) ∧ P.Nodup ∧ (∀ p, p ∈ P ↔ p ∈ L) ∧ (P.map ky2).Pairwise (· < ·) ∧ P.length = (dd L).length
def P47 (a b : Nat) : Prop := (141 ≤ a ∧ a ≤ 147) ∨ (a = 124 ∧ 31 ≤ b ∧ b ≤ 44)
section RN
variable {sc : Nat × (Nat → Int32)} {d y' : Nat} {Q : PRes → Prop} {h h' h1 H G : PH} {c k e i j l n t u b M N s a w : Nat} {L : List Pnt} {p : Pnt} {kd x y : Int32} {tn : Nat → Nat} {sx sy ex : Nat → Int} {f g : Nat → Int}
theorem Tr_ex {P : PRes → Prop} {gg : PC} (t : Tr sc d y' gg P) : ∃ r, P r ∧ ∀ Q, Tr sc d y' gg Q = Q r := by
  obtain ⟨f, r, h1, h2⟩ := t
  exact ⟨r, h2, fun Q => Tr_val ⟨f, r, h1, rfl⟩⟩
theorem mPt_s : mPt g (w + 1) = if cur g w = 1 then mPt g w ++ [un2 (g w)] else mPt g w := by
  unfold mPt
  show ((if cur g w = 1 then rA g w ++ [g w] else rA g w).map un2) = _
  split
  · rw [List.map_append]; rfl
  · rfl
theorem mPt_len : (mPt g w).length ≤ w := by
  unfold mPt
  rw [List.length_map]; exact rA_len w
def Rv (p : Pnt) : Prop := (-10000000 ≤ p.1 ∧ p.1 < 10000000) ∧ (-10000000 ≤ p.2 ∧ p.2 < 10000000)
theorem un2_rg (hz : 0 ≤ g w ∧ g w < 8000000000000) : Rv (un2 (g w)) := by
  unfold un2 Rv
  dsimp only
  constructor <;> constructor <;> omega
theorem Rv_r (hp : Rv p) : R3 p.1 ∧ R3 p.2 := by
  obtain ⟨⟨a, b⟩, c, g⟩ := hp
  exact ⟨⟨by omega, by omega⟩, by omega, by omega⟩
theorem m_sb_1 (hw : WF G) (h4 : hI G 124 36 = 0) : Tr sc d 205 (ent0 205 [.ref 124, .int x, .int y] G) Q = Q (none, sI (sI (sI (sI G 124 41 x) 124 42 x) 124 43 y) 124 44 y) := by
  rw [e_205]
  simp only [x_205_0, x_205_1, x_205_4, x_205_7, x_205_8, x_205_11, x_205_12, x_205_13, x_205_14, x_205_15, x_205_18, x_205_19, x_205_20, x_205_23, x_205_26, x_205_27, x_205_30, x_205_31, x_205_34, x_205_37, x_205_38, x_205_39, x_205_42, x_205_43, x_205_44, x_205_47, x_205_50, x_205_51, x_205_54, x_205_55, x_205_58, x_205_61, x_205_62, x_205_63, x_205_66, x_205_67, x_205_68, x_205_71, x_205_74, x_205_75, x_205_78, x_205_79, x_205_82, x_205_85, x_205_86, x_205_87, x_205_90, x_205_91, x_205_92, x_205_95, x_205_98, x_205_99, x_205_102, x_205_103, x_205_106, x_205_109, o_124 hw, cl2_i, cl2_r, cl2_n, cl2_l, tl_s, tl_n, true_and, and_true, Option.some.injEq, exists_eq_left', Bool.and_self, Bool.true_and, Bool.and_true, Bool.or_true, Bool.true_or, i_10, i_00, if_true, if_false, not_true_eq_false, not_false_eq_true, and_false, false_and, okp_sI, okp_sL, okp_aI, okp_aL, hR_sI, hR_sL, hR_aI, hR_aL, h4]
theorem m_sb_n {a b c g : Int} (hw : WF G) (h4 : ¬ hI G 124 36 = 0) (hp : Rv p) (ra : R3 a) (rb : R3 b) (rc : R3 c) (rg : R3 g) (a2 : hI G 124 41 = iv a) (b2 : hI G 124 42 = iv b) (c2 : hI G 124 43 = iv c) (g2 : hI G 124 44 = iv g) : Tr sc d 205 (ent0 205 [.ref 124, .int (iv p.1), .int (iv p.2)] G) Q = Q (none, sI (sI (sI (sI G 124 41 (iv (min a p.1))) 124 42 (iv (max b p.1))) 124 43 (iv (min c p.2))) 124 44 (iv (max g p.2))) := by
  obtain ⟨r1, r2⟩ := Rv_r hp
  have t1 : ∀ G', WF G' → hI G' 124 41 = iv a → Tr sc d 205 (13, [some (.ref 124), some (.int (iv p.1)), some (.int (iv p.2)), some (.int 0)], [], G') Q = Tr sc d 205 (37, [some (.ref 124), some (.int (iv p.1)), some (.int (iv p.2)), some (.int 0)], [], sI G' 124 41 (iv (min a p.1))) Q := by
    intro G' hG e
    simp only [x_205_13, x_205_14, x_205_15, x_205_18, x_205_19, x_205_20, x_205_23, x_205_26, x_205_27, x_205_30, x_205_31, x_205_34, o_124 hG, cl2_i, cl2_r, cl2_n, cl2_l, tl_s, tl_n, true_and, and_true, Option.some.injEq, exists_eq_left', Bool.and_self, Bool.true_and, Bool.and_true, Bool.or_true, Bool.true_or, i_10, i_00, if_true, if_false, not_true_eq_false, not_false_eq_true, and_false, false_and, okp_sI, okp_sL, okp_aI, okp_aL, hR_sI, hR_sL, hR_aI, hR_aL, e, iv_le ra r1]
    by_cases q : a ≤ p.1
    · rw [if_pos q, Int.min_eq_left q]
    · rw [if_neg q, Int.min_eq_right (by omega)]
  have t2 : ∀ G', WF G' → hI G' 124 42 = iv b → Tr sc d 205 (37, [some (.ref 124), some (.int (iv p.1)), some (.int (iv p.2)), some (.int 0)], [], G') Q = Tr sc d 205 (61, [some (.ref 124), some (.int (iv p.1)), some (.int (iv p.2)), some (.int 0)], [], sI G' 124 42 (iv (max b p.1))) Q := by
    intro G' hG e
    simp only [x_205_37, x_205_38, x_205_39, x_205_42, x_205_43, x_205_44, x_205_47, x_205_50, x_205_51, x_205_54, x_205_55, x_205_58, o_124 hG, cl2_i, cl2_r, cl2_n, cl2_l, tl_s, tl_n, true_and, and_true, Option.some.injEq, exists_eq_left', Bool.and_self, Bool.true_and, Bool.and_true, Bool.or_true, Bool.true_or, i_10, i_00, if_true, if_false, not_true_eq_false, not_false_eq_true, and_false, false_and, okp_sI, okp_sL, okp_aI, okp_aL, hR_sI, hR_sL, hR_aI, hR_aL, e, iv_le r1 rb]
    by_cases q : p.1 ≤ b
    · rw [if_pos q, Int.max_eq_left q]
    · rw [if_neg q, Int.max_eq_right (by omega)]
  have t3 : ∀ G', WF G' → hI G' 124 43 = iv c → Tr sc d 205 (61, [some (.ref 124), some (.int (iv p.1)), some (.int (iv p.2)), some (.int 0)], [], G') Q = Tr sc d 205 (85, [some (.ref 124), some (.int (iv p.1)), some (.int (iv p.2)), some (.int 0)], [], sI G' 124 43 (iv (min c p.2))) Q := by
    intro G' hG e
    simp only [x_205_61, x_205_62, x_205_63, x_205_66, x_205_67, x_205_68, x_205_71, x_205_74, x_205_75, x_205_78, x_205_79, x_205_82, o_124 hG, cl2_i, cl2_r, cl2_n, cl2_l, tl_s, tl_n, true_and, and_true, Option.some.injEq, exists_eq_left', Bool.and_self, Bool.true_and, Bool.and_true, Bool.or_true, Bool.true_or, i_10, i_00, if_true, if_false, not_true_eq_false, not_false_eq_true, and_false, false_and, okp_sI, okp_sL, okp_aI, okp_aL, hR_sI, hR_sL, hR_aI, hR_aL, e, iv_le rc r2]
    by_cases q : c ≤ p.2
    · rw [if_pos q, Int.min_eq_left q]
    · rw [if_neg q, Int.min_eq_right (by omega)]
  have t4 : ∀ G', WF G' → hI G' 124 44 = iv g → Tr sc d 205 (85, [some (.ref 124), some (.int (iv p.1)), some (.int (iv p.2)), some (.int 0)], [], G') Q = Q (none, sI G' 124 44 (iv (max g p.2))) := by
    intro G' hG e
    simp only [x_205_85, x_205_86, x_205_87, x_205_90, x_205_91, x_205_92, x_205_95, x_205_98, x_205_99, x_205_102, x_205_103, x_205_106, x_205_109, o_124 hG, cl2_i, cl2_r, cl2_n, cl2_l, tl_s, tl_n, true_and, and_true, Option.some.injEq, exists_eq_left', Bool.and_self, Bool.true_and, Bool.and_true, Bool.or_true, Bool.true_or, i_10, i_00, if_true, if_false, not_true_eq_false, not_false_eq_true, and_false, false_and, okp_sI, okp_sL, okp_aI, okp_aL, hR_sI, hR_sL, hR_aI, hR_aL, e, iv_le r2 rg]
    by_cases q : p.2 ≤ g
    · rw [if_pos q, Int.max_eq_left q]
    · rw [if_neg q, Int.max_eq_right (by omega)]
  rw [e_205]
  simp only [x_205_0, x_205_1, x_205_4, x_205_7, x_205_8, x_205_11, x_205_12, o_124 hw, cl2_i, cl2_r, cl2_n, cl2_l, tl_s, tl_n, true_and, and_true, Option.some.injEq, exists_eq_left', Bool.and_self, Bool.true_and, Bool.and_true, Bool.or_true, Bool.true_or, i_10, i_00, if_true, if_false, not_true_eq_false, not_false_eq_true, and_false, false_and, okp_sI, okp_sL, okp_aI, okp_aL, hR_sI, hR_sL, hR_aI, hR_aL, h4]
  rw [t1 G hw a2, t2 (sI G 124 41 (iv (min a p.1))) hw (by rw [rd_ne (by omega)]; exact b2), t3 (sI (sI G 124 41 (iv (min a p.1))) 124 42 (iv (max b p.1))) hw (by rw [rd_ne (by omega), rd_ne (by omega)]; exact c2), t4 (sI (sI (sI G 124 41 (iv (min a p.1))) 124 42 (iv (max b p.1))) 124 43 (iv (min c p.2))) hw (by rw [rd_ne (by omega), rd_ne (by omega), rd_ne (by omega)]; exact g2)]
theorem m_setBoard (hw : WF G) (hn : n < 10000) (h4 : hI G 124 36 = nI n) (hl : L.length = n) (hp : Rv p) (hr : ∀ q, q ∈ L → Rv q) (hB : L ≠ [] → BdM G L) : ∃ W, Fq (fun a b => a = 124 ∧ 41 ≤ b ∧ b ≤ 44) G W ∧ BdM W (L ++ [p]) ∧ ∀ d Q, Tr sc d 205 (ent0 205 [.ref 124, .int (iv p.1), .int (iv p.2)] G) Q = Q (none, W) := by
  by_cases q : n = 0
  · have hL : L = [] := List.length_eq_zero_iff.mp (by omega)
    refine ⟨_, (((Fq.rf.sI (by omega)).sI (by omega)).sI (by omega)).sI (by omega), ⟨p.1, p.1, p.2, p.2, ⟨Lo_1 hL, ?_⟩, ⟨Hi_1 hL, ?_⟩, ⟨Lo_1 hL, ?_⟩, Hi_1 hL, ?_⟩, fun d Q => m_sb_1 hw (by rw [h4, q]; rfl)⟩
    · rw [rd_ne (by omega), rd_ne (by omega), rd_ne (by omega), rd_eq]
    · rw [rd_ne (by omega), rd_ne (by omega), rd_eq]
    · rw [rd_ne (by omega), rd_eq]
    · rw [rd_eq]
  · have hL : L ≠ [] := fun z => q (by rw [← hl, z]; rfl)
    obtain ⟨a, b, c, g, ⟨a1, a2⟩, ⟨b1, b2⟩, ⟨c1, c2⟩, g1, g2⟩ := hB hL
    have ra := lo_r (fun q hq => (Rv_r (hr q hq)).1) a1
    have rb := hi_r (fun q hq => (Rv_r (hr q hq)).1) b1
    have rc := lo_r (fun q hq => (Rv_r (hr q hq)).2) c1
    have rg := hi_r (fun q hq => (Rv_r (hr q hq)).2) g1
    refine ⟨_, (((Fq.rf.sI (by omega)).sI (by omega)).sI (by omega)).sI (by omega), ⟨min a p.1, max b p.1, min c p.2, max g p.2, ⟨Lo_s a1, ?_⟩, ⟨Hi_s b1, ?_⟩, ⟨Lo_s c1, ?_⟩, Hi_s g1, ?_⟩, fun d Q => m_sb_n hw (by rw [h4]; exact nI_ne0 (by omega) (by omega)) hp ra rb rc rg a2 b2 c2 g2⟩
    · rw [rd_ne (by omega), rd_ne (by omega), rd_ne (by omega), rd_eq]
    · rw [rd_ne (by omega), rd_ne (by omega), rd_eq]
    · rw [rd_ne (by omega), rd_eq]
    · rw [rd_eq]
theorem mPt_rw (R : RK g N) (hw : w ≤ N) : ∀ q, q ∈ mPt g w → Rv q := by
  intro q hq
  unfold mPt at hq
  obtain ⟨v, h1, h2⟩ := List.mem_map.mp hq
  obtain ⟨j, h3, h4⟩ := (rA_mem w).mp h1
  rw [← h2, ← h4]
  exact un2_rg (R j (by omega))
theorem cur_le (hw : w < N) : cur g w ≤ N := by
  have : ∀ n v, cnF g v n ≤ n := by
    intro n v
    induction n with
    | zero => exact Nat.le_refl _
    | succ n ih =>
      show cnF g v n + (if g n = v then 1 else 0) ≤ n + 1
      split <;> omega
  have := this (w + 1) (g w)
  unfold cur
  omega
theorem rM_le : ∀ w, rM g w ≤ w
  | 0 => Nat.le_refl _
  | w + 1 => by
    have := rM_le w
    have := cur_le (g := g) (w := w) (N := w + 1) (by omega)
    show max (rM g w) (cur g w) ≤ w + 1
    omega
/-- one key: its run is known -/
theorem m_rn_1 (hw : WF H) (hN : N ≤ 7776) (R : RK g N) (A : KA H g N) (hlt : w < N) (S : RnS H g w) : ∃ H', Fq P36 H H' ∧ RnS H' g (w + 1) ∧ ∀ d Q l3 l5, cl2 l3 = l3 → Tr sc (d + 1) 204 (188, [some (.ref 124), some (.int x), some (.int y), l3, some (.int (nI w)), l5], [.int (nI (cur g w))], H) Q = Tr sc (d + 1) 204 (147, [some (.ref 124), some (.int x), some (.int y), some (.int (nI (cur g w))), some (.int (nI (w + 1))), l5], [], H') Q := by
  obtain ⟨s1, s2, s3, s4⟩ := S
  have cl := cur_le (g := g) hlt
  have rl := rM_le (g := g) w
  have ml := mPt_len (g := g) (w := w)
  have eM : rM g (w + 1) = max (rM g w) (cur g w) := rfl
  have lead : ∀ d Q l3 l5, cl2 l3 = l3 → Tr sc (d + 1) 204 (188, [some (.ref 124), some (.int x), some (.int y), l3, some (.int (nI w)), l5], [.int (nI (cur g w))], H) Q = Tr sc (d + 1) 204 (209, [some (.ref 124), some (.int x), some (.int y), some (.int (nI (cur g w))), some (.int (nI w)), l5], [], sI H 124 37 (nI (rM g (w + 1)))) Q := by
    intro d Q l3 l5 h3
    simp only [x_204_188, x_204_189, x_204_190, x_204_191, x_204_192, x_204_195, x_204_198, x_204_199, x_204_202, x_204_203, x_204_206, o_124 hw, cl2_i, cl2_r, cl2_n, cl2_l, tl_s, tl_n, true_and, and_true, Option.some.injEq, exists_eq_left', Bool.and_self, Bool.true_and, Bool.and_true, Bool.or_true, Bool.true_or, i_10, i_00, if_true, if_false, not_true_eq_false, not_false_eq_true, and_false, false_and, okp_sI, okp_sL, okp_aI, okp_aL, hR_sI, hR_sL, hR_aI, hR_aL, h3, s2]
    by_cases q : cur g w ≤ rM g w
    · rw [if_pos (nI_le q (by omega)), eM, Nat.max_eq_left q]
    · rw [if_neg (nI_ge (by omega) (by omega)), eM, Nat.max_eq_right (by omega)]
  by_cases q : cur g w = 1
  · have em : mPt g (w + 1) = mPt g w ++ [un2 (g w)] := by rw [mPt_s, if_pos q]
    have ll : (mPt g w ++ [un2 (g w)]).length = (mPt g w).length + 1 := by rw [List.length_append]; rfl
    have gz := R w hlt
    have ug := un2_rg (g := g) (w := w) gz
    generalize hn : (mPt g w).length = n at *
    generalize hG : sI (sI (sI H 124 37 (nI (rM g (w + 1)))) 146 n (iv (un2 (g w)).1)) 147 n (iv (un2 (g w)).2) = G
    have fG : Fq (fun a b => (a = 124 ∧ b = 37) ∨ (a = 146 ∧ b = n) ∨ (a = 147 ∧ b = n)) H G := by
      rw [← hG]
      exact ((Fq.rf.sI (by omega)).sI (by omega)).sI (by omega)
    have hwG := fG.WF hw
    have g6 : hI G 146 n = iv (un2 (g w)).1 := by rw [← hG, rd_ne (by omega), rd_eq]
    have g7 : hI G 147 n = iv (un2 (g w)).2 := by rw [← hG, rd_eq]
    have g37 : hI G 124 37 = nI (rM g (w + 1)) := by rw [← hG, rd_ne (by omega), rd_ne (by omega), rd_eq]
    have g36 : hI G 124 36 = nI n := by rw [fG.i (by omega)]; exact s1
    obtain ⟨W, fW, bW, eW⟩ := m_setBoard (sc := sc) (L := mPt g w) (p := un2 (g w)) hwG (show n < 10000 by omega) g36 hn ug (mPt_rw R (by omega)) (fun z => by
      obtain ⟨a, b, c, g, ⟨a1, a2⟩, ⟨b1, b2⟩, ⟨c1, c2⟩, g1, g2⟩ := s4 z
      refine ⟨a, b, c, g, ⟨a1, ?_⟩, ⟨b1, ?_⟩, ⟨c1, ?_⟩, g1, ?_⟩
      · rw [fG.i (by omega)]; exact a2
      · rw [fG.i (by omega)]; exact b2
      · rw [fG.i (by omega)]; exact c2
      · rw [fG.i (by omega)]; exact g2)
    have hwW := fW.WF hwG
    have fF : Fq (fun a b => a = 124 ∧ b = 36) W (sI W 124 36 (nI (n + 1))) := Fq.rf.sI ⟨rfl, rfl⟩
    refine ⟨sI W 124 36 (nI (n + 1)), (fG.wk (fun a b z => by unfold P36; omega)).tr ((fW.wk (fun a b z => by unfold P36; omega)).tr (fF.wk (fun a b z => by unfold P36; omega))), ?_, fun d Q l3 l5 h3 => ?_⟩
    · unfold RnS
      rw [em, ll]
      refine ⟨by rw [rd_eq], by rw [fF.i (by omega), fW.i (by omega)]; exact g37, fun j hj => ?_, fun _ => ?_⟩
      · by_cases ej : j = n
        · subst ej
          rw [← hn, gd_app2, hn]
          exact ⟨by rw [fF.i (by omega), fW.i (by omega)]; exact g6, by rw [fF.i (by omega), fW.i (by omega)]; exact g7⟩
        · rw [gd_app1 (by omega), fF.i (by omega), fW.i (by omega), fG.i (by omega), fF.i (by omega), fW.i (by omega), fG.i (by omega)]
          exact s3 j (by omega)
      · obtain ⟨a, b, c, g, ⟨a1, a2⟩, ⟨b1, b2⟩, ⟨c1, c2⟩, g1, g2⟩ := bW
        refine ⟨a, b, c, g, ⟨a1, ?_⟩, ⟨b1, ?_⟩, ⟨c1, ?_⟩, g1, ?_⟩
        · rw [fF.i (by omega)]; exact a2
        · rw [fF.i (by omega)]; exact b2
        · rw [fF.i (by omega)]; exact c2
        · rw [fF.i (by omega)]; exact g2
    · rw [lead d Q l3 l5 h3, q]
      have el : jv (g w) = lN (g w).toNat := by rw [lN_jv, Int.toNat_of_nonneg gz.1]
      have ed := pk_lDiv (a := (g w).toNat) (b := 4000000) (by omega) (by decide) (by decide)
      have er := pk_lRem (a := (g w).toNat) (b := 4000000) (by omega) (by decide) (by decide)
      rw [show lN 4000000 = 4000000 from rfl] at ed er
      rw [ed] at er
      have e4 : ¬ ((4000000 : Int64) = 0) := by decide
      have x1 : (lN ((g w).toNat % 4000000) - 1000000).toInt32 = iv (un2 (g w)).1 := by
        rw [lN_jv, show (1000000 : Int64) = jv 1000000 from rfl, jv_sub, jv_i]
        congr 1
        show _ = g w % 4000000 - 1000000
        omega
      have x2 : (lN ((g w).toNat / 4000000) - 1000000).toInt32 = iv (un2 (g w)).2 := by
        rw [lN_jv, show (1000000 : Int64) = jv 1000000 from rfl, jv_sub, jv_i]
        congr 1
        show _ = g w / 4000000 - 1000000
        omega
      simp only [x_204_209, x_204_210, x_204_211, x_204_214, x_204_215, x_204_218, x_204_219, x_204_222, x_204_223, x_204_226, x_204_228, x_204_229, x_204_232, x_204_233, x_204_236, x_204_237, x_204_238, x_204_239, x_204_240, x_204_243, x_204_244, x_204_247, x_204_248, x_204_251, x_204_253, x_204_254, x_204_257, x_204_258, x_204_261, x_204_262, x_204_263, o_124 hw, w_124_38 hw, w_124_39 hw, w_124_40 hw, o_146 hw, iOk_lt (k := 146) (by decide), iRd_lt (k := 146) (by decide), show LN 146 = 7776 from rfl, o_145 hw, show LN 145 = 7776 from rfl, o_147 hw, iOk_lt (k := 147) (by decide), iRd_lt (k := 147) (by decide), show LN 147 = 7776 from rfl, cl2_i, cl2_r, cl2_n, cl2_l, tl_s, tl_n, true_and, and_true, Option.some.injEq, exists_eq_left', Bool.and_self, Bool.true_and, Bool.and_true, Bool.or_true, Bool.true_or, i_10, i_00, if_true, if_false, not_true_eq_false, not_false_eq_true, and_false, false_and, okp_sI, okp_sL, okp_aI, okp_aL, hR_sI, hR_sL, hR_aI, hR_aL, show nI 1 = 1 from rfl, if_true, ne_eq, rd_ne (H := H) (q := 124) (i := 37) (a := 124) (j := 36) (Or.inr (by decide)), hL_sI, s1, inb_nI (n := 7776) (show n < 7776 by omega) (by decide), nI_clamp (n := n) (by omega), inb_nI (n := 7776) (show w < 7776 by omega) (by decide), nI_clamp (n := w) (by omega), A w hlt, el, ed, er, e4, x1, x2, rd_ne (q := 146) (a := 124) (Or.inl (by decide))]
      rw [hG]
      simp only [x_204_264, x_204_265, x_204_266, x_204_269, x_204_270, x_204_273, x_204_274, x_204_275, x_204_278, x_204_279, x_204_282, x_204_283, o_124 hwG, w_124_39 hwG, w_124_40 hwG, o_146 hwG, iOk_lt (k := 146) (by decide), iRd_lt (k := 146) (by decide), show LN 146 = 7776 from rfl, o_147 hwG, iOk_lt (k := 147) (by decide), iRd_lt (k := 147) (by decide), show LN 147 = 7776 from rfl, cl2_i, cl2_r, cl2_n, cl2_l, tl_s, tl_n, true_and, and_true, Option.some.injEq, exists_eq_left', Bool.and_self, Bool.true_and, Bool.and_true, Bool.or_true, Bool.true_or, i_10, i_00, if_true, if_false, not_true_eq_false, not_false_eq_true, and_false, false_and, okp_sI, okp_sL, okp_aI, okp_aL, hR_sI, hR_sL, hR_aI, hR_aL, g36, inb_nI (n := 7776) (show n < 7776 by omega) (by decide), nI_clamp (n := n) (by omega), g6, g7, eW]
      simp only [x_204_286, x_204_287, x_204_288, x_204_291, x_204_292, x_204_293, x_204_296, x_204_299, o_124 hwW, cl2_i, cl2_r, cl2_n, cl2_l, tl_s, tl_n, true_and, and_true, Option.some.injEq, exists_eq_left', Bool.and_self, Bool.true_and, Bool.and_true, Bool.or_true, Bool.true_or, i_10, i_00, if_true, if_false, not_true_eq_false, not_false_eq_true, and_false, false_and, okp_sI, okp_sL, okp_aI, okp_aL, hR_sI, hR_sL, hR_aI, hR_aL, fW.i (a := 124) (b := 36) (by omega), g36, nI_1]
  · have em : mPt g (w + 1) = mPt g w := by rw [mPt_s, if_neg q]
    have fF : Fq (fun a b => a = 124 ∧ b = 37) H (sI H 124 37 (nI (rM g (w + 1)))) := Fq.rf.sI ⟨rfl, rfl⟩
    refine ⟨sI H 124 37 (nI (rM g (w + 1))), fF.wk (fun a b z => by unfold P36; omega), ?_, fun d Q l3 l5 h3 => ?_⟩
    · unfold RnS
      rw [em]
      refine ⟨by rw [fF.i (by omega)]; exact s1, rd_eq, fun j hj => ?_, fun z => ?_⟩
      · rw [fF.i (by omega), fF.i (by omega)]; exact s3 j hj
      · obtain ⟨a, b, c, g, ⟨a1, a2⟩, ⟨b1, b2⟩, ⟨c1, c2⟩, g1, g2⟩ := s4 z
        refine ⟨a, b, c, g, ⟨a1, ?_⟩, ⟨b1, ?_⟩, ⟨c1, ?_⟩, g1, ?_⟩
        · rw [fF.i (by omega)]; exact a2
        · rw [fF.i (by omega)]; exact b2
        · rw [fF.i (by omega)]; exact c2
        · rw [fF.i (by omega)]; exact g2
    · rw [lead d Q l3 l5 h3]
      have ne : (nI (cur g w) = 1) = False := eq_false (fun z => q ((nI_eq (b := 1) (by omega) (by decide)).mp z))
      simp only [x_204_209, x_204_210, x_204_211, x_204_296, x_204_299, cl2_i, cl2_r, cl2_n, cl2_l, tl_s, tl_n, true_and, and_true, Option.some.injEq, exists_eq_left', Bool.and_self, Bool.true_and, Bool.and_true, Bool.or_true, Bool.true_or, i_10, i_00, if_true, if_false, not_true_eq_false, not_false_eq_true, and_false, false_and, okp_sI, okp_sL, okp_aI, okp_aL, hR_sI, hR_sL, hR_aI, hR_aL, ne, nI_1]
theorem m_rn (hw : WF h) (hN : N ≤ 7776) (R : RK g N) (so : ∀ x y, x ≤ y → y < N → g x ≤ g y) (A : KA h g N) (hc : hI h 124 31 = nI N) : ∀ (m w : Nat) (H : PH), w + m = N → Fq P36 h H → RnS H g w → ∃ H', Fq P36 h H' ∧ RnS H' g N ∧ ∀ d Q l5, Tr sc (d + 1) 204 (147, [some (.ref 124), some (.int x), some (.int y), some (.int (if w = 0 then 0 else nI (cur g (w - 1)))), some (.int (nI w)), l5], [], H) Q = Q (none, H') := by
  intro m
  induction m with
  | zero =>
    intro w H hm F S
    have e : w = N := by omega
    subst e
    have hwH := F.WF hw
    refine ⟨H, F, S, fun d Q l5 => ?_⟩
    rw [x_204_147]
    simp only [x_204_149, x_204_150, x_204_153, o_124 hwH, x_204_302, cl2_i, cl2_r, cl2_n, cl2_l, tl_s, tl_n, true_and, and_true, Option.some.injEq, exists_eq_left', Bool.and_self, Bool.true_and, Bool.and_true, Bool.or_true, Bool.true_or, i_10, i_00, if_true, if_false, not_true_eq_false, not_false_eq_true, and_false, false_and, okp_sI, okp_sL, okp_aI, okp_aL, hR_sI, hR_sL, hR_aI, hR_aL, F.i (a := 124) (b := 31) (by unfold P36; omega), hc]
    rw [if_pos (Int32.le_refl _)]
  | succ m ih =>
    intro w H hm F S
    have hlt : w < N := by omega
    have hwH := F.WF hw
    have A' : KA H g N := fun j hj => by rw [F.l (by unfold P36; omega)]; exact A j hj
    obtain ⟨H1, F1, S1, eq1⟩ := m_rn_1 (sc := sc) (x := x) (y := y) hwH hN R A' hlt S
    obtain ⟨H', F', S', eq'⟩ := ih (w + 1) H1 (by omega) (F.tr F1) S1
    refine ⟨H', F', S', fun d Q l5 => ?_⟩
    have cl := cur_le (g := g) hlt
    have e1 := eq' d Q l5
    rw [if_neg (Nat.succ_ne_zero w), Nat.add_sub_cancel] at e1
    have cs := cur_s (g := g) so hlt
    rw [x_204_147]
    simp only [x_204_149, x_204_150, x_204_153, x_204_156, x_204_158, o_124 hwH, cl2_i, cl2_r, cl2_n, cl2_l, tl_s, tl_n, true_and, and_true, Option.some.injEq, exists_eq_left', Bool.and_self, Bool.true_and, Bool.and_true, Bool.or_true, Bool.true_or, i_10, i_00, if_true, if_false, not_true_eq_false, not_false_eq_true, and_false, false_and, okp_sI, okp_sL, okp_aI, okp_aL, hR_sI, hR_sL, hR_aI, hR_aL, F.i (a := 124) (b := 31) (by unfold P36; omega), hc]
    rw [if_neg (nI_ge hlt (by omega))]
    by_cases q : w = 0
    · subst q
      rw [if_neg (fun z => Nat.lt_irrefl 0 z.1)] at cs
      rw [nI_0, if_pos (by decide), if_pos rfl]
      simp only [x_204_187, cl2_i, cl2_r, cl2_n, cl2_l, tl_s, tl_n, true_and, and_true, Option.some.injEq, exists_eq_left', Bool.and_self, Bool.true_and, Bool.and_true, Bool.or_true, Bool.true_or, i_10, i_00, if_true, if_false, not_true_eq_false, not_false_eq_true, and_false, false_and, okp_sI, okp_sL, okp_aI, okp_aL, hR_sI, hR_sL, hR_aI, hR_aL]
      have e2 := eq1 d Q (some (.int 0)) l5 rfl
      rw [cs] at e2
      refine e2.trans ?_
      rw [cs] at e1
      exact e1
    · rw [if_neg (nI_nle (by omega) (by omega)), if_neg q]
      obtain ⟨v, rfl⟩ : ∃ v, w = v + 1 := ⟨w - 1, by omega⟩
      have c1 := cur_le (g := g) (w := v) (N := N) (by omega)
      rw [Nat.add_sub_cancel] at cs ⊢
      simp only [x_204_161, x_204_162, x_204_165, x_204_167, x_204_168, x_204_169, x_204_172, x_204_174, x_204_175, x_204_176, x_204_177, x_204_178, o_124 hwH, w_124_38 hwH, o_145 hwH, show LN 145 = 7776 from rfl, cl2_i, cl2_r, cl2_n, cl2_l, tl_s, tl_n, true_and, and_true, Option.some.injEq, exists_eq_left', Bool.and_self, Bool.true_and, Bool.and_true, Bool.or_true, Bool.true_or, i_10, i_00, if_true, if_false, not_true_eq_false, not_false_eq_true, and_false, false_and, okp_sI, okp_sL, okp_aI, okp_aL, hR_sI, hR_sL, hR_aI, hR_aL, nI_pred, inb_nI (n := 7776) (show v < 7776 by omega) (by decide), nI_clamp (n := v) (by omega), inb_nI (n := 7776) (show v + 1 < 7776 by omega) (by decide), nI_clamp (n := v + 1) (by omega), A' v (by omega), A' (v + 1) hlt, lcmp_0, jv_eq (rk_r R hlt) (rk_r R (show v < N by omega))]
      by_cases r : g (v + 1) = g v
      · rw [if_pos ⟨by omega, r⟩] at cs
        rw [if_pos r]
        simp only [x_204_181, x_204_182, x_204_183, x_204_184, cl2_i, cl2_r, cl2_n, cl2_l, tl_s, tl_n, true_and, and_true, Option.some.injEq, exists_eq_left', Bool.and_self, Bool.true_and, Bool.and_true, Bool.or_true, Bool.true_or, i_10, i_00, if_true, if_false, not_true_eq_false, not_false_eq_true, and_false, false_and, okp_sI, okp_sL, okp_aI, okp_aL, hR_sI, hR_sL, hR_aI, hR_aL, nI_1]
        rw [← cs]
        exact (eq1 d Q _ l5 rfl).trans e1
      · rw [if_neg (fun z => r z.2)] at cs
        rw [if_neg r]
        simp only [x_204_187, cl2_i, cl2_r, cl2_n, cl2_l, tl_s, tl_n, true_and, and_true, Option.some.injEq, exists_eq_left', Bool.and_self, Bool.true_and, Bool.and_true, Bool.or_true, Bool.true_or, i_10, i_00, if_true, if_false, not_true_eq_false, not_false_eq_true, and_false, false_and, okp_sI, okp_sL, okp_aI, okp_aL, hR_sI, hR_sL, hR_aI, hR_aL]
        have e2 := eq1 d Q (some (.int (nI (cur g v)))) l5 rfl
        rw [cs] at e2 e1
        exact e2.trans e1
theorem m_setPoints (hw : WF h) (hs : s < 8) (D : ShM h s kd b M tn sx sy ex) (W : ShW kd b M tn sx sy ex) (hn : N ≤ 5) : ∃ H P, Fq P47 h H ∧ PtM H ((Ws b M tn sx sy kd ex N).map ptW) P ∧ ∀ Q, Tr sc (d + 2) 204 (ent0 204 [.ref 124, .int (nI s), .int (nI N)] h) Q = Q (none, H) := by
  have hM := W.2.2.1
  obtain ⟨⟨r1, H1⟩, ⟨e1, f1, c1, a1⟩, eq1⟩ := Tr_ex (m_setWords (sc := sc) (d := d) (Q := fun r => r.1 = none ∧ Fq P4 h r.2 ∧ hI r.2 124 31 = nI (Ws b M tn sx sy kd ex N).length ∧ ∀ j, j < (Ws b M tn sx sy kd ex N).length → WA r.2 j ((Ws b M tn sx sy kd ex N).getD j w0)) hw hs D W hn (fun H f c a => ⟨rfl, f, c, a⟩))
  dsimp only at e1 f1 c1 a1
  subst e1
  have wl := Ws_len (b := b) (tn := tn) (sx := sx) (sy := sy) (kd := kd) (ex := ex) hM.1 N
  have hl : (Ws b M tn sx sy kd ex N).length ≤ 7776 := by
    refine Nat.le_trans wl ?_
    have h2 := Nat.pow_le_pow_left hM.2 N
    have h3 := Nat.pow_le_pow_right (show 0 < 6 by decide) (show N ≤ 5 by omega)
    have h4 : (6 : Nat) ^ 5 = 7776 := by decide
    omega
  have hR : ∀ u, u ∈ Ws b M tn sx sy kd ex N → Rg (ptW u) := fun u hu => Ws_rg W.2.1 (sw_b W) hn u hu
  generalize Ws b M tn sx sy kd ex N = L at *
  have hw1 := f1.WF hw
  have ll : (L.map ptW).length = L.length := List.length_map ..
  have hRm : ∀ q, q ∈ L.map ptW → Rw q := fun q hq => by
    obtain ⟨u, h1, h2⟩ := List.mem_map.mp hq
    rw [← h2]; exact Rg_w (hR u h1)
  obtain ⟨H2, f2, a2, eq2⟩ := m_kl (sc := sc) (x := nI s) (y := nI N) hw1 hl a1 hR c1 L.length 0 H1 (by omega) Fq.rf (fun j hj => absurd hj (Nat.not_lt_zero _))
  have R2 : RK (kf (L.map ptW)) L.length := fun j hj => by
    unfold kf
    exact ky2_b (hRm _ (gd_mem (by omega)))
  have hc2 : hI H2 124 31 = nI L.length := by rw [f2.i (by unfold P45; omega)]; exact c1
  have hw2 := f2.WF hw1
  obtain ⟨H3, g3, f3, R3', a3, p3, n3, eq3⟩ := m_hl (sc := sc) (x := nI s) (y := nI N) hw2 hl hc2 (L.length / 2 + 1) (kf (L.map ptW)) H2 (by omega) Fq.rf R2 a2 hp_0
  have hw3 := f3.WF hw2
  have hc3 : hI H3 124 31 = nI L.length := by rw [f3.i (by unfold P45; omega)]; exact hc2
  have st : ∃ H4 g, Fq P45 H3 H4 ∧ RK g L.length ∧ KA H4 g L.length ∧ (∀ x y, x ≤ y → y < L.length → g x ≤ g y) ∧ (∀ v, cnF g v L.length = cnF g3 v L.length) ∧ ∀ Q, ∃ l3 l4 l5, cl2 l3 = l3 ∧ Tr sc (d + 2) 204 (81, [some (.ref 124), some (.int (nI s)), some (.int (nI N)), some (.int (-1)), none, none], [], H3) Q = Tr sc (d + 2) 204 (132, [some (.ref 124), some (.int (nI s)), some (.int (nI N)), l3, l4, l5], [], H4) Q := by
    by_cases q : L.length = 0
    · refine ⟨H3, g3, Fq.rf, R3', a3, fun x y _ hy => by omega, fun v => rfl, fun Q => ⟨some (.int (-1)), none, none, rfl, ?_⟩⟩
      simp only [x_204_81, x_204_82, x_204_85, x_204_86, x_204_87, x_204_88, x_204_89, o_124 hw3, cl2_i, cl2_r, cl2_n, cl2_l, tl_s, tl_n, true_and, and_true, Option.some.injEq, exists_eq_left', Bool.and_self, Bool.true_and, Bool.and_true, Bool.or_true, Bool.true_or, i_10, i_00, if_true, if_false, not_true_eq_false, not_false_eq_true, and_false, false_and, okp_sI, okp_sL, okp_aI, okp_aL, hR_sI, hR_sL, hR_aI, hR_aL, hc3, q, nI_0, show (0 : Int32) - 1 = -1 from rfl, show ((-1 : Int32) ≤ 0) = True from eq_true (by decide)]
    · obtain ⟨v, hv⟩ : ∃ v, L.length = v + 1 := ⟨L.length - 1, by omega⟩
      obtain ⟨H4, g, f4, R4, a4, p4, n4, eq4⟩ := m_ol (sc := sc) (x := nI s) (y := nI N) hw3 hl hc3 v g3 H3 none none (by omega) Fq.rf R3' a3 (by rw [← hv]; exact hso_0 p3)
      refine ⟨H4, g, f4, R4, a4, hso_1 p4, n4, fun Q => ?_⟩
      obtain ⟨l4, l5, eq4'⟩ := eq4 (d + 1) Q
      refine ⟨some (.int 0), l4, l5, rfl, ?_⟩
      rw [← eq4']
      simp only [x_204_81, x_204_82, x_204_85, x_204_86, x_204_87, o_124 hw3, cl2_i, cl2_r, cl2_n, cl2_l, tl_s, tl_n, true_and, and_true, Option.some.injEq, exists_eq_left', Bool.and_self, Bool.true_and, Bool.and_true, Bool.or_true, Bool.true_or, i_10, i_00, if_true, if_false, not_true_eq_false, not_false_eq_true, and_false, false_and, okp_sI, okp_sL, okp_aI, okp_aL, hR_sI, hR_sL, hR_aI, hR_aL, hc3, hv, nI_pred]
  obtain ⟨H4, g, f4, R4, a4, so4, n4, eq4⟩ := st
  have hw4 := f4.WF hw3
  have hc4 : hI H4 124 31 = nI L.length := by rw [f4.i (by unfold P45; omega)]; exact hc3
  have f5 : Fq P36 H4 (sI (sI H4 124 36 0) 124 37 0) := (Fq.rf.sI (by unfold P36; omega)).sI (by unfold P36; omega)
  have hw5 := f5.WF hw4
  obtain ⟨H6, f6, s6, eq6⟩ := m_rn (sc := sc) (x := nI s) (y := nI N) hw5 hl R4 so4 (fun j hj => by rw [f5.l (by unfold P36; omega)]; exact a4 j hj) (by rw [f5.i (by unfold P36; omega)]; exact hc4) L.length 0 _ (by omega) Fq.rf ⟨by rw [rd_ne (by omega), rd_eq]; rfl, by rw [rd_eq]; rfl, fun j hj => absurd hj (Nat.not_lt_zero _), fun z => absurd rfl z⟩
  obtain ⟨s1, s2, s3, s4⟩ := s6
  have cn : ∀ v, cnF g v (L.map ptW).length = cnF (kf (L.map ptW)) v (L.map ptW).length := fun v => by rw [ll, n4, n3]
  have so : ∀ x y, x ≤ y → y < (L.map ptW).length → g x ≤ g y := by rw [ll]; exact so4
  refine ⟨H6, mPt g L.length, ?_, ?_, fun Q => ?_⟩
  · exact (f1.wk (fun a b q => by unfold P4 at q; unfold P47; omega)).tr ((f2.wk (fun a b q => by unfold P45 at q; unfold P47; omega)).tr ((f3.wk (fun a b q => by unfold P45 at q; unfold P47; omega)).tr ((f4.wk (fun a b q => by unfold P45 at q; unfold P47; omega)).tr ((f5.wk (fun a b q => by unfold P36 at q; unfold P47; omega)).tr (f6.wk (fun a b q => by unfold P36 at q; unfold P47; omega))))))
  · refine ⟨s1, ⟨rM g L.length, ?_, s2⟩, s3, s4, ?_, ?_, ?_, ?_⟩
    · rw [← ll]; exact rM_L hRm cn
    · rw [← ll]; exact mPt_nd hRm cn so
    · rw [← ll]; exact fun p => mPt_mem hRm cn
    · unfold mPt
      rw [List.map_map]
      have e : (rA g L.length).map (ky2 ∘ un2) = rA g L.length := by
        have : (rA g L.length).map (ky2 ∘ un2) = (rA g L.length).map id := List.map_congr_left (fun v hv => by
          obtain ⟨j, h1, h2⟩ := (rA_mem _).mp hv
          have := R4 j h1
          show (v / 4000000 - 1000000 + 1000000) * 4000000 + (v % 4000000 - 1000000) + 1000000 = v
          omega)
        rw [this, List.map_id]
      rw [e]
      exact rA_lt so4 _ (Nat.le_refl _)
    · rw [← ll, ← pts_len hRm cn so]
      unfold mPt
      rw [List.length_map]
  · obtain ⟨l3, l4, l5, h3, eq4'⟩ := eq4 Q
    have e2 := pk_div (a := L.length) (d := 2) (by omega) (by decide) (by decide)
    rw [show nI 2 = 2 from rfl] at e2
    have ei : nI (L.length / 2) = iv (((L.length / 2 + 1 : Nat) : Int) - 1) := by rw [iv_n]; congr 1; omega
    rw [e_204]
    simp only [x_204_0, x_204_1, x_204_2, x_204_3, x_204_6, x_204_7, o_124 hw, cl2_i, cl2_r, cl2_n, cl2_l, tl_s, tl_n, true_and, and_true, Option.some.injEq, exists_eq_left', Bool.and_self, Bool.true_and, Bool.and_true, Bool.or_true, Bool.true_or, i_10, i_00, if_true, if_false, not_true_eq_false, not_false_eq_true, and_false, false_and, okp_sI, okp_sL, okp_aI, okp_aL, hR_sI, hR_sL, hR_aI, hR_aL, eq1]
    refine (eq2 (d + 2) Q none none).trans ?_
    simp only [x_204_55, x_204_56, x_204_59, x_204_60, x_204_61, o_124 hw2, cl2_i, cl2_r, cl2_n, cl2_l, tl_s, tl_n, true_and, and_true, Option.some.injEq, exists_eq_left', Bool.and_self, Bool.true_and, Bool.and_true, Bool.or_true, Bool.true_or, i_10, i_00, if_true, if_false, not_true_eq_false, not_false_eq_true, and_false, false_and, okp_sI, okp_sL, okp_aI, okp_aL, hR_sI, hR_sL, hR_aI, hR_aL, hc2, e2, ei, show ¬ ((2 : Int32) = 0) by decide]
    refine (eq3 (d + 1) Q none none).trans ?_
    refine eq4'.trans ?_
    simp only [x_204_132, x_204_133, x_204_134, x_204_137, x_204_138, x_204_139, x_204_142, x_204_143, x_204_144, x_204_145, o_124 hw4, cl2_i, cl2_r, cl2_n, cl2_l, tl_s, tl_n, true_and, and_true, Option.some.injEq, exists_eq_left', Bool.and_self, Bool.true_and, Bool.and_true, Bool.or_true, Bool.true_or, i_10, i_00, if_true, if_false, not_true_eq_false, not_false_eq_true, and_false, false_and, okp_sI, okp_sL, okp_aI, okp_aL, hR_sI, hR_sL, hR_aI, hR_aL, h3]
    exact eq6 (d + 1) Q l5
end RN
