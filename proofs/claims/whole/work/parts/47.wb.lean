/-! ===== weighed ===== -/
section WB
variable {sc : Nat × (Nat → Int32)} {d : Nat} {Q : PRes → Prop} {h : PH} {k s u r q : Nat} {x y z : Int32}
theorem nI_lt' {a b : Nat} (ha : a < 2 ^ 31) (hb : b < 2 ^ 31) (e : nI a < nI b) : a < b := by
  have h1 := Int32.lt_iff_toInt_lt.mp e
  rw [nI_toInt ha, nI_toInt hb] at h1
  omega
theorem mz (c : CMs h) (hu : u < 8) : ∃ M, M ≤ 6 ∧ hI h 134 u = nI M := by
  by_cases e : hI h 134 u = 0
  · exact ⟨0, by decide, e⟩
  · obtain ⟨⟨-, -, ⟨m1, m2⟩, -⟩, -, -, b3, -⟩ := sh_at c hu e
    obtain ⟨M, hM, hz⟩ := nI_of2 (x := hI h (68 + 7 * u) 8) (M := 6) (n := 6) rfl (Int32.not_lt.mpr (i_le0 m1)) m2
    exact ⟨M, hM, by rw [b3, hz]⟩
theorem cm_more {h1 h2 h3 : PH} {kd : Int32} {M : Nat} (hc : CM h) (hs : s < 8) (hu : u < 8) (hr : r < 6) (hn : ¬ hI h 134 u = 0) (hkd : kd = 3 ∨ kd = 4) (hM : M ≤ 6) (hz : hI h 134 u = nI M) (ta : TkM h h1 (68 + 7 * s) (69 + 7 * s) (70 + 7 * s) (71 + 7 * s) (hI h (68 + 7 * u) 7) M (hI h (69 + 7 * u)) (hI h (70 + 7 * u)) (hI h (71 + 7 * u))) (tb : TkE h1 h2 (68 + 7 * s) (72 + 7 * s) kd M (hI h1 (49 + 2 * r))) (tc : MvE h2 h3 s u r M kd) (ok : ∀ j, j < M → (kd = 3 → 1 ≤ hI h (49 + 2 * r) j ∧ hI h (49 + 2 * r) j ≤ 99) ∧ (kd = 4 → 0 ≤ hI h (49 + 2 * r) j ∧ hI h (49 + 2 * r) j < 1 <<< (nI M &&& 31))) : CM h3 := by
  obtain ⟨hw, hf, hr', ht, hs'⟩ := hc
  obtain ⟨fa, a7, a8, -, a5⟩ := ta
  obtain ⟨fb, b6, b7, b8, b3⟩ := tb
  obtain ⟨fc, c2, c8, c3, c4, c5, c6, c7⟩ := tc
  have ft : Fr (fun a => (68 + 7 * s ≤ a ∧ a ≤ 72 + 7 * s) ∨ (132 ≤ a ∧ a ≤ 138)) h h3 := ((fa.wk (fun a q => by omega)).tr (fb.wk (fun a q => by omega))).tr (fc.wk (fun a q => by omega))
  refine ⟨Fr_WF ft hw, CMf_fr ft (fun a q z => by omega) hf, CMr_fr ft (fun a q z => by omega) hr', CMt_fr ft (fun a q z => by omega) ht, fun t ht8 => ?_⟩
  have h21 : ∀ a, 132 ≤ a → a ≤ 138 → ∀ b, hI h2 a b = hI h a b := fun a z1 z2 b => (fb.2.2 a (by omega) b).1.trans (fa.2.2 a (by omega) b).1
  have h2r : ∀ b, hI h2 127 b = hI h 127 b := fun b => (fb.2.2 127 (by omega) b).1.trans (fa.2.2 127 (by omega) b).1
  have h1r : ∀ b, hI h1 (49 + 2 * r) b = hI h (49 + 2 * r) b := fun b => (fa.2.2 _ (by omega) b).1
  by_cases e : t = s
  · subst e
    refine Or.inr ?_
    obtain ⟨⟨-, kb, ⟨km1, km2⟩, kt⟩, k1, k2, k3, k4⟩ := sh_at hs' hu hn
    have hz2 : hI h (68 + 7 * u) 8 = nI M := by rw [← k3]; exact hz
    rw [hz2] at kt k4 km1 km2
    have g6 : hI h3 (68 + 7 * t) 6 = kd := by rw [(fc.2.2 _ (by omega) 6).1]; exact b6
    have g7 : hI h3 (68 + 7 * t) 7 = hI h (68 + 7 * u) 7 := by rw [(fc.2.2 _ (by omega) 7).1, b7]; exact a7
    have g8 : hI h3 (68 + 7 * t) 8 = nI M := by rw [(fc.2.2 _ (by omega) 8).1, b8]; exact a8
    have gt : ∀ j, j < M → hI h3 (69 + 7 * t) j = hI h (69 + 7 * u) j := fun j hj => by rw [(fc.2.2 _ (by omega) j).1, (fb.2.2 _ (by omega) j).1]; exact (a5 j hj).1
    have gx : ∀ j, j < M → hI h3 (70 + 7 * t) j = hI h (70 + 7 * u) j := fun j hj => by rw [(fc.2.2 _ (by omega) j).1, (fb.2.2 _ (by omega) j).1]; exact (a5 j hj).2.1
    have gy : ∀ j, j < M → hI h3 (71 + 7 * t) j = hI h (71 + 7 * u) j := fun j hj => by rw [(fc.2.2 _ (by omega) j).1, (fb.2.2 _ (by omega) j).1]; exact (a5 j hj).2.2
    have ge : ∀ j, j < M → hI h3 (72 + 7 * t) j = hI h (49 + 2 * r) j := fun j hj => by rw [(fc.2.2 _ (by omega) j).1, b3 j hj]; exact h1r j
    rw [g6, g7, g8]
    refine ⟨⟨?_, kb, ⟨km1, km2⟩, fun i hi hi6 => ?_⟩, ?_, ?_, ?_, fun i hi6 hi => ?_⟩
    · rcases hkd with z | z <;> rw [z] <;> decide
    · have hiM := nI_lt' (by omega) (by omega) hi
      obtain ⟨t1, t2, t3, -⟩ := kt i hi hi6
      rw [gt i hiM, gx i hiM, gy i hiM, ge i hiM]
      refine ⟨t1, t2, t3, fun q => ?_, (ok i hiM).1, (ok i hiM).2⟩
      rcases hkd with z | z <;> rw [z] at q <;> exact absurd q (by decide)
    · rw [c2, if_pos rfl]
    · rw [c3, if_pos rfl, h21 133 (by decide) (by decide)]; exact k2
    · rw [c4, if_pos rfl, h21 134 (by decide) (by decide)]; exact hz
    · have hiM := nI_lt' (by omega) (by omega) hi
      obtain ⟨q1, q2, q3, -⟩ := k4 i hi6 hi
      rw [gt i hiM, gx i hiM, gy i hiM, ge i hiM, c5, c6, c7, c8, if_pos (by omega), if_pos (by omega), if_pos (by omega), if_pos (by omega), h21 135 (by decide) (by decide), h21 136 (by decide) (by decide), h21 137 (by decide) (by decide), h2r, show 6 * t + i - 6 * t = i by omega]
      exact ⟨q1, q2, q3, fun _ => (hr' r hr).2 i (by omega)⟩
  · have kf : ∀ a, 68 + 7 * t ≤ a → a ≤ 74 + 7 * t → hI h3 a = hI h a := fun a z1 z2 => funext (fun b => (ft.2.2 a (by omega) b).1)
    have m2 : hI h3 132 t = hI h 132 t := by rw [c2, if_neg e]; exact h21 132 (by decide) (by decide) t
    have m3 : hI h3 133 t = hI h 133 t := by rw [c3, if_neg e]; exact h21 133 (by decide) (by decide) t
    have m4 : hI h3 134 t = hI h 134 t := by rw [c4, if_neg e]; exact h21 134 (by decide) (by decide) t
    have m5 : ∀ i, i < 6 → hI h3 135 (6 * t + i) = hI h 135 (6 * t + i) := fun i hi => by rw [c5, if_neg (by omega)]; exact h21 135 (by decide) (by decide) _
    have m6 : ∀ i, i < 6 → hI h3 136 (6 * t + i) = hI h 136 (6 * t + i) := fun i hi => by rw [c6, if_neg (by omega)]; exact h21 136 (by decide) (by decide) _
    have m7 : ∀ i, i < 6 → hI h3 137 (6 * t + i) = hI h 137 (6 * t + i) := fun i hi => by rw [c7, if_neg (by omega)]; exact h21 137 (by decide) (by decide) _
    have m8 : ∀ i, i < 6 → hI h3 138 (6 * t + i) = hI h 138 (6 * t + i) := fun i hi => by rw [c8, if_neg (by omega)]; exact h21 138 (by decide) (by decide) _
    have old := hs' t ht8
    rw [kf (68 + 7 * t) (by omega) (by omega), kf (69 + 7 * t) (by omega) (by omega), kf (70 + 7 * t) (by omega) (by omega), kf (71 + 7 * t) (by omega) (by omega), kf (72 + 7 * t) (by omega) (by omega), m2, m3, m4]
    rcases old with o | ⟨o1, o2, o3, o4, o5⟩
    · exact Or.inl o
    · refine Or.inr ⟨o1, o2, o3, o4, fun i hi6 hi => ?_⟩
      rw [m5 i hi6, m6 i hi6, m7 i hi6, m8 i hi6]
      exact o5 i hi6 hi
theorem both_weighed (hc : CM h) : Both sc 106 188 [.int x, .int y, .int z] h := by
  unfold Both
  obtain ⟨hw, hf, hr, ht, hs⟩ := id hc
  by_cases e0 : (0 ≤ x ∧ x < 8) ∧ (0 ≤ y ∧ y < 8) ∧ (0 ≤ z ∧ z < 6)
  · obtain ⟨s, hsn, rfl⟩ := ir_of (n := 8) (by decide) e0.1
    obtain ⟨u, hun, rfl⟩ := ir_of (n := 8) (by decide) e0.2.1
    obtain ⟨r, hrn, rfl⟩ := ir_of (n := 6) (by decide) e0.2.2
    obtain ⟨w1, w2, ⟨r0, r1, r2, r3, -⟩, ⟨o0, o1, o2, o3, -⟩, ⟨n0, n1, n2, n3, -⟩⟩ := hw.shape hsn
    obtain ⟨u1, u2, ⟨p0, p1, p2, -⟩, ⟨v0, v1, v2, -⟩, ⟨l0, l1, l2, -⟩⟩ := hw.shape hun
    obtain ⟨a1, a2, a3, a4, a5⟩ := hw.row hrn
    obtain ⟨M, hM, hz⟩ := mz hs hun
    have hg : ∀ j, j < M → (1 ≤ hI h 127 (40 * r + j) ∧ hI h 127 (40 * r + j) ≤ (if 0 ≤ (99 : Int32) then (99 : Int32) else (1 : Int32) <<< (nI M &&& 31) - 1)) = (gW (hI h (49 + 2 * r) j) = true) := fun j hj => by
      rw [if_pos (by decide), (hr r hrn).2 j (by omega)]
      exact decide_eq_true_eq.symm
    have mod : ∀ (H : PH) (QQ : PRes → Prop), WF H → (∀ b, hI H 126 b = hI h 126 b) → (∀ b, hI H 127 b = hI h 127 b) → (∀ b, hI H 134 b = hI h 134 b) → Tr sc 19 188 (ent0 188 [.ref 124, .int (nI s), .int (nI u), .int (nI r)] H) QQ = if hI h 134 u = 0 ∨ hI h 126 r < 0 then QQ (some (.int (-3)), refm H 1) else if hI h 126 r = hI h 134 u then (if allB (fun j => gW (hI h (49 + 2 * r) j)) 0 M = true then Tr sc 19 188 (20, [some (.ref 124), some (.int (nI s)), some (.int (nI u)), some (.int (nI r)), some (.int 0)], [], H) QQ else QQ (some (.int (-3)), refm H 3)) else QQ (some (.int (-3)), refm H 5) := by
      intro H QQ hwH f6 f7 f4
      rw [e_188]
      simp only [x_188_0, x_188_1, x_188_2, x_188_3, x_188_4, x_188_5, x_188_7, x_188_10, x_188_12, x_188_14, x_188_17, x_188_19, o_124 hwH, true_and, m_am (g := fun j => gW (hI h (49 + 2 * r) j)) (lo := 1) (hi := 99) (M := M) hwH hsn hun hrn hM (by rw [f4]; exact hz) (fun j hj => by rw [f7]; exact hg j hj), tl_s, cl2_i, cl2_r, cl2_n, i_0, i_m3, if_true, if_false, f4, f6]
    rw [e_106]
    simp only [x_106_0, x_106_1, x_106_2, x_106_3, x_106_4, x_106_7, x_106_9, x_106_11, x_106_14, x_106_16, x_106_17, x_106_18, x_106_21, x_106_22, x_106_23, x_106_25, x_106_26, o_0 hw, true_and, c_told hw hsn hun hrn, tl_s, w_0_0 hw, o_1 hw, Bool.true_or, Bool.and_self, inb_nI (n := LN 1) hrn (by decide), nI_clamp (n := r) (by omega), a1, Option.some.injEq, exists_eq_left', i_00, i_3m1, if_true, if_false, cl2_i, cl2_r, cl2_n]
    by_cases e1 : hI h (68 + 7 * u) 6 = -1 ∨ hI h (48 + 2 * r) 1 < 0
    · rw [if_pos e1, mod _ _ (WF_refu hw) (fun b => refu_I (by decide) (by decide)) (fun b => refu_I (by decide) (by decide)) (fun b => refu_I (by decide) (by decide)), if_pos (by rw [← sm_iff hs hun]; refine e1.imp id (fun q => ?_); rw [sz_neg hr hrn] at q; exact Int32.not_le.mp q)]
      first | exact cm_ref (by decide) hc | exact ⟨rfl, cm_ref (by decide) hc⟩ | exact ⟨⟨_, rfl, rfl⟩, cm_ref (by decide) hc⟩
    · have e2 : ¬ hI h (48 + 2 * r) 1 < 0 := fun q => e1 (Or.inr q)
      have e3 : ¬ hI h 134 u = 0 := fun q => e1 (Or.inl (sm_t hs hun q))
      obtain ⟨s1, s2, s3⟩ := sz_at hr hrn e2
      have e4 : ¬ (hI h 134 u = 0 ∨ hI h 126 r < 0) := fun q => q.elim e3 (by rw [s1]; exact e2)
      obtain ⟨-, b1, b2, b3, -⟩ := sh_at hs hun e3
      rw [if_neg e1]
      by_cases e5 : hI h (48 + 2 * r) 1 = hI h (68 + 7 * u) 8
      · rw [if_pos e5]
        have hzr : hI h (48 + 2 * r) 1 = nI M := by rw [e5, ← b3]; exact hz
        have cl := fun QQ => c_wl (sc := sc) (d := 18) (Q := QQ) (l1 := some (.int (nI s))) (l2 := some (.int (nI u))) (l3 := some (.int (nI r))) (l4 := some (.int 0)) hw a3 a2 a4 a5 hM hzr rfl M 0 (by omega)
        refine (cl _).mpr ?_
        by_cases e6 : allB (fun j => gW (hI h (49 + 2 * r) j)) 0 M = true
        · rw [if_pos e6]
          simp only [x_106_75, x_106_76, x_106_79, x_106_80, x_106_81, x_106_82, x_106_85, x_106_86, x_106_87, x_106_90, x_106_91, x_106_94, x_106_95, x_106_96, x_106_97, x_106_99, o_0 hw, w_0_2 hw, o_3 hw, Bool.or_true, Bool.and_self, inb_nI (n := LN 3) hsn (by decide), inb_nI (n := LN 3) hun (by decide), nI_clamp (n := s) (by omega), nI_clamp (n := u) (by omega), w1, w2, u1, u2, true_and, Option.some.injEq, exists_eq_left']
          refine c_takeMoves w2 u2 r0 r1 r2 p0 p1 p2 o0 o1 o2 v0 v1 v2 n0 n1 n2 l0 l1 l2 (by omega) (by omega) (by omega) (by omega) hM (by rw [← b3]; exact hz) (fun h1 ta => ?_)
          have fa := ta.1
          have hw1 := Fr_WF fa hw
          obtain ⟨w1', w2', ⟨r0', r1', r2', r3', -⟩, ⟨o0', o1', o2', o3', -⟩, -⟩ := hw1.shape hsn
          obtain ⟨a1', a2', a3', a4', -⟩ := hw1.row hrn
          simp only [tl_n, x_106_90, x_106_91, x_106_94, x_106_95, x_106_96, x_106_97, x_106_99, o_0 hw1, w_0_2 hw1, o_3 hw1, Bool.or_true, Bool.and_self, inb_nI (n := LN 3) hsn (by decide), nI_clamp (n := s) (by omega), w1', w2', true_and, Option.some.injEq, exists_eq_left']
          refine c_takeExtras w2' a3' r3' a2' o3' a4' n3 a5 (by omega) hM (by rw [(fa.2.2 _ (by omega) 1).1]; exact hzr) ta.2.2.1 (fun h2 tb => ?_)
          have fb := tb.1
          have hw2 := Fr_WF fb hw1
          obtain ⟨w1'', w2'', ⟨-, -, -, r3'', -⟩, ⟨-, -, -, o3'', -⟩, -⟩ := hw2.shape hsn
          have hz2 : hI h2 (68 + 7 * s) 8 = nI M := by rw [tb.2.2.2.1]; exact ta.2.2.1
          simp only [tl_n, x_106_102, x_106_103, x_106_106, x_106_107, x_106_108, x_106_111, o_0 hw2, w_0_2 hw2, o_3 hw2, Bool.or_true, Bool.and_self, inb_nI (n := LN 3) hsn (by decide), nI_clamp (n := s) (by omega), w1'', w2'', true_and, Option.some.injEq, exists_eq_left', c_weightOfAll w2'' r3'' o3'' n3 hz2 hM, tl_s]
          have h21 : ∀ a, ¬ (68 + 7 * s ≤ a ∧ a ≤ 72 + 7 * s) → ∀ b, hI h2 a b = hI h a b := fun a z1 b => (fb.2.2 a (by omega) b).1.trans (fa.2.2 a (by omega) b).1
          rw [mod h2 _ hw2 (h21 126 (by omega)) (h21 127 (by omega)) (h21 134 (by omega)), if_neg e4, if_pos (by rw [s1, e5, b3]), if_pos e6]
          simp only [x_188_20, x_188_21, x_188_22, x_188_23, x_188_24, x_188_25, o_124 hw2, true_and]
          refine m_takeMore hw2 hsn hun hrn hM (by rw [h21 134 (by omega)]; exact hz) (fun h3 tc => ?_)
          have hw3 := Fr_WF tc.1 hw2
          have hz3 : hI h3 134 s = nI M := by rw [tc.2.2.2.2.1, if_pos rfl, h21 134 (by omega)]; exact hz
          simp only [tl_n, x_188_28, x_188_29, x_188_30, x_188_33, o_124 hw3, true_and, m_weightOf hw3 hsn hz3 hM, tl_s]
          have val : wtS (fun j => if hI h2 (68 + 7 * s) 6 = 3 then hI h2 (72 + 7 * s) j else 1) M = wtS (fun j => if hI h3 132 s = 3 then hI h3 138 (6 * s + j) else 1) M := wtS_congr M (fun j hj => by
            rw [if_pos tb.2.1, tc.2.1, if_pos rfl, if_pos rfl, tb.2.2.2.2 j hj, tc.2.2.1, if_pos (by omega), h21 127 (by omega), (fa.2.2 _ (by omega) j).1, show 6 * s + j - 6 * s = j by omega, (hr r hrn).2 j (by omega)])
          have fin : CM h3 := cm_more hc hsn hun hrn e3 (Or.inl rfl) hM hz ta tb tc (fun j hj => ⟨fun _ => decide_eq_true_eq.mp (allB_at M 0 e6 j (by omega) (by omega)), fun q => absurd q (by decide)⟩)
          rw [val]
          first | exact fin | exact ⟨rfl, fin⟩ | exact ⟨⟨_, rfl, rfl⟩, fin⟩
        · rw [if_neg e6, mod _ _ (WF_refu hw) (fun b => refu_I (by decide) (by decide)) (fun b => refu_I (by decide) (by decide)) (fun b => refu_I (by decide) (by decide)), if_neg e4, if_pos (by rw [s1, e5, b3]), if_neg e6]
          first | exact cm_ref (by decide) hc | exact ⟨rfl, cm_ref (by decide) hc⟩ | exact ⟨⟨_, rfl, rfl⟩, cm_ref (by decide) hc⟩
      · rw [if_neg e5, mod _ _ (WF_refu hw) (fun b => refu_I (by decide) (by decide)) (fun b => refu_I (by decide) (by decide)) (fun b => refu_I (by decide) (by decide)), if_neg e4, if_neg (by rw [s1, b3]; exact e5)]
        first | exact cm_ref (by decide) hc | exact ⟨rfl, cm_ref (by decide) hc⟩ | exact ⟨⟨_, rfl, rfl⟩, cm_ref (by decide) hc⟩
  · have e1 : ¬ (0 ≤ x ∧ x < 8) ∨ ¬ (0 ≤ y ∧ y < 8) ∨ ¬ (0 ≤ z ∧ z < 6) := by
      by_cases q1 : 0 ≤ x ∧ x < 8
      · by_cases q2 : 0 ≤ y ∧ y < 8
        · exact Or.inr (Or.inr (fun q3 => e0 ⟨q1, q2, q3⟩))
        · exact Or.inr (Or.inl q2)
      · exact Or.inl q1
    rw [e_106]
    simp only [x_106_0, x_106_1, x_106_2, x_106_3, x_106_4, x_106_7, x_106_9, x_106_11, x_106_14, x_106_16, o_0 hw, true_and, c_told_bad e1, tl_s, i_1m1, if_false, cl2_i, cl2_r, cl2_n]
    rw [e_188]
    simp only [x_188_0, x_188_1, x_188_2, x_188_3, x_188_4, x_188_5, x_188_7, x_188_10, x_188_12, x_188_14, x_188_17, x_188_19, o_124 hw, true_and, m_am_bad e1, tl_s, i_m1, if_false, cl2_i, cl2_r, cl2_n]
    first | exact hc | exact ⟨rfl, hc⟩ | exact ⟨⟨_, rfl, rfl⟩, hc⟩
end WB
