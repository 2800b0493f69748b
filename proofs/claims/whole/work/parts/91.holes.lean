/-! ===== holes: filling, as numbers; the class ===== -/
def bo (b : Bool) : Int32 := if b = true then 1 else 0
abbrev Fst : Type := (Nat → Bool) × List Nat
def opn (ok : Bool) (d : Nat) (s : Fst) : Fst := if ok = true ∧ s.1 d = false then (fun x => if x = d then true else s.1 x, s.2 ++ [d]) else s
def stp4 (W A c : Nat) (s : Fst) : Fst := opn (decide (c + W < A)) (c + W) (opn (decide (W ≤ c)) (c - W) (opn (decide (c % W + 1 < W)) (c + 1) (opn (decide (0 < c % W)) (c - 1) s)))
def bfs (W A : Nat) : Nat → Nat → Fst → Fst
  | 0, _, s => s
  | f + 1, i, s => if i < s.2.length then bfs W A f (i + 1) (stp4 W A (s.2.getD i 0) s) else s
def hol (W A : Nat) : Nat → Nat → (Nat → Bool) → Nat → Nat
  | 0, _, _, p => p
  | m + 1, c, F, p => if F c = true then hol W A m (c + 1) F p else hol W A m (c + 1) (bfs W A (A + 1) 0 (opn true c (F, []))).1 (p + 1)
def SIv (A : Nat) (s : Fst) : Prop := s.2.Nodup ∧ ∀ c, c ∈ s.2 → c < A ∧ s.1 c = true
def FA (h : PH) (a : Nat) (F : Nat → Bool) (A : Nat) : Prop := ∀ c, c < A → hI h a c = bo (F c)
def QA (h : PH) (a : Nat) (q : List Nat) : Prop := ∀ j, j < q.length → hI h a j = nI (q.getD j 0)
def PSt4 (h : PH) (A : Nat) (s : Fst) : Prop := FA h 45 s.1 A ∧ QA h 46 s.2 ∧ hI h 44 2 = nI s.2.length ∧ SIv A s
def PPc (a b : Nat) : Prop := a = 45 ∨ a = 46 ∨ (a = 44 ∧ b = 2)
section HO
variable {sc : Nat × (Nat → Int32)} {d : Nat} {Q : PRes → Prop} {h h' h1 H G : PH} {c k e i j l n t u M N A W Hh : Nat} {s : Fst} {ok : Bool} {z : Int} {F : Nat → Bool} {q : List Nat}
theorem bo_0 {b : Bool} : (bo b = 0) = (b = false) := by
  cases b
  · simp [bo]
  · simp [bo]
theorem opn_t (h1 : ok = true) (h2 : s.1 c = false) : opn ok c s = (fun x => if x = c then true else s.1 x, s.2 ++ [c]) := if_pos ⟨h1, h2⟩
theorem opn_f (h1 : ¬ (ok = true ∧ s.1 c = false)) : opn ok c s = s := if_neg h1
theorem opn_iv (S : SIv A s) (hd : ok = true → c < A) : SIv A (opn ok c s) := by
  by_cases q : ok = true ∧ s.1 c = false
  · rw [opn_t q.1 q.2]
    refine ⟨?_, fun x hx => ?_⟩
    · show (s.2 ++ [c]).Nodup
      rw [List.nodup_append]
      refine ⟨S.1, by simp, fun a ha b hb e => ?_⟩
      rw [List.mem_singleton.mp hb] at e
      have := (S.2 a ha).2
      rw [e, q.2] at this
      cases this
    · show x < A ∧ (if x = c then true else s.1 x) = true
      rcases List.mem_append.mp hx with z | z
      · refine ⟨(S.2 x z).1, ?_⟩
        split
        · rfl
        · exact (S.2 x z).2
      · rw [List.mem_singleton.mp z]
        exact ⟨hd q.1, if_pos rfl⟩
  · rw [opn_f q]; exact S
theorem nd_le : ∀ (l l' : List Nat), l.Nodup → (∀ a, a ∈ l → a ∈ l') → l.length ≤ l'.length := by
  intro l
  induction l with
  | nil => intro l' _ _; exact Nat.zero_le _
  | cons a l ih =>
    intro l' hn hs
    have ha : a ∈ l' := hs a (List.mem_cons_self ..)
    have hn' := List.nodup_cons.mp hn
    have h1 := ih (l'.erase a) hn'.2 (fun b hb => (List.mem_erase_of_ne (fun q : b = a => hn'.1 (q ▸ hb))).mpr (hs b (List.mem_cons_of_mem _ hb)))
    rw [List.length_erase_of_mem ha] at h1
    have := List.length_pos_of_mem ha
    rw [List.length_cons]; omega
theorem nd_lt (hn : q.Nodup) (hb : ∀ a, a ∈ q → a < A) : q.length ≤ A := by
  have := nd_le q (List.range A) hn (fun a ha => List.mem_range.mpr (hb a ha))
  rw [List.length_range] at this
  exact this
theorem iv_len (S : SIv A s) : s.2.length ≤ A := nd_lt S.1 (fun a ha => (S.2 a ha).1)
/-- a place is free: the row of places has room -/
theorem iv_lt' (S : SIv A s) (hc : c < A) (hf : s.1 c = false) : s.2.length < A := by
  have := iv_len (opn_iv (ok := true) (c := c) S (fun _ => hc))
  rw [opn_t rfl hf] at this
  change (s.2 ++ [c]).length ≤ A at this
  rw [List.length_append, List.length_singleton] at this
  omega
theorem gN_1 {x : Nat} (hj : j < q.length) : (q ++ [x]).getD j 0 = q.getD j 0 := by
  rw [List.getD_eq_getElem?_getD, List.getD_eq_getElem?_getD, List.getElem?_append_left hj]
theorem gN_2 {x : Nat} : (q ++ [x]).getD q.length 0 = x := by
  rw [List.getD_eq_getElem?_getD, List.getElem?_append_right (Nat.le_refl _), Nat.sub_self]; rfl
theorem gN_m (hj : j < q.length) : q.getD j 0 ∈ q := by
  rw [List.getD_eq_getElem?_getD, List.getElem?_eq_getElem hj]
  exact List.getElem_mem _
theorem PPc_fr {h h' : PH} {b : Nat} (f : Fq PPc h h') (hb : b = 3 ∨ b = 4) : hI h' 44 b = hI h 44 b := f.i (by unfold PPc; omega)
theorem c_openCell (hw : WF h) (hA : A ≤ 1600) (h4 : hI h 44 4 = nI A) (S : PSt4 h A s) (rz : R3 z) (hok : ok = true ↔ 0 ≤ z ∧ z < A) : ∃ H, Fq PPc h H ∧ PSt4 H A (opn ok z.toNat s) ∧ ∀ d Q, Tr sc d 34 (ent0 34 [.ref 44, .int (iv z)] h) Q = Q (none, H) := by
  obtain ⟨s1, s2, s3, s4⟩ := id S
  by_cases q0 : z < 0
  · refine ⟨h, Fq.rf, ?_, fun d Q => ?_⟩
    · rw [opn_f (fun w => by have := hok.mp w.1; omega)]; exact S
    · rw [e_34]
      simp only [x_34_0, x_34_1, x_34_48, cl2_i, cl2_r, cl2_n, cl2_l, tl_s, tl_n, true_and, and_true, Option.some.injEq, exists_eq_left', Bool.and_self, Bool.true_and, Bool.and_true, Bool.or_true, Bool.true_or, i_10, i_00, if_true, if_false, not_true_eq_false, not_false_eq_true, and_false, false_and, okp_sI, okp_sL, okp_aI, okp_aL, hR_sI, hR_sL, hR_aI, hR_aL, show (iv z < 0) = True by rw [show (0 : Int32) = iv 0 from rfl, iv_lt rz ⟨by decide, by decide⟩]; exact eq_true q0]
  · have ez : iv z = nI z.toNat := iv_nn (by omega)
    have n0 : (nI z.toNat < 0) = False := eq_false (nI_pos (by have := rz.2; omega))
    by_cases q1 : z < A
    · have hz : z.toNat < A := by omega
      have ho := hok.mpr ⟨by omega, q1⟩
      have lt : ¬ nI A ≤ nI z.toNat := nI_ge hz (by omega)
      have i6 := inb_nI (n := 1600) (show z.toNat < 1600 by omega) (by decide)
      have c6 := nI_clamp (n := z.toNat) (by omega)
      cases q2 : s.1 z.toNat
      · have ll := iv_lt' s4 hz q2
        have lw : (s.2 ++ [z.toNat]).length = s.2.length + 1 := by rw [List.length_append]; rfl
        refine ⟨sI (sI (sI h 45 z.toNat 1) 46 s.2.length (nI z.toNat)) 44 2 (nI (s.2.length + 1)), ((Fq.rf.sI (by unfold PPc; omega)).sI (by unfold PPc; omega)).sI (by unfold PPc; omega), ?_, fun d Q => ?_⟩
        · have iv' := opn_iv (ok := ok) (c := z.toNat) s4 (fun _ => hz)
          rw [opn_t ho q2] at iv' ⊢
          refine ⟨fun x hx => ?_, fun j hj => ?_, ?_, iv'⟩
          · show _ = bo (if x = z.toNat then true else s.1 x)
            by_cases e : x = z.toNat
            · rw [if_pos e, e, rd_ne (by omega), rd_ne (by omega), rd_eq]; rfl
            · rw [if_neg e, rd_ne (by omega), rd_ne (by omega), rd_ne (by omega)]; exact s1 x hx
          · change j < (s.2 ++ [z.toNat]).length at hj
            show _ = nI ((s.2 ++ [z.toNat]).getD j 0)
            rw [lw] at hj
            by_cases e : j = s.2.length
            · rw [e, gN_2, rd_ne (by omega), rd_eq]
            · rw [gN_1 (by omega), rd_ne (by omega), rd_ne (by omega), rd_ne (by omega)]; exact s2 j (by omega)
          · show _ = nI (s.2 ++ [z.toNat]).length
            rw [lw, rd_eq]
        · have sz := s1 z.toNat hz
          rw [q2] at sz
          rw [e_34, ez]
          simp only [x_34_0, x_34_1, x_34_4, x_34_5, x_34_6, x_34_9, x_34_12, x_34_13, x_34_16, x_34_17, x_34_18, x_34_21, x_34_22, x_34_25, x_34_26, x_34_27, x_34_28, x_34_29, x_34_32, x_34_33, x_34_36, x_34_37, x_34_38, x_34_39, x_34_40, x_34_43, x_34_44, x_34_45, x_34_48, o_44 hw, w_44_0 hw, w_44_1 hw, o_45 hw, show LN 45 = 1600 from rfl, o_46 hw, iOk_lt (k := 46) (by decide), iRd_lt (k := 46) (by decide), show LN 46 = 1600 from rfl, cl2_i, cl2_r, cl2_n, cl2_l, tl_s, tl_n, true_and, and_true, Option.some.injEq, exists_eq_left', Bool.and_self, Bool.true_and, Bool.and_true, Bool.or_true, Bool.true_or, i_10, i_00, if_true, if_false, not_true_eq_false, not_false_eq_true, and_false, false_and, okp_sI, okp_sL, okp_aI, okp_aL, hR_sI, hR_sL, hR_aI, hR_aL, n0, h4, i6, c6, sz, show bo false = 0 from rfl, vp_b1, rd_ne (q := 45) (a := 44) (Or.inl (by decide)), rd_ne (q := 46) (a := 44) (Or.inl (by decide)), s3, inb_nI (n := 1600) (show s.2.length < 1600 by omega) (by decide), nI_clamp (n := s.2.length) (by omega), nI_1]
          rw [if_neg lt]
      · refine ⟨h, Fq.rf, ?_, fun d Q => ?_⟩
        · rw [opn_f (fun w => by rw [q2] at w; cases w.2)]; exact S
        · have sz := s1 z.toNat hz
          rw [q2] at sz
          rw [e_34, ez]
          simp only [x_34_0, x_34_1, x_34_4, x_34_5, x_34_6, x_34_9, x_34_12, x_34_13, x_34_16, x_34_17, x_34_18, o_44 hw, w_44_0 hw, o_45 hw, show LN 45 = 1600 from rfl, x_34_48, cl2_i, cl2_r, cl2_n, cl2_l, tl_s, tl_n, true_and, and_true, Option.some.injEq, exists_eq_left', Bool.and_self, Bool.true_and, Bool.and_true, Bool.or_true, Bool.true_or, i_10, i_00, if_true, if_false, not_true_eq_false, not_false_eq_true, and_false, false_and, okp_sI, okp_sL, okp_aI, okp_aL, hR_sI, hR_sL, hR_aI, hR_aL, n0, h4, i6, c6, sz, show bo true = 1 from rfl]
          rw [if_neg lt]
    · refine ⟨h, Fq.rf, ?_, fun d Q => ?_⟩
      · rw [opn_f (fun w => q1 (hok.mp w.1).2)]; exact S
      · rw [e_34, ez]
        simp only [x_34_0, x_34_1, x_34_4, x_34_5, x_34_6, x_34_9, o_44 hw, x_34_48, cl2_i, cl2_r, cl2_n, cl2_l, tl_s, tl_n, true_and, and_true, Option.some.injEq, exists_eq_left', Bool.and_self, Bool.true_and, Bool.and_true, Bool.or_true, Bool.true_or, i_10, i_00, if_true, if_false, not_true_eq_false, not_false_eq_true, and_false, false_and, okp_sI, okp_sL, okp_aI, okp_aL, hR_sI, hR_sL, hR_aI, hR_aL, n0, h4]
        rw [if_pos (nI_le (show A ≤ z.toNat by omega) (by have := rz.2; omega))]
/-- from a place that is open: its four neighbours -/
theorem row_b (hWH : A = W * Hh) (hc : c < A) (h : c % W + 1 < W) : c + 1 < A := by
  have e := Nat.div_add_mod c W
  have hd : c / W < Hh := Nat.div_lt_of_lt_mul (by rw [← hWH]; exact hc)
  have h2 : W * (c / W + 1) ≤ W * Hh := Nat.mul_le_mul_left W hd
  rw [Nat.mul_add, Nat.mul_one] at h2
  omega
theorem c_fl_s (hw : WF h) (hA : A ≤ 1600) (hWH : A = W * Hh) (hW : 3 ≤ W) (hWA : W ≤ A) (h3 : hI h 44 3 = nI W) (h4 : hI h 44 4 = nI A) (S : PSt4 h A s) (hc : c < A) : ∃ H, Fq PPc h H ∧ PSt4 H A (stp4 W A c s) ∧ ∀ d Q l1 l4, cl2 l1 = l1 → Tr sc (d + 1) 33 (34, [some (.ref 44), l1, some (.int (nI i)), some (.int (nI c)), l4], [], h) Q = Tr sc (d + 1) 33 (12, [some (.ref 44), l1, some (.int (nI (i + 1))), some (.int (nI c)), some (.int (nI (c % W)))], [], H) Q := by
  have hm : c % W < W := Nat.mod_lt _ (by omega)
  have er := pk_rem (a := c) (d := W) (by omega) (by omega) (by omega)
  have w0 : ¬ nI W = 0 := nI_ne0 (by omega) (by omega)
  have s1 : ∃ H1, Fq PPc h H1 ∧ PSt4 H1 A (opn (decide (0 < c % W)) (c - 1) s) ∧ ∀ d Q l1, Tr sc (d + 1) 33 (42, [some (.ref 44), l1, some (.int (nI i)), some (.int (nI c)), some (.int (nI (c % W)))], [], h) Q = Tr sc (d + 1) 33 (54, [some (.ref 44), l1, some (.int (nI i)), some (.int (nI c)), some (.int (nI (c % W)))], [], H1) Q := by
    by_cases q : 0 < c % W
    · have c0 : 0 < c := by
        rcases Nat.eq_zero_or_pos c with z | z
        · rw [z, Nat.zero_mod] at q; omega
        · exact z
      obtain ⟨H1, f1, S1, eq1⟩ := c_openCell (sc := sc) (z := (c : Int) - 1) (ok := decide (0 < c % W)) hw hA h4 S ⟨by omega, by omega⟩ (by rw [decide_eq_true_eq]; exact ⟨fun _ => ⟨by omega, by omega⟩, fun _ => q⟩)
      rw [show ((c : Int) - 1).toNat = c - 1 by omega] at S1
      have ec : nI c - 1 = iv ((c : Int) - 1) := by rw [iv_n, show (1 : Int32) = iv 1 from rfl, iv_sub]
      refine ⟨H1, f1, S1, fun d Q l1 => ?_⟩
      simp only [x_33_42, x_33_44, x_33_47, x_33_48, x_33_49, x_33_50, x_33_51, o_44 hw, cl2_i, cl2_r, cl2_n, cl2_l, tl_s, tl_n, true_and, and_true, Option.some.injEq, exists_eq_left', Bool.and_self, Bool.true_and, Bool.and_true, Bool.or_true, Bool.true_or, i_10, i_00, if_true, if_false, not_true_eq_false, not_false_eq_true, and_false, false_and, okp_sI, okp_sL, okp_aI, okp_aL, hR_sI, hR_sL, hR_aI, hR_aL, ec, eq1]
      rw [if_neg (nI_nle q (by omega))]
    · refine ⟨h, Fq.rf, ?_, fun d Q l1 => ?_⟩
      · rw [opn_f (fun w => q (of_decide_eq_true w.1))]; exact S
      · simp only [x_33_42, x_33_44, cl2_i, cl2_r, cl2_n, cl2_l, tl_s, tl_n, true_and, and_true, Option.some.injEq, exists_eq_left', Bool.and_self, Bool.true_and, Bool.and_true, Bool.or_true, Bool.true_or, i_10, i_00, if_true, if_false, not_true_eq_false, not_false_eq_true, and_false, false_and, okp_sI, okp_sL, okp_aI, okp_aL, hR_sI, hR_sL, hR_aI, hR_aL]
        rw [if_pos (show nI (c % W) ≤ 0 from nI_le (show c % W ≤ 0 by omega) (by decide))]
  obtain ⟨H1, f1, S1, eq1⟩ := s1
  have hw1 := f1.WF hw
  have h31 : hI H1 44 3 = nI W := by rw [PPc_fr f1 (Or.inl rfl)]; exact h3
  have h41 : hI H1 44 4 = nI A := by rw [PPc_fr f1 (Or.inr rfl)]; exact h4
  have eW : nI W - 1 = nI (W - 1) := by rw [show (1 : Int32) = nI 1 from rfl, pk_sub (by omega)]
  generalize e1 : opn (decide (0 < c % W)) (c - 1) s = t1 at *
  have s2 : ∃ H2, Fq PPc H1 H2 ∧ PSt4 H2 A (opn (decide (c % W + 1 < W)) (c + 1) t1) ∧ ∀ d Q l1, Tr sc (d + 1) 33 (54, [some (.ref 44), l1, some (.int (nI i)), some (.int (nI c)), some (.int (nI (c % W)))], [], H1) Q = Tr sc (d + 1) 33 (72, [some (.ref 44), l1, some (.int (nI i)), some (.int (nI c)), some (.int (nI (c % W)))], [], H2) Q := by
    by_cases q : c % W + 1 < W
    · have cb := row_b hWH hc q
      obtain ⟨H2, f2, S2, eq2⟩ := c_openCell (sc := sc) (z := (c : Int) + 1) (ok := decide (c % W + 1 < W)) hw1 hA h41 S1 ⟨by omega, by omega⟩ (by rw [decide_eq_true_eq]; exact ⟨fun _ => ⟨by omega, by omega⟩, fun _ => q⟩)
      rw [show ((c : Int) + 1).toNat = c + 1 by omega] at S2
      have ec : nI c + 1 = iv ((c : Int) + 1) := by rw [iv_n, show (1 : Int32) = iv 1 from rfl, iv_add]
      refine ⟨H2, f2, S2, fun d Q l1 => ?_⟩
      simp only [x_33_54, x_33_56, x_33_57, x_33_60, x_33_61, x_33_62, x_33_65, x_33_66, x_33_67, x_33_68, x_33_69, o_44 hw1, cl2_i, cl2_r, cl2_n, cl2_l, tl_s, tl_n, true_and, and_true, Option.some.injEq, exists_eq_left', Bool.and_self, Bool.true_and, Bool.and_true, Bool.or_true, Bool.true_or, i_10, i_00, if_true, if_false, not_true_eq_false, not_false_eq_true, and_false, false_and, okp_sI, okp_sL, okp_aI, okp_aL, hR_sI, hR_sL, hR_aI, hR_aL, h31, eW, ec, eq2]
      rw [if_neg (nI_ge (show c % W < W - 1 by omega) (by omega))]
    · refine ⟨H1, Fq.rf, ?_, fun d Q l1 => ?_⟩
      · rw [opn_f (fun w => q (of_decide_eq_true w.1))]; exact S1
      · simp only [x_33_54, x_33_56, x_33_57, x_33_60, x_33_61, x_33_62, o_44 hw1, cl2_i, cl2_r, cl2_n, cl2_l, tl_s, tl_n, true_and, and_true, Option.some.injEq, exists_eq_left', Bool.and_self, Bool.true_and, Bool.and_true, Bool.or_true, Bool.true_or, i_10, i_00, if_true, if_false, not_true_eq_false, not_false_eq_true, and_false, false_and, okp_sI, okp_sL, okp_aI, okp_aL, hR_sI, hR_sL, hR_aI, hR_aL, h31, eW]
        rw [if_pos (nI_le (show W - 1 ≤ c % W by omega) (by omega))]
  obtain ⟨H2, f2, S2, eq2⟩ := s2
  have hw2 := f2.WF hw1
  have h32 : hI H2 44 3 = nI W := by rw [PPc_fr f2 (Or.inl rfl)]; exact h31
  have h42 : hI H2 44 4 = nI A := by rw [PPc_fr f2 (Or.inr rfl)]; exact h41
  generalize e2 : opn (decide (c % W + 1 < W)) (c + 1) t1 = t2 at *
  have oz : ∀ (A B : Nat) (st : Fst), (¬ B ≤ A) → opn (decide (B ≤ A)) ((A : Int) - B).toNat st = opn (decide (B ≤ A)) (A - B) st := fun A B st q => by
    rw [opn_f (fun w => q (of_decide_eq_true w.1)), opn_f (fun w => q (of_decide_eq_true w.1))]
  obtain ⟨H3, f3, S3, eq3⟩ := c_openCell (sc := sc) (z := (c : Int) - W) (ok := decide (W ≤ c)) hw2 hA h42 S2 ⟨by omega, by omega⟩ (by rw [decide_eq_true_eq]; exact ⟨fun z => ⟨by omega, by omega⟩, fun z => by omega⟩)
  rw [show ((c : Int) - W).toNat = c - W by omega] at S3
  have hw3 := f3.WF hw2
  have h33 : hI H3 44 3 = nI W := by rw [PPc_fr f3 (Or.inl rfl)]; exact h32
  have h43 : hI H3 44 4 = nI A := by rw [PPc_fr f3 (Or.inr rfl)]; exact h42
  obtain ⟨H4, f4, S4, eq4⟩ := c_openCell (sc := sc) (z := (c : Int) + W) (ok := decide (c + W < A)) hw3 hA h43 S3 ⟨by omega, by omega⟩ (by rw [decide_eq_true_eq]; exact ⟨fun z => ⟨by omega, by omega⟩, fun z => by omega⟩)
  rw [show ((c : Int) + W).toNat = c + W by omega] at S4
  have ec3 : nI c - nI W = iv ((c : Int) - W) := by rw [iv_n, iv_n, iv_sub]
  have ec4 : nI c + nI W = iv ((c : Int) + W) := by rw [iv_n, iv_n, iv_add]
  have es : stp4 W A c s = opn (decide (c + W < A)) (c + W) (opn (decide (W ≤ c)) (c - W) t2) := by
    first | (rw [← e2, ← e1]; done) | (rw [← e2, ← e1]; rfl)
  refine ⟨H4, f1.tr (f2.tr (f3.tr f4)), by rw [es]; exact S4, fun d Q l1 l4 hl1 => ?_⟩
  simp only [x_33_34, x_33_35, x_33_36, x_33_39, x_33_40, o_44 hw, cl2_i, cl2_r, cl2_n, cl2_l, tl_s, tl_n, true_and, and_true, Option.some.injEq, exists_eq_left', Bool.and_self, Bool.true_and, Bool.and_true, Bool.or_true, Bool.true_or, i_10, i_00, if_true, if_false, not_true_eq_false, not_false_eq_true, and_false, false_and, okp_sI, okp_sL, okp_aI, okp_aL, hR_sI, hR_sL, hR_aI, hR_aL, h3, er, w0]
  refine (eq1 d Q l1).trans ((eq2 d Q l1).trans ?_)
  simp only [x_33_72, x_33_73, x_33_74, x_33_75, x_33_78, x_33_79, o_44 hw2, x_33_82, x_33_83, x_33_84, x_33_85, x_33_88, x_33_89, x_33_92, x_33_95, o_44 hw3, cl2_i, cl2_r, cl2_n, cl2_l, tl_s, tl_n, true_and, and_true, Option.some.injEq, exists_eq_left', Bool.and_self, Bool.true_and, Bool.and_true, Bool.or_true, Bool.true_or, i_10, i_00, if_true, if_false, not_true_eq_false, not_false_eq_true, and_false, false_and, okp_sI, okp_sL, okp_aI, okp_aL, hR_sI, hR_sL, hR_aI, hR_aL, h32, h33, ec3, ec4, eq3, eq4, nI_1, hl1]
theorem stp4_iv (hWH : A = W * Hh) (hW : 3 ≤ W) (S : SIv A s) (hc : c < A) : SIv A (stp4 W A c s) := by
  have hm : c % W < W := Nat.mod_lt _ (by omega)
  unfold stp4
  refine opn_iv (opn_iv (opn_iv (opn_iv S (fun z => ?_)) (fun z => ?_)) (fun z => ?_)) (fun z => ?_)
  · omega
  · exact row_b hWH hc (of_decide_eq_true z)
  · omega
  · exact of_decide_eq_true z
theorem c_fl_l (hw : WF h) (hA : A ≤ 1600) (hWH : A = W * Hh) (hW : 3 ≤ W) (hWA : W ≤ A) (h3 : hI h 44 3 = nI W) (h4 : hI h 44 4 = nI A) : ∀ (f i : Nat) (s : Fst) (H : PH), A < i + f → i ≤ A → Fq PPc h H → PSt4 H A s → ∃ H', Fq PPc h H' ∧ PSt4 H' A (bfs W A f i s) ∧ ∀ d Q l1 l3 l4, cl2 l1 = l1 → cl2 l3 = l3 → Tr sc (d + 1) 33 (12, [some (.ref 44), l1, some (.int (nI i)), l3, l4], [], H) Q = Q (none, H') := by
  intro f
  induction f with
  | zero =>
    intro i s H hf hi F S
    omega
  | succ f ih =>
    intro i s H hf hi F S
    have hwH := F.WF hw
    have ll := iv_len S.2.2.2
    have h3' : hI H 44 3 = nI W := by rw [PPc_fr F (Or.inl rfl)]; exact h3
    have h4' : hI H 44 4 = nI A := by rw [PPc_fr F (Or.inr rfl)]; exact h4
    by_cases q : i < s.2.length
    · obtain ⟨H1, f1, S1, eq1⟩ := c_fl_s (sc := sc) (i := i) (c := s.2.getD i 0) hwH hA hWH hW hWA h3' h4' S (S.2.2.2.2 _ (gN_m q)).1
      obtain ⟨H', F', S', eq'⟩ := ih (i + 1) (stp4 W A (s.2.getD i 0) s) H1 (by omega) (by omega) (F.tr f1) S1
      refine ⟨H', F', ?_, fun d Q l1 l3 l4 hl1 hl => ?_⟩
      · rw [show bfs W A (f + 1) i s = bfs W A f (i + 1) (stp4 W A (s.2.getD i 0) s) from if_pos q]; exact S'
      · rw [x_33_12]
        simp only [x_33_13, x_33_14, x_33_17, x_33_20, x_33_21, x_33_24, x_33_27, x_33_28, x_33_31, x_33_32, x_33_33, o_44 hwH, w_44_1 hwH, o_46 hwH, iOk_lt (k := 46) (by decide), iRd_lt (k := 46) (by decide), show LN 46 = 1600 from rfl, cl2_i, cl2_r, cl2_n, cl2_l, tl_s, tl_n, true_and, and_true, Option.some.injEq, exists_eq_left', Bool.and_self, Bool.true_and, Bool.and_true, Bool.or_true, Bool.true_or, i_10, i_00, if_true, if_false, not_true_eq_false, not_false_eq_true, and_false, false_and, okp_sI, okp_sL, okp_aI, okp_aL, hR_sI, hR_sL, hR_aI, hR_aL, S.2.2.1, S.2.1 i q, inb_nI (n := 1600) (show i < 1600 by omega) (by decide), nI_clamp (n := i) (by omega)]
        rw [if_neg (nI_ge q (by omega)), if_neg (show ¬ (1600 : Int32) ≤ nI i from nI_ge (a := i) (b := 1600) (by omega) (by decide))]
        exact (eq1 d Q l1 l4 hl1).trans (eq' d Q _ _ _ hl1 rfl)
    · refine ⟨H, F, ?_, fun d Q l1 l3 l4 hl1 hl => ?_⟩
      · rw [show bfs W A (f + 1) i s = s from if_neg q]; exact S
      · rw [x_33_12]
        simp only [x_33_13, x_33_14, x_33_17, o_44 hwH, x_33_98, cl2_i, cl2_r, cl2_n, cl2_l, tl_s, tl_n, true_and, and_true, Option.some.injEq, exists_eq_left', Bool.and_self, Bool.true_and, Bool.and_true, Bool.or_true, Bool.true_or, i_10, i_00, if_true, if_false, not_true_eq_false, not_false_eq_true, and_false, false_and, okp_sI, okp_sL, okp_aI, okp_aL, hR_sI, hR_sL, hR_aI, hR_aL, S.2.2.1]
        rw [if_pos (nI_le (by omega) (by omega))]
theorem c_fillPart (hw : WF h) (hA : A ≤ 1600) (hWH : A = W * Hh) (hW : 3 ≤ W) (hWA : W ≤ A) (h3 : hI h 44 3 = nI W) (h4 : hI h 44 4 = nI A) (B : FA h 45 F A) (hc : c < A) : ∃ H, Fq PPc h H ∧ FA H 45 (bfs W A (A + 1) 0 (opn true c (F, []))).1 A ∧ ∀ d Q, Tr sc (d + 1) 33 (ent0 33 [.ref 44, .int (nI c)] h) Q = Q (none, H) := by
  have f0 : Fq PPc h (sI h 44 2 0) := Fq.rf.sI (by unfold PPc; omega)
  have hw0 := f0.WF hw
  have S0 : PSt4 (sI h 44 2 0) A (F, []) := ⟨fun x hx => by rw [rd_ne (by omega)]; exact B x hx, fun j hj => absurd hj (Nat.not_lt_zero _), rd_eq, List.nodup_nil, fun x hx => by cases hx⟩
  obtain ⟨H1, f1, S1, eq1⟩ := c_openCell (sc := sc) (z := (c : Int)) (ok := true) hw0 hA (by rw [rd_ne (by omega)]; exact h4) S0 ⟨by omega, by omega⟩ ⟨fun _ => ⟨by omega, by omega⟩, fun _ => rfl⟩
  rw [Int.toNat_natCast, ← iv_n] at *
  have hw1 := f1.WF hw0
  obtain ⟨H2, f2, S2, eq2⟩ := c_fl_l (sc := sc) hw1 hA hWH hW hWA (by rw [PPc_fr f1 (Or.inl rfl), rd_ne (by omega)]; exact h3) (by rw [PPc_fr f1 (Or.inr rfl), rd_ne (by omega)]; exact h4) (A + 1) 0 (opn true c (F, [])) H1 (by omega) (Nat.zero_le _) Fq.rf S1
  refine ⟨H2, f0.tr (f1.tr f2), S2.1, fun d Q => ?_⟩
  rw [e_33]
  simp only [x_33_0, x_33_1, x_33_2, x_33_5, x_33_6, x_33_7, o_44 hw, x_33_10, x_33_11, o_44 hw1, cl2_i, cl2_r, cl2_n, cl2_l, tl_s, tl_n, true_and, and_true, Option.some.injEq, exists_eq_left', Bool.and_self, Bool.true_and, Bool.and_true, Bool.or_true, Bool.true_or, i_10, i_00, if_true, if_false, not_true_eq_false, not_false_eq_true, and_false, false_and, okp_sI, okp_sL, okp_aI, okp_aL, hR_sI, hR_sL, hR_aI, hR_aL, eq1]
  exact eq2 d Q _ _ _ rfl rfl
theorem c_ch_l (hw : WF h) (hA : A ≤ 1600) (hWH : A = W * Hh) (hW : 3 ≤ W) (hWA : W ≤ A) (h3 : hI h 44 3 = nI W) (h4 : hI h 44 4 = nI A) : ∀ (m c : Nat) (F : Nat → Bool) (p : Nat) (H : PH), c + m = A → Fq PPc h H → FA H 45 F A → ∃ H', Fq PPc h H' ∧ ∀ d Q, Tr sc (d + 2) 32 (4, [some (.ref 44), some (.int (nI p)), some (.int (nI c))], [], H) Q = Q (some (.int (nI (hol W A m c F p) - 1)), H') := by
  intro m
  induction m with
  | zero =>
    intro c F p H hc f B
    have e : c = A := by omega
    subst e
    have hwH := f.WF hw
    have h4' : hI H 44 4 = nI c := by rw [PPc_fr f (Or.inr rfl)]; exact h4
    refine ⟨H, f, fun d Q => ?_⟩
    rw [x_32_4]
    simp only [x_32_5, x_32_6, x_32_9, o_44 hwH, x_32_35, x_32_36, x_32_37, x_32_38, cl2_i, cl2_r, cl2_n, cl2_l, tl_s, tl_n, true_and, and_true, Option.some.injEq, exists_eq_left', Bool.and_self, Bool.true_and, Bool.and_true, Bool.or_true, Bool.true_or, i_10, i_00, if_true, if_false, not_true_eq_false, not_false_eq_true, and_false, false_and, okp_sI, okp_sL, okp_aI, okp_aL, hR_sI, hR_sL, hR_aI, hR_aL, h4']
    rw [if_pos (Int32.le_refl _)]
    rfl
  | succ m ih =>
    intro c F p H hc f B
    have hlt : c < A := by omega
    have hwH := f.WF hw
    have h3' : hI H 44 3 = nI W := by rw [PPc_fr f (Or.inl rfl)]; exact h3
    have h4' : hI H 44 4 = nI A := by rw [PPc_fr f (Or.inr rfl)]; exact h4
    have Bc := B c hlt
    cases q : F c
    · obtain ⟨H1, f1, B1, eq1⟩ := c_fillPart (sc := sc) hwH hA hWH hW hWA h3' h4' B hlt
      obtain ⟨H', F', eq'⟩ := ih (c + 1) _ (p + 1) H1 (by omega) (f.tr f1) B1
      refine ⟨H', F', fun d Q => ?_⟩
      rw [q] at Bc
      rw [x_32_4]
      simp only [x_32_5, x_32_6, x_32_9, x_32_12, x_32_13, x_32_16, x_32_17, x_32_18, x_32_21, x_32_24, x_32_25, x_32_26, x_32_29, x_32_32, o_44 hwH, w_44_0 hwH, o_45 hwH, show LN 45 = 1600 from rfl, cl2_i, cl2_r, cl2_n, cl2_l, tl_s, tl_n, true_and, and_true, Option.some.injEq, exists_eq_left', Bool.and_self, Bool.true_and, Bool.and_true, Bool.or_true, Bool.true_or, i_10, i_00, if_true, if_false, not_true_eq_false, not_false_eq_true, and_false, false_and, okp_sI, okp_sL, okp_aI, okp_aL, hR_sI, hR_sL, hR_aI, hR_aL, h4', inb_nI (n := 1600) (show c < 1600 by omega) (by decide), nI_clamp (n := c) (by omega), Bc, show bo false = 0 from rfl, nI_1, eq1]
      rw [if_neg (nI_ge hlt (by omega)), show hol W A (m + 1) c F p = hol W A m (c + 1) (bfs W A (A + 1) 0 (opn true c (F, []))).1 (p + 1) from if_neg (by rw [q]; decide)]
      exact eq' d Q
    · obtain ⟨H', F', eq'⟩ := ih (c + 1) F p H (by omega) f B
      refine ⟨H', F', fun d Q => ?_⟩
      rw [q] at Bc
      rw [x_32_4]
      simp only [x_32_5, x_32_6, x_32_9, x_32_12, x_32_13, x_32_16, x_32_17, x_32_18, o_44 hwH, w_44_0 hwH, o_45 hwH, show LN 45 = 1600 from rfl, x_32_29, x_32_32, cl2_i, cl2_r, cl2_n, cl2_l, tl_s, tl_n, true_and, and_true, Option.some.injEq, exists_eq_left', Bool.and_self, Bool.true_and, Bool.and_true, Bool.or_true, Bool.true_or, i_10, i_00, if_true, if_false, not_true_eq_false, not_false_eq_true, and_false, false_and, okp_sI, okp_sL, okp_aI, okp_aL, hR_sI, hR_sL, hR_aI, hR_aL, h4', inb_nI (n := 1600) (show c < 1600 by omega) (by decide), nI_clamp (n := c) (by omega), Bc, show bo true = 1 from rfl, nI_1]
      rw [if_neg (nI_ge hlt (by omega)), show hol W A (m + 1) c F p = hol W A m (c + 1) F p from if_pos q]
      exact eq' d Q
end HO
