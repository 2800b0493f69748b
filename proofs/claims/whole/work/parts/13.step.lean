/-- a step that goes on, to no fewer cells -/
def isGo (h : PH) (z : PSt) : Prop := ∃ g : PC, z = .inr (.inl g) ∧ hN h ≤ hN g.2.2.2
theorem isGo_go {h h' : PH} {pc : Nat} {ls : List (Option Value)} {st : List Value} {z : PSt} (hn : hN h ≤ hN h') (e : go pc ls st h' = some z) : isGo h z := ⟨(pc, ls, st, h'), (Option.some.inj e).symm, hn⟩
theorem g_ldI (np a : Nat) (ls : List (Option Value)) (st : List Value) (h : PH) {z : PSt} (ho : o_ldI np a ls st h = some z) : isGo h z := by
  unfold o_ldI at ho
  repeat' split at ho
  all_goals first | (cases ho; done) | (refine isGo_go (h := h) ?_ ho; first | exact Nat.le_refl _ | exact Nat.le_succ _)
theorem g_ldL (np a : Nat) (ls : List (Option Value)) (st : List Value) (h : PH) {z : PSt} (ho : o_ldL np a ls st h = some z) : isGo h z := by
  unfold o_ldL at ho
  repeat' split at ho
  all_goals first | (cases ho; done) | (refine isGo_go (h := h) ?_ ho; first | exact Nat.le_refl _ | exact Nat.le_succ _)
theorem g_ldA (np a : Nat) (ls : List (Option Value)) (st : List Value) (h : PH) {z : PSt} (ho : o_ldA np a ls st h = some z) : isGo h z := by
  unfold o_ldA at ho
  repeat' split at ho
  all_goals first | (cases ho; done) | (refine isGo_go (h := h) ?_ ho; first | exact Nat.le_refl _ | exact Nat.le_succ _)
theorem g_stI (np a : Nat) (ls : List (Option Value)) (st : List Value) (h : PH) {z : PSt} (ho : o_stI np a ls st h = some z) : isGo h z := by
  unfold o_stI at ho
  repeat' split at ho
  all_goals first | (cases ho; done) | (refine isGo_go (h := h) ?_ ho; first | exact Nat.le_refl _ | exact Nat.le_succ _)
theorem g_stL (np a : Nat) (ls : List (Option Value)) (st : List Value) (h : PH) {z : PSt} (ho : o_stL np a ls st h = some z) : isGo h z := by
  unfold o_stL at ho
  repeat' split at ho
  all_goals first | (cases ho; done) | (refine isGo_go (h := h) ?_ ho; first | exact Nat.le_refl _ | exact Nat.le_succ _)
theorem g_stA (np a : Nat) (ls : List (Option Value)) (st : List Value) (h : PH) {z : PSt} (ho : o_stA np a ls st h = some z) : isGo h z := by
  unfold o_stA at ho
  repeat' split at ho
  all_goals first | (cases ho; done) | (refine isGo_go (h := h) ?_ ho; first | exact Nat.le_refl _ | exact Nat.le_succ _)
theorem g_inc (np a : Nat) (v : Value) (ls : List (Option Value)) (st : List Value) (h : PH) {z : PSt} (ho : o_inc np a v ls st h = some z) : isGo h z := by
  unfold o_inc at ho
  repeat' split at ho
  all_goals first | (cases ho; done) | (refine isGo_go (h := h) ?_ ho; first | exact Nat.le_refl _ | exact Nat.le_succ _)
theorem g_push (np : Nat) (v : Value) (ls : List (Option Value)) (st : List Value) (h : PH) {z : PSt} (ho : o_push np v ls st h = some z) : isGo h z := by
  unfold o_push at ho
  repeat' split at ho
  all_goals first | (cases ho; done) | (refine isGo_go (h := h) ?_ ho; first | exact Nat.le_refl _ | exact Nat.le_succ _)
theorem g_ii (f : Int32 → Int32 → Int32) (np : Nat) (ls : List (Option Value)) (st : List Value) (h : PH) {z : PSt} (ho : o_ii f np ls st h = some z) : isGo h z := by
  unfold o_ii at ho
  repeat' split at ho
  all_goals first | (cases ho; done) | (refine isGo_go (h := h) ?_ ho; first | exact Nat.le_refl _ | exact Nat.le_succ _)
theorem g_iiz (f : Int32 → Int32 → Int32) (np : Nat) (ls : List (Option Value)) (st : List Value) (h : PH) {z : PSt} (ho : o_iiz f np ls st h = some z) : isGo h z := by
  unfold o_iiz at ho
  repeat' split at ho
  all_goals first | (cases ho; done) | (refine isGo_go (h := h) ?_ ho; first | exact Nat.le_refl _ | exact Nat.le_succ _)
theorem g_ll (f : Int64 → Int64 → Int64) (np : Nat) (ls : List (Option Value)) (st : List Value) (h : PH) {z : PSt} (ho : o_ll f np ls st h = some z) : isGo h z := by
  unfold o_ll at ho
  repeat' split at ho
  all_goals first | (cases ho; done) | (refine isGo_go (h := h) ?_ ho; first | exact Nat.le_refl _ | exact Nat.le_succ _)
theorem g_llz (f : Int64 → Int64 → Int64) (np : Nat) (ls : List (Option Value)) (st : List Value) (h : PH) {z : PSt} (ho : o_llz f np ls st h = some z) : isGo h z := by
  unfold o_llz at ho
  repeat' split at ho
  all_goals first | (cases ho; done) | (refine isGo_go (h := h) ?_ ho; first | exact Nat.le_refl _ | exact Nat.le_succ _)
theorem g_li (f : Int64 → Int32 → Int64) (np : Nat) (ls : List (Option Value)) (st : List Value) (h : PH) {z : PSt} (ho : o_li f np ls st h = some z) : isGo h z := by
  unfold o_li at ho
  repeat' split at ho
  all_goals first | (cases ho; done) | (refine isGo_go (h := h) ?_ ho; first | exact Nat.le_refl _ | exact Nat.le_succ _)
theorem g_cmp (np : Nat) (ls : List (Option Value)) (st : List Value) (h : PH) {z : PSt} (ho : o_cmp np ls st h = some z) : isGo h z := by
  unfold o_cmp at ho
  repeat' split at ho
  all_goals first | (cases ho; done) | (refine isGo_go (h := h) ?_ ho; first | exact Nat.le_refl _ | exact Nat.le_succ _)
theorem g_i (f : Int32 → Int32) (np : Nat) (ls : List (Option Value)) (st : List Value) (h : PH) {z : PSt} (ho : o_i f np ls st h = some z) : isGo h z := by
  unfold o_i at ho
  repeat' split at ho
  all_goals first | (cases ho; done) | (refine isGo_go (h := h) ?_ ho; first | exact Nat.le_refl _ | exact Nat.le_succ _)
theorem g_l (f : Int64 → Int64) (np : Nat) (ls : List (Option Value)) (st : List Value) (h : PH) {z : PSt} (ho : o_l f np ls st h = some z) : isGo h z := by
  unfold o_l at ho
  repeat' split at ho
  all_goals first | (cases ho; done) | (refine isGo_go (h := h) ?_ ho; first | exact Nat.le_refl _ | exact Nat.le_succ _)
theorem g_i2l (np : Nat) (ls : List (Option Value)) (st : List Value) (h : PH) {z : PSt} (ho : o_i2l np ls st h = some z) : isGo h z := by
  unfold o_i2l at ho
  repeat' split at ho
  all_goals first | (cases ho; done) | (refine isGo_go (h := h) ?_ ho; first | exact Nat.le_refl _ | exact Nat.le_succ _)
theorem g_l2i (np : Nat) (ls : List (Option Value)) (st : List Value) (h : PH) {z : PSt} (ho : o_l2i np ls st h = some z) : isGo h z := by
  unfold o_l2i at ho
  repeat' split at ho
  all_goals first | (cases ho; done) | (refine isGo_go (h := h) ?_ ho; first | exact Nat.le_refl _ | exact Nat.le_succ _)
theorem g_if (cd : ClassFile.Cond) (np a : Nat) (ls : List (Option Value)) (st : List Value) (h : PH) {z : PSt} (ho : o_if cd np a ls st h = some z) : isGo h z := by
  unfold o_if at ho
  repeat' split at ho
  all_goals first | (cases ho; done) | (refine isGo_go (h := h) ?_ ho; first | exact Nat.le_refl _ | exact Nat.le_succ _)
theorem g_icmp (cd : ClassFile.Cond) (np a : Nat) (ls : List (Option Value)) (st : List Value) (h : PH) {z : PSt} (ho : o_icmp cd np a ls st h = some z) : isGo h z := by
  unfold o_icmp at ho
  repeat' split at ho
  all_goals first | (cases ho; done) | (refine isGo_go (h := h) ?_ ho; first | exact Nat.le_refl _ | exact Nat.le_succ _)
theorem g_sw (pc : Nat) (d lo hi : Int) (offs : Array Int) (ls : List (Option Value)) (st : List Value) (h : PH) {z : PSt} (ho : o_sw pc d lo hi offs ls st h = some z) : isGo h z := by
  unfold o_sw at ho
  repeat' split at ho
  all_goals first | (cases ho; done) | (refine isGo_go (h := h) ?_ ho; first | exact Nat.le_refl _ | exact Nat.le_succ _)
theorem g_iald (sc : Nat × (Nat → Int32)) (np : Nat) (ls : List (Option Value)) (st : List Value) (h : PH) {z : PSt} (ho : o_iald sc np ls st h = some z) : isGo h z := by
  unfold o_iald at ho
  repeat' split at ho
  all_goals first | (cases ho; done) | (refine isGo_go (h := h) ?_ ho; first | exact Nat.le_refl _ | exact Nat.le_succ _)
theorem g_bald (np : Nat) (ls : List (Option Value)) (st : List Value) (h : PH) {z : PSt} (ho : o_bald np ls st h = some z) : isGo h z := by
  unfold o_bald at ho
  repeat' split at ho
  all_goals first | (cases ho; done) | (refine isGo_go (h := h) ?_ ho; first | exact Nat.le_refl _ | exact Nat.le_succ _)
theorem g_lald (np : Nat) (ls : List (Option Value)) (st : List Value) (h : PH) {z : PSt} (ho : o_lald np ls st h = some z) : isGo h z := by
  unfold o_lald at ho
  repeat' split at ho
  all_goals first | (cases ho; done) | (refine isGo_go (h := h) ?_ ho; first | exact Nat.le_refl _ | exact Nat.le_succ _)
theorem g_aald (np : Nat) (ls : List (Option Value)) (st : List Value) (h : PH) {z : PSt} (ho : o_aald np ls st h = some z) : isGo h z := by
  unfold o_aald at ho
  repeat' split at ho
  all_goals first | (cases ho; done) | (refine isGo_go (h := h) ?_ ho; first | exact Nat.le_refl _ | exact Nat.le_succ _)
theorem g_iast (np : Nat) (ls : List (Option Value)) (st : List Value) (h : PH) {z : PSt} (ho : o_iast np ls st h = some z) : isGo h z := by
  unfold o_iast at ho
  repeat' split at ho
  all_goals first | (cases ho; done) | (refine isGo_go (h := h) ?_ ho; first | exact Nat.le_refl _ | exact Nat.le_succ _)
theorem g_bast (np : Nat) (ls : List (Option Value)) (st : List Value) (h : PH) {z : PSt} (ho : o_bast np ls st h = some z) : isGo h z := by
  unfold o_bast at ho
  repeat' split at ho
  all_goals first | (cases ho; done) | (refine isGo_go (h := h) ?_ ho; first | exact Nat.le_refl _ | exact Nat.le_succ _)
theorem g_last (np : Nat) (ls : List (Option Value)) (st : List Value) (h : PH) {z : PSt} (ho : o_last np ls st h = some z) : isGo h z := by
  unfold o_last at ho
  repeat' split at ho
  all_goals first | (cases ho; done) | (refine isGo_go (h := h) ?_ ho; first | exact Nat.le_refl _ | exact Nat.le_succ _)
theorem g_aast (np : Nat) (ls : List (Option Value)) (st : List Value) (h : PH) {z : PSt} (ho : o_aast np ls st h = some z) : isGo h z := by
  unfold o_aast at ho
  repeat' split at ho
  all_goals first | (cases ho; done) | (refine isGo_go (h := h) ?_ ho; first | exact Nat.le_refl _ | exact Nat.le_succ _)
theorem g_alen (sc : Nat × (Nat → Int32)) (np : Nat) (ls : List (Option Value)) (st : List Value) (h : PH) {z : PSt} (ho : o_alen sc np ls st h = some z) : isGo h z := by
  unfold o_alen at ho
  repeat' split at ho
  all_goals first | (cases ho; done) | (refine isGo_go (h := h) ?_ ho; first | exact Nat.le_refl _ | exact Nat.le_succ _)
theorem g_new (np a : Nat) (ls : List (Option Value)) (st : List Value) (h : PH) {z : PSt} (ho : o_new np a ls st h = some z) : isGo h z := by
  unfold o_new at ho
  repeat' split at ho
  all_goals first | (cases ho; done) | (refine isGo_go (h := h) ?_ ho; first | exact Nat.le_refl _ | exact Nat.le_succ _)
theorem g_newa (np a : Nat) (ls : List (Option Value)) (st : List Value) (h : PH) {z : PSt} (ho : o_newa np a ls st h = some z) : isGo h z := by
  unfold o_newa at ho
  repeat' split at ho
  all_goals first | (cases ho; done) | (refine isGo_go (h := h) ?_ ho; first | exact Nat.le_refl _ | exact Nat.le_succ _)
theorem g_dup (np : Nat) (ls : List (Option Value)) (st : List Value) (h : PH) {z : PSt} (ho : o_dup np ls st h = some z) : isGo h z := by
  unfold o_dup at ho
  repeat' split at ho
  all_goals first | (cases ho; done) | (refine isGo_go (h := h) ?_ ho; first | exact Nat.le_refl _ | exact Nat.le_succ _)
theorem g_dup2 (np : Nat) (ls : List (Option Value)) (st : List Value) (h : PH) {z : PSt} (ho : o_dup2 np ls st h = some z) : isGo h z := by
  unfold o_dup2 at ho
  repeat' split at ho
  all_goals first | (cases ho; done) | (refine isGo_go (h := h) ?_ ho; first | exact Nat.le_refl _ | exact Nat.le_succ _)
theorem g_dupx2 (np : Nat) (ls : List (Option Value)) (st : List Value) (h : PH) {z : PSt} (ho : o_dupx2 np ls st h = some z) : isGo h z := by
  unfold o_dupx2 at ho
  repeat' split at ho
  all_goals first | (cases ho; done) | (refine isGo_go (h := h) ?_ ho; first | exact Nat.le_refl _ | exact Nat.le_succ _)
theorem g_getf (np a b : Nat) (v : Value) (ls : List (Option Value)) (st : List Value) (h : PH) {z : PSt} (ho : o_getf np a b v ls st h = some z) : isGo h z := by
  unfold o_getf at ho
  repeat' split at ho
  all_goals first | (cases ho; done) | (refine isGo_go (h := h) ?_ ho; first | exact Nat.le_refl _ | exact Nat.le_succ _)
theorem g_putf (np a b : Nat) (v : Value) (ls : List (Option Value)) (st : List Value) (h : PH) {z : PSt} (ho : o_putf np a b v ls st h = some z) : isGo h z := by
  unfold o_putf at ho
  repeat' split at ho
  all_goals first | (cases ho; done) | (refine isGo_go (h := h) ?_ ho; first | exact Nat.le_refl _ | exact Nat.le_succ _)
theorem g_copy (np : Nat) (ls : List (Option Value)) (st : List Value) (h : PH) {z : PSt} (ho : o_copy np ls st h = some z) : isGo h z := by
  unfold o_copy at ho
  repeat' split at ho
  all_goals first | (cases ho; done) | (refine isGo_go (h := h) ?_ ho; first | exact Nat.le_refl _ | exact Nat.le_succ _)
theorem g_obj (np : Nat) (ls : List (Option Value)) (st : List Value) (h : PH) {z : PSt} (ho : o_obj np ls st h = some z) : isGo h z := by
  unfold o_obj at ho
  repeat' split at ho
  all_goals first | (cases ho; done) | (refine isGo_go (h := h) ?_ ho; first | exact Nat.le_refl _ | exact Nat.le_succ _)
theorem g_mat (a np : Nat) (ls : List (Option Value)) (st : List Value) (h : PH) {z : PSt} (ho : o_mat a np ls st h = some z) : isGo h z := by
  unfold o_mat at ho
  repeat' split at ho
  all_goals first | (cases ho; done) | (refine isGo_go (h := h) ?_ ho; first | exact Nat.le_refl _ | exact Nat.le_succ _)
/-- what a call of the tables is -/
def isCall (y pc : Nat) (ls : List (Option Value)) (st : List Value) (h : PH) (z : PSt) : Prop := ∃ (a : Nat) (as r : List Value), z = .inr (.inr (a, as, pc + 3, ls, r, h)) ∧ a < 259 ∧ catS r ≤ 8 ∧ (entS as).length ≤ mL a ∧ ∃ (i : Instr) (idx : Nat), decode (mB y) pc = .ok (i, 3) ∧
  ((i = .invokevirtual idx ∧ mKind a = 0 ∧ Cond.methodLink (oname (mO y)) idx (mY a) ∈ TSG ∧ ∃ (k : Nat) (as' : List Value), as = .ref k :: as' ∧ as'.length = mP a ∧ okp h k (mO a) = true ∧ st = as'.reverse ++ .ref k :: r) ∨
   (i = .invokestatic idx ∧ mKind a = 1 ∧ Cond.methodLink (oname (mO y)) idx (mY a) ∈ TSG ∧ as.length = mP a ∧ st = as.reverse ++ r) ∨
   (i = .invokespecial idx ∧ mKind a = 2 ∧ (Cond.methodLink (oname (mO y)) idx (mY a) ∈ TSG ∨ Cond.methodLinkNest (oname (mO y)) idx (mY a) "SelfShapes" ∈ lw_tbl) ∧ ∃ (k : Nat) (as' : List Value), as = .ref k :: as' ∧ as'.length = mP a ∧ okp h k (mO a) = true ∧ st = as'.reverse ++ .ref k :: r))
def isRet (y pc : Nat) (st : List Value) (h : PH) (z : PSt) : Prop := ∃ v : Option Value, z = .inl (v, h) ∧ st = v.toList ∧
  ((∃ x, v = some (.int x) ∧ decode (mB y) pc = .ok (.ireturn, 1) ∧ (mR y = some .int ∨ mR y = some .boolean ∧ vp_nar .boolean x = x)) ∨ (∃ x, v = some (.long x) ∧ decode (mB y) pc = .ok (.lreturn, 1) ∧ mR y = some .long) ∨ (v = none ∧ decode (mB y) pc = .ok (.return_, 1) ∧ mR y = none))
theorem call_v {np a n : Nat} {ls : List (Option Value)} {st : List Value} {h : PH} {z : PSt} (ho : o_call np a n true ls st h = some z) : ∃ (k : Nat) (as' r : List Value), z = .inr (.inr (a, .ref k :: as', np, ls, r, h)) ∧ as'.length = n ∧ okp h k (mO a) = true ∧ st = as'.reverse ++ .ref k :: r ∧ catS r ≤ 8 ∧ (entS (.ref k :: as')).length ≤ mL a := by
  unfold o_call at ho
  split at ho
  next hc =>
    simp only [if_true] at ho
    split at ho
    next k r hdr =>
      split at ho
      next hok =>
        simp only [Bool.and_eq_true, decide_eq_true_eq] at hok
        refine ⟨k, (st.take n).reverse, r, (Option.some.inj ho).symm, by rw [List.length_reverse]; exact hc.1, hok.1, ?_, hok.2.1, hok.2.2⟩
        rw [List.reverse_reverse, ← hdr, List.take_append_drop]
      · cases ho
    · cases ho
  · cases ho
theorem call_s {np a n : Nat} {ls : List (Option Value)} {st : List Value} {h : PH} {z : PSt} (ho : o_call np a n false ls st h = some z) : ∃ (as r : List Value), z = .inr (.inr (a, as, np, ls, r, h)) ∧ as.length = n ∧ st = as.reverse ++ r ∧ catS r ≤ 8 ∧ (entS as).length ≤ mL a := by
  unfold o_call at ho
  split at ho
  next hc =>
    simp only [Bool.false_eq_true, if_false] at ho
    split at ho
    next hok =>
      refine ⟨(st.take n).reverse, st.drop n, (Option.some.inj ho).symm, by rw [List.length_reverse]; exact hc.1, ?_, hok.1, hok.2⟩
      rw [List.reverse_reverse, List.take_append_drop]
    · cases ho
  · cases ho
theorem len1 {y pc np a b : Nat} {i : Instr} {v : Value} (hy : y < 260) (h : look (insT y) pc = some (i, np, a, b, v)) (hi : i = .ireturn ∨ i = .lreturn ∨ i = .return_) : np = pc + 1 := by
  have h1 := List.all_eq_true.mp ret_all y (List.mem_range.mpr hy)
  unfold retL at h1
  have h2 := List.all_eq_true.mp h1 _ (look_mem h)
  rcases hi with rfl | rfl | rfl <;> exact of_decide_eq_true h2

set_option maxHeartbeats 4000000 in
theorem stp_cases {sc : Nat × (Nat → Int32)} {y pc : Nat} {ls : List (Option Value)} {st : List Value} {h : PH} {z : PSt} (hy : y < 260) (hst : stp sc y (pc, ls, st, h) = some z) : isGo h z ∨ isRet y pc st h z ∨ isCall y pc ls st h z := by
  unfold stp at hst
  simp only at hst
  split at hst
  next e he =>
    obtain ⟨i, np, a, b, v⟩ := e
    obtain ⟨hd, hlt, hck⟩ := ck_at hy he
    cases i with
    | iload k0 => exact Or.inl (g_ldI np a ls st h hst)
    | iload_n k0 => exact Or.inl (g_ldI np a ls st h hst)
    | lload k0 => exact Or.inl (g_ldL np a ls st h hst)
    | lload_n k0 => exact Or.inl (g_ldL np a ls st h hst)
    | aload k0 => exact Or.inl (g_ldA np a ls st h hst)
    | aload_n k0 => exact Or.inl (g_ldA np a ls st h hst)
    | istore k0 => exact Or.inl (g_stI np a ls st h hst)
    | istore_n k0 => exact Or.inl (g_stI np a ls st h hst)
    | lstore k0 => exact Or.inl (g_stL np a ls st h hst)
    | lstore_n k0 => exact Or.inl (g_stL np a ls st h hst)
    | astore k0 => exact Or.inl (g_stA np a ls st h hst)
    | astore_n k0 => exact Or.inl (g_stA np a ls st h hst)
    | iinc k0 n1 => exact Or.inl (g_inc np a v ls st h hst)
    | iconst n1 => exact Or.inl (g_push np v ls st h hst)
    | bipush n1 => exact Or.inl (g_push np v ls st h hst)
    | sipush n1 => exact Or.inl (g_push np v ls st h hst)
    | lconst n1 => exact Or.inl (g_push np v ls st h hst)
    | ldc k0 => exact Or.inl (g_push np v ls st h hst)
    | ldc_w k0 => exact Or.inl (g_push np v ls st h hst)
    | ldc2_w k0 => exact Or.inl (g_push np v ls st h hst)
    | iadd => exact Or.inl (g_ii (fun x y => x + y) np ls st h hst)
    | isub => exact Or.inl (g_ii (fun x y => x - y) np ls st h hst)
    | imul => exact Or.inl (g_ii (fun x y => x * y) np ls st h hst)
    | iand => exact Or.inl (g_ii (fun x y => x &&& y) np ls st h hst)
    | ior => exact Or.inl (g_ii (fun x y => x ||| y) np ls st h hst)
    | ishl => exact Or.inl (g_ii (fun x y => x <<< (y &&& 31)) np ls st h hst)
    | ishr => exact Or.inl (g_ii (fun x y => x >>> (y &&& 31)) np ls st h hst)
    | iushr => exact Or.inl (g_ii (fun x y => (x.toUInt32 >>> (y.toUInt32 &&& Int32.toUInt32 31)).toInt32) np ls st h hst)
    | idiv => exact Or.inl (g_iiz (fun x y => x / y) np ls st h hst)
    | irem => exact Or.inl (g_iiz (fun x y => x - x / y * y) np ls st h hst)
    | ineg => exact Or.inl (g_i (fun x => -x) np ls st h hst)
    | i2b => exact Or.inl (g_i (fun x => x.toInt8.toInt32) np ls st h hst)
    | ladd => exact Or.inl (g_ll (fun x y => x + y) np ls st h hst)
    | lsub => exact Or.inl (g_ll (fun x y => x - y) np ls st h hst)
    | lmul => exact Or.inl (g_ll (fun x y => x * y) np ls st h hst)
    | land => exact Or.inl (g_ll (fun x y => x &&& y) np ls st h hst)
    | lor => exact Or.inl (g_ll (fun x y => x ||| y) np ls st h hst)
    | ldiv => exact Or.inl (g_llz (fun x y => x / y) np ls st h hst)
    | lrem => exact Or.inl (g_llz (fun x y => x - x / y * y) np ls st h hst)
    | lneg => exact Or.inl (g_l (fun x => -x) np ls st h hst)
    | lshl => exact Or.inl (g_li (fun x y => x <<< (y.toInt64 &&& 63)) np ls st h hst)
    | lushr => exact Or.inl (g_li (fun x y => (x.toUInt64 >>> (y.toInt64.toUInt64 &&& Int64.toUInt64 63)).toInt64) np ls st h hst)
    | i2l => exact Or.inl (g_i2l np ls st h hst)
    | l2i => exact Or.inl (g_l2i np ls st h hst)
    | lcmp => exact Or.inl (g_cmp np ls st h hst)
    | ifCond cd off => exact Or.inl (g_if cd np a ls st h hst)
    | if_icmp cd off => exact Or.inl (g_icmp cd np a ls st h hst)
    | tableswitch d0 lo hi offs => exact Or.inl (g_sw pc d0 lo hi offs ls st h hst)
    | iaload => exact Or.inl (g_iald sc np ls st h hst)
    | baload => exact Or.inl (g_bald np ls st h hst)
    | laload => exact Or.inl (g_lald np ls st h hst)
    | aaload => exact Or.inl (g_aald np ls st h hst)
    | iastore => exact Or.inl (g_iast np ls st h hst)
    | bastore => exact Or.inl (g_bast np ls st h hst)
    | lastore => exact Or.inl (g_last np ls st h hst)
    | aastore => exact Or.inl (g_aast np ls st h hst)
    | dup => exact Or.inl (g_dup np ls st h hst)
    | dup2 => exact Or.inl (g_dup2 np ls st h hst)
    | dup_x2 => exact Or.inl (g_dupx2 np ls st h hst)
    | arraylength => exact Or.inl (g_alen sc np ls st h hst)
    | new k0 => exact Or.inl (g_new np a ls st h hst)
    | newarray t0 => exact Or.inl (g_newa np a ls st h hst)
    | anewarray k0 => exact Or.inl (g_newa np a ls st h hst)
    | getfield k0 => exact Or.inl (g_getf np a b v ls st h hst)
    | putfield k0 => exact Or.inl (g_putf np a b v ls st h hst)
    | goto off => exact Or.inl (isGo_go (h' := h) (pc := a) (Nat.le_refl _) hst)
    | getstatic k0 =>
      have hst' : (if a < 4 then go np ls (.ref (1000 + a) :: st) h else none) = some z := hst
      split at hst'
      · exact Or.inl (isGo_go (Nat.le_refl _) hst')
      · cases hst'
    | ireturn =>
      have e1 := len1 hy he (Or.inl rfl)
      rw [e1, Nat.add_sub_cancel_left] at hd
      have hst' : o_iret (mR y) st h = some z := hst
      unfold o_iret at hst'
      split at hst'
      next x hr => exact Or.inr (Or.inl ⟨some (.int x), (Option.some.inj hst').symm, rfl, Or.inl ⟨x, rfl, hd, Or.inl hr⟩⟩)
      next x hr =>
        split at hst'
        next hx => exact Or.inr (Or.inl ⟨some (.int x), (Option.some.inj hst').symm, rfl, Or.inl ⟨x, rfl, hd, Or.inr ⟨hr, hx⟩⟩⟩)
        · cases hst'
      · cases hst'
    | lreturn =>
      have e1 := len1 hy he (Or.inr (Or.inl rfl))
      rw [e1, Nat.add_sub_cancel_left] at hd
      have hst' : o_lret (mR y) st h = some z := hst
      unfold o_lret at hst'
      split at hst'
      next x hr => exact Or.inr (Or.inl ⟨some (.long x), (Option.some.inj hst').symm, rfl, Or.inr (Or.inl ⟨x, rfl, hd, hr⟩)⟩)
      · cases hst'
    | return_ =>
      have e1 := len1 hy he (Or.inr (Or.inr rfl))
      rw [e1, Nat.add_sub_cancel_left] at hd
      have hst' : o_vret (mR y) st h = some z := hst
      unfold o_vret at hst'
      split at hst'
      next hr => exact Or.inr (Or.inl ⟨none, (Option.some.inj hst').symm, rfl, Or.inr (Or.inr ⟨rfl, hd, hr⟩)⟩)
      · cases hst'
    | invokevirtual k0 =>
      simp only [ck1, Bool.and_eq_true, decide_eq_true_eq] at hck
      obtain ⟨c1, c2, c3, c4⟩ := hck
      obtain ⟨w1, w2, -⟩ := mth_word c1
      subst c4
      rw [Nat.add_sub_cancel_left] at hd
      have hst' : o_call (pc + 3) a b true ls st h = some z := hst
      obtain ⟨k, as', r, q1, q2, q3, q4, q5, q6⟩ := call_v hst'
      exact Or.inr (Or.inr ⟨a, _, r, q1, w1, q5, q6, _, k0, hd, Or.inl ⟨rfl, c2, w2 rfl, k, as', rfl, by rw [q2, c3], q3, q4⟩⟩)
    | invokestatic k0 =>
      have hst' : (if a = 9001 then o_copy np ls st h else if 9002 ≤ a then o_mat a np ls st h else o_call np a b false ls st h) = some z := hst
      split at hst'
      · exact Or.inl (g_copy np ls st h hst')
      next n1 =>
        split at hst'
        · exact Or.inl (g_mat a np ls st h hst')
        next n2 =>
          simp only [ck1, if_neg n1, if_neg n2, Bool.and_eq_true, decide_eq_true_eq] at hck
          obtain ⟨⟨c1, c2, c3⟩, c4⟩ := hck
          obtain ⟨w1, w2, -⟩ := mth_word c1
          subst c4
          rw [Nat.add_sub_cancel_left] at hd
          obtain ⟨as, r, q1, q2, q4, q5, q6⟩ := call_s hst'
          exact Or.inr (Or.inr ⟨a, _, r, q1, w1, q5, q6, _, k0, hd, Or.inr (Or.inl ⟨rfl, c2, w2 rfl, by rw [q2, c3], q4⟩)⟩)
    | invokespecial k0 =>
      have hst' : (if a = 9000 then o_obj np ls st h else o_call np a b true ls st h) = some z := hst
      split at hst'
      · exact Or.inl (g_obj np ls st h hst')
      next n1 =>
        simp only [ck1, if_neg n1, Bool.and_eq_true, decide_eq_true_eq, Bool.or_eq_true] at hck
        obtain ⟨⟨c1, c2, c3⟩, c4⟩ := hck
        subst c4
        rw [Nat.add_sub_cancel_left] at hd
        obtain ⟨k, as', r, q1, q2, q3, q4, q5, q6⟩ := call_v hst'
        have hw : a < 259 ∧ (Cond.methodLink (oname (mO y)) k0 (mY a) ∈ TSG ∨ Cond.methodLinkNest (oname (mO y)) k0 (mY a) "SelfShapes" ∈ lw_tbl) := by
          rcases c1 with c1 | c1
          · obtain ⟨w1, w2, -⟩ := mth_word c1
            exact ⟨w1, Or.inl (w2 rfl)⟩
          · obtain ⟨w1, -, w3⟩ := mth_word c1
            exact ⟨w1, Or.inr (w3 (by decide))⟩
        exact Or.inr (Or.inr ⟨a, _, r, q1, hw.1, q5, q6, _, k0, hd, Or.inr (Or.inr ⟨rfl, c2, hw.2, k, as', rfl, by rw [q2, c3], q3, q4⟩)⟩)
    | _ => exact absurd (show (none : Option PSt) = some z from hst) (fun q => by cases q)
  · cases hst
section STP
variable {D : va_G} {b0 : Nat} {ca : Nat → ClassId} {ra : Nat → Nat} {sc : Nat × (Nat → Int32)} {p : Program} {l : Launch} {e : Env} {R : Room} {s : State} {m : MethodId} {args : Array Value} {below : List Frame} {meth : Method} {c : Code} {Q : State → Prop} {n0 nL y : Nat} {pc : Nat} {ls : List (Option Value)} {st : List Value} {h : PH} {g : PC}
set_option maxHeartbeats 8000000 in
theorem k_step (C : Cx D b0 ca ra sc p s m args meth c n0 y) (hy : y < 260) (hnl : nL = mL y) (hroom : 1 ≤ R.frames ∧ 60 ≤ R.locals) (hcap : hN g.2.2.2 - n0 ≤ R.cells ∧ SL (hN g.2.2.2) - SL n0 ≤ R.slots) (hst : stp sc y (pc, ls, st, h) = some (.inr (.inl g))) (k : KK D b0 ca ra p l e R s m args below meth c Q n0 nL g) : KK D b0 ca ra p l e R s m args below meth c Q n0 nL (pc, ls, st, h) := by
  unfold stp at hst
  simp only at hst
  split at hst
  next e0 he =>
    obtain ⟨i, np, a, b, v⟩ := e0
    obtain ⟨hd, hlt, hck⟩ := ck_at hy he
    have hx := C.1
    have hb := C.2.1
    have hown := C.2.2.2.1
    have hts := C.2.2.2.2.1
    cases i with
    | iload k0 =>
      simp only [ck1, Bool.and_eq_true, decide_eq_true_eq] at hck
      obtain ⟨e1, e2⟩ := hck
      subst e1
      exact k_ldI hx hb (by rw [hd, e2, Nat.add_sub_cancel_left]) e2 hst k
    | iload_n k0 =>
      simp only [ck1, Bool.and_eq_true, decide_eq_true_eq] at hck
      obtain ⟨e1, e2⟩ := hck
      exact k_ldI_n hx hb (by rw [hd, e2, Nat.add_sub_cancel_left]) e1 e2 hst k
    | lload k0 =>
      simp only [ck1, Bool.and_eq_true, decide_eq_true_eq] at hck
      obtain ⟨e1, e2⟩ := hck
      subst e1
      exact k_ldL hx hb (by rw [hd, e2, Nat.add_sub_cancel_left]) e2 hst k
    | lload_n k0 =>
      simp only [ck1, Bool.and_eq_true, decide_eq_true_eq] at hck
      obtain ⟨e1, e2⟩ := hck
      exact k_ldL_n hx hb (by rw [hd, e2, Nat.add_sub_cancel_left]) e1 e2 hst k
    | aload k0 =>
      simp only [ck1, Bool.and_eq_true, decide_eq_true_eq] at hck
      obtain ⟨e1, e2⟩ := hck
      subst e1
      exact k_ldA hx hb (by rw [hd, e2, Nat.add_sub_cancel_left]) e2 hst k
    | aload_n k0 =>
      simp only [ck1, Bool.and_eq_true, decide_eq_true_eq] at hck
      obtain ⟨e1, e2⟩ := hck
      exact k_ldA_n hx hb (by rw [hd, e2, Nat.add_sub_cancel_left]) e1 e2 hst k
    | istore k0 =>
      simp only [ck1, Bool.and_eq_true, decide_eq_true_eq] at hck
      obtain ⟨e1, e2⟩ := hck
      subst e1
      exact k_stI hx hb (by rw [hd, e2, Nat.add_sub_cancel_left]) e2 hst k
    | istore_n k0 =>
      simp only [ck1, Bool.and_eq_true, decide_eq_true_eq] at hck
      obtain ⟨e1, e2⟩ := hck
      exact k_stI_n hx hb (by rw [hd, e2, Nat.add_sub_cancel_left]) e1 e2 hst k
    | lstore k0 =>
      simp only [ck1, Bool.and_eq_true, decide_eq_true_eq] at hck
      obtain ⟨e1, e2⟩ := hck
      subst e1
      exact k_stL hx hb (by rw [hd, e2, Nat.add_sub_cancel_left]) e2 hst k
    | lstore_n k0 =>
      simp only [ck1, Bool.and_eq_true, decide_eq_true_eq] at hck
      obtain ⟨e1, e2⟩ := hck
      exact k_stL_n hx hb (by rw [hd, e2, Nat.add_sub_cancel_left]) e1 e2 hst k
    | astore k0 =>
      simp only [ck1, Bool.and_eq_true, decide_eq_true_eq] at hck
      obtain ⟨e1, e2⟩ := hck
      subst e1
      exact k_stA hx hb (by rw [hd, e2, Nat.add_sub_cancel_left]) e2 hst k
    | astore_n k0 =>
      simp only [ck1, Bool.and_eq_true, decide_eq_true_eq] at hck
      obtain ⟨e1, e2⟩ := hck
      exact k_stA_n hx hb (by rw [hd, e2, Nat.add_sub_cancel_left]) e1 e2 hst k
    | iinc k0 n1 =>
      simp only [ck1, Bool.and_eq_true, decide_eq_true_eq] at hck
      obtain ⟨e1, e3, e2⟩ := hck
      subst e1
      exact k_inc hx hb (by rw [hd, e2, Nat.add_sub_cancel_left]) e3 e2 hst k
    | iconst n1 =>
      simp only [ck1, Bool.and_eq_true, decide_eq_true_eq] at hck
      obtain ⟨e1, e2⟩ := hck
      have hd : decode (mB y) pc = .ok (.iconst n1, 1) := by rw [hd, e2, Nat.add_sub_cancel_left]
      exact k_push (i := .nop) (len := 1) (fun x H locs la rest hv kk => by rw [e1] at hv; subst hv; exact lv_iconst hx hb hd rfl kk) e2 hst k
    | bipush n1 =>
      simp only [ck1, Bool.and_eq_true, decide_eq_true_eq] at hck
      obtain ⟨e1, e2⟩ := hck
      have hd : decode (mB y) pc = .ok (.bipush n1, 2) := by rw [hd, e2, Nat.add_sub_cancel_left]
      exact k_push (i := .nop) (len := 2) (fun x H locs la rest hv kk => by rw [e1] at hv; subst hv; exact lv_bipush hx hb hd rfl kk) e2 hst k
    | sipush n1 =>
      simp only [ck1, Bool.and_eq_true, decide_eq_true_eq] at hck
      obtain ⟨e1, e2⟩ := hck
      have hd : decode (mB y) pc = .ok (.sipush n1, 3) := by rw [hd, e2, Nat.add_sub_cancel_left]
      exact k_push (i := .nop) (len := 3) (fun x H locs la rest hv kk => by rw [e1] at hv; subst hv; exact lv_sipush hx hb hd rfl kk) e2 hst k
    | lconst n1 =>
      simp only [ck1, Bool.and_eq_true, decide_eq_true_eq] at hck
      obtain ⟨e1, e2⟩ := hck
      have hd : decode (mB y) pc = .ok (.lconst n1, 1) := by rw [hd, e2, Nat.add_sub_cancel_left]
      exact k_push (i := .nop) (len := 1) (fun x H locs la rest hv kk => by rw [e1] at hv; subst hv; exact lv_lconst hx hb hd rfl kk) e2 hst k
    | ldc k0 =>
      unfold ck1 at hck
      simp only at hck
      split at hck
      next x =>
        simp only [Bool.and_eq_true, decide_eq_true_eq] at hck
        obtain ⟨e1, e2⟩ := hck
        have hd : decode (mB y) pc = .ok (.ldc k0, 2) := by rw [hd, e2, Nat.add_sub_cancel_left]
        exact k_push (v := .int x) (i := .nop) (len := 2) (fun x H locs la rest hv kk => by subst hv; exact lv_ldc hx hb hown (hts _ (TSG_at e1 (by first | rfl | simp [goodWord, Cond.onTables, Cond.keeps, Cond.steady]))) hd kk) e2 hst k
      · cases hck
    | ldc_w k0 =>
      unfold ck1 at hck
      simp only at hck
      split at hck
      next x =>
        simp only [Bool.and_eq_true, decide_eq_true_eq] at hck
        obtain ⟨e1, e2⟩ := hck
        have hd : decode (mB y) pc = .ok (.ldc_w k0, 3) := by rw [hd, e2, Nat.add_sub_cancel_left]
        exact k_push (v := .int x) (i := .nop) (len := 3) (fun x H locs la rest hv kk => by subst hv; exact lv_ldcw hx hb hown (hts _ (TSG_at e1 (by first | rfl | simp [goodWord, Cond.onTables, Cond.keeps, Cond.steady]))) hd kk) e2 hst k
      · cases hck
    | ldc2_w k0 =>
      unfold ck1 at hck
      simp only at hck
      split at hck
      next x =>
        simp only [Bool.and_eq_true, decide_eq_true_eq] at hck
        obtain ⟨e1, e2⟩ := hck
        have hd : decode (mB y) pc = .ok (.ldc2_w k0, 3) := by rw [hd, e2, Nat.add_sub_cancel_left]
        exact k_push (v := .long x) (i := .nop) (len := 3) (fun x H locs la rest hv kk => by subst hv; exact lv_ldc2 hx hb hown (hts _ (TSG_at e1 (by first | rfl | simp [goodWord, Cond.onTables, Cond.keeps, Cond.steady]))) hd kk) e2 hst k
      · cases hck
    | iadd =>
      simp only [ck1, Bool.and_eq_true, decide_eq_true_eq] at hck
      have e2 := hck
      have hd : decode (mB y) pc = .ok (.iadd, 1) := by rw [hd, e2, Nat.add_sub_cancel_left]
      exact k_iadd hx hb hd e2 hst k
    | isub =>
      simp only [ck1, Bool.and_eq_true, decide_eq_true_eq] at hck
      have e2 := hck
      have hd : decode (mB y) pc = .ok (.isub, 1) := by rw [hd, e2, Nat.add_sub_cancel_left]
      exact k_isub hx hb hd e2 hst k
    | imul =>
      simp only [ck1, Bool.and_eq_true, decide_eq_true_eq] at hck
      have e2 := hck
      have hd : decode (mB y) pc = .ok (.imul, 1) := by rw [hd, e2, Nat.add_sub_cancel_left]
      exact k_imul hx hb hd e2 hst k
    | iand =>
      simp only [ck1, Bool.and_eq_true, decide_eq_true_eq] at hck
      have e2 := hck
      have hd : decode (mB y) pc = .ok (.iand, 1) := by rw [hd, e2, Nat.add_sub_cancel_left]
      exact k_iand hx hb hd e2 hst k
    | ior =>
      simp only [ck1, Bool.and_eq_true, decide_eq_true_eq] at hck
      have e2 := hck
      have hd : decode (mB y) pc = .ok (.ior, 1) := by rw [hd, e2, Nat.add_sub_cancel_left]
      exact k_ior hx hb hd e2 hst k
    | ishl =>
      simp only [ck1, Bool.and_eq_true, decide_eq_true_eq] at hck
      have e2 := hck
      have hd : decode (mB y) pc = .ok (.ishl, 1) := by rw [hd, e2, Nat.add_sub_cancel_left]
      exact k_ishl hx hb hd e2 hst k
    | ishr =>
      simp only [ck1, Bool.and_eq_true, decide_eq_true_eq] at hck
      have e2 := hck
      have hd : decode (mB y) pc = .ok (.ishr, 1) := by rw [hd, e2, Nat.add_sub_cancel_left]
      exact k_ishr hx hb hd e2 hst k
    | iushr =>
      simp only [ck1, Bool.and_eq_true, decide_eq_true_eq] at hck
      have e2 := hck
      have hd : decode (mB y) pc = .ok (.iushr, 1) := by rw [hd, e2, Nat.add_sub_cancel_left]
      exact k_iushr hx hb hd e2 hst k
    | idiv =>
      simp only [ck1, Bool.and_eq_true, decide_eq_true_eq] at hck
      have e2 := hck
      have hd : decode (mB y) pc = .ok (.idiv, 1) := by rw [hd, e2, Nat.add_sub_cancel_left]
      exact k_idiv hx hb hd e2 hst k
    | irem =>
      simp only [ck1, Bool.and_eq_true, decide_eq_true_eq] at hck
      have e2 := hck
      have hd : decode (mB y) pc = .ok (.irem, 1) := by rw [hd, e2, Nat.add_sub_cancel_left]
      exact k_irem hx hb hd e2 hst k
    | ineg =>
      simp only [ck1, Bool.and_eq_true, decide_eq_true_eq] at hck
      have e2 := hck
      have hd : decode (mB y) pc = .ok (.ineg, 1) := by rw [hd, e2, Nat.add_sub_cancel_left]
      exact k_ineg hx hb hd e2 hst k
    | i2b =>
      simp only [ck1, Bool.and_eq_true, decide_eq_true_eq] at hck
      have e2 := hck
      have hd : decode (mB y) pc = .ok (.i2b, 1) := by rw [hd, e2, Nat.add_sub_cancel_left]
      exact k_i2b hx hb hd e2 hst k
    | ladd =>
      simp only [ck1, Bool.and_eq_true, decide_eq_true_eq] at hck
      have e2 := hck
      have hd : decode (mB y) pc = .ok (.ladd, 1) := by rw [hd, e2, Nat.add_sub_cancel_left]
      exact k_ladd hx hb hd e2 hst k
    | lsub =>
      simp only [ck1, Bool.and_eq_true, decide_eq_true_eq] at hck
      have e2 := hck
      have hd : decode (mB y) pc = .ok (.lsub, 1) := by rw [hd, e2, Nat.add_sub_cancel_left]
      exact k_lsub hx hb hd e2 hst k
    | lmul =>
      simp only [ck1, Bool.and_eq_true, decide_eq_true_eq] at hck
      have e2 := hck
      have hd : decode (mB y) pc = .ok (.lmul, 1) := by rw [hd, e2, Nat.add_sub_cancel_left]
      exact k_lmul hx hb hd e2 hst k
    | land =>
      simp only [ck1, Bool.and_eq_true, decide_eq_true_eq] at hck
      have e2 := hck
      have hd : decode (mB y) pc = .ok (.land, 1) := by rw [hd, e2, Nat.add_sub_cancel_left]
      exact k_land hx hb hd e2 hst k
    | lor =>
      simp only [ck1, Bool.and_eq_true, decide_eq_true_eq] at hck
      have e2 := hck
      have hd : decode (mB y) pc = .ok (.lor, 1) := by rw [hd, e2, Nat.add_sub_cancel_left]
      exact k_lor hx hb hd e2 hst k
    | ldiv =>
      simp only [ck1, Bool.and_eq_true, decide_eq_true_eq] at hck
      have e2 := hck
      have hd : decode (mB y) pc = .ok (.ldiv, 1) := by rw [hd, e2, Nat.add_sub_cancel_left]
      exact k_ldiv hx hb hd e2 hst k
    | lrem =>
      simp only [ck1, Bool.and_eq_true, decide_eq_true_eq] at hck
      have e2 := hck
      have hd : decode (mB y) pc = .ok (.lrem, 1) := by rw [hd, e2, Nat.add_sub_cancel_left]
      exact k_lrem hx hb hd e2 hst k
    | lneg =>
      simp only [ck1, Bool.and_eq_true, decide_eq_true_eq] at hck
      have e2 := hck
      have hd : decode (mB y) pc = .ok (.lneg, 1) := by rw [hd, e2, Nat.add_sub_cancel_left]
      exact k_lneg hx hb hd e2 hst k
    | lshl =>
      simp only [ck1, Bool.and_eq_true, decide_eq_true_eq] at hck
      have e2 := hck
      have hd : decode (mB y) pc = .ok (.lshl, 1) := by rw [hd, e2, Nat.add_sub_cancel_left]
      exact k_lshl hx hb hd e2 hst k
    | lushr =>
      simp only [ck1, Bool.and_eq_true, decide_eq_true_eq] at hck
      have e2 := hck
      have hd : decode (mB y) pc = .ok (.lushr, 1) := by rw [hd, e2, Nat.add_sub_cancel_left]
      exact k_lushr hx hb hd e2 hst k
    | i2l =>
      simp only [ck1, Bool.and_eq_true, decide_eq_true_eq] at hck
      have e2 := hck
      have hd : decode (mB y) pc = .ok (.i2l, 1) := by rw [hd, e2, Nat.add_sub_cancel_left]
      exact k_i2l hx hb hd e2 hst k
    | l2i =>
      simp only [ck1, Bool.and_eq_true, decide_eq_true_eq] at hck
      have e2 := hck
      have hd : decode (mB y) pc = .ok (.l2i, 1) := by rw [hd, e2, Nat.add_sub_cancel_left]
      exact k_l2i hx hb hd e2 hst k
    | lcmp =>
      simp only [ck1, Bool.and_eq_true, decide_eq_true_eq] at hck
      have e2 := hck
      have hd : decode (mB y) pc = .ok (.lcmp, 1) := by rw [hd, e2, Nat.add_sub_cancel_left]
      exact k_cmp hx hb hd e2 hst k
    | iaload =>
      simp only [ck1, Bool.and_eq_true, decide_eq_true_eq] at hck
      have e2 := hck
      have hd : decode (mB y) pc = .ok (.iaload, 1) := by rw [hd, e2, Nat.add_sub_cancel_left]
      exact k_iald C hd e2 hst k
    | baload =>
      simp only [ck1, Bool.and_eq_true, decide_eq_true_eq] at hck
      have e2 := hck
      have hd : decode (mB y) pc = .ok (.baload, 1) := by rw [hd, e2, Nat.add_sub_cancel_left]
      exact k_bald C hd e2 hst k
    | laload =>
      simp only [ck1, Bool.and_eq_true, decide_eq_true_eq] at hck
      have e2 := hck
      have hd : decode (mB y) pc = .ok (.laload, 1) := by rw [hd, e2, Nat.add_sub_cancel_left]
      exact k_lald C hd e2 hst k
    | aaload =>
      simp only [ck1, Bool.and_eq_true, decide_eq_true_eq] at hck
      have e2 := hck
      have hd : decode (mB y) pc = .ok (.aaload, 1) := by rw [hd, e2, Nat.add_sub_cancel_left]
      exact k_aald C hd e2 hst k
    | iastore =>
      simp only [ck1, Bool.and_eq_true, decide_eq_true_eq] at hck
      have e2 := hck
      have hd : decode (mB y) pc = .ok (.iastore, 1) := by rw [hd, e2, Nat.add_sub_cancel_left]
      exact k_iast C hd e2 hst k
    | bastore =>
      simp only [ck1, Bool.and_eq_true, decide_eq_true_eq] at hck
      have e2 := hck
      have hd : decode (mB y) pc = .ok (.bastore, 1) := by rw [hd, e2, Nat.add_sub_cancel_left]
      exact k_bast C hd e2 hst k
    | lastore =>
      simp only [ck1, Bool.and_eq_true, decide_eq_true_eq] at hck
      have e2 := hck
      have hd : decode (mB y) pc = .ok (.lastore, 1) := by rw [hd, e2, Nat.add_sub_cancel_left]
      exact k_last C hd e2 hst k
    | aastore =>
      simp only [ck1, Bool.and_eq_true, decide_eq_true_eq] at hck
      have e2 := hck
      have hd : decode (mB y) pc = .ok (.aastore, 1) := by rw [hd, e2, Nat.add_sub_cancel_left]
      exact k_aast C hd e2 hst k
    | arraylength =>
      simp only [ck1, Bool.and_eq_true, decide_eq_true_eq] at hck
      have e2 := hck
      have hd : decode (mB y) pc = .ok (.arraylength, 1) := by rw [hd, e2, Nat.add_sub_cancel_left]
      exact k_alen C hd e2 hst k
    | dup =>
      simp only [ck1, Bool.and_eq_true, decide_eq_true_eq] at hck
      have e2 := hck
      have hd : decode (mB y) pc = .ok (.dup, 1) := by rw [hd, e2, Nat.add_sub_cancel_left]
      exact k_dup hx hb hd e2 hst k
    | dup2 =>
      simp only [ck1, Bool.and_eq_true, decide_eq_true_eq] at hck
      have e2 := hck
      have hd : decode (mB y) pc = .ok (.dup2, 1) := by rw [hd, e2, Nat.add_sub_cancel_left]
      exact k_dup2 hx hb hd e2 hst k
    | dup_x2 =>
      simp only [ck1, Bool.and_eq_true, decide_eq_true_eq] at hck
      have e2 := hck
      have hd : decode (mB y) pc = .ok (.dup_x2, 1) := by rw [hd, e2, Nat.add_sub_cancel_left]
      exact k_dupx2 hx hb hd e2 hst k
    | ifCond cd off =>
      simp only [ck1, Bool.and_eq_true, decide_eq_true_eq] at hck
      obtain ⟨e1, e2⟩ := hck
      have hd : decode (mB y) pc = .ok (.ifCond cd off, 3) := by rw [hd, e2, Nat.add_sub_cancel_left]
      exact k_if hx hb hd e1 e2 hst k
    | if_icmp cd off =>
      simp only [ck1, Bool.and_eq_true, decide_eq_true_eq] at hck
      obtain ⟨e1, e2⟩ := hck
      have hd : decode (mB y) pc = .ok (.if_icmp cd off, 3) := by rw [hd, e2, Nat.add_sub_cancel_left]
      exact k_icmp hx hb hd e1 e2 hst k
    | goto off =>
      simp only [ck1, Bool.and_eq_true, decide_eq_true_eq] at hck
      obtain ⟨e1, e2⟩ := hck
      have hd : decode (mB y) pc = .ok (.goto off, 3) := by rw [hd, e2, Nat.add_sub_cancel_left]
      exact k_goto hx hb hd e1 hst k
    | tableswitch d0 lo hi offs => exact k_sw hx hb hd hst k
    | getfield k0 =>
      simp only [ck1, Bool.and_eq_true, decide_eq_true_eq] at hck
      obtain ⟨e1, e3, e2⟩ := hck
      have hd : decode (mB y) pc = .ok (.getfield k0, 3) := by rw [hd, e2, Nat.add_sub_cancel_left]
      exact k_getf C hd e1 e3 e2 hst k
    | putfield k0 =>
      simp only [ck1, Bool.and_eq_true, decide_eq_true_eq, Bool.or_eq_true, Bool.not_eq_true'] at hck
      obtain ⟨e1, e3, e2, e4⟩ := hck
      have hd : decode (mB y) pc = .ok (.putfield k0, 3) := by rw [hd, e2, Nat.add_sub_cancel_left]
      exact k_putf C hd e1 e3 (fun hf => e4.elim (fun q => by rw [hf] at q; cases q) (fun q => q)) e2 hst k
    | getstatic k0 =>
      simp only [ck1, Bool.and_eq_true, decide_eq_true_eq] at hck
      obtain ⟨e1, e2⟩ := hck
      have hd : decode (mB y) pc = .ok (.getstatic k0, 3) := by rw [hd, e2, Nat.add_sub_cancel_left]
      exact k_gets C hd e1 e2 hst k
    | new k0 =>
      simp only [ck1, Bool.and_eq_true, decide_eq_true_eq] at hck
      obtain ⟨e1, e2⟩ := hck
      have hd : decode (mB y) pc = .ok (.new k0, 3) := by rw [hd, e2, Nat.add_sub_cancel_left]
      have hst' : o_new np a ls st h = some (.inr (.inl g)) := hst
      have hg : hN g.2.2.2 = hN h + 1 := by
        unfold o_new at hst'
        split at hst'
        · cases hst'; rfl
        · cases hst'
      rw [hg] at hcap
      exact k_new C hd e1 e2 hcap hst' k
    | newarray t0 =>
      have hst' : o_newa np a ls st h = some (.inr (.inl g)) := hst
      have hg : hN g.2.2.2 = hN h + 1 := by
        unfold o_newa at hst'
        split at hst'
        · split at hst'
          · cases hst'; rfl
          · cases hst'
        · cases hst'
      rw [hg] at hcap
      unfold ck1 at hck
      simp only [Bool.and_eq_true, decide_eq_true_eq] at hck
      obtain ⟨e1, e2⟩ := hck
      have hd : decode (mB y) pc = .ok (.newarray t0, 2) := by rw [hd, e2, Nat.add_sub_cancel_left]
      refine k_newa C hd ?_ e2 hcap hst' k
      cases t0 <;> simp at e1 <;> simp [e1]
    | anewarray k0 =>
      have hst' : o_newa np a ls st h = some (.inr (.inl g)) := hst
      have hg : hN g.2.2.2 = hN h + 1 := by
        unfold o_newa at hst'
        split at hst'
        · split at hst'
          · cases hst'; rfl
          · cases hst'
        · cases hst'
      rw [hg] at hcap
      simp only [ck1, Bool.and_eq_true, decide_eq_true_eq, Bool.or_eq_true] at hck
      obtain ⟨e1, e2⟩ := hck
      have hd : decode (mB y) pc = .ok (.anewarray k0, 3) := by rw [hd, e2, Nat.add_sub_cancel_left]
      exact k_anew C hd e1 e2 hcap hst' k
    | invokevirtual k0 =>
      have hst' : o_call np a b true ls st h = some (.inr (.inl g)) := hst
      obtain ⟨_, _, _, q1, -⟩ := call_v hst'
      cases q1
    | invokestatic k0 =>
      have hst' : (if a = 9001 then o_copy np ls st h else if 9002 ≤ a then o_mat a np ls st h else o_call np a b false ls st h) = some (.inr (.inl g)) := hst
      split at hst'
      next n1 =>
        simp only [ck1, if_pos n1, Bool.and_eq_true, decide_eq_true_eq] at hck
        obtain ⟨e1, e2⟩ := hck
        have hd : decode (mB y) pc = .ok (.invokestatic k0, 3) := by rw [hd, e2, Nat.add_sub_cancel_left]
        exact k_copy C hnl hd (by simpa using e1) e2 hroom hst' k
      next n1 =>
        split at hst'
        next n2 =>
          simp only [ck1, if_neg n1, if_pos n2, Bool.and_eq_true, decide_eq_true_eq] at hck
          obtain ⟨e1, e2⟩ := hck
          have hd : decode (mB y) pc = .ok (.invokestatic k0, 3) := by rw [hd, e2, Nat.add_sub_cancel_left]
          have hm : hN h ≤ hN g.2.2.2 := by
            obtain ⟨g', e3, e4⟩ := g_mat a np ls st h hst'
            cases e3
            exact e4
          have hs := SL_mono hm
          exact k_mat C hnl hd (by simpa using e1) e2 hroom ⟨by omega, by omega⟩ hst' k
        · obtain ⟨_, _, q1, -⟩ := call_s hst'
          cases q1
    | invokespecial k0 =>
      have hst' : (if a = 9000 then o_obj np ls st h else o_call np a b true ls st h) = some (.inr (.inl g)) := hst
      split at hst'
      next n1 =>
        simp only [ck1, if_pos n1, Bool.and_eq_true, decide_eq_true_eq] at hck
        obtain ⟨e1, e2⟩ := hck
        have hd : decode (mB y) pc = .ok (.invokespecial k0, 3) := by rw [hd, e2, Nat.add_sub_cancel_left]
        exact k_obj C hnl hd (by simpa using e1) e2 hroom hst' k
      · obtain ⟨_, _, _, q1, -⟩ := call_v hst'
        cases q1
    | ireturn =>
      have hst' : o_iret (mR y) st h = some (.inr (.inl g)) := hst
      unfold o_iret at hst'
      repeat' split at hst'
      all_goals cases hst'
    | lreturn =>
      have hst' : o_lret (mR y) st h = some (.inr (.inl g)) := hst
      unfold o_lret at hst'
      repeat' split at hst'
      all_goals cases hst'
    | return_ =>
      have hst' : o_vret (mR y) st h = some (.inr (.inl g)) := hst
      unfold o_vret at hst'
      repeat' split at hst'
      all_goals cases hst'
    | _ => exact absurd (show (none : Option PSt) = some (.inr (.inl g)) from hst) (fun q => by cases q)
  · cases hst
end STP
