/-! ===== reasoning over the pure machine: Tr, what must hold so that a run from here ends with Q; each instruction an equation ===== -/
def Tr (sc : Nat × (Nat → Int32)) (d y : Nat) (g : PC) (Q : PRes → Prop) : Prop := ∃ (f : Nat) (r : PRes), exec sc f d y g = some r ∧ Q r
theorem exec_up {sc : Nat × (Nat → Int32)} : ∀ (f d y : Nat) (g : PC) (r : PRes), exec sc f d y g = some r → exec sc (f + 1) d y g = some r := by
  intro f
  induction f with
  | zero => intro d y g r h; cases h
  | succ f ih =>
    intro d y g r h
    unfold exec at h ⊢
    split at h
    · cases h
    next z hz => exact h
    next g' hz => exact ih _ _ _ _ h
    next y' as pc ls st h1 hz =>
      split at h
      · cases h
      next d' =>
        split at h
        · cases h
        next v h2 hc =>
          rw [ih _ _ _ _ hc]
          exact ih _ _ _ _ h
theorem exec_le {sc : Nat × (Nat → Int32)} {f f' d y : Nat} {g : PC} {r : PRes} (hl : f ≤ f') (h : exec sc f d y g = some r) : exec sc f' d y g = some r := by
  induction hl with
  | refl => exact h
  | step _ ih => exact exec_up _ _ _ _ _ ih
section TR
variable {sc : Nat × (Nat → Int32)} {d y : Nat} {g g' : PC} {Q : PRes → Prop}
theorem Tr_go (h : stp sc y g = some (.inr (.inl g'))) : Tr sc d y g Q = Tr sc d y g' Q := by
  apply propext
  constructor
  · rintro ⟨f, r, h1, h2⟩
    cases f with
    | zero => cases h1
    | succ f =>
      unfold exec at h1
      rw [h] at h1
      exact ⟨f, r, h1, h2⟩
  · rintro ⟨f, r, h1, h2⟩
    refine ⟨f + 1, r, ?_, h2⟩
    unfold exec
    rw [h]
    exact h1
theorem Tr_ret {r : PRes} (h : stp sc y g = some (.inl r)) : Tr sc d y g Q = Q r := by
  apply propext
  constructor
  · rintro ⟨f, r', h1, h2⟩
    cases f with
    | zero => cases h1
    | succ f =>
      unfold exec at h1
      rw [h] at h1
      cases h1
      exact h2
  · intro h2
    refine ⟨1, r, ?_, h2⟩
    unfold exec
    rw [h]
theorem Tr_no (h : stp sc y g = none) : Tr sc d y g Q = False := by
  apply propext
  constructor
  · rintro ⟨f, r', h1, h2⟩
    cases f with
    | zero => cases h1
    | succ f =>
      unfold exec at h1
      rw [h] at h1
      cases h1
  · intro h; cases h
theorem Tr_call {a : Nat} {as : List Value} {pc : Nat} {ls : List (Option Value)} {st : List Value} {h1 : PH} (h : stp sc y g = some (.inr (.inr (a, as, pc, ls, st, h1)))) : Tr sc (d + 1) y g Q = Tr sc d a (ent0 a as h1) (fun r => Tr sc (d + 1) y (pc, ls, r.1.toList ++ st, r.2) Q) := by
  apply propext
  constructor
  · rintro ⟨f, r, e1, e2⟩
    cases f with
    | zero => cases e1
    | succ f =>
      unfold exec at e1
      rw [h] at e1
      simp only at e1
      split at e1
      · cases e1
      next v h2 hc => exact ⟨f, (v, h2), hc, f, r, e1, e2⟩
  · rintro ⟨f1, ⟨v, h2⟩, e1, f2, r, e2, e3⟩
    refine ⟨max f1 f2 + 1, r, ?_, e3⟩
    unfold exec
    rw [h]
    simp only
    rw [exec_le (Nat.le_max_left f1 f2) e1]
    exact exec_le (Nat.le_max_right f1 f2) e2
/-- a stronger end -/
theorem Tr_mono {Q' : PRes → Prop} (h : Tr sc d y g Q) (hq : ∀ r, Q r → Q' r) : Tr sc d y g Q' := by
  obtain ⟨f, r, h1, h2⟩ := h
  exact ⟨f, r, h1, hq r h2⟩
/-- an end that is known: an equation -/
theorem Tr_val {r : PRes} (h : Tr sc d y g (fun z => z = r)) : Tr sc d y g Q = Q r := by
  obtain ⟨f, r', h1, rfl⟩ := h
  apply propext
  constructor
  · rintro ⟨f2, r2, e1, e2⟩
    have q1 := exec_le (Nat.le_max_left f f2) h1
    have q2 := exec_le (Nat.le_max_right f f2) e1
    rw [q1] at q2
    cases q2
    exact e2
  · intro hq
    exact ⟨f, r', h1, hq⟩
end TR
def lk (y pc : Nat) : Option E5 := look (insT y) pc
def iOk (sc : Nat × (Nat → Int32)) (h : PH) (k : Nat) (i : Int32) : Prop := if k < 1000 then okp h k 11 = true ∧ inb i (LN k) = true else inb i (ro sc (k - 1000)).1 = true
def iRd (sc : Nat × (Nat → Int32)) (h : PH) (k : Nat) (i : Int32) : Int32 := if k < 1000 then hI h k i.toNatClampNeg else (ro sc (k - 1000)).2 i.toNatClampNeg
section TI
variable {sc : Nat × (Nat → Int32)} {d y : Nat} {Q : PRes → Prop} {pc np a b : Nat} {v : Value} {ls : List (Option Value)} {st : List Value} {h : PH} {x : Int32} {xl : Int64} {k q : Nat}
theorem stp_at {e : E5} (hl : lk y pc = some e) : stp sc y (pc, ls, st, h) = opr sc (mR y) pc e ls st h := by
  unfold stp
  show (match look (insT y) pc with | some e => opr sc (mR y) pc e ls st h | none => none) = _
  rw [show look (insT y) pc = some e from hl]
theorem Tr_if {c : Prop} [Decidable c] {g1 g2 : PC} {g : PC} (hs : stp sc y g = if c then some (.inr (.inl g1)) else some (.inr (.inl g2))) : Tr sc d y g Q = if c then Tr sc d y g1 Q else Tr sc d y g2 Q := by
  by_cases hc : c
  · rw [if_pos hc] at hs ⊢; exact Tr_go hs
  · rw [if_neg hc] at hs ⊢; exact Tr_go hs
theorem Tr_gd {c : Prop} [Decidable c] {g1 : PC} {g : PC} (hs : stp sc y g = if c then some (.inr (.inl g1)) else none) : Tr sc d y g Q = (c ∧ Tr sc d y g1 Q) := by
  by_cases hc : c
  · rw [if_pos hc] at hs; rw [Tr_go hs]; exact propext ⟨fun q => ⟨hc, q⟩, fun q => q.2⟩
  · rw [if_neg hc] at hs; rw [Tr_no hs]; exact propext ⟨fun q => q.elim, fun q => hc q.1⟩
theorem t_iload {kk : Nat} (hl : lk y pc = some (.iload kk, np, a, b, v)) (hg : gl ls a = some (.int x)) : Tr sc d y (pc, ls, st, h) Q = Tr sc d y (np, ls, .int x :: st, h) Q := Tr_go (by
  rw [stp_at hl]; show o_ldI np a ls st h = _; unfold o_ldI; rw [hg]; rfl)
theorem t_iload_n {kk : Fin 4} (hl : lk y pc = some (.iload_n kk, np, a, b, v)) (hg : gl ls a = some (.int x)) : Tr sc d y (pc, ls, st, h) Q = Tr sc d y (np, ls, .int x :: st, h) Q := Tr_go (by
  rw [stp_at hl]; show o_ldI np a ls st h = _; unfold o_ldI; rw [hg]; rfl)
theorem t_lload {kk : Nat} (hl : lk y pc = some (.lload kk, np, a, b, v)) (hg : gl ls a = some (.long xl)) : Tr sc d y (pc, ls, st, h) Q = Tr sc d y (np, ls, .long xl :: st, h) Q := Tr_go (by
  rw [stp_at hl]; show o_ldL np a ls st h = _; unfold o_ldL; rw [hg]; rfl)
theorem t_lload_n {kk : Fin 4} (hl : lk y pc = some (.lload_n kk, np, a, b, v)) (hg : gl ls a = some (.long xl)) : Tr sc d y (pc, ls, st, h) Q = Tr sc d y (np, ls, .long xl :: st, h) Q := Tr_go (by
  rw [stp_at hl]; show o_ldL np a ls st h = _; unfold o_ldL; rw [hg]; rfl)
theorem t_aload {kk : Nat} (hl : lk y pc = some (.aload kk, np, a, b, v)) (hg : gl ls a = some (.ref k)) : Tr sc d y (pc, ls, st, h) Q = Tr sc d y (np, ls, .ref k :: st, h) Q := Tr_go (by
  rw [stp_at hl]; show o_ldA np a ls st h = _; unfold o_ldA; rw [hg]; rfl)
theorem t_aload_n {kk : Fin 4} (hl : lk y pc = some (.aload_n kk, np, a, b, v)) (hg : gl ls a = some (.ref k)) : Tr sc d y (pc, ls, st, h) Q = Tr sc d y (np, ls, .ref k :: st, h) Q := Tr_go (by
  rw [stp_at hl]; show o_ldA np a ls st h = _; unfold o_ldA; rw [hg]; rfl)
theorem t_istore {kk : Nat} (hl : lk y pc = some (.istore kk, np, a, b, v)) (hn : a < ls.length) : Tr sc d y (pc, ls, .int x :: st, h) Q = Tr sc d y (np, sto1 ls a (.int x), st, h) Q := Tr_go (by
  rw [stp_at hl]; show o_stI np a ls (.int x :: st) h = _; unfold o_stI; simp only [if_pos hn]; rfl)
theorem t_istore_n {kk : Fin 4} (hl : lk y pc = some (.istore_n kk, np, a, b, v)) (hn : a < ls.length) : Tr sc d y (pc, ls, .int x :: st, h) Q = Tr sc d y (np, sto1 ls a (.int x), st, h) Q := Tr_go (by
  rw [stp_at hl]; show o_stI np a ls (.int x :: st) h = _; unfold o_stI; simp only [if_pos hn]; rfl)
theorem t_lstore {kk : Nat} (hl : lk y pc = some (.lstore kk, np, a, b, v)) (hn : a + 1 < ls.length) : Tr sc d y (pc, ls, .long xl :: st, h) Q = Tr sc d y (np, sto2 ls a (.long xl), st, h) Q := Tr_go (by
  rw [stp_at hl]; show o_stL np a ls (.long xl :: st) h = _; unfold o_stL; simp only [if_pos hn]; rfl)
theorem t_lstore_n {kk : Fin 4} (hl : lk y pc = some (.lstore_n kk, np, a, b, v)) (hn : a + 1 < ls.length) : Tr sc d y (pc, ls, .long xl :: st, h) Q = Tr sc d y (np, sto2 ls a (.long xl), st, h) Q := Tr_go (by
  rw [stp_at hl]; show o_stL np a ls (.long xl :: st) h = _; unfold o_stL; simp only [if_pos hn]; rfl)
theorem t_astore {kk : Nat} (hl : lk y pc = some (.astore kk, np, a, b, v)) (hn : a < ls.length) : Tr sc d y (pc, ls, .ref k :: st, h) Q = Tr sc d y (np, sto1 ls a (.ref k), st, h) Q := Tr_go (by
  rw [stp_at hl]; show o_stA np a ls (.ref k :: st) h = _; unfold o_stA; simp only [if_pos hn]; rfl)
theorem t_astore_n {kk : Fin 4} (hl : lk y pc = some (.astore_n kk, np, a, b, v)) (hn : a < ls.length) : Tr sc d y (pc, ls, .ref k :: st, h) Q = Tr sc d y (np, sto1 ls a (.ref k), st, h) Q := Tr_go (by
  rw [stp_at hl]; show o_stA np a ls (.ref k :: st) h = _; unfold o_stA; simp only [if_pos hn]; rfl)
theorem t_inc {n : Int} {kk : Nat} {c : Int32} (hl : lk y pc = some (.iinc kk n, np, a, b, .int c)) (hg : gl ls a = some (.int x)) (hn : a < ls.length) : Tr sc d y (pc, ls, st, h) Q = Tr sc d y (np, sto1 ls a (.int (x + c)), st, h) Q := Tr_go (by
  rw [stp_at hl]; show o_inc np a (.int c) ls st h = _; unfold o_inc; rw [hg]; simp only [if_pos hn]; rfl)
theorem t_pushi {i : Instr} {c : Int32} (hi : ∀ ls st h, opr sc (mR y) pc (i, np, a, b, .int c) ls st h = o_push np (.int c) ls st h) (hl : lk y pc = some (i, np, a, b, .int c)) : Tr sc d y (pc, ls, st, h) Q = Tr sc d y (np, ls, .int c :: st, h) Q := Tr_go (by
  rw [stp_at hl, hi]; rfl)
theorem t_pushl {i : Instr} {c : Int64} (hi : ∀ ls st h, opr sc (mR y) pc (i, np, a, b, .long c) ls st h = o_push np (.long c) ls st h) (hl : lk y pc = some (i, np, a, b, .long c)) : Tr sc d y (pc, ls, st, h) Q = Tr sc d y (np, ls, .long c :: st, h) Q := Tr_go (by
  rw [stp_at hl, hi]; rfl)
/-- an instruction whose step is known by computation -/
theorem t_go {e : E5} {g' : PC} (hl : lk y pc = some e) (hs : opr sc (mR y) pc e ls st h = some (.inr (.inl g'))) : Tr sc d y (pc, ls, st, h) Q = Tr sc d y g' Q := Tr_go ((stp_at hl).trans hs)
theorem t_gd {e : E5} {g' : PC} {c : Prop} [Decidable c] (hl : lk y pc = some e) (hs : opr sc (mR y) pc e ls st h = if c then some (.inr (.inl g')) else none) : Tr sc d y (pc, ls, st, h) Q = (c ∧ Tr sc d y g' Q) := Tr_gd ((stp_at hl).trans hs)
theorem t_if {e : E5} {g1 g2 : PC} {c : Prop} [Decidable c] (hl : lk y pc = some e) (hs : opr sc (mR y) pc e ls st h = if c then some (.inr (.inl g1)) else some (.inr (.inl g2))) : Tr sc d y (pc, ls, st, h) Q = if c then Tr sc d y g1 Q else Tr sc d y g2 Q := Tr_if ((stp_at hl).trans hs)
theorem t_ret {e : E5} {r : PRes} (hl : lk y pc = some e) (hs : opr sc (mR y) pc e ls st h = some (.inl r)) : Tr sc d y (pc, ls, st, h) Q = Q r := Tr_ret ((stp_at hl).trans hs)
theorem t_zret {e5 : Nat × Nat × Nat × Value} (hl : lk y pc = some (.ireturn, e5)) (hr : mR y = some .boolean) : Tr sc d y (pc, ls, [.int x], h) Q = (vp_nar .boolean x = x ∧ Q (some (.int x), h)) := by
  have hs : stp sc y (pc, ls, [.int x], h) = if vp_nar .boolean x = x then some (.inl (some (.int x), h)) else none := by
    rw [stp_at hl, hr]; rfl
  by_cases hc : vp_nar .boolean x = x
  · rw [if_pos hc] at hs; rw [Tr_ret hs]; exact propext ⟨fun q => ⟨hc, q⟩, fun q => q.2⟩
  · rw [if_neg hc] at hs; rw [Tr_no hs]; exact propext ⟨fun q => q.elim, fun q => hc q.1⟩
theorem t_ng {e : E5} {g' : PC} {c : Prop} [Decidable c] (hl : lk y pc = some e) (hs : opr sc (mR y) pc e ls st h = if c then none else some (.inr (.inl g'))) : Tr sc d y (pc, ls, st, h) Q = (¬ c ∧ Tr sc d y g' Q) := by
  have hs2 := (stp_at (sc := sc) (ls := ls) (st := st) (h := h) hl).trans hs
  by_cases hc : c
  · rw [if_pos hc] at hs2; rw [Tr_no hs2]; exact propext ⟨fun q => q.elim, fun q => q.1 hc⟩
  · rw [if_neg hc] at hs2; rw [Tr_go hs2]; exact propext ⟨fun q => ⟨hc, q⟩, fun q => q.2⟩
theorem t_iald {i : Int32} (hl : lk y pc = some (.iaload, np, a, b, v)) : Tr sc d y (pc, ls, .int i :: .ref k :: st, h) Q = (iOk sc h k i ∧ Tr sc d y (np, ls, .int (iRd sc h k i) :: st, h) Q) := by
  have hs : stp sc y (pc, ls, .int i :: .ref k :: st, h) = o_iald sc np ls (.int i :: .ref k :: st) h := (stp_at hl).trans rfl
  unfold o_iald at hs
  unfold iOk iRd
  by_cases hk : k < 1000
  · simp only [if_pos hk] at hs ⊢
    rw [← Bool.and_eq_true]
    exact Tr_gd hs
  · simp only [if_neg hk] at hs ⊢
    generalize ro sc (k - 1000) = rr at hs ⊢
    exact Tr_gd hs
theorem t_getr {kk : Nat} (hl : lk y pc = some (.getfield kk, np, a, b, .null)) : Tr sc d y (pc, ls, .ref k :: st, h) Q = (okp h k a = true ∧ ∃ q, hR h k b = some q ∧ Tr sc d y (np, ls, .ref q :: st, h) Q) := by
  have hs : stp sc y (pc, ls, .ref k :: st, h) = if okp h k a = true then (match hR h k b with | some q => go np ls (.ref q :: st) h | none => none) else none := stp_at hl
  by_cases hc : okp h k a = true
  · rw [if_pos hc] at hs
    cases hq : hR h k b with
    | none =>
      rw [hq] at hs
      rw [Tr_no hs]
      exact propext ⟨fun q => q.elim, fun ⟨_, q, e, _⟩ => by cases e⟩
    | some q =>
      rw [hq] at hs
      rw [Tr_go hs]
      exact propext ⟨fun z => ⟨hc, q, rfl, z⟩, fun ⟨_, q', e, z⟩ => by cases e; exact z⟩
  · rw [if_neg hc] at hs
    rw [Tr_no hs]
    exact propext ⟨fun q => q.elim, fun q => absurd q.1 hc⟩
theorem t_aald {i : Int32} (hl : lk y pc = some (.aaload, np, a, b, v)) : Tr sc d y (pc, ls, .int i :: .ref k :: st, h) Q = (((okp h k 14 || okp h k 15) && inb i (LN k)) = true ∧ ∃ q, hR h k i.toNatClampNeg = some q ∧ Tr sc d y (np, ls, .ref q :: st, h) Q) := by
  have hs : stp sc y (pc, ls, .int i :: .ref k :: st, h) = if ((okp h k 14 || okp h k 15) && inb i (LN k)) = true then (match hR h k i.toNatClampNeg with | some q => go np ls (.ref q :: st) h | none => none) else none := stp_at hl
  by_cases hc : ((okp h k 14 || okp h k 15) && inb i (LN k)) = true
  · rw [if_pos hc] at hs
    cases hq : hR h k i.toNatClampNeg with
    | none =>
      rw [hq] at hs
      rw [Tr_no hs]
      exact propext ⟨fun q => q.elim, fun ⟨_, q, e, _⟩ => by cases e⟩
    | some q =>
      rw [hq] at hs
      rw [Tr_go hs]
      exact propext ⟨fun z => ⟨hc, q, rfl, z⟩, fun ⟨_, q', e, z⟩ => by cases e; exact z⟩
  · rw [if_neg hc] at hs
    rw [Tr_no hs]
    exact propext ⟨fun q => q.elim, fun q => absurd q.1 hc⟩
/-- System.arraycopy of ints, of longs -/
theorem t_copy {kk : Nat} {n dp sp : Int32} {k0 k1 : Nat} (hl : lk y pc = some (.invokestatic kk, np, 9001, b, v)) : Tr sc d y (pc, ls, .int n :: .int dp :: .ref k1 :: .int sp :: .ref k0 :: st, h) Q = (((¬ sp < 0) ∧ (¬ dp < 0) ∧ (¬ n < 0) ∧ sp.toNatClampNeg + n.toNatClampNeg ≤ LN k0 ∧ dp.toNatClampNeg + n.toNatClampNeg ≤ LN k1 ∧ catS st ≤ 8) ∧ if (okp h k0 11 && okp h k1 11) = true then Tr sc d y (np, ls, st, aI h k1 (va_cpy (hI h k0) (hI h k1) sp.toNatClampNeg dp.toNatClampNeg n.toNatClampNeg)) Q else ((okp h k0 12 && okp h k1 12) = true ∧ Tr sc d y (np, ls, st, aL h k1 (va_cpy (hL h k0) (hL h k1) sp.toNatClampNeg dp.toNatClampNeg n.toNatClampNeg)) Q)) := by
  have hs : stp sc y (pc, ls, .int n :: .int dp :: .ref k1 :: .int sp :: .ref k0 :: st, h) = o_copy np ls (.int n :: .int dp :: .ref k1 :: .int sp :: .ref k0 :: st) h := (stp_at hl).trans rfl
  unfold o_copy at hs
  simp only at hs
  by_cases hc : (¬ sp < 0) ∧ (¬ dp < 0) ∧ (¬ n < 0) ∧ sp.toNatClampNeg + n.toNatClampNeg ≤ LN k0 ∧ dp.toNatClampNeg + n.toNatClampNeg ≤ LN k1 ∧ catS st ≤ 8
  · rw [if_pos hc] at hs
    by_cases c1 : (okp h k0 11 && okp h k1 11) = true
    · rw [if_pos c1] at hs ⊢
      rw [Tr_go hs]
      exact propext ⟨fun z => ⟨hc, z⟩, fun z => z.2⟩
    · rw [if_neg c1] at hs ⊢
      rw [Tr_gd hs]
      exact propext ⟨fun z => ⟨hc, z⟩, fun z => z.2⟩
  · rw [if_neg hc] at hs
    rw [Tr_no hs]
    exact propext ⟨fun q => q.elim, fun q => absurd q.1 hc⟩
theorem t_cvx {i : Instr} {n : Nat} {as r : List Value} (hi : ∀ (ls : List (Option Value)) (st : List Value) (h : PH), opr sc (mR y) pc (i, np, a, n, v) ls st h = o_call np a n true ls st h) (hl : lk y pc = some (i, np, a, n, v)) (hst : st = as.reverse ++ .ref k :: r) (hn : as.length = n) (hc : catS r ≤ 8) (hc2 : catS (Value.ref k :: r) ≤ 11) (hen : (entS (.ref k :: as)).length ≤ mL a) : Tr sc (d + 1) y (pc, ls, st, h) Q = (okp h k (mO a) = true ∧ Tr sc d a (ent0 a (.ref k :: as) h) (fun z => Tr sc (d + 1) y (np, ls, z.1.toList ++ r, z.2) Q)) := by
  have hs : stp sc y (pc, ls, st, h) = o_call np a n true ls st h := (stp_at hl).trans (hi _ _ _)
  have e1 : st.take n = as.reverse := by rw [hst, ← hn, ← List.length_reverse, List.take_left]
  have e2 : st.drop n = .ref k :: r := by rw [hst, ← hn, ← List.length_reverse, List.drop_left]
  unfold o_call at hs
  rw [e1, e2, List.reverse_reverse, if_pos ⟨by rw [List.length_reverse]; exact hn, hc2⟩] at hs
  simp only [if_true] at hs
  by_cases ho : okp h k (mO a) = true
  · rw [if_pos (by rw [ho, decide_eq_true hc, decide_eq_true hen]; rfl)] at hs
    rw [Tr_call hs]
    exact propext ⟨fun z => ⟨ho, z⟩, fun z => z.2⟩
  · rw [if_neg (fun q => ho (Bool.and_eq_true_iff.mp q).1)] at hs
    rw [Tr_no hs]
    exact propext ⟨fun q => q.elim, fun q => absurd q.1 ho⟩
theorem t_cv {kk n : Nat} {as r : List Value} (hl : lk y pc = some (.invokevirtual kk, np, a, n, v)) (hst : st = as.reverse ++ .ref k :: r) (hn : as.length = n) (hc : catS r ≤ 8) (hc2 : catS (Value.ref k :: r) ≤ 11) (hen : (entS (.ref k :: as)).length ≤ mL a) : Tr sc (d + 1) y (pc, ls, st, h) Q = (okp h k (mO a) = true ∧ Tr sc d a (ent0 a (.ref k :: as) h) (fun z => Tr sc (d + 1) y (np, ls, z.1.toList ++ r, z.2) Q)) := t_cvx (i := .invokevirtual kk) (fun _ _ _ => rfl) hl hst hn hc hc2 hen
theorem t_cp {kk n : Nat} {as r : List Value} (hl : lk y pc = some (.invokespecial kk, np, a, n, v)) (ha : a ≠ 9000) (hst : st = as.reverse ++ .ref k :: r) (hn : as.length = n) (hc : catS r ≤ 8) (hc2 : catS (Value.ref k :: r) ≤ 11) (hen : (entS (.ref k :: as)).length ≤ mL a) : Tr sc (d + 1) y (pc, ls, st, h) Q = (okp h k (mO a) = true ∧ Tr sc d a (ent0 a (.ref k :: as) h) (fun z => Tr sc (d + 1) y (np, ls, z.1.toList ++ r, z.2) Q)) := t_cvx (i := .invokespecial kk) (fun _ _ _ => if_neg ha) hl hst hn hc hc2 hen
theorem t_cs {kk n : Nat} {as r : List Value} (hl : lk y pc = some (.invokestatic kk, np, a, n, v)) (ha : a < 9000) (hst : st = as.reverse ++ r) (hn : as.length = n) (hc : catS r ≤ 8) (hen : (entS as).length ≤ mL a) : Tr sc (d + 1) y (pc, ls, st, h) Q = Tr sc d a (ent0 a as h) (fun z => Tr sc (d + 1) y (np, ls, z.1.toList ++ r, z.2) Q) := by
  refine Tr_call ((stp_at hl).trans ?_)
  show (if a = 9001 then o_copy np ls st h else if 9002 ≤ a then o_mat a np ls st h else o_call np a n false ls st h) = _
  rw [if_neg (by omega), if_neg (by omega)]
  unfold o_call
  have e1 : st.take n = as.reverse := by rw [hst, ← hn, ← List.length_reverse, List.take_left]
  have e2 : st.drop n = r := by rw [hst, ← hn, ← List.length_reverse, List.drop_left]
  rw [e1, e2, List.reverse_reverse, if_pos ⟨by rw [List.length_reverse]; exact hn, Nat.le_trans hc (by decide)⟩]
  simp only [Bool.false_eq_true, if_false]
  rw [if_pos ⟨hc, hen⟩]
end TI
