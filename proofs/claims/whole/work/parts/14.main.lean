/-! ===== by induction over the steps: what exec answers, the machine answers ===== -/
theorem ex_mono {sc : Nat × (Nat → Int32)} : ∀ (f d y : Nat) (g : PC) (v : Option Value) (h' : PH), y < 260 → exec sc f d y g = some (v, h') → hN g.2.2.2 ≤ hN h' := by
  intro f
  induction f with
  | zero => intro d y g v h' hy he; cases he
  | succ f ih =>
    intro d y g v h' hy he
    obtain ⟨pc, ls, st, h⟩ := g
    unfold exec at he
    split at he
    · cases he
    next r hr =>
      rcases stp_cases hy hr with ⟨g', e1, -⟩ | ⟨v', e1, -⟩ | ⟨_, _, _, e1, -⟩
      · cases e1
      · cases e1
        cases he
        exact Nat.le_refl _
      · cases e1
    next g' hr =>
      rcases stp_cases hy hr with ⟨g2, e1, e2⟩ | ⟨v', e1, -⟩ | ⟨_, _, _, e1, -⟩
      · cases e1
        exact Nat.le_trans e2 (ih _ _ _ _ _ hy he)
      · cases e1
      · cases e1
    next y' as pc' ls' st' h1 hr =>
      rcases stp_cases hy hr with ⟨g2, e1, -⟩ | ⟨v', e1, -⟩ | ⟨a, as2, r, e1, ha, -⟩
      · cases e1
      · cases e1
      · cases e1
        split at he
        · cases he
        · split at he
          · cases he
          next v1 h2 hc =>
            have q1 := ih _ _ _ _ _ (Nat.lt_of_lt_of_le ha (by decide)) hc
            have q2 := ih _ _ _ _ _ hy he
            exact Nat.le_trans q1 q2
/-- the return of a method's body -/
def RetH (D : va_G) (b0 : Nat) (ca : Nat → ClassId) (ra : Nat → Nat) (p : Program) (l : Launch) (e : Env) (R : Room) (s : State) (m : MethodId) (args : Array Value) (below : List Frame) (meth : Method) (c : Code) (Q : State → Prop) (n0 y : Nat) (v : Option Value) (h' : PH) : Prop := ∀ (pc : Nat) (H : Heap) (locs : List Loc) (la : Array Slot), n0 ≤ hN h' → Rel D b0 ca ra h' H → va_S (AA b0) s.heap H locs →
  ((∃ x, v = some (.int x) ∧ decode (mB y) pc = .ok (.ireturn, 1) ∧ (mR y = some .int ∨ mR y = some .boolean ∧ vp_nar .boolean x = x)) ∨ (∃ x, v = some (.long x) ∧ decode (mB y) pc = .ok (.lreturn, 1) ∧ mR y = some .long) ∨ (v = none ∧ decode (mB y) pc = .ok (.return_, 1) ∧ mR y = none)) →
  W p l e R s m args below meth c H locs (hN h' - n0) (SL (hN h') - SL n0) Q (F0 m pc la (v.toList.map (cv b0 ra)))
def BodyS (D : va_G) (b0 : Nat) (ca : Nat → ClassId) (ra : Nat → Nat) (sc : Nat × (Nat → Int32)) (l : Launch) (f : Nat) : Prop := ∀ (d y : Nat) (g : PC) (v : Option Value) (h' : PH), y < 260 → exec sc f d y g = some (v, h') → ∀ (p : Program) (e : Env) (R : Room) (s : State) (m : MethodId) (args : Array Value) (below : List Frame) (meth : Method) (c : Code) (Q : State → Prop) (n0 : Nat), Cx D b0 ca ra sc p s m args meth c n0 y → d + 1 ≤ R.frames ∧ 60 * (d + 1) ≤ R.locals → hN h' - n0 ≤ R.cells ∧ SL (hN h') - SL n0 ≤ R.slots → RetH D b0 ca ra p l e R s m args below meth c Q n0 y v h' → KK D b0 ca ra p l e R s m args below meth c Q n0 (mL y) g
theorem entS_sl {b0 : Nat} {ra : Nat → Nat} : ∀ (as : List Value), (lg_sl (as.map (cv b0 ra))).length = (entS as).length ∧ ∀ (i j : Nat) (v : Value), (entS as)[j]? = some (some v) → (i + j, cv b0 ra v) ∈ lv_args i (as.map (cv b0 ra))
  | [] => ⟨rfl, fun i j v h => by simp [entS] at h⟩
  | w :: as => by
    obtain ⟨h1, h2⟩ := entS_sl (b0 := b0) (ra := ra) as
    by_cases hc : w.category = 2
    · have e1 : entS (w :: as) = some w :: none :: entS as := by
        cases w <;> first | rfl | (simp [Value.category] at hc)
      have hc' : (cv b0 ra w).category = 2 := by rw [cv_cat]; exact hc
      refine ⟨?_, fun i j v h => ?_⟩
      · rw [e1, List.map_cons]
        simp only [lg_sl, List.flatMap_cons, hc', if_true, List.length_append, List.length_cons, List.length_nil]
        have h3 := h1
        simp only [lg_sl] at h3
        omega
      · rw [e1] at h
        rw [List.map_cons]
        unfold lv_args
        rw [if_pos hc']
        match j, h with
        | 0, h => cases h; exact List.mem_cons_self
        | 1, h => cases h
        | j + 2, h =>
          refine List.mem_cons_of_mem _ ?_
          have := h2 (i + 2) j v h
          rw [show i + (j + 2) = i + 2 + j by omega]
          exact this
    · have e1 : entS (w :: as) = some w :: entS as := by
        cases w <;> first | rfl | (exact absurd rfl hc)
      have hc' : ¬ (cv b0 ra w).category = 2 := by rw [cv_cat]; exact hc
      refine ⟨?_, fun i j v h => ?_⟩
      · rw [e1, List.map_cons]
        simp only [lg_sl, List.flatMap_cons, if_neg hc', List.length_append, List.length_cons, List.length_nil]
        have h3 := h1
        simp only [lg_sl] at h3
        omega
      · rw [e1] at h
        rw [List.map_cons]
        unfold lv_args
        rw [if_neg hc']
        match j, h with
        | 0, h => cases h; exact List.mem_cons_self
        | j + 1, h =>
          refine List.mem_cons_of_mem _ ?_
          have := h2 (i + 1) j v h
          rw [show i + (j + 1) = i + 1 + j by omega]
          exact this
theorem entL_RL {b0 : Nat} {ra : Nat → Nat} {as : List Value} {n : Nat} (h : (entS as).length ≤ n) : RL b0 ra ((lg_sl (as.map (cv b0 ra)) ++ List.replicate (n - (lg_sl (as.map (cv b0 ra))).length) Slot.unset).toArray) n (entL as n) := by
  obtain ⟨h1, h2⟩ := entS_sl (b0 := b0) (ra := ra) as
  have hl := lv_entry (as.map (cv b0 ra)) (n := n) (by rw [h1]; exact h)
  refine ⟨hl.1, hl.2.1, by simp [entL]; omega, fun j v hj => ?_⟩
  unfold entL at hj
  by_cases hjl : j < (entS as).length
  · rw [List.getElem?_append_left hjl] at hj
    have := h2 0 j v hj
    rw [Nat.zero_add] at this
    exact hl.2.2 _ this
  · rw [List.getElem?_append_right (by omega)] at hj
    have := List.eq_of_mem_replicate (List.mem_of_getElem? hj)
    cases this
set_option maxHeartbeats 1000000 in
theorem met_of {D : va_G} {b0 : Nat} {ca : Nat → ClassId} {ra : Nat → Nat} {sc : Nat × (Nat → Int32)} {l : Launch} {f : Nat} (hB : BodyS D b0 ca ra sc l f) {d y : Nat} {as : List Value} {h h' : PH} {v : Option Value} (hy : y < 259) (hl : (entS as).length ≤ mL y) (hex : exec sc f d y (ent0 y as h) = some (v, h')) : pMet D b0 ca ra sc l d y as h v h' := by
  obtain ⟨m1, m2, m3, m4, m5, m6, m7, m8⟩ := mw_c hy
  unfold pMet
  refine Met.ofW (cc := mB y) (maxL := mL y) (ret := mR y) m5 rfl ?_
  intro p e s m args below meth c s₁ B hml hv
  obtain ⟨hargs, hRel, hK, hRO, hsz⟩ := hv
  have hts0 := atoms_spec (ws := wY y) B.pre
  have hts : ∀ w ∈ TSG, w.before args s = true := fun w hw => hts0 w (List.mem_cons_of_mem _ hw)
  have hown : s.vm.findClass (oname (mO y)) = some m.cls := by rw [← m3]; exact findClass_of_methodNamed B.named
  have hnm : (mY y).name = "<init>" → meth.name = "<init>" := fun q => by rw [(name_of_methodNamed B.named B.method).1]; exact q
  have hlocks := B.notSynchronized
  have C : Cx D b0 ca ra sc p s m args meth c (hN h) y := ⟨B.exec, B.bytes, hml, hown, hts, hnm, hK, hRO, hsz⟩
  have hret : RetH D b0 ca ra p l e (rmD d (hN h' - hN h) (SL (hN h') - SL (hN h))) s m args below meth c (MQ below (pQc D b0 ca ra v h') args s (hN h' - hN h) (SL (hN h') - SL (hN h)) (AA b0)) (hN h) y v h' := by
    intro pc H locs la h0 h1 h2 hr
    rcases hr with ⟨x, rfl, hd, hr⟩ | ⟨x, rfl, hd, hr⟩ | ⟨rfl, hd, hr⟩
    · rcases hr with hr | ⟨hr, hx⟩
      · exact W.iret (v := x) B.exec B.bytes (by rw [B.returns]; exact hr) (fun t ht hW => ⟨⟨rfl, by rw [ht]; exact h1⟩, h2.F ht⟩) h2.2.2 hd
      · exact W.zret (v := x) (ty := .boolean) B.exec B.bytes (by rw [B.returns]; exact hr) (by show Value.int (x &&& 1) = Value.int x; exact congrArg Value.int hx) (fun t ht hW => ⟨⟨rfl, by rw [ht]; exact h1⟩, h2.F ht⟩) h2.2.2 hd
    · exact W.lret (v := x) B.exec B.bytes (by rw [B.returns]; exact hr) (fun t ht hW => ⟨⟨rfl, by rw [ht]; exact h1⟩, h2.F ht⟩) h2.2.2 hd
    · exact W.vret B.exec B.bytes (by rw [B.returns]; exact hr) (fun t ht hW => ⟨⟨rfl, by rw [ht]; exact h1⟩, h2.F ht⟩) h2.2.2 hd
  have hk := hB d y (ent0 y as h) v h' (Nat.lt_of_lt_of_le hy (by decide)) hex p e (rmD d (hN h' - hN h) (SL (hN h') - SL (hN h))) s m args below meth c _ (hN h) C ⟨Nat.le_refl _, Nat.le_refl _⟩ ⟨Nat.le_refl _, Nat.le_refl _⟩ hret
  have hw := hk s.heap [] _ (Nat.le_refl _) hRel va_S.rf (entL_RL (b0 := b0) (ra := ra) hl)
  rw [Nat.sub_self, Nat.sub_self] at hw
  rw [hargs, lg_entry_eq]
  exact hargs ▸ hw
theorem body_all {D : va_G} {b0 : Nat} {ca : Nat → ClassId} {ra : Nat → Nat} {sc : Nat × (Nat → Int32)} {l : Launch} : ∀ f : Nat, BodyS D b0 ca ra sc l f := by
  intro f
  induction f with
  | zero => intro d y g v h' hy he; cases he
  | succ f ih =>
    intro d y g v h' hy he p e R s m args below meth c Q n0 C hroom hcap hret
    obtain ⟨pc, ls, st, h⟩ := g
    have he0 := he
    unfold exec at he
    split at he
    · cases he
    next r hr =>
      rcases stp_cases hy hr with ⟨g', e1, -⟩ | ⟨v', e1, e2, e3⟩ | ⟨_, _, _, e1, -⟩
      · cases e1
      · cases e1
        cases he
        intro H locs la h0 h1 h2 h3
        rw [e2]
        exact hret pc H locs la h0 h1 h2 e3
      · cases e1
    next g' hr =>
      have hm := ex_mono _ _ _ _ _ _ hy he
      have hs := SL_mono hm
      exact k_step C hy rfl ⟨by omega, by omega⟩ ⟨by omega, by omega⟩ hr (ih d y g' v h' hy he p e R s m args below meth c Q n0 C hroom hcap hret)
    next y' as pc' ls' st' h1 hr =>
      rcases stp_cases hy hr with ⟨g2, e1, -⟩ | ⟨v', e1, -⟩ | ⟨a, as2, r, e1, ha, hcat, hlen, i, idx, hd, hi⟩
      · cases e1
      · cases e1
      · cases e1
        split at he
        · cases he
        next d' =>
          split at he
          · cases he
          next v1 h2 hc =>
            have q1 := ex_mono _ _ _ _ _ _ (Nat.lt_of_lt_of_le ha (by decide)) hc
            have q2 := ex_mono _ _ _ _ _ _ hy he
            have q3 := SL_mono q2
            have cap2 : hN h2 - n0 ≤ R.cells ∧ SL (hN h2) - SL n0 ≤ R.slots := ⟨Nat.le_trans (Nat.sub_le_sub_right q2 _) hcap.1, Nat.le_trans (Nat.sub_le_sub_right q3 _) hcap.2⟩
            exact k_call (d := d') C rfl ha hd rfl hroom cap2 q1 hcat hi (met_of ih ha hlen hc) (ih (d' + 1) y _ v h' hy he p e R s m args below meth c Q n0 C hroom hcap hret)
