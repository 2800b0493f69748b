/-! ===== the pure heap beside the machine's: cell k stands at b0 + k; the rows that nobody writes at ra ===== -/
def cr (b0 : Nat) (ra : Nat → Nat) (k : Nat) : Nat := if k < 1000 then b0 + k else ra (k - 1000)
def cv (b0 : Nat) (ra : Nat → Nat) (v : Value) : Value := match v with
  | .ref k => .ref (cr b0 ra k)
  | v => v
theorem cv_cat (b0 : Nat) (ra : Nat → Nat) (v : Value) : (cv b0 ra v).category = v.category := by cases v <;> rfl
theorem cv_sum (b0 : Nat) (ra : Nat → Nat) (st : List Value) : ((st.map (cv b0 ra)).map fun v => v.category).sum = catS st := by
  unfold catS
  rw [List.map_map]
  congr 1
  exact List.map_congr_left (fun v _ => cv_cat b0 ra v)
def fval (b0 : Nat) (ra : Nat → Nat) (h : PH) (k j t : Nat) : Value := match t with
  | 0 => .int (hI h k j)
  | 1 => .long (hL h k j)
  | _ => va_rf ((hR h k j).map (cr b0 ra))
def flds (b0 : Nat) (ra : Nat → Nat) (h : PH) (c k : Nat) : List Value := (List.range (FK c).length).map (fun j => fval b0 ra h k j ((FK c).getD j 0))
def rfs (b0 : Nat) (ra : Nat → Nat) (h : PH) (k : Nat) : Nat → Option Nat := fun j => (hR h k j).map (cr b0 ra)
def ent (b0 : Nat) (ca : Nat → ClassId) (ra : Nat → Nat) (h : PH) (k : Nat) : va_E :=
  if TG k < 11 then .inr (TG k, flds b0 ra h (TG k) k) else if TG k = 11 then .inl (ca 11, LN k, .inl (hI h k)) else if TG k = 13 then .inl (ca 13, LN k, .inl (hI h k)) else if TG k = 12 then .inl (ca 12, LN k, .inr (.inl (hL h k))) else .inl (ca (TG k), LN k, .inr (.inr (.inr (.inr (rfs b0 ra h k)))))
def wsO (b0 : Nat) (ca : Nat → ClassId) (ra : Nat → Nat) (h : PH) : va_W := (List.range (hN h)).map (fun k => (b0 + k, ent b0 ca ra h k))
def tys (ca : Nat → ClassId) : List (ClassId × FieldType) := [(ca 11, .int), (ca 12, .long), (ca 13, .boolean), (ca 14, .object RX5), (ca 15, .object RX6)]
def Rel (D : va_G) (b0 : Nat) (ca : Nat → ClassId) (ra : Nat → Nat) (h : PH) (H : Heap) : Prop := va_P D classes (wsO b0 ca ra h) H
def AA (b0 : Nat) : Nat → Prop := fun q => b0 ≤ q
theorem wsO_get {b0 : Nat} {ca : Nat → ClassId} {ra : Nat → Nat} {h : PH} {k : Nat} (hk : k < hN h) : (wsO b0 ca ra h)[k]? = some (b0 + k, ent b0 ca ra h k) := by
  unfold wsO
  rw [List.getElem?_map, List.getElem?_range hk]
  rfl
theorem wsO_D (b0 : Nat) (ca : Nat → ClassId) (ra : Nat → Nat) (h : PH) : va_D (AA b0) (wsO b0 ca ra h) := by
  have key : ∀ (k : Nat) (q : Nat × va_E), (wsO b0 ca ra h)[k]? = some q → q.1 = b0 + k := by
    intro k q hq
    have hl : k < hN h := by
      have := (List.getElem?_eq_some_iff.mp hq).1
      simpa [wsO] using this
    rw [wsO_get hl] at hq
    cases hq
    rfl
  refine ⟨fun i j p q hi hj hpq => ?_, fun k q hk => ?_⟩
  · rw [key i p hi, key j q hj] at hpq
    omega
  · show b0 ≤ q.1
    rw [key k q hk]
    omega
theorem ent_congr {b0 : Nat} {ca : Nat → ClassId} {ra : Nat → Nat} {h h' : PH} {k : Nat} (e1 : hI h' k = hI h k) (e2 : hL h' k = hL h k) (e3 : hR h' k = hR h k) : ent b0 ca ra h' k = ent b0 ca ra h k := by
  have e4 : flds b0 ra h' (TG k) k = flds b0 ra h (TG k) k := by
    unfold flds
    refine List.map_congr_left (fun j _ => ?_)
    unfold fval
    rw [e1, e2, e3]
  have e5 : rfs b0 ra h' k = rfs b0 ra h k := by
    unfold rfs
    rw [e3]
  unfold ent
  rw [e1, e2, e4, e5]
theorem wsO_set {b0 : Nat} {ca : Nat → ClassId} {ra : Nat → Nat} {h h' : PH} {k : Nat} (hn : hN h' = hN h) (ho : ∀ j, j ≠ k → hI h' j = hI h j ∧ hL h' j = hL h j ∧ hR h' j = hR h j) : (wsO b0 ca ra h).set k (b0 + k, ent b0 ca ra h' k) = wsO b0 ca ra h' := by
  apply List.ext_getElem?
  intro j
  by_cases hj : j < hN h
  · by_cases e : j = k
    · subst e
      rw [List.getElem?_set_self (by simpa [wsO] using hj), wsO_get (by rw [hn]; exact hj)]
    · rw [List.getElem?_set_ne (Ne.symm e), wsO_get hj, wsO_get (by rw [hn]; exact hj)]
      obtain ⟨a1, a2, a3⟩ := ho j e
      rw [ent_congr a1 a2 a3]
  · rw [List.getElem?_eq_none (by simp [wsO]; omega), List.getElem?_eq_none (by simp [wsO]; omega)]
theorem hI_sI_ne {h : PH} {k i j : Nat} {v : Int32} (e : j ≠ k) : hI (sI h k i v) j = hI h j := by
  funext b; unfold hI sI up2; exact if_neg e
theorem hL_sL_ne {h : PH} {k i j : Nat} {v : Int64} (e : j ≠ k) : hL (sL h k i v) j = hL h j := by
  funext b; unfold hL sL up2; exact if_neg e
theorem hR_sR_ne {h : PH} {k i j : Nat} {v : Option Nat} (e : j ≠ k) : hR (sR h k i v) j = hR h j := by
  funext b; unfold hR sR up2; exact if_neg e
theorem hI_aI_ne {h : PH} {k j : Nat} {g : Nat → Int32} (e : j ≠ k) : hI (aI h k g) j = hI h j := by
  funext b; unfold hI aI up1; simp [e]
theorem hL_aL_ne {h : PH} {k j : Nat} {g : Nat → Int64} (e : j ≠ k) : hL (aL h k g) j = hL h j := by
  funext b; unfold hL aL up1; simp [e]
theorem hI_sI_eq {h : PH} {k i : Nat} {v : Int32} : hI (sI h k i v) k = upd (hI h k) i v := by
  funext b; unfold hI sI up2 upd; simp
theorem hL_sL_eq {h : PH} {k i : Nat} {v : Int64} : hL (sL h k i v) k = vp_updL (hL h k) i v := by
  funext b; unfold hL sL up2 vp_updL; simp
theorem hR_sR_eq {h : PH} {k i : Nat} {v : Option Nat} : hR (sR h k i v) k = va_up (hR h k) i v := by
  funext b; unfold hR sR up2 va_up; simp
theorem hI_aI_eq {h : PH} {k : Nat} {g : Nat → Int32} : hI (aI h k g) k = g := by
  funext b; unfold hI aI up1; simp
theorem hL_aL_eq {h : PH} {k : Nat} {g : Nat → Int64} : hL (aL h k g) k = g := by
  funext b; unfold hL aL up1; simp
theorem okp_spec {h : PH} {k c : Nat} (e : okp h k c = true) : k < hN h ∧ k < 1000 ∧ TG k = c := by
  simpa [okp] using e
theorem inb_spec {i : Int32} {n : Nat} (e : inb i n = true) : vp_in i n := by
  simpa [inb, vp_in] using e
theorem cr_lt {b0 : Nat} {ra : Nat → Nat} {k : Nat} (h : k < 1000) : cr b0 ra k = b0 + k := if_pos h
/-- the entries by their tags -/
theorem ent_I {b0 : Nat} {ca : Nat → ClassId} {ra : Nat → Nat} {h : PH} {k : Nat} (e : TG k = 11) : ent b0 ca ra h k = .inl (ca 11, LN k, .inl (hI h k)) := by
  unfold ent; rw [e]; rfl
theorem ent_Z {b0 : Nat} {ca : Nat → ClassId} {ra : Nat → Nat} {h : PH} {k : Nat} (e : TG k = 13) : ent b0 ca ra h k = .inl (ca 13, LN k, .inl (hI h k)) := by
  unfold ent; rw [e]; rfl
theorem ent_J {b0 : Nat} {ca : Nat → ClassId} {ra : Nat → Nat} {h : PH} {k : Nat} (e : TG k = 12) : ent b0 ca ra h k = .inl (ca 12, LN k, .inr (.inl (hL h k))) := by
  unfold ent; rw [e]; rfl
theorem ent_Q {b0 : Nat} {ca : Nat → ClassId} {ra : Nat → Nat} {h : PH} {k t : Nat} (e : TG k = t) (ht : t = 14 ∨ t = 15) : ent b0 ca ra h k = .inl (ca t, LN k, .inr (.inr (.inr (.inr (rfs b0 ra h k))))) := by
  unfold ent; rw [e]; rcases ht with rfl | rfl <;> rfl
theorem ent_O {b0 : Nat} {ca : Nat → ClassId} {ra : Nat → Nat} {h : PH} {k t : Nat} (e : TG k = t) (ht : t < 11) : ent b0 ca ra h k = .inr (t, flds b0 ra h t k) := by
  unfold ent; rw [e, if_pos ht]
theorem flds_len (b0 : Nat) (ra : Nat → Nat) (h : PH) (c k : Nat) : (flds b0 ra h c k).length = (FK c).length := by simp [flds]
theorem flds_get {b0 : Nat} {ra : Nat → Nat} {h : PH} {c k j t : Nat} (e : (FK c)[j]? = some t) : (flds b0 ra h c k)[j]? = some (fval b0 ra h k j t) := by
  have hl : j < (FK c).length := (List.getElem?_eq_some_iff.mp e).1
  unfold flds
  rw [List.getElem?_map, List.getElem?_range hl]
  show some (fval b0 ra h k j ((FK c).getD j 0)) = _
  rw [List.getD_eq_getElem?_getD, e]
  rfl
theorem flds_set {b0 : Nat} {ra : Nat → Nat} {h h' : PH} {c k j t : Nat} (e : (FK c)[j]? = some t) (ho : ∀ i, i ≠ j → hI h' k i = hI h k i ∧ hL h' k i = hL h k i ∧ hR h' k i = hR h k i) : (flds b0 ra h c k).set j (fval b0 ra h' k j t) = flds b0 ra h' c k := by
  have hl : j < (FK c).length := (List.getElem?_eq_some_iff.mp e).1
  apply List.ext_getElem?
  intro i
  by_cases hi : i < (FK c).length
  · have hi' : (FK c)[i]? = some (FK c)[i] := List.getElem?_eq_getElem hi
    by_cases hij : i = j
    · subst hij
      rw [List.getElem?_set_self (by rw [flds_len]; exact hl), flds_get e]
    · rw [List.getElem?_set_ne (Ne.symm hij), flds_get hi', flds_get hi']
      obtain ⟨a1, a2, a3⟩ := ho i hij
      unfold fval
      rw [a1, a2, a3]
  · rw [List.getElem?_eq_none (by rw [List.length_set, flds_len]; omega), List.getElem?_eq_none (by rw [flds_len]; omega)]
/-- the rows that nobody writes, and the statics that hold four of them -/
def nestW (w : Cond) : Bool := match w with
  | .fieldLinkNest _ _ _ _ _ _ => true
  | .methodLinkNest _ _ _ _ => true
  | _ => false
def RO (b0 : Nat) (ra : Nat → Nat) (sc : Nat × (Nat → Int32)) (U : State) (H : Heap) : Prop := (∀ a, a < 4 → va_Z "SelfShapes" (sname a) "[I" (.ref (ra a)) (AA b0) U H) ∧ (∀ a, a < 5 → va_T .int (ra a) (ro sc a).1 (fun j => .int ((ro sc a).2 j)) (AA b0) U H) ∧ (∀ w ∈ lw_tbl, nestW w = true → va_Nw w U) ∧ va_AO RX5 U ∧ va_AO RX6 U
/-- the tables' words that stay so -/
def TSG : List Cond := lw_tbl.filter goodWord
theorem TSG_at {i : Nat} {w : Cond} (h : lw_tbl[i]? = some w) (hg : goodWord w = true) : w ∈ TSG := List.mem_filter.mpr ⟨List.mem_of_getElem? h, hg⟩
/-- what the method's body stands on -/
def Cx (D : va_G) (b0 : Nat) (ca : Nat → ClassId) (ra : Nat → Nat) (sc : Nat × (Nat → Int32)) (p : Program) (s : State) (m : MethodId) (args : Array Value) (meth : Method) (c : Code) (n0 y : Nat) : Prop :=
  p.tables.exec = Jvm.exec ∧ c.code = mB y ∧ c.maxLocals = mL y ∧ s.vm.findClass (oname (mO y)) = some m.cls ∧ (∀ w ∈ TSG, w.before args s = true) ∧ ((mY y).name = "<init>" → meth.name = "<init>") ∧ va_K D classes (tys ca) s ∧ RO b0 ra sc s s.heap ∧ s.heap.size = b0 + n0
def RL (b0 : Nat) (ra : Nat → Nat) (la : Array Slot) (nL : Nat) (ls : List (Option Value)) : Prop := la.size = nL ∧ lv_wf la ∧ ls.length = nL ∧ ∀ (j : Nat) (v : Value), ls[j]? = some (some v) → la[j]? = some (.val (cv b0 ra v))
theorem RL.at {b0 : Nat} {ra : Nat → Nat} {la : Array Slot} {nL : Nat} {ls : List (Option Value)} (h : RL b0 ra la nL ls) {a : Nat} {v : Value} (e : gl ls a = some v) : la[a]? = some (.val (cv b0 ra v)) := by
  refine h.2.2.2 a v ?_
  unfold gl at e
  rw [List.getD_eq_getElem?_getD] at e
  cases hx : ls[a]? with
  | none => rw [hx] at e; cases e
  | some o => rw [hx] at e; exact congrArg some e
/-- the listed locals -/
def lvL (b0 : Nat) (ra : Nat → Nat) (ls : List (Option Value)) : List (Nat × Value) := (List.range ls.length).filterMap (fun j => (gl ls j).map (fun v => (j, cv b0 ra v)))
theorem lvL_mem {b0 : Nat} {ra : Nat → Nat} {ls : List (Option Value)} {q : Nat × Value} : q ∈ lvL b0 ra ls ↔ q.1 < ls.length ∧ ∃ v, gl ls q.1 = some v ∧ q.2 = cv b0 ra v := by
  unfold lvL
  rw [List.mem_filterMap]
  constructor
  · rintro ⟨j, hj, he⟩
    cases hg : gl ls j with
    | none => rw [hg] at he; cases he
    | some v =>
      rw [hg] at he
      cases he
      exact ⟨List.mem_range.mp hj, v, hg, rfl⟩
  · rintro ⟨h1, v, h2, h3⟩
    refine ⟨q.1, List.mem_range.mpr h1, ?_⟩
    rw [h2]
    show some (q.1, cv b0 ra v) = some q
    rw [← h3]
theorem RL.has {b0 : Nat} {ra : Nat → Nat} {la : Array Slot} {nL : Nat} {ls : List (Option Value)} (h : RL b0 ra la nL ls) : lv_has la nL (lvL b0 ra ls) := by
  refine ⟨h.1, h.2.1, fun q hq => ?_⟩
  obtain ⟨-, v, h2, h3⟩ := lvL_mem.mp hq
  rw [h3]
  exact h.at h2
theorem gl_some {ls : List (Option Value)} {j : Nat} {v : Value} (e : ls[j]? = some (some v)) : gl ls j = some v := by
  unfold gl
  rw [List.getD_eq_getElem?_getD, e]
  rfl
theorem gl_lt {ls : List (Option Value)} {j : Nat} {v : Value} (e : gl ls j = some v) : j < ls.length := by
  by_cases h : j < ls.length
  · exact h
  · unfold gl at e
    rw [List.getD_eq_getElem?_getD, List.getElem?_eq_none (by omega)] at e
    cases e
theorem cl2_some {o : Option Value} {v : Value} (h : cl2 o = some v) : o = some v ∧ v.category ≠ 2 := by
  unfold cl2 at h
  split at h
  · cases h
  · cases h
  next o' h1 h2 =>
    refine ⟨h, ?_⟩
    subst h
    cases v <;> simp_all [Value.category]
theorem fx_len (ls : List (Option Value)) (i : Nat) : (fx ls i).length = ls.length := by
  cases i <;> simp [fx]
theorem fx_some {ls : List (Option Value)} {i j : Nat} {v : Value} (h : (fx ls i)[j]? = some (some v)) : ls[j]? = some (some v) ∧ (j + 1 = i → v.category ≠ 2) := by
  cases i with
  | zero => exact ⟨h, fun e => by omega⟩
  | succ i =>
    unfold fx at h
    by_cases e : j = i
    · subst e
      by_cases hl : j < ls.length
      · rw [List.getElem?_set_self hl] at h
        have h' := cl2_some (Option.some.inj h)
        refine ⟨?_, fun _ => h'.2⟩
        have hx := h'.1
        unfold gl at hx
        rw [List.getD_eq_getElem?_getD, List.getElem?_eq_getElem hl] at hx
        rw [List.getElem?_eq_getElem hl]
        exact congrArg some hx
      · rw [List.getElem?_eq_none (by simp; omega)] at h
        cases h
    · rw [List.getElem?_set_ne (Ne.symm e)] at h
      exact ⟨h, fun e2 => by omega⟩
theorem RL.st1 {b0 : Nat} {ra : Nat → Nat} {la la' : Array Slot} {nL a : Nat} {ls : List (Option Value)} {v : Value} (h : RL b0 ra la nL ls) (ha : a < ls.length) (hl : lv_has la' nL ((a, cv b0 ra v) :: (lvL b0 ra ls).filter (fun q => !(q.1 == a) && !(q.1 + 1 == a && q.2.category == 2)))) : RL b0 ra la' nL (sto1 ls a v) := by
  refine ⟨hl.1, hl.2.1, by unfold sto1; rw [List.length_set, fx_len]; exact h.2.2.1, fun j w hj => ?_⟩
  unfold sto1 at hj
  by_cases e : j = a
  · subst e
    rw [List.getElem?_set_self (by rw [fx_len]; exact ha)] at hj
    cases hj
    exact hl.2.2 _ List.mem_cons_self
  · rw [List.getElem?_set_ne (Ne.symm e)] at hj
    obtain ⟨h1, h2⟩ := fx_some hj
    refine hl.2.2 (j, cv b0 ra w) (List.mem_cons_of_mem _ (List.mem_filter.mpr ⟨lvL_mem.mpr ⟨(List.getElem?_eq_some_iff.mp h1).1, w, gl_some h1, rfl⟩, ?_⟩))
    simp only [Bool.and_eq_true, Bool.not_eq_true', beq_eq_false_iff_ne, ne_eq, Bool.and_eq_false_iff, cv_cat]
    refine ⟨e, ?_⟩
    by_cases e2 : j + 1 = a
    · exact Or.inr (h2 e2)
    · exact Or.inl e2
theorem RL.st2 {b0 : Nat} {ra : Nat → Nat} {la la' : Array Slot} {nL a : Nat} {ls : List (Option Value)} {v : Value} (h : RL b0 ra la nL ls) (ha : a + 1 < ls.length) (hl : lv_has la' nL ((a, cv b0 ra v) :: (lvL b0 ra ls).filter (fun q => !(q.1 == a) && (!(q.1 == a + 1) && !(q.1 + 1 == a && q.2.category == 2))))) : RL b0 ra la' nL (sto2 ls a v) := by
  refine ⟨hl.1, hl.2.1, by unfold sto2; rw [List.length_set, List.length_set, fx_len]; exact h.2.2.1, fun j w hj => ?_⟩
  unfold sto2 at hj
  by_cases e1 : j = a + 1
  · subst e1
    rw [List.getElem?_set_self (by rw [List.length_set, fx_len]; exact ha)] at hj
    cases hj
  · rw [List.getElem?_set_ne (Ne.symm e1)] at hj
    by_cases e : j = a
    · subst e
      rw [List.getElem?_set_self (by rw [fx_len]; omega)] at hj
      cases hj
      exact hl.2.2 _ List.mem_cons_self
    · rw [List.getElem?_set_ne (Ne.symm e)] at hj
      obtain ⟨h1, h2⟩ := fx_some hj
      refine hl.2.2 (j, cv b0 ra w) (List.mem_cons_of_mem _ (List.mem_filter.mpr ⟨lvL_mem.mpr ⟨(List.getElem?_eq_some_iff.mp h1).1, w, gl_some h1, rfl⟩, ?_⟩))
      simp only [Bool.and_eq_true, Bool.not_eq_true', beq_eq_false_iff_ne, ne_eq, Bool.and_eq_false_iff, cv_cat]
      refine ⟨e, e1, ?_⟩
      by_cases e2 : j + 1 = a
      · exact Or.inr (h2 e2)
      · exact Or.inl e2
