/-! THE CLAIM OUT OF ONE WALK OF THE LAW'S BODY. Your part is whole_start (and what it stands on); all else here is the same for every law, but numbers. -/
def R_law : String := "SelfShapesLaw"
def lw_P (b : Addr) (xs : List Int32) (args : Array Value) (s : State) : Prop := args = #[.ref b] ∧ s.IntsAt b xs ∧ xs.length ≤ 3072 ∧ (Jvm.Cond.and given_1 narrow_1).before args s = true
def lw_Q (_ : Array Value) (s : State) (o : Outcome) (t : State) : Prop := o = .returned (some (.int 1)) ∧ Framed s o t [] 600000 7302250
def lw_Z (below : List Frame) (a : Array Value) (s : State) : State → Prop := fun t => ∃ o, t.status = .running ∧ Ended t below o ∧ lw_Q a s o t
/-- the law's own end, with 1 on the stack, nothing written that was there before, its room as the claim has it -/
theorem lw_ret {p : Program} {l : Launch} {e : Env} {s : State} {m : MethodId} {below : List Frame} {meth : Method} {c : Code} {b : Nat} (hx : p.tables.exec = Jvm.exec) (hb : c.code = code) (hr : meth.sig.returnType = ret) (hlocks : meth.locks = false) {pc : Nat} {H : Heap} {ls : Array Slot} (hdg : decode code pc = .ok (.ireturn, 1)) : W p l e room_1 s m #[Value.ref b] below meth c H [] 600000 7302250 (lw_Z below #[Value.ref b] s) (F0 m pc ls [.int 1]) := by
  intro T hT X
  obtain ⟨fs, hret, hrun, hended, hW, hframe⟩ := X.leave (v := some (.int 1)) (hlocks := hlocks) (fun h => by rw [hr] at h; cases h)
  have hmeth' : T.vm.method? m = some meth := X.method'
  refine ⟨T.setFrames fs, ?_, .returned (some (.int 1)), hrun, hended, rfl, ⟨_, rfl⟩, hW, hframe⟩
  jvm_step X.here [X.here.top, hx, hb, hdg, hmeth', hr, ret, narrow_b1]
  (try refine ⟨rfl, ?_⟩); (try refine ⟨rfl, ?_⟩)
  first | (intro acts; rw [hret _ acts rfl rfl rfl]) | rw [hret _ _ rfl rfl rfl]
  exact Steps.refl _
/-- what holds at the law's entry: the machine, the code, the tables' words (any of lw_tbl by 'hts w (by decide +kernel)'), the script of L ints xs at the cell b, what the Statement gives of the start (any of its parts by flat_of_before) -/
def lw_At (p : Program) (s : State) (m : MethodId) (meth : Method) (c : Code) (b L : Nat) (xs : Nat → Int32) : Prop :=
  p.tables.exec = Jvm.exec ∧ c.code = code ∧ meth.sig.returnType = ret ∧ c.maxLocals = 4 ∧ s.vm.findClass R_law = some m.cls ∧ (∀ w ∈ lw_tbl, w.before #[Value.ref b] s = true) ∧ va_X b L xs s s.heap ∧ b < s.heap.size ∧ meth.locks = false ∧ (Jvm.Cond.and given_1 narrow_1).before #[Value.ref b] s = true
/-! ===== the law by the pure machine ===== -/
def hZ : PH := (0, fun _ _ => 0, fun _ _ => 0, fun _ _ => none)
/-- what is left: the pure machine, on every script, answers 1 -/
def PureLaw : Prop := ∀ (L : Nat) (xs : Nat → Int32), L ≤ 3072 → ∃ (f : Nat) (h' : PH), exec (L, xs) f 20 259 (ent0 259 [.ref 1004] hZ) = some (some (.int 1), h') ∧ hN h' ≤ 1000
theorem SL_1000 : SL 1000 ≤ 7302250 := by decide +kernel
theorem stat_0 {s : State} {args : Array Value} {sc : Nat × (Nat → Int32)} (hts : ∀ w ∈ lw_tbl, w.before args s = true) (hgv : (Jvm.Cond.and given_1 narrow_1).before args s = true) : ∃ t : Nat, va_Z "SelfShapes" "TURN_XX" "[I" (.ref t) (AA s.heap.size) s s.heap ∧ va_T .int t 8 (fun j => .int ((ro sc 0).2 j)) (AA s.heap.size) s s.heap := by
  have hf := flat_of_before _ hgv
  have hA : ∀ a : Nat, a < s.heap.size → ¬ AA s.heap.size a := fun a h q => Nat.not_le.mpr h q
  obtain ⟨t, e1, e2⟩ := va_Tof (tm := .static "SelfShapes" "TURN_XX" "[I") (ty := .int) (N := 8) (f := fun j => .int ((ro sc 0).2 j)) (A := AA s.heap.size) (by decide) (hf (Cond.arrayOf (.static "SelfShapes" "TURN_XX" "[I") .int) (by decide +kernel)) (va_eqt (hf (Cond.eq (.length (.static "SelfShapes" "TURN_XX" "[I")) (.int 8)) (by decide +kernel))) (fun j hj => by
    match j, hj with
    | 0, _ => exact va_eqt (hf (Cond.eq (.elem (.static "SelfShapes" "TURN_XX" "[I") (.int 0)) (.int 1)) (by decide +kernel))
    | 1, _ => exact va_eqt (hf (Cond.eq (.elem (.static "SelfShapes" "TURN_XX" "[I") (.int 1)) (.int 0)) (by decide +kernel))
    | 2, _ => exact va_eqt (hf (Cond.eq (.elem (.static "SelfShapes" "TURN_XX" "[I") (.int 2)) (.int (-1))) (by decide +kernel))
    | 3, _ => exact va_eqt (hf (Cond.eq (.elem (.static "SelfShapes" "TURN_XX" "[I") (.int 3)) (.int 0)) (by decide +kernel))
    | 4, _ => exact va_eqt (hf (Cond.eq (.elem (.static "SelfShapes" "TURN_XX" "[I") (.int 4)) (.int 0)) (by decide +kernel))
    | 5, _ => exact va_eqt (hf (Cond.eq (.elem (.static "SelfShapes" "TURN_XX" "[I") (.int 5)) (.int (-1))) (by decide +kernel))
    | 6, _ => exact va_eqt (hf (Cond.eq (.elem (.static "SelfShapes" "TURN_XX" "[I") (.int 6)) (.int 0)) (by decide +kernel))
    | 7, _ => exact va_eqt (hf (Cond.eq (.elem (.static "SelfShapes" "TURN_XX" "[I") (.int 7)) (.int 1)) (by decide +kernel))
    | n + 8, h => omega) hA
  exact ⟨t, va_Zof (hts _ (List.mem_of_getElem? (i := 778) (by decide +kernel))) (hts _ (List.mem_of_getElem? (i := 83) (by decide +kernel))) e1 hA, e2⟩
theorem stat_1 {s : State} {args : Array Value} {sc : Nat × (Nat → Int32)} (hts : ∀ w ∈ lw_tbl, w.before args s = true) (hgv : (Jvm.Cond.and given_1 narrow_1).before args s = true) : ∃ t : Nat, va_Z "SelfShapes" "TURN_XY" "[I" (.ref t) (AA s.heap.size) s s.heap ∧ va_T .int t 8 (fun j => .int ((ro sc 1).2 j)) (AA s.heap.size) s s.heap := by
  have hf := flat_of_before _ hgv
  have hA : ∀ a : Nat, a < s.heap.size → ¬ AA s.heap.size a := fun a h q => Nat.not_le.mpr h q
  obtain ⟨t, e1, e2⟩ := va_Tof (tm := .static "SelfShapes" "TURN_XY" "[I") (ty := .int) (N := 8) (f := fun j => .int ((ro sc 1).2 j)) (A := AA s.heap.size) (by decide) (hf (Cond.arrayOf (.static "SelfShapes" "TURN_XY" "[I") .int) (by decide +kernel)) (va_eqt (hf (Cond.eq (.length (.static "SelfShapes" "TURN_XY" "[I")) (.int 8)) (by decide +kernel))) (fun j hj => by
    match j, hj with
    | 0, _ => exact va_eqt (hf (Cond.eq (.elem (.static "SelfShapes" "TURN_XY" "[I") (.int 0)) (.int 0)) (by decide +kernel))
    | 1, _ => exact va_eqt (hf (Cond.eq (.elem (.static "SelfShapes" "TURN_XY" "[I") (.int 1)) (.int (-1))) (by decide +kernel))
    | 2, _ => exact va_eqt (hf (Cond.eq (.elem (.static "SelfShapes" "TURN_XY" "[I") (.int 2)) (.int 0)) (by decide +kernel))
    | 3, _ => exact va_eqt (hf (Cond.eq (.elem (.static "SelfShapes" "TURN_XY" "[I") (.int 3)) (.int 1)) (by decide +kernel))
    | 4, _ => exact va_eqt (hf (Cond.eq (.elem (.static "SelfShapes" "TURN_XY" "[I") (.int 4)) (.int 1)) (by decide +kernel))
    | 5, _ => exact va_eqt (hf (Cond.eq (.elem (.static "SelfShapes" "TURN_XY" "[I") (.int 5)) (.int 0)) (by decide +kernel))
    | 6, _ => exact va_eqt (hf (Cond.eq (.elem (.static "SelfShapes" "TURN_XY" "[I") (.int 6)) (.int (-1))) (by decide +kernel))
    | 7, _ => exact va_eqt (hf (Cond.eq (.elem (.static "SelfShapes" "TURN_XY" "[I") (.int 7)) (.int 0)) (by decide +kernel))
    | n + 8, h => omega) hA
  exact ⟨t, va_Zof (hts _ (List.mem_of_getElem? (i := 780) (by decide +kernel))) (hts _ (List.mem_of_getElem? (i := 83) (by decide +kernel))) e1 hA, e2⟩
theorem stat_2 {s : State} {args : Array Value} {sc : Nat × (Nat → Int32)} (hts : ∀ w ∈ lw_tbl, w.before args s = true) (hgv : (Jvm.Cond.and given_1 narrow_1).before args s = true) : ∃ t : Nat, va_Z "SelfShapes" "TURN_YX" "[I" (.ref t) (AA s.heap.size) s s.heap ∧ va_T .int t 8 (fun j => .int ((ro sc 2).2 j)) (AA s.heap.size) s s.heap := by
  have hf := flat_of_before _ hgv
  have hA : ∀ a : Nat, a < s.heap.size → ¬ AA s.heap.size a := fun a h q => Nat.not_le.mpr h q
  obtain ⟨t, e1, e2⟩ := va_Tof (tm := .static "SelfShapes" "TURN_YX" "[I") (ty := .int) (N := 8) (f := fun j => .int ((ro sc 2).2 j)) (A := AA s.heap.size) (by decide) (hf (Cond.arrayOf (.static "SelfShapes" "TURN_YX" "[I") .int) (by decide +kernel)) (va_eqt (hf (Cond.eq (.length (.static "SelfShapes" "TURN_YX" "[I")) (.int 8)) (by decide +kernel))) (fun j hj => by
    match j, hj with
    | 0, _ => exact va_eqt (hf (Cond.eq (.elem (.static "SelfShapes" "TURN_YX" "[I") (.int 0)) (.int 0)) (by decide +kernel))
    | 1, _ => exact va_eqt (hf (Cond.eq (.elem (.static "SelfShapes" "TURN_YX" "[I") (.int 1)) (.int 1)) (by decide +kernel))
    | 2, _ => exact va_eqt (hf (Cond.eq (.elem (.static "SelfShapes" "TURN_YX" "[I") (.int 2)) (.int 0)) (by decide +kernel))
    | 3, _ => exact va_eqt (hf (Cond.eq (.elem (.static "SelfShapes" "TURN_YX" "[I") (.int 3)) (.int (-1))) (by decide +kernel))
    | 4, _ => exact va_eqt (hf (Cond.eq (.elem (.static "SelfShapes" "TURN_YX" "[I") (.int 4)) (.int 1)) (by decide +kernel))
    | 5, _ => exact va_eqt (hf (Cond.eq (.elem (.static "SelfShapes" "TURN_YX" "[I") (.int 5)) (.int 0)) (by decide +kernel))
    | 6, _ => exact va_eqt (hf (Cond.eq (.elem (.static "SelfShapes" "TURN_YX" "[I") (.int 6)) (.int (-1))) (by decide +kernel))
    | 7, _ => exact va_eqt (hf (Cond.eq (.elem (.static "SelfShapes" "TURN_YX" "[I") (.int 7)) (.int 0)) (by decide +kernel))
    | n + 8, h => omega) hA
  exact ⟨t, va_Zof (hts _ (List.mem_of_getElem? (i := 782) (by decide +kernel))) (hts _ (List.mem_of_getElem? (i := 83) (by decide +kernel))) e1 hA, e2⟩
theorem stat_3 {s : State} {args : Array Value} {sc : Nat × (Nat → Int32)} (hts : ∀ w ∈ lw_tbl, w.before args s = true) (hgv : (Jvm.Cond.and given_1 narrow_1).before args s = true) : ∃ t : Nat, va_Z "SelfShapes" "TURN_YY" "[I" (.ref t) (AA s.heap.size) s s.heap ∧ va_T .int t 8 (fun j => .int ((ro sc 3).2 j)) (AA s.heap.size) s s.heap := by
  have hf := flat_of_before _ hgv
  have hA : ∀ a : Nat, a < s.heap.size → ¬ AA s.heap.size a := fun a h q => Nat.not_le.mpr h q
  obtain ⟨t, e1, e2⟩ := va_Tof (tm := .static "SelfShapes" "TURN_YY" "[I") (ty := .int) (N := 8) (f := fun j => .int ((ro sc 3).2 j)) (A := AA s.heap.size) (by decide) (hf (Cond.arrayOf (.static "SelfShapes" "TURN_YY" "[I") .int) (by decide +kernel)) (va_eqt (hf (Cond.eq (.length (.static "SelfShapes" "TURN_YY" "[I")) (.int 8)) (by decide +kernel))) (fun j hj => by
    match j, hj with
    | 0, _ => exact va_eqt (hf (Cond.eq (.elem (.static "SelfShapes" "TURN_YY" "[I") (.int 0)) (.int 1)) (by decide +kernel))
    | 1, _ => exact va_eqt (hf (Cond.eq (.elem (.static "SelfShapes" "TURN_YY" "[I") (.int 1)) (.int 0)) (by decide +kernel))
    | 2, _ => exact va_eqt (hf (Cond.eq (.elem (.static "SelfShapes" "TURN_YY" "[I") (.int 2)) (.int (-1))) (by decide +kernel))
    | 3, _ => exact va_eqt (hf (Cond.eq (.elem (.static "SelfShapes" "TURN_YY" "[I") (.int 3)) (.int 0)) (by decide +kernel))
    | 4, _ => exact va_eqt (hf (Cond.eq (.elem (.static "SelfShapes" "TURN_YY" "[I") (.int 4)) (.int 0)) (by decide +kernel))
    | 5, _ => exact va_eqt (hf (Cond.eq (.elem (.static "SelfShapes" "TURN_YY" "[I") (.int 5)) (.int 1)) (by decide +kernel))
    | 6, _ => exact va_eqt (hf (Cond.eq (.elem (.static "SelfShapes" "TURN_YY" "[I") (.int 6)) (.int 0)) (by decide +kernel))
    | 7, _ => exact va_eqt (hf (Cond.eq (.elem (.static "SelfShapes" "TURN_YY" "[I") (.int 7)) (.int (-1))) (by decide +kernel))
    | n + 8, h => omega) hA
  exact ⟨t, va_Zof (hts _ (List.mem_of_getElem? (i := 784) (by decide +kernel))) (hts _ (List.mem_of_getElem? (i := 83) (by decide +kernel))) e1 hA, e2⟩
theorem arr_of {s : State} {args : Array Value} {t : FieldType} (h : (Cond.arrayClass t).before args s = true) : ∃ c : ClassId, ArrOfT s c t ∧ s.vm.findClass ("[" ++ t.toString) = some c := by
  obtain ⟨c, k, comp, h1, h2, h3⟩ := Cond.arrayClass_spec h
  exact ⟨c, fun n z => ⟨(fun k h => by cases h), k, h2, comp, h3⟩, h1⟩
theorem arrq_of {s : State} {args : Array Value} {C : String} (h : (Cond.arrayOver (.object C)).before args s = true) : ∃ c : ClassId, ArrOfT s c (.object C) ∧ va_RA s c (.object C) := by
  obtain ⟨comp, c, k, h1, h2, h3, h4, h5⟩ := Cond.arrayOver_spec h
  exact ⟨c, fun n z => ⟨(fun k h => by cases h), k, h3, comp, h4⟩, k, comp, h3, h4, h1, h5⟩
set_option maxRecDepth 20000 in
theorem law_B : mB 259 = code := by rfl
theorem law_L : mL 259 = 4 := by decide +kernel
theorem law_O : oname (mO 259) = R_law := by decide +kernel
theorem law_N : (mY 259).name ≠ "<init>" := by decide +kernel
set_option maxHeartbeats 2000000 in
theorem whole_open (hp : PureLaw) {p : Program} {e : Env} {s : State} {m : MethodId} {below : List Frame} {meth : Method} {c : Code} (l : Launch) {b L : Nat} {xs : Nat → Int32} (hL : L ≤ 3072) (C0 : lw_At p s m meth c b L xs) : W p l e room_1 s m #[Value.ref b] below meth c s.heap [] 0 0 (lw_Z below #[Value.ref b] s) (entryFrame m ([Value.ref b] : List Value).toArray 4) := by
  obtain ⟨hx, hb, hr, hml, hown, hts, hX, hbl, hlocks, hgv⟩ := C0
  have hts' : ∀ w ∈ TSG, w.before #[Value.ref b] s = true := fun w hw => hts w (List.mem_filter.mp hw).1
  have hA : ∀ a : Nat, a < s.heap.size → ¬ AA s.heap.size a := fun a h q => Nat.not_le.mpr h q
  have hkn : ∀ k : Nat, ∃ (cC : ClassId) (iS : Nat → Nat), ∀ q : vw_C, classes[k]? = some q → u_Kn s q.1 q.2.1 q.2.2 cC iS := by
    intro k
    cases hc : classes[k]? with
    | none => exact ⟨m.cls, fun _ => 0, fun q h => by cases h⟩
    | some q =>
      obtain ⟨hin, -, -, -, hins, -, -⟩ := cls_all k q hc
      obtain ⟨cC, iS, hq⟩ := u_known hts' hin (hts' _ hins)
      exact ⟨cC, iS, fun q' h => by cases h; exact hq⟩
  obtain ⟨cI, aI1, aI2⟩ := arr_of (hts' _ (at_cl .int (Or.inl rfl)))
  obtain ⟨cJ, aJ1, aJ2⟩ := arr_of (hts' _ (at_cl .long (Or.inr (Or.inl rfl))))
  obtain ⟨cZ, aZ1, aZ2⟩ := arr_of (hts' _ (at_cl .boolean (Or.inr (Or.inr rfl))))
  have hor := hts (.arrayOver (.object RX5)) (List.mem_of_getElem? (i := 108) (by decide +kernel))
  have hos := hts (.arrayOver (.object RX6)) (List.mem_of_getElem? (i := 110) (by decide +kernel))
  obtain ⟨cR, aR1, aR2⟩ := arrq_of hor
  obtain ⟨cS, aS1, aS2⟩ := arrq_of hos
  obtain ⟨t0, z0, w0⟩ := stat_0 (sc := (L, xs)) hts hgv
  obtain ⟨t1, z1, w1⟩ := stat_1 (sc := (L, xs)) hts hgv
  obtain ⟨t2, z2, w2⟩ := stat_2 (sc := (L, xs)) hts hgv
  obtain ⟨t3, z3, w3⟩ := stat_3 (sc := (L, xs)) hts hgv
  generalize hD : ((fun k => (hkn k).choose, fun k => (hkn k).choose_spec.choose) : va_G) = D
  have hKc : ∀ (k : Nat) (q : vw_C), classes[k]? = some q → u_Kn s q.1 q.2.1 q.2.2 (D.1 k) (D.2 k) := by
    intro k q hq
    rw [← hD]
    exact (hkn k).choose_spec.choose_spec q hq
  generalize hca : (fun t => if t = 11 then cI else if t = 12 then cJ else if t = 13 then cZ else if t = 14 then cR else cS : Nat → ClassId) = ca
  generalize hra : (fun t => if t = 0 then t0 else if t = 1 then t1 else if t = 2 then t2 else if t = 3 then t3 else b : Nat → Nat) = ra
  have hK : va_K D classes (tys ca) s := by
    refine ⟨hKc, fun k q hq => ?_⟩
    subst hca
    match k, hq with
    | 0, hq => cases hq; exact ⟨aI1, aI2⟩
    | 1, hq => cases hq; exact ⟨aJ1, aJ2⟩
    | 2, hq => cases hq; exact ⟨aZ1, aZ2⟩
    | 3, hq => cases hq; exact ⟨aR1, aR2⟩
    | 4, hq => cases hq; exact ⟨aS1, aS2⟩
    | n + 5, hq => simp [tys] at hq
  have hRO : RO s.heap.size ra (L, xs) s s.heap := by
    subst hra
    refine ⟨fun a ha => ?_, fun a ha => ?_, fun w hw hn => ?_, va_AO.of hor, va_AO.of hos⟩
    · match a, ha with
      | 0, _ => exact z0
      | 1, _ => exact z1
      | 2, _ => exact z2
      | 3, _ => exact z3
      | n + 4, h => omega
    · match a, ha with
      | 0, _ => exact w0
      | 1, _ => exact w1
      | 2, _ => exact w2
      | 3, _ => exact w3
      | 4, _ =>
        obtain ⟨scr, x1, x2, x3, x4, x5⟩ := hX
        exact ⟨scr, x1, x2, x3, Nat.le_of_eq x4.symm, by show scr.slots.size.toInt32 = Int32.ofNat L; rw [x4], x5, hA b hbl⟩
      | n + 5, h => omega
    · have hz := hts w hw
      cases w <;> first | exact va_Nw.of rfl hz | (exact absurd hn (by simp [nestW]))
  have C : Cx D s.heap.size ca ra (L, xs) p s m #[Value.ref b] meth c 0 259 := ⟨hx, by rw [law_B]; exact hb, by rw [law_L]; exact hml, by rw [law_O]; exact hown, hts', fun q => absurd q law_N, hK, hRO, rfl⟩
  obtain ⟨f, h', hex, hn⟩ := hp L xs hL
  have hSL : SL (hN h') ≤ 7302250 := Nat.le_trans (SL_mono hn) SL_1000
  have hret : RetH D s.heap.size ca ra p l e room_1 s m #[Value.ref b] below meth c (lw_Z below #[Value.ref b] s) 0 259 (some (.int 1)) h' := by
    intro pc H locs la h0 h1 h2 hrr
    rcases hrr with ⟨x, hxx, hd, -⟩ | ⟨x, hxx, -⟩ | ⟨hxx, -⟩
    · cases hxx
      rw [law_B] at hd
      refine va_forget (fun q hq => h2.2.2 q hq) ?_
      refine W.widen (k := 600000) (n := 7302250) (Nat.le_trans (Nat.sub_le _ _) (Nat.le_trans hn (by decide))) (Nat.le_trans (Nat.sub_le _ _) hSL) ?_
      exact lw_ret hx hb hr hlocks hd
    · cases hxx
    · cases hxx
  have hk := body_all (D := D) (b0 := s.heap.size) (ca := ca) (ra := ra) (sc := (L, xs)) (l := l) f 20 259 _ _ _ (by decide) hex p e room_1 s m #[Value.ref b] below meth c (lw_Z below #[Value.ref b] s) 0 C ⟨by decide, by decide⟩ ⟨Nat.le_trans (Nat.sub_le _ _) (Nat.le_trans hn (by decide)), Nat.le_trans (Nat.sub_le _ _) hSL⟩ hret
  have hRel : Rel D s.heap.size ca ra hZ s.heap := fun k q h => by simp [wsO, hZ, hN] at h
  have hrl := entL_RL (b0 := s.heap.size) (ra := ra) (as := [.ref 1004]) (n := 4) (by decide)
  have hw := hk s.heap [] _ (Nat.le_refl _) hRel va_S.rf (by rw [law_L]; exact hrl)
  have e1 : ([Value.ref 1004].map (cv s.heap.size ra)) = [Value.ref b] := by
    show [Value.ref (cr s.heap.size ra 1004)] = _
    have : cr s.heap.size ra 1004 = b := by subst hra; rfl
    rw [this]
  rw [e1] at hw
  rw [lg_entry_eq]
  exact hw
