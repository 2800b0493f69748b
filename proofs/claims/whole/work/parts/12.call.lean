/-! ===== calls, and the whole: what the pure machine does, the machine does ===== -/
theorem look_mem : ∀ {l : List (Nat × E5)} {pc : Nat} {e : E5}, look l pc = some e → (pc, e) ∈ l
  | [], _, _, h => by cases h
  | q :: l, pc, e, h => by
    unfold look at h
    cases hb : Nat.beq q.1 pc with
    | true =>
      rw [hb] at h
      have e1 : q.1 = pc := Nat.eq_of_beq_eq_true hb
      have e2 : q.2 = e := Option.some.inj h
      rw [← e1, ← e2]
      exact List.mem_cons_self
    | false =>
      rw [hb] at h
      exact List.mem_cons_of_mem _ (look_mem h)
theorem ck_at {y pc : Nat} {i : Instr} {np a b : Nat} {v : Value} (hy : y < 260) (h : look (insT y) pc = some (i, np, a, b, v)) : decode (mB y) pc = .ok (i, np - pc) ∧ pc < np ∧ ck1 (mO y) (decide ((mY y).name = "<init>")) pc (i, np, a, b, v) = true := by
  have h1 := List.all_eq_true.mp (ck_all y hy) _ (look_mem h)
  unfold ck at h1
  simp only [Bool.and_eq_true, decide_eq_true_eq] at h1
  exact h1
def retL (y : Nat) : Bool := (insT y).all (fun q => match q.2.1 with
  | .ireturn => decide (q.2.2.1 = q.1 + 1)
  | .lreturn => decide (q.2.2.1 = q.1 + 1)
  | .return_ => decide (q.2.2.1 = q.1 + 1)
  | _ => true)
theorem ret_all : (List.range 260).all retL = true := by decide +kernel
theorem mw_at {y : Nat} (hy : y < 259) : ∃ q, mwT[y]? = some q ∧ q.1 = y ∧ mwOk q = true := by
  have h1 : (mwT.map (fun q => q.1))[y]? = some y := by rw [mw_len, List.getElem?_range hy]
  rw [List.getElem?_map] at h1
  cases hq : mwT[y]? with
  | none => rw [hq] at h1; cases h1
  | some q =>
    rw [hq] at h1
    exact ⟨q, rfl, Option.some.inj h1, List.all_eq_true.mp mw_all q (List.mem_of_getElem? hq)⟩
theorem mw_c {y : Nat} (hy : y < 259) : cwd y ∈ TSG ∧ Cond.initialized (mY y).cls ∈ TSG ∧ (mY y).cls = oname (mO y) ∧ mL y ≤ 40 ∧ Jvm.plainName (mY y).cls = true ∧ (mY y).cls ≠ "java/lang/invoke/MethodHandle" ∧ (mY y).cls ≠ "java/lang/invoke/VarHandle" ∧ (parseMethodDescriptor (mY y).desc).map (fun d => d.parameters.length) = some (mP y) := by
  obtain ⟨q, hq, he, hk⟩ := mw_at hy
  unfold mwOk at hk
  rw [he] at hk
  simp only [Bool.and_eq_true, decide_eq_true_eq] at hk
  obtain ⟨a1, a2, a3, a4, a5, a6, a7, -⟩ := hk
  exact ⟨List.mem_filter.mpr ⟨mc_all y hy, gw_code _ _ _ _⟩, TSG_at a1 (gw_init _), a2, a3, a4, a5, a6, a7⟩
theorem mk_0 {y : Nat} (hy : y < 259) (hk0 : mKind y = 0) : Cond.instanceMethod (mY y) ∈ TSG ∧ Cond.selects (mY y).cls (mY y) (mY y) ∈ TSG ∧ mO y < 11 := by
  obtain ⟨q, hq, he, hk⟩ := mw_at hy
  unfold mKind at hk0
  rw [hq] at hk0
  simp only at hk0
  unfold mwOk at hk
  rw [he, hk0] at hk
  simp only [Bool.and_eq_true, decide_eq_true_eq] at hk
  obtain ⟨-, -, -, -, -, -, -, b1, b2, b3⟩ := hk
  exact ⟨TSG_at b1 (gw_inst _), TSG_at b2 (gw_sel _ _ _), b3⟩
theorem mk_1 {y : Nat} (hy : y < 259) (hk0 : mKind y = 1) : Cond.static (mY y) ∈ TSG := by
  obtain ⟨q, hq, he, hk⟩ := mw_at hy
  unfold mKind at hk0
  rw [hq] at hk0
  simp only at hk0
  unfold mwOk at hk
  rw [he, hk0] at hk
  simp only [Bool.and_eq_true, decide_eq_true_eq] at hk
  obtain ⟨-, -, -, -, -, -, -, b1⟩ := hk
  exact TSG_at b1 (gw_static _)
theorem mk_2 {y : Nat} (hy : y < 259) (hk0 : mKind y = 2) : Cond.instanceMethod (mY y) ∈ TSG ∧ (mY y).name = "<init>" ∧ mR y = none := by
  obtain ⟨q, hq, he, hk⟩ := mw_at hy
  unfold mKind at hk0
  rw [hq] at hk0
  simp only at hk0
  unfold mwOk at hk
  rw [he, hk0] at hk
  simp only [Bool.and_eq_true, decide_eq_true_eq] at hk
  obtain ⟨-, -, -, -, -, -, -, b1, b2, b3⟩ := hk
  exact ⟨TSG_at b1 (gw_inst _), b2, b3⟩
theorem mth_word {ow k a n : Nat} (h : hasM ow k a n = true) : a < 259 ∧ (n = 0 → Cond.methodLink (oname ow) k (mY a) ∈ TSG) ∧ (n ≠ 0 → Cond.methodLinkNest (oname ow) k (mY a) "SelfShapes" ∈ lw_tbl) := by
  unfold hasM at h
  obtain ⟨q, hq, he⟩ := List.any_eq_true.mp h
  simp only [Bool.and_eq_true, decide_eq_true_eq] at he
  obtain ⟨e1, e2, e3, e4⟩ := he
  have hk := List.all_eq_true.mp mth_all q hq
  unfold mthOk at hk
  rw [e1, e2, e3, e4] at hk
  simp only [Bool.and_eq_true, decide_eq_true_eq] at hk
  refine ⟨hk.1, fun hz => ?_, fun hz => ?_⟩
  · have h2 := hk.2
    rw [if_pos hz] at h2
    exact TSG_at (of_decide_eq_true h2) (gw_methodLink _ _ _)
  · have h2 := hk.2
    rw [if_neg hz] at h2
    exact List.mem_of_getElem? (of_decide_eq_true h2)
theorem RO.warm {b0 : Nat} {ra : Nat → Nat} {sc : Nat × (Nat → Int32)} {s U : State} {H : Heap} (hW : s.WarmedH U.vm) (h : RO b0 ra sc s H) : RO b0 ra sc U H := ⟨fun a ha => va_Z.moved hW.alike (h.1 a ha), fun a ha => va_T.moved hW.alike (h.2.1 a ha), fun w hw hn => by
  have hz := h.2.2.1 w hw hn
  cases w <;> first | exact va_Nw.warmF hW hz | exact va_Nw.warmM hW hz | (exact absurd hn (by simp [nestW])), va_AO.moved hW.alike h.2.2.2.1, va_AO.moved hW.alike h.2.2.2.2⟩
theorem RO.same {b0 : Nat} {ra : Nat → Nat} {sc : Nat × (Nat → Int32)} {s U : State} {H : Heap} (hW : s.vm = U.vm) (h : RO b0 ra sc s H) : RO b0 ra sc U H := ⟨fun a ha => va_Z.moved (by rw [hW]; exact Vm.Alike.refl _) (h.1 a ha), fun a ha => va_T.moved (by rw [hW]; exact Vm.Alike.refl _) (h.2.1 a ha), fun w hw hn => by
  have hz := h.2.2.1 w hw hn
  cases w <;> first | exact va_Nw.same rfl hW hz | (exact absurd hn (by simp [nestW])), va_AO.moved (by rw [hW]; exact Vm.Alike.refl _) h.2.2.2.1, va_AO.moved (by rw [hW]; exact Vm.Alike.refl _) h.2.2.2.2⟩
theorem RO.kept {b0 : Nat} {ra : Nat → Nat} {sc : Nat × (Nat → Int32)} {U : State} {H H1 : Heap} (h : RO b0 ra sc U H) (hq : ∀ a : Nat, a < H.size → ¬ AA b0 a → H1[a]? = H[a]?) : RO b0 ra sc U H1 := ⟨fun a ha => va_Z.kept (h.1 a ha) hq, fun a ha => va_T.kept (h.2.1 a ha) hq, h.2.2⟩
def pPc (D : va_G) (b0 : Nat) (ca : Nat → ClassId) (ra : Nat → Nat) (sc : Nat × (Nat → Int32)) (as : List Value) (h : PH) : Array Value → State → Prop := fun v U => v = (as.map (cv b0 ra)).toArray ∧ Rel D b0 ca ra h U.heap ∧ va_K D classes (tys ca) U ∧ RO b0 ra sc U U.heap ∧ U.heap.size = b0 + hN h
def pQc (D : va_G) (b0 : Nat) (ca : Nat → ClassId) (ra : Nat → Nat) (v : Option Value) (h' : PH) : Array Value → State → Outcome → State → Prop := fun _ st oc t => (oc = .returned (v.map (cv b0 ra)) ∧ Rel D b0 ca ra h' t.heap) ∧ va_F (AA b0) st t
def wY (y : Nat) : List Cond := cwd y :: TSG
def rmD (d kc ks : Nat) : Room := { frames := d + 1, cells := kc, slots := ks, locals := 60 * (d + 1) }
def pMet (D : va_G) (b0 : Nat) (ca : Nat → ClassId) (ra : Nat → Nat) (sc : Nat × (Nat → Int32)) (l : Launch) (d y : Nat) (as : List Value) (h : PH) (v : Option Value) (h' : PH) : Prop :=
  Met l (mY y) (wY y) (rmD d (hN h' - hN h) (SL (hN h') - SL (hN h))) (pPc D b0 ca ra sc as h) (pQc D b0 ca ra v h') (hN h' - hN h) (SL (hN h') - SL (hN h)) (AA b0)
theorem TSG_good : GoodIn TSG TSG := fun w hw => ⟨hw, good_of_word (List.mem_filter.mp hw).2⟩
theorem wY_good {y : Nat} (hy : y < 259) : GoodIn TSG (wY y) := fun w hw => by
  rcases List.mem_cons.mp hw with e | e
  · rw [e]
    exact TSG_good _ (mw_c hy).1
  · exact TSG_good w e
theorem pPc_blind (D : va_G) (b0 : Nat) (ca : Nat → ClassId) (ra : Nat → Nat) (sc : Nat × (Nat → Int32)) (as : List Value) (h : PH) : FrameBlind (pPc D b0 ca ra sc as h) := fun a U g mk q => ⟨q.1, q.2.1, va_K.moved (u := U) (U := U.calling g mk a) (Vm.Alike.refl U.vm) q.2.2.1, RO.same (s := U) (U := U.calling g mk a) rfl q.2.2.2.1, q.2.2.2.2⟩
theorem ar_1 {n a b : Nat} (h1 : n ≤ a) (h2 : a ≤ b) : a - n + (b - a) = b - n := by omega
theorem ar_2 {m d r : Nat} (h1 : m ≤ 40) (h2 : 60 * (d + 2) ≤ r) : 8 + (m + 11) + 60 * (d + 1) ≤ r := by omega
section CAL
variable {D : va_G} {b0 : Nat} {ca : Nat → ClassId} {ra : Nat → Nat} {sc : Nat × (Nat → Int32)} {p : Program} {l : Launch} {e : Env} {R : Room} {s : State} {m : MethodId} {args : Array Value} {below : List Frame} {meth : Method} {c : Code} {Q : State → Prop} {n0 nL y : Nat} {pc np a b idx : Nat} {ls : List (Option Value)} {st : List Value} {h : PH} {g : PC}
theorem p_run {H : Heap} {locs : List Loc} {cells slots kc ks : Nat} {la : Array Slot} {st0 rest : List Value} {v : Option Value} {h' : PH} {aa : Array Value} (hr : va_Run p l e R s m args below meth c H locs cells slots kc ks (F0 m pc la st0) rest (pQc D b0 ca ra v h' aa) (AA b0)) {H0 : Heap} (hS : va_S (AA b0) H0 H locs)
    (kk : ∀ (H1 : Heap) (locs1 : List Loc), Rel D b0 ca ra h' H1 → va_S (AA b0) H0 H1 locs1 → W p l e R s m args below meth c H1 locs1 (cells + kc) (slots + ks) Q (F0 m (pc + 3) la ((v.map (cv b0 ra)).toList ++ rest))) : W p l e R s m args below meth c H locs cells slots Q (F0 m pc la st0) := by
  intro T hT X
  obtain ⟨v', st₀, t, T', L, h0, X', hL, e1, e2, ⟨⟨hv, hb⟩, hz, hk⟩, st⟩ := hr T hT X
  cases hv
  rw [h0] at hz hk
  obtain ⟨t2, a1, b1⟩ := kk T'.heap (locs ++ L) (by rw [e1]; exact hb)
    ⟨Nat.le_trans hS.1 (by rw [e1]; exact hz), fun q h1 h2 => by rw [e1, hk q (Nat.lt_of_lt_of_le h1 hS.1) h2]; exact hS.2.1 q h1 h2, fun q hq => by
      rcases List.mem_append.mp hq with h | h
      · exact hS.2.2 q h
      · exact hL q h⟩ T' rfl X'
  exact ⟨t2, st t2 a1, b1⟩
theorem pre_ok {H : Heap} {locs : List Loc} {as : List Value} (hK : va_K D classes (tys ca) s) (hRO : RO b0 ra sc s s.heap) (h1 : Rel D b0 ca ra h H) (h2 : va_S (AA b0) s.heap H locs) (hs : H.size = b0 + hN h) : ∀ U : State, U.heap = H → s.WarmedH U.vm → pPc D b0 ca ra sc as h (as.map (cv b0 ra)).toArray U := fun U hU hW => ⟨rfl, by rw [hU]; exact h1, va_K.moved hW.alike hK, RO.warm hW (by rw [hU]; exact hRO.kept h2.2.1), by rw [hU]; exact hs⟩
set_option maxHeartbeats 1000000 in
/-- a call of a method of the tables: invokevirtual, invokestatic, invokespecial -/
theorem k_call {i : Instr} {d : Nat} {as : List Value} {r : List Value} {v : Option Value} {h' : PH} (C : Cx D b0 ca ra sc p s m args meth c n0 y) (hnl : nL = mL y) (ha : a < 259) (hd : decode (mB y) pc = .ok (i, 3)) (hn : np = pc + 3) (hroom : d + 2 ≤ R.frames ∧ 60 * (d + 2) ≤ R.locals) (hcap : hN h' - n0 ≤ R.cells ∧ SL (hN h') - SL n0 ≤ R.slots) (hmono : hN h ≤ hN h') (hcat : catS r ≤ 8)
    (hi : (i = .invokevirtual idx ∧ mKind a = 0 ∧ Cond.methodLink (oname (mO y)) idx (mY a) ∈ TSG ∧ ∃ (k : Nat) (as' : List Value), as = .ref k :: as' ∧ as'.length = mP a ∧ okp h k (mO a) = true ∧ st = as'.reverse ++ .ref k :: r) ∨
      (i = .invokestatic idx ∧ mKind a = 1 ∧ Cond.methodLink (oname (mO y)) idx (mY a) ∈ TSG ∧ as.length = mP a ∧ st = as.reverse ++ r) ∨
      (i = .invokespecial idx ∧ mKind a = 2 ∧ (Cond.methodLink (oname (mO y)) idx (mY a) ∈ TSG ∨ Cond.methodLinkNest (oname (mO y)) idx (mY a) "SelfShapes" ∈ lw_tbl) ∧ ∃ (k : Nat) (as' : List Value), as = .ref k :: as' ∧ as'.length = mP a ∧ okp h k (mO a) = true ∧ st = as'.reverse ++ .ref k :: r))
    (hM : pMet D b0 ca ra sc l d a as h v h') (k : KK D b0 ca ra p l e R s m args below meth c Q n0 nL (np, ls, v.toList ++ r, h')) : KK D b0 ca ra p l e R s m args below meth c Q n0 nL (pc, ls, st, h) := by
  obtain ⟨hx, hb, hml, hown, hts, hnm, hK, hRO, hsz⟩ := C
  subst hn
  obtain ⟨m1, m2, m3, m4, m5, m6, m7, m8⟩ := mw_c ha
  intro H locs la h0 h1 h2 h3
  refine W.size (fun hu => ?_)
  have hs := h1.size h2 hsz h0 hu
  have hS1 := SL_mono h0
  have hS2 := SL_mono hmono
  have hR : (rmD d (hN h' - hN h) (SL (hN h') - SL (hN h))).frames + 1 ≤ R.frames ∧ 8 + (mL a + 11) + (rmD d (hN h' - hN h) (SL (hN h') - SL (hN h))).locals ≤ R.locals := by
    exact ⟨hroom.1, ar_2 m4 hroom.2⟩
  have hf : hN h - n0 + (hN h' - hN h) ≤ R.cells ∧ SL (hN h) - SL n0 + (SL (hN h') - SL (hN h)) ≤ R.slots := ⟨by rw [ar_1 h0 hmono]; exact hcap.1, by rw [ar_1 hS1 hS2]; exact hcap.2⟩
  have hlo : 2 * (F0 m pc la (st.map (cv b0 ra))).monitorRoom + ((r.map (cv b0 ra)).map fun v => v.category).sum ≤ 8 := lv_room (by rw [cv_sum]; exact hcat)
  have hsize : (F0 m pc la (st.map (cv b0 ra))).locals.size = mL y := by rw [← hnl]; exact h3.1
  have hfin : ∀ (H1 : Heap) (locs1 : List Loc), Rel D b0 ca ra h' H1 → va_S (AA b0) s.heap H1 locs1 → W p l e R s m args below meth c H1 locs1 (hN h - n0 + (hN h' - hN h)) (SL (hN h) - SL n0 + (SL (hN h') - SL (hN h))) Q (F0 m (pc + 3) la ((v.map (cv b0 ra)).toList ++ r.map (cv b0 ra))) := by
    intro H1 locs1 hr1 hs1
    have k' := k H1 locs1 la (Nat.le_trans h0 hmono) hr1 hs1 h3
    have e1 : hN h - n0 + (hN h' - hN h) = hN h' - n0 := ar_1 h0 hmono
    have e2 : SL (hN h) - SL n0 + (SL (hN h') - SL (hN h)) = SL (hN h') - SL n0 := ar_1 hS1 hS2
    have e3 : (v.map (cv b0 ra)).toList ++ r.map (cv b0 ra) = (v.toList ++ r).map (cv b0 ra) := by cases v <;> simp
    rw [e1, e2, e3]
    exact k'
  have hpd : ((mY a).cls ≠ "java/lang/invoke/MethodHandle" ∧ (mY a).cls ≠ "java/lang/invoke/VarHandle" ∧ (parseMethodDescriptor (mY a).desc).map (fun d => d.parameters.length) = some (mP a)) := ⟨m6, m7, m8⟩
  have hbl := pPc_blind D b0 ca ra sc as h
  rcases hi with ⟨rfl, hk0, hlk, kk, as', rfl, hlen, hok, hst⟩ | ⟨rfl, hk0, hlk, hlen, hst⟩ | ⟨rfl, hk0, hlk, kk, as', rfl, hlen, hok, hst⟩
  · obtain ⟨i1, i2, i3⟩ := mk_0 ha hk0
    obtain ⟨o1, o2, o3⟩ := okp_spec hok
    obtain ⟨q, hq⟩ : ∃ q, classes[mO a]? = some q := ⟨_, List.getElem?_eq_getElem (show mO a < classes.length from i3)⟩
    have hw := wsO_get (b0 := b0) (ca := ca) (ra := ra) o1
    rw [ent_O o3 i3] at hw
    have hnme := (cls_all _ q hq).2.2.2.2.2.2
    have hrc := va_recv hK h1 hq hw
    rw [hnme, ← m3] at hrc
    refine p_run (va_runV (As := as'.map (cv b0 ra)) (rest := r.map (cv b0 ra)) (b := b0 + kk) (C := (mY a).cls) (cc := mB y) (nL := mL y) (Ts := TSG) ⟨hx, hb, hml, hown, hts⟩ hM (cwV (mP a) hts (fun w hw => ?_) rfl rfl rfl ⟨rfl, hpd⟩ hR) ⟨hbl, hrc, ?_⟩ rfl (by rw [List.length_map]; exact hlen) hsize ?_ hlo hd hf) h2 hfin
    · unfold wsV at hw
      rcases List.mem_append.mp hw with e | e
      · simp only [List.mem_cons, List.not_mem_nil, or_false] at e
        rcases e with e | e | e | e <;> rw [e]
        · exact TSG_good _ hlk
        · exact TSG_good _ i1
        · exact TSG_good _ i2
        · exact TSG_good _ m2
      · exact wY_good ha w e
    · have hp := pre_ok (as := .ref kk :: as') hK hRO h1 h2 hs
      intro U hU hW
      have := hp U hU hW
      rw [List.map_cons, show cv b0 ra (.ref kk) = .ref (b0 + kk) from congrArg Value.ref (cr_lt o2)] at this
      exact this
    · show st.map (cv b0 ra) = _
      rw [hst, List.map_append, List.map_cons, List.map_reverse, show cv b0 ra (.ref kk) = .ref (b0 + kk) from congrArg Value.ref (cr_lt o2)]
  · have i1 := mk_1 ha hk0
    refine p_run (va_runS (As := as.map (cv b0 ra)) (rest := r.map (cv b0 ra)) (cc := mB y) (nL := mL y) (Ts := TSG) ⟨hx, hb, hml, hown, hts⟩ hM (va_cwS (mP a) hts (fun w hw => ?_) rfl rfl rfl hpd hR) ⟨hbl, pre_ok hK hRO h1 h2 hs⟩ rfl (by rw [List.length_map]; exact hlen) hsize ?_ hlo hd hf) h2 hfin
    · unfold va_wsS at hw
      rcases List.mem_append.mp hw with e | e
      · simp only [List.mem_cons, List.not_mem_nil, or_false] at e
        rcases e with e | e | e <;> rw [e]
        · exact TSG_good _ hlk
        · exact TSG_good _ i1
        · exact TSG_good _ m2
      · exact wY_good ha w e
    · show st.map (cv b0 ra) = _
      rw [hst, List.map_append, List.map_reverse]
  · obtain ⟨i1, i2, i3⟩ := mk_2 ha hk0
    obtain ⟨o1, o2, o3⟩ := okp_spec hok
    have hp := pre_ok (as := .ref kk :: as') hK hRO h1 h2 hs
    rw [List.map_cons, show cv b0 ra (.ref kk) = .ref (b0 + kk) from congrArg Value.ref (cr_lt o2)] at hp
    have hst2 : (F0 m pc la (st.map (cv b0 ra))).stack = (as'.map (cv b0 ra)).reverse ++ .ref (b0 + kk) :: r.map (cv b0 ra) := by
      show st.map (cv b0 ra) = _
      rw [hst, List.map_append, List.map_cons, List.map_reverse, show cv b0 ra (.ref kk) = .ref (b0 + kk) from congrArg Value.ref (cr_lt o2)]
    have hw' : wY a = Cond.code (mY a) (mB a) (mL a) none :: TSG := by
      unfold wY cwd
      rw [i3]
    rcases hlk with hlk | hlk
    · exact p_run (va_runI (As := as'.map (cv b0 ra)) (rest := r.map (cv b0 ra)) (b := b0 + kk) (cc := mB y) (nL := mL y) (Ts := TSG) ⟨hx, hb, hml, hown, hts⟩ hM (cwI (mP a) hts (wY_good ha) hw' rfl rfl (hts _ m2) (hts _ hlk) (hts _ i1) i2 hpd hR) ⟨hbl, hp⟩ rfl (by rw [List.length_map]; exact hlen) hsize hst2 hlo hd hf) h2 hfin
    · exact p_run (va_runIN (As := as'.map (cv b0 ra)) (rest := r.map (cv b0 ra)) (b := b0 + kk) (host := "SelfShapes") (cc := mB y) (nL := mL y) (Ts := TSG) ⟨hx, hb, hml, hown, hts⟩ hM ⟨va_cnB (mP a) hts (wY_good ha) hw' rfl rfl (hRO.2.2.1 _ hlk rfl) (hts _ m2) hpd hR, i2, hts _ i1⟩ ⟨hbl, hp⟩ rfl (by rw [List.length_map]; exact hlen) hsize hst2 hlo hd hf) h2 hfin
end CAL
