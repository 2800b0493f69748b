/-! ===== new cells ===== -/
theorem wsO_new (b0 : Nat) (ca : Nat → ClassId) (ra : Nat → Nat) (h : PH) : wsO b0 ca ra (nH h) = wsO b0 ca ra h ++ [(b0 + hN h, ent b0 ca ra (nH h) (hN h))] := by
  unfold wsO
  show (List.range (hN h + 1)).map _ = _
  rw [List.range_succ, List.map_append]
  congr 1
  refine List.map_congr_left (fun k hk => ?_)
  have hlt : k ≠ hN h := Nat.ne_of_lt (List.mem_range.mp hk)
  have e : ent b0 ca ra (nH h) k = ent b0 ca ra h k := by
    refine ent_congr ?_ ?_ ?_
    · unfold hI nH up1; simp only; exact if_neg hlt
    · unfold hL nH up1; simp only; exact if_neg hlt
    · unfold hR nH up1; simp only; exact if_neg hlt
  rw [e]
theorem nH_I (h : PH) : hI (nH h) (hN h) = fun _ => 0 := by unfold hI nH up1 hN; simp
theorem nH_L (h : PH) : hL (nH h) (hN h) = fun _ => 0 := by unfold hL nH up1 hN; simp
theorem nH_R (h : PH) : hR (nH h) (hN h) = fun _ => none := by unfold hR nH up1 hN; simp
theorem new_rel {D : va_G} {b0 : Nat} {ca : Nat → ClassId} {ra : Nat → Nat} {h : PH} {H H1 : Heap} (h1 : Rel D b0 ca ra h H) (hs : H.size = b0 + hN h) (ho : ∀ q : Nat, q < H.size → H1[q]? = H[q]?) (he : va_at D classes (b0 + hN h, ent b0 ca ra (nH h) (hN h)) H1) : Rel D b0 ca ra (nH h) H1 := by
  unfold Rel
  rw [wsO_new]
  refine (va_P.kept h1 (fun k q hq => ho q.1 ((h1 k q hq).lt))).app (fun k q hq => ?_)
  have hz : k < 1 := (List.getElem?_eq_some_iff.mp hq).1
  rw [show k = 0 by omega] at hq
  cases hq
  exact he
theorem new_S {b0 : Nat} {H0 H H1 : Heap} {locs : List Loc} (h2 : va_S (AA b0) H0 H locs) (hz : H1.size = H.size + 1) (ho : ∀ q : Nat, q < H.size → H1[q]? = H[q]?) : va_S (AA b0) H0 H1 locs :=
  ⟨Nat.le_trans h2.1 (by omega), fun x g1 g2 => (ho x (Nat.lt_of_lt_of_le g1 h2.1)).trans (h2.2.1 x g1 g2), h2.2.2⟩
theorem SL_succ (n : Nat) : SL (n + 1) = SL n + SZ n := rfl
theorem SL_mono {a b : Nat} (h : a ≤ b) : SL a ≤ SL b := by
  induction h with
  | refl => exact Nat.le_refl _
  | step _ ih => exact Nat.le_trans ih (Nat.le_add_right _ _)
theorem gw_classLink (a : String) (k : Nat) (b : String) : goodWord (.classLink a k b) = true := by first | rfl | simp [goodWord, Cond.onTables, Cond.keeps, Cond.steady]
theorem fk_small : ∀ (c t : Nat), t ∈ FK c → t < 3 := by
  intro c t h
  have hall : FKl.all (fun l => l.all (fun t => decide (t < 3))) = true := by decide +kernel
  unfold FK at h
  rw [List.getD_eq_getElem?_getD] at h
  cases hc : FKl[c]? with
  | none => rw [hc] at h; simp at h
  | some l =>
    rw [hc] at h
    have h1 := List.all_eq_true.mp hall l (List.mem_of_getElem? hc)
    exact of_decide_eq_true (List.all_eq_true.mp h1 t h)
section NEW
variable {D : va_G} {b0 : Nat} {ca : Nat → ClassId} {ra : Nat → Nat} {sc : Nat × (Nat → Int32)} {p : Program} {l : Launch} {e : Env} {R : Room} {s : State} {m : MethodId} {args : Array Value} {below : List Frame} {meth : Method} {c : Code} {Q : State → Prop} {n0 nL y : Nat} {pc np a b idx : Nat} {v : Value} {ls : List (Option Value)} {st : List Value} {h : PH} {g : PC}
set_option maxHeartbeats 1000000 in
theorem k_new (C : Cx D b0 ca ra sc p s m args meth c n0 y) (hd : decode (mB y) pc = .ok (.new idx, 3)) (hw : lw_tbl[b]? = some (.classLink (oname (mO y)) idx (oname a))) (hn : np = pc + 3) (hcap : hN h + 1 - n0 ≤ R.cells ∧ SL (hN h + 1) - SL n0 ≤ R.slots) (ho : o_new np a ls st h = some (.inr (.inl g))) (k : KK D b0 ca ra p l e R s m args below meth c Q n0 nL g) : KK D b0 ca ra p l e R s m args below meth c Q n0 nL (pc, ls, st, h) := by
  obtain ⟨hx, hb, hml, hown, hts, hnm, hK, hRO, hsz⟩ := C
  subst hn
  unfold o_new at ho
  split at ho
  next hc =>
    obtain ⟨c1, c2, c3⟩ := hc
    cases ho
    intro H locs la h0 h1 h2 h3
    refine W.size (fun hu => ?_)
    have hs := h1.size h2 hsz h0 hu
    obtain ⟨q, hq⟩ : ∃ q, classes[a]? = some q := ⟨_, List.getElem?_eq_getElem (show a < classes.length from c3)⟩
    obtain ⟨hin, ⟨ty0, hty, hkt⟩, -, hlen, hinst, hini, hnme⟩ := cls_all a q hq
    have hKn := hK.1 a _ hq
    have hmono := SL_mono h0
    have hSZ : SZ (hN h) = q.2.2 := by unfold SZ; rw [c2, if_pos c3, hlen]
    rw [SL_succ, hSZ] at hcap
    rw [← hnme] at hw
    refine W.newcK (n := q.2.2) hx hb hown (hts _ (TSG_at hw (gw_classLink _ _ _))) (hts _ hinst) (hts _ hini) rfl hd (by omega) (by omega) hKn.2.1 rfl fun H1 kC hkC e1 z1 o1 => ?_
    have k' := k H1 locs la (Nat.le_succ_of_le h0) (new_rel h1 hs o1 (by
      rw [ent_O c2 c3]
      refine ⟨_, hq, ?_⟩
      rw [← hs]
      refine (u_born ty0 hts hin hKn hkC e1 hty).to (fun j hj => ?_)
      have hg := flds_get (b0 := b0) (ra := ra) (h := nH h) (k := hN h) (hkt j hj)
      unfold vp_V
      rw [List.getD_eq_getElem?_getD, hg]
      show defaultValue (ty0 j) = fval b0 ra (nH h) (hN h) j (kty (ty0 j))
      have hkn : kty (ty0 j) = 0 ∨ kty (ty0 j) = 1 ∨ kty (ty0 j) = 2 := by
        have hm := fk_small a (kty (ty0 j)) (List.mem_of_getElem? (hkt j hj))
        omega
      rcases hkn with z | z | z
      · rw [z, kty_i z]
        show _ = Value.int (hI (nH h) (hN h) j)
        rw [nH_I]
        rfl
      · rw [z, kty_l z]
        show _ = Value.long (hL (nH h) (hN h) j)
        rw [nH_L]
        rfl
      · rw [z]
        show _ = va_rf ((hR (nH h) (hN h) j).map (cr b0 ra))
        rw [nH_R]
        generalize ty0 j = t at z
        cases t <;> first | rfl | (simp [kty] at z))) (new_S h2 z1 o1) h3
    have ec : hN h - n0 + 1 = hN (nH h) - n0 := by show hN h - n0 + 1 = hN h + 1 - n0; omega
    have es : SL (hN h) - SL n0 + q.2.2 = SL (hN (nH h)) - SL n0 := by
      show _ = SL (hN h + 1) - SL n0
      rw [SL_succ, hSZ]
      omega
    rw [ec, es]
    refine W.eq (g2 := F0 m (pc + 3) la ((.ref (hN h) :: st).map (cv b0 ra))) ?_ k'
    rw [hs, ← cr_lt (b0 := b0) (ra := ra) c1]
    rfl
  · cases ho
theorem gw_arrayClass (t : FieldType) : goodWord (.arrayClass t) = true := rfl
theorem at_cl (t : ArrayType) (ht : t = .int ∨ t = .long ∨ t = .boolean) : Cond.arrayClass (newarray.typeOf t) ∈ TSG := by
  rcases ht with rfl | rfl | rfl
  · exact TSG_at (i := 165) (by decide +kernel) rfl
  · exact TSG_at (i := 166) (by decide +kernel) rfl
  · exact TSG_at (i := 335) (by decide +kernel) rfl
set_option maxHeartbeats 1000000 in
theorem k_newa {t : ArrayType} (C : Cx D b0 ca ra sc p s m args meth c n0 y) (hd : decode (mB y) pc = .ok (.newarray t, 2)) (ht : (t = .int ∧ a = 11) ∨ (t = .long ∧ a = 12) ∨ (t = .boolean ∧ a = 13)) (hn : np = pc + 2) (hcap : hN h + 1 - n0 ≤ R.cells ∧ SL (hN h + 1) - SL n0 ≤ R.slots) (ho : o_newa np a ls st h = some (.inr (.inl g))) (k : KK D b0 ca ra p l e R s m args below meth c Q n0 nL g) : KK D b0 ca ra p l e R s m args below meth c Q n0 nL (pc, ls, st, h) := by
  obtain ⟨hx, hb, hml, hown, hts, hnm, hK, hRO, hsz⟩ := C
  subst hn
  unfold o_newa at ho
  split at ho
  next n r =>
    split at ho
    next hc =>
      obtain ⟨c1, c2, c3, c4, c5⟩ := hc
      cases ho
      intro H locs la h0 h1 h2 h3
      refine W.size (fun hu => ?_)
      have hs := h1.size h2 hsz h0 hu
      have hmono := SL_mono h0
      have ha : ¬ a < 11 := by rcases ht with ⟨-, rfl⟩ | ⟨-, rfl⟩ | ⟨-, rfl⟩ <;> decide
      have hSZ : SZ (hN h) = LN (hN h) := by unfold SZ; rw [c2, if_neg ha]
      rw [SL_succ, hSZ] at hcap
      have hcb : componentBytes (newarray.typeOf t) ≤ 8 := by rcases ht with ⟨rfl, -⟩ | ⟨rfl, -⟩ | ⟨rfl, -⟩ <;> decide
      refine va_newaK (N := LN (hN h)) (atype := t) hx hb (hts _ (at_cl t (by rcases ht with ⟨e, -⟩ | ⟨e, -⟩ | ⟨e, -⟩ <;> simp [e]))) rfl hd rfl c3 c4.symm (Nat.le_trans (Nat.mul_le_mul c5 hcb) (by decide)) (by omega) (by omega) rfl (fun H1 cA e1 z1 o1 hAr hfc => ?_)
      have k' := k H1 locs la (Nat.le_succ_of_le h0) (new_rel h1 hs o1 (by
        rw [hs] at e1
        rcases ht with ⟨rfl, rfl⟩ | ⟨rfl, rfl⟩ | ⟨rfl, rfl⟩
        · have hca : cA = ca 11 := Option.some.inj (hfc.symm.trans (hK.2 0 _ rfl).2)
          rw [ent_I c2, nH_I]
          show H1[b0 + hN h]? = some (vp_cell (ca 11) (LN (hN h), .inl (fun _ => 0)))
          rw [e1, hca]
          rfl
        · have hca : cA = ca 12 := Option.some.inj (hfc.symm.trans (hK.2 1 _ rfl).2)
          rw [ent_J c2, nH_L]
          show H1[b0 + hN h]? = some (vp_cell (ca 12) (LN (hN h), .inr (.inl (fun _ => 0))))
          rw [e1, hca]
          rfl
        · have hca : cA = ca 13 := Option.some.inj (hfc.symm.trans (hK.2 2 _ rfl).2)
          rw [ent_Z c2, nH_I]
          show H1[b0 + hN h]? = some (vp_cell (ca 13) (LN (hN h), .inl (fun _ => 0)))
          rw [e1, hca]
          rfl)) (new_S h2 z1 o1) h3
      have ec : hN h - n0 + 1 = hN (nH h) - n0 := by show hN h - n0 + 1 = hN h + 1 - n0; omega
      have es : SL (hN h) - SL n0 + LN (hN h) = SL (hN (nH h)) - SL n0 := by
        show _ = SL (hN h + 1) - SL n0
        rw [SL_succ, hSZ]
        omega
      rw [ec, es]
      refine W.eq (g2 := F0 m (pc + 2) la ((.ref (hN h) :: r).map (cv b0 ra))) ?_ k'
      rw [hs, ← cr_lt (b0 := b0) (ra := ra) c1]
      rfl
    · cases ho
  · cases ho
set_option maxHeartbeats 1000000 in
theorem k_anew (C : Cx D b0 ca ra sc p s m args meth c n0 y) (hd : decode (mB y) pc = .ok (.anewarray idx, 3)) (ht : (a = 14 ∧ lw_tbl[b]? = some (.classLink (oname (mO y)) idx RX5)) ∨ (a = 15 ∧ lw_tbl[b]? = some (.classLink (oname (mO y)) idx RX6))) (hn : np = pc + 3) (hcap : hN h + 1 - n0 ≤ R.cells ∧ SL (hN h + 1) - SL n0 ≤ R.slots) (ho : o_newa np a ls st h = some (.inr (.inl g))) (k : KK D b0 ca ra p l e R s m args below meth c Q n0 nL g) : KK D b0 ca ra p l e R s m args below meth c Q n0 nL (pc, ls, st, h) := by
  obtain ⟨hx, hb, hml, hown, hts, hnm, hK, hRO, hsz⟩ := C
  subst hn
  unfold o_newa at ho
  split at ho
  next n r =>
    split at ho
    next hc =>
      obtain ⟨c1, c2, c3, c4, c5⟩ := hc
      cases ho
      intro H locs la h0 h1 h2 h3
      refine W.size (fun hu => ?_)
      have hs := h1.size h2 hsz h0 hu
      have hmono := SL_mono h0
      have ha : ¬ a < 11 := by rcases ht with ⟨rfl, -⟩ | ⟨rfl, -⟩ <;> decide
      have hSZ : SZ (hN h) = LN (hN h) := by unfold SZ; rw [c2, if_neg ha]
      rw [SL_succ, hSZ, c4] at hcap
      have ec : hN h - n0 + 1 = hN (nH h) - n0 := by show hN h - n0 + 1 = hN h + 1 - n0; omega
      have es : SL (hN h) - SL n0 + n.toNatClampNeg = SL (hN (nH h)) - SL n0 := by
        show _ = SL (hN h + 1) - SL n0
        rw [SL_succ, hSZ, c4]
        omega
      have fin : ∀ (C' : String) (t0 : Nat), (C' = RX5 ∧ a = 14 ∧ t0 = 3) ∨ (C' = RX6 ∧ a = 15 ∧ t0 = 4) → lw_tbl[b]? = some (.classLink (oname (mO y)) idx C') → W p l e R s m args below meth c H locs (hN h - n0) (SL (hN h) - SL n0) Q (F0 m pc la ((.int n :: r).map (cv b0 ra))) := by
        intro C' t0 hC hwd
        refine W.anew (C := C') hx hb hown (hts _ (TSG_at hwd (gw_classLink _ _ _))) (va_AO.use (hC.elim (fun q => by rw [q.1]; exact hRO.2.2.2.1) (fun q => by rw [q.1]; exact hRO.2.2.2.2))) rfl hd rfl c3 (by omega) (by omega) (by omega) fun cA kA comp f1 f2 f3 f4 => ?_
        generalize hH1 : H.push ({ cls := cA, slots := Array.replicate n.toNatClampNeg .null, vm := .none } : Cell) = H1
        have z1 : H1.size = H.size + 1 := by rw [← hH1, Array.size_push]
        have e1 : H1[H.size]? = some (arrV cA n.toNatClampNeg (fun _ => .null)) := by rw [← hH1, Array.getElem?_push_size, ← arrV_new]
        have o1 : ∀ q : Nat, q < H.size → H1[q]? = H[q]? := fun q hq => by rw [← hH1, Array.getElem?_push, if_neg (Nat.ne_of_lt hq)]
        have k' := k H1 locs la (Nat.le_succ_of_le h0) (new_rel h1 hs o1 (by
          rw [hs] at e1
          have er : rfs b0 ra (nH h) (hN h) = fun _ => none := by funext j; unfold rfs; rw [nH_R]; rfl
          rcases hC with ⟨rfl, rfl, rfl⟩ | ⟨rfl, rfl, rfl⟩
          · obtain ⟨-, -, -, -, -, hr⟩ := (hK.2 3 _ rfl).2
            have hca : cA = ca 14 := Option.some.inj (f1.symm.trans hr)
            rw [ent_Q c2 (Or.inl rfl), er, c4]
            show H1[b0 + hN h]? = some (vp_cell (ca 14) (n.toNatClampNeg, .inr (.inr (.inr (.inr (fun _ => none))))))
            rw [e1, hca]
            rfl
          · obtain ⟨-, -, -, -, -, hr⟩ := (hK.2 4 _ rfl).2
            have hca : cA = ca 15 := Option.some.inj (f1.symm.trans hr)
            rw [ent_Q c2 (Or.inr rfl), er, c4]
            show H1[b0 + hN h]? = some (vp_cell (ca 15) (n.toNatClampNeg, .inr (.inr (.inr (.inr (fun _ => none))))))
            rw [e1, hca]
            rfl)) (new_S h2 z1 o1) h3
        rw [ec, es]
        refine W.eq (g2 := F0 m (pc + 3) la ((.ref (hN h) :: r).map (cv b0 ra))) ?_ k'
        rw [hs, ← cr_lt (b0 := b0) (ra := ra) c1]
        rfl
      rcases ht with ⟨q1, q2⟩ | ⟨q1, q2⟩
      · exact fin RX5 3 (Or.inl ⟨rfl, q1, rfl⟩) q2
      · exact fin RX6 4 (Or.inr ⟨rfl, q1, rfl⟩) q2
    · cases ho
  · cases ho
theorem gw_methodLink (a : String) (k : Nat) (b : MethodName) : goodWord (.methodLink a k b) = true := by first | rfl | simp [goodWord, Cond.onTables, Cond.keeps, Cond.steady]
theorem gw_inst (b : MethodName) : goodWord (.instanceMethod b) = true := by first | rfl | simp [goodWord, Cond.onTables, Cond.keeps, Cond.steady]
theorem gw_static (b : MethodName) : goodWord (.static b) = true := by first | rfl | simp [goodWord, Cond.onTables, Cond.keeps, Cond.steady]
theorem gw_init (b : String) : goodWord (.initialized b) = true := by first | rfl | simp [goodWord, Cond.onTables, Cond.keeps, Cond.steady]
theorem gw_native (b : MethodName) : goodWord (.native b) = true := by first | rfl | simp [goodWord, Cond.onTables, Cond.keeps, Cond.steady]
theorem gw_code (b : MethodName) (B : ByteArray) (n : Nat) (t : Option FieldType) : goodWord (.code b B n t) = true := by first | rfl | simp [goodWord, Cond.onTables, Cond.keeps, Cond.steady]
theorem gw_sel (a : String) (b d : MethodName) : goodWord (.selects a b d) = true := by first | rfl | simp [goodWord, Cond.onTables, Cond.keeps, Cond.steady]
theorem obj_1 : Cond.instanceMethod objectInit ∈ TSG := TSG_at (i := 105) (by decide +kernel) (gw_inst _)
set_option maxRecDepth 20000 in
theorem obj_2 : Cond.code objectInit ⟨#[0xb1]⟩ 1 none ∈ TSG := TSG_at (i := 106) (by rfl) (gw_code _ _ _ _)
theorem k_obj (C : Cx D b0 ca ra sc p s m args meth c n0 y) (hnl : nL = mL y) (hd : decode (mB y) pc = .ok (.invokespecial idx, 3)) (hw : objT.any (fun q => decide (q.1 = mO y) && decide (q.2.1 = idx)) = true) (hn : np = pc + 3) (hroom : 1 ≤ R.frames ∧ 60 ≤ R.locals) (ho : o_obj np ls st h = some (.inr (.inl g))) (k : KK D b0 ca ra p l e R s m args below meth c Q n0 nL g) : KK D b0 ca ra p l e R s m args below meth c Q n0 nL (pc, ls, st, h) := by
  obtain ⟨hx, hb, hml, hown, hts, hnm, hK, hRO, hsz⟩ := C
  subst hn
  obtain ⟨q, hq, he⟩ := List.any_eq_true.mp hw
  simp only [Bool.and_eq_true, decide_eq_true_eq] at he
  have hk := List.all_eq_true.mp obj_all q hq
  unfold objOk at hk
  rw [he.1, he.2] at hk
  have hword := TSG_at (of_decide_eq_true hk) (gw_methodLink _ _ _)
  unfold o_obj at ho
  split at ho
  next kk r =>
    split at ho
    next hc =>
      cases ho
      intro H locs la h0 h1 h2 h3
      refine W.objInit (a := cr b0 ra kk) (rest := r.map (cv b0 ra)) hx hb hown (hts _ hword) (hts _ obj_1) (hts _ obj_2) rfl (by rw [hml, ← hnl]; exact h3.1) rfl hd hroom.1 ?_ (k H locs la h0 h1 h2 h3)
      show 2 * 0 + ((r.map (cv b0 ra)).map fun v => v.category).sum + 12 ≤ _
      rw [cv_sum]
      omega
    · cases ho
  · cases ho
theorem cp_1 : Cond.native arraycopyName ∈ TSG := TSG_at (i := 553) (by decide +kernel) (gw_native _)
theorem cp_2 : Cond.static arraycopyName ∈ TSG := TSG_at (i := 552) (by decide +kernel) (gw_static _)
theorem cp_3 : Cond.initialized "java/lang/System" ∈ TSG := TSG_at (i := 95) (by decide +kernel) (gw_init _)
set_option maxHeartbeats 1000000 in
theorem k_copy (C : Cx D b0 ca ra sc p s m args meth c n0 y) (hnl : nL = mL y) (hd : decode (mB y) pc = .ok (.invokestatic idx, 3)) (hw : cpyT.any (fun q => decide (q.1 = mO y) && decide (q.2.1 = idx)) = true) (hn : np = pc + 3) (hroom : 1 ≤ R.frames ∧ 60 ≤ R.locals) (ho : o_copy np ls st h = some (.inr (.inl g))) (k : KK D b0 ca ra p l e R s m args below meth c Q n0 nL g) : KK D b0 ca ra p l e R s m args below meth c Q n0 nL (pc, ls, st, h) := by
  obtain ⟨hx, hb, hml, hown, hts, hnm, hK, hRO, hsz⟩ := C
  subst hn
  obtain ⟨q, hq, he⟩ := List.any_eq_true.mp hw
  simp only [Bool.and_eq_true, decide_eq_true_eq] at he
  have hk := List.all_eq_true.mp cpy_all q hq
  unfold cpyOk at hk
  rw [he.1, he.2] at hk
  have hword := TSG_at (of_decide_eq_true hk) (gw_methodLink _ _ _)
  unfold o_copy at ho
  split at ho
  next n dp k1 sp k0 r =>
    split at ho
    next hc =>
      obtain ⟨g1, g2, g3, g4, g5, g6⟩ := hc
      have hlo : ((r.map (cv b0 ra)).map fun v => v.category).sum + (nativeFrameWords "java/lang/System" "arraycopy" 5 + 11) ≤ R.locals := by
        rw [cv_sum]
        have : nativeFrameWords "java/lang/System" "arraycopy" 5 = 7 := by decide
        omega
      split at ho
      next hc2 =>
        obtain ⟨c1, c2⟩ := Bool.and_eq_true_iff.mp hc2
        obtain ⟨o1, o2, o3⟩ := okp_spec c1
        obtain ⟨q1, q2, q3⟩ := okp_spec c2
        cases ho
        intro H locs la h0 h1 h2 h3
        have hw0 := wsO_get (b0 := b0) (ca := ca) (ra := ra) o1
        rw [ent_I o3] at hw0
        have hw1 := wsO_get (b0 := b0) (ca := ca) (ra := ra) q1
        rw [ent_I q3] at hw1
        refine W.eq (g2 := F0 m pc la (.int n :: .int dp :: .ref (b0 + k1) :: .int sp :: .ref (b0 + k0) :: r.map (cv b0 ra))) (by rw [← cr_lt (b0 := b0) (ra := ra) o2, ← cr_lt (b0 := b0) (ra := ra) q2]; rfl) ?_
        refine va_copyi (ty := .int) hx hb (by rw [hml, ← hnl]; exact h3.1.symm) hown (hts _ hword) (hts _ cp_1) (hts _ cp_2) (hts _ cp_3) hK h1 (wsO_D b0 ca ra h) h2 k0 k1 0 0 hw0 hw1 rfl rfl rfl g1 g2 g3 g4 g5 (fun i _ => rfl) hroom.1 hlo hd (fun H1 locs1 hP1 _ hS1 => k H1 locs1 la h0 (set_rel (h := h) (k := k1) (h' := aI h k1 (va_cpy (hI h k0) (hI h k1) sp.toNatClampNeg dp.toNatClampNeg n.toNatClampNeg)) rfl (fun j e => ⟨hI_aI_ne e, rfl, rfl⟩) ?_ hP1) hS1 h3)
        rw [ent_I q3, hI_aI_eq]
      next =>
        split at ho
        next hc2 =>
          obtain ⟨c1, c2⟩ := Bool.and_eq_true_iff.mp hc2
          obtain ⟨o1, o2, o3⟩ := okp_spec c1
          obtain ⟨q1, q2, q3⟩ := okp_spec c2
          cases ho
          intro H locs la h0 h1 h2 h3
          have hw0 := wsO_get (b0 := b0) (ca := ca) (ra := ra) o1
          rw [ent_J o3] at hw0
          have hw1 := wsO_get (b0 := b0) (ca := ca) (ra := ra) q1
          rw [ent_J q3] at hw1
          refine W.eq (g2 := F0 m pc la (.int n :: .int dp :: .ref (b0 + k1) :: .int sp :: .ref (b0 + k0) :: r.map (cv b0 ra))) (by rw [← cr_lt (b0 := b0) (ra := ra) o2, ← cr_lt (b0 := b0) (ra := ra) q2]; rfl) ?_
          refine va_copyl (ty := .long) hx hb (by rw [hml, ← hnl]; exact h3.1.symm) hown (hts _ hword) (hts _ cp_1) (hts _ cp_2) (hts _ cp_3) hK h1 (wsO_D b0 ca ra h) h2 k0 k1 1 1 hw0 hw1 rfl rfl rfl g1 g2 g3 g4 g5 (fun i _ => rfl) hroom.1 hlo hd (fun H1 locs1 hP1 _ hS1 => k H1 locs1 la h0 (set_rel (h := h) (k := k1) (h' := aL h k1 (va_cpy (hL h k0) (hL h k1) sp.toNatClampNeg dp.toNatClampNeg n.toNatClampNeg)) rfl (fun j e => ⟨rfl, hL_aL_ne e, rfl⟩) ?_ hP1) hS1 h3)
          rw [ent_J q3, hL_aL_eq]
        · cases ho
    · cases ho
  · cases ho
theorem k_mat (C : Cx D b0 ca ra sc p s m args meth c n0 y) (hnl : nL = mL y) (hd : decode (mB y) pc = .ok (.invokestatic idx, 3)) (hw : matT.any (fun q => decide (q.1 = mO y) && (decide (q.2.1 = idx) && decide (q.2.2.1 = a))) = true) (hn : np = pc + 3) (hroom : 1 ≤ R.frames ∧ 60 ≤ R.locals) (hcap : hN h - n0 ≤ R.cells ∧ SL (hN h) - SL n0 ≤ R.slots) (ho : o_mat a np ls st h = some (.inr (.inl g))) (k : KK D b0 ca ra p l e R s m args below meth c Q n0 nL g) : KK D b0 ca ra p l e R s m args below meth c Q n0 nL (pc, ls, st, h) := by
  obtain ⟨hx, hb, hml, hown, hts, hnm, hK, hRO, hsz⟩ := C
  subst hn
  obtain ⟨q, hq, he⟩ := List.any_eq_true.mp hw
  simp only [Bool.and_eq_true, decide_eq_true_eq] at he
  have hk := List.all_eq_true.mp mat_all q hq
  unfold matOk at hk
  rw [he.1, he.2.1, he.2.2] at hk
  have hword := TSG_at (of_decide_eq_true (Bool.and_eq_true_iff.mp hk).2) (gw_methodLink _ _ _)
  have hi := hts _ (TSG_at mat_ini (gw_init _))
  unfold o_mat at ho
  split at ho
  next yy xx r =>
    split at ho
    next hc =>
      obtain ⟨rfl, hc⟩ := hc
      cases ho
      intro H locs la h0 h1 h2 h3
      exact va_mmax hx hb (by rw [hml, ← hnl]; exact h3.1.symm) hown (hts _ hword) (hts _ (TSG_at mat_st1 (gw_static _))) hi (hts _ (TSG_at mat_max (gw_code _ _ _ _))) hroom.1 (by rw [cv_sum]; omega) hcap.1 hcap.2 hd (k H locs la h0 h1 h2 h3)
    next =>
      split at ho
      next hc =>
        obtain ⟨rfl, hc⟩ := hc
        cases ho
        intro H locs la h0 h1 h2 h3
        exact va_mmin hx hb (by rw [hml, ← hnl]; exact h3.1.symm) hown (hts _ hword) (hts _ (TSG_at mat_st2 (gw_static _))) hi (hts _ (TSG_at mat_min (gw_code _ _ _ _))) hroom.1 (by rw [cv_sum]; omega) hcap.1 hcap.2 hd (k H locs la h0 h1 h2 h3)
      · cases ho
  next xx r =>
    split at ho
    next hc =>
      obtain ⟨rfl, hc⟩ := hc
      cases ho
      intro H locs la h0 h1 h2 h3
      exact va_mabs_long hx hb (by rw [hml, ← hnl]; exact h3.1.symm) hown (hts _ hword) (hts _ (TSG_at mat_st3 (gw_static _))) hi (hts _ (TSG_at mat_abs (gw_code _ _ _ _))) hroom.1 (by rw [cv_sum]; omega) hcap.1 hcap.2 hd (k H locs la h0 h1 h2 h3)
    · cases ho
  · cases ho
end NEW
