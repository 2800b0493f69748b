/-! ===== fields, new cells, the JDK's own ===== -/
def kty (t : FieldType) : Nat := match t with
  | .int => 0
  | .long => 1
  | .object _ => 2
  | .array _ => 2
  | _ => 9
def clsG (ci : Nat) (q : vw_C) : Prop := (∀ w ∈ u_ws q.1 q.2.1 q.2.2, w ∈ TSG) ∧ (∃ ty0 : Nat → FieldType, (∀ k, k < q.2.2 → parseFieldDescriptor (q.2.1 k).2.2.1 = some (ty0 k)) ∧ ∀ k, k < q.2.2 → (FK ci)[k]? = some (kty (ty0 k))) ∧ (∀ a, a < q.2.2 → ∀ b, b < q.2.2 → a ≠ b → (q.2.1 a).2.1 ≠ (q.2.1 b).2.1) ∧ (FK ci).length = q.2.2 ∧ Cond.instantiable q.1 q.2.2 ∈ TSG ∧ Cond.initialized q.1 ∈ TSG ∧ q.1 = oname ci
theorem clsG_0 : clsG 0 (RX0, TX0, 7) := ⟨fun w hw => List.mem_filter.mpr (by
  have h : (u_ws RX0 TX0 7).all (fun w => lw_tbl.contains w && goodWord w) = true := by decide +kernel
  have h2 := List.all_eq_true.mp h w hw
  simp only [Bool.and_eq_true] at h2
  exact ⟨List.contains_iff_mem.mp h2.1, h2.2⟩), ⟨tyX0, tyX0_ok, by decide +kernel⟩, nmX0, by decide +kernel, TSG_at (i := 204) (by decide +kernel) (by decide +kernel), TSG_at (i := 87) (by decide +kernel) (by decide +kernel), rfl⟩
theorem clsG_1 : clsG 1 (RX1, TX1, 10) := ⟨fun w hw => List.mem_filter.mpr (by
  have h : (u_ws RX1 TX1 10).all (fun w => lw_tbl.contains w && goodWord w) = true := by decide +kernel
  have h2 := List.all_eq_true.mp h w hw
  simp only [Bool.and_eq_true] at h2
  exact ⟨List.contains_iff_mem.mp h2.1, h2.2⟩), ⟨tyX1, tyX1_ok, by decide +kernel⟩, nmX1, by decide +kernel, TSG_at (i := 239) (by decide +kernel) (by decide +kernel), TSG_at (i := 88) (by decide +kernel) (by decide +kernel), rfl⟩
theorem clsG_2 : clsG 2 (RX2, TX2, 15) := ⟨fun w hw => List.mem_filter.mpr (by
  have h : (u_ws RX2 TX2 15).all (fun w => lw_tbl.contains w && goodWord w) = true := by decide +kernel
  have h2 := List.all_eq_true.mp h w hw
  simp only [Bool.and_eq_true] at h2
  exact ⟨List.contains_iff_mem.mp h2.1, h2.2⟩), ⟨tyX2, tyX2_ok, by decide +kernel⟩, nmX2, by decide +kernel, TSG_at (i := 337) (by decide +kernel) (by decide +kernel), TSG_at (i := 90) (by decide +kernel) (by decide +kernel), rfl⟩
theorem clsG_3 : clsG 3 (RX3, TX3, 5) := ⟨fun w hw => List.mem_filter.mpr (by
  have h : (u_ws RX3 TX3 5).all (fun w => lw_tbl.contains w && goodWord w) = true := by decide +kernel
  have h2 := List.all_eq_true.mp h w hw
  simp only [Bool.and_eq_true] at h2
  exact ⟨List.contains_iff_mem.mp h2.1, h2.2⟩), ⟨tyX3, tyX3_ok, by decide +kernel⟩, nmX3, by decide +kernel, TSG_at (i := 429) (by decide +kernel) (by decide +kernel), TSG_at (i := 92) (by decide +kernel) (by decide +kernel), rfl⟩
theorem clsG_4 : clsG 4 (RX4, TX4, 3) := ⟨fun w hw => List.mem_filter.mpr (by
  have h : (u_ws RX4 TX4 3).all (fun w => lw_tbl.contains w && goodWord w) = true := by decide +kernel
  have h2 := List.all_eq_true.mp h w hw
  simp only [Bool.and_eq_true] at h2
  exact ⟨List.contains_iff_mem.mp h2.1, h2.2⟩), ⟨tyX4, tyX4_ok, by decide +kernel⟩, nmX4, by decide +kernel, TSG_at (i := 168) (by decide +kernel) (by decide +kernel), TSG_at (i := 85) (by decide +kernel) (by decide +kernel), rfl⟩
theorem clsG_5 : clsG 5 (RX5, TX5, 2) := ⟨fun w hw => List.mem_filter.mpr (by
  have h : (u_ws RX5 TX5 2).all (fun w => lw_tbl.contains w && goodWord w) = true := by decide +kernel
  have h2 := List.all_eq_true.mp h w hw
  simp only [Bool.and_eq_true] at h2
  exact ⟨List.contains_iff_mem.mp h2.1, h2.2⟩), ⟨tyX5, tyX5_ok, by decide +kernel⟩, nmX5, by decide +kernel, TSG_at (i := 174) (by decide +kernel) (by decide +kernel), TSG_at (i := 86) (by decide +kernel) (by decide +kernel), rfl⟩
theorem clsG_6 : clsG 6 (RX6, TX6, 9) := ⟨fun w hw => List.mem_filter.mpr (by
  have h : (u_ws RX6 TX6 9).all (fun w => lw_tbl.contains w && goodWord w) = true := by decide +kernel
  have h2 := List.all_eq_true.mp h w hw
  simp only [Bool.and_eq_true] at h2
  exact ⟨List.contains_iff_mem.mp h2.1, h2.2⟩), ⟨tyX6, tyX6_ok, by decide +kernel⟩, nmX6, by decide +kernel, TSG_at (i := 111) (by decide +kernel) (by decide +kernel), TSG_at (i := 84) (by decide +kernel) (by decide +kernel), rfl⟩
theorem clsG_7 : clsG 7 (RX7, TX7, 13) := ⟨fun w hw => List.mem_filter.mpr (by
  have h : (u_ws RX7 TX7 13).all (fun w => lw_tbl.contains w && goodWord w) = true := by decide +kernel
  have h2 := List.all_eq_true.mp h w hw
  simp only [Bool.and_eq_true] at h2
  exact ⟨List.contains_iff_mem.mp h2.1, h2.2⟩), ⟨tyX7, tyX7_ok, by decide +kernel⟩, nmX7, by decide +kernel, TSG_at (i := 290) (by decide +kernel) (by decide +kernel), TSG_at (i := 89) (by decide +kernel) (by decide +kernel), rfl⟩
theorem clsG_8 : clsG 8 (RX8, TX8, 10) := ⟨fun w hw => List.mem_filter.mpr (by
  have h : (u_ws RX8 TX8 10).all (fun w => lw_tbl.contains w && goodWord w) = true := by decide +kernel
  have h2 := List.all_eq_true.mp h w hw
  simp only [Bool.and_eq_true] at h2
  exact ⟨List.contains_iff_mem.mp h2.1, h2.2⟩), ⟨tyX8, tyX8_ok, by decide +kernel⟩, nmX8, by decide +kernel, TSG_at (i := 392) (by decide +kernel) (by decide +kernel), TSG_at (i := 91) (by decide +kernel) (by decide +kernel), rfl⟩
theorem clsG_9 : clsG 9 (RX9, TX9, 19) := ⟨fun w hw => List.mem_filter.mpr (by
  have h : (u_ws RX9 TX9 19).all (fun w => lw_tbl.contains w && goodWord w) = true := by decide +kernel
  have h2 := List.all_eq_true.mp h w hw
  simp only [Bool.and_eq_true] at h2
  exact ⟨List.contains_iff_mem.mp h2.1, h2.2⟩), ⟨tyX9, tyX9_ok, by decide +kernel⟩, nmX9, by decide +kernel, TSG_at (i := 100) (by decide +kernel) (by decide +kernel), TSG_at (i := 83) (by decide +kernel) (by decide +kernel), rfl⟩
theorem clsG_10 : clsG 10 (RX10, TX10, 63) := ⟨fun w hw => List.mem_filter.mpr (by
  have h : (u_ws RX10 TX10 63).all (fun w => lw_tbl.contains w && goodWord w) = true := by decide +kernel
  have h2 := List.all_eq_true.mp h w hw
  simp only [Bool.and_eq_true] at h2
  exact ⟨List.contains_iff_mem.mp h2.1, h2.2⟩), ⟨tyX10, tyX10_ok, by decide +kernel⟩, nmX10, by decide +kernel, TSG_at (i := 1174) (by decide +kernel) (by decide +kernel), TSG_at (i := 93) (by decide +kernel) (by decide +kernel), rfl⟩
theorem cls_all : ∀ (ci : Nat) (q : vw_C), classes[ci]? = some q → clsG ci q := by
  intro ci q h
  match ci, h with
  | 0, h => cases h; exact clsG_0
  | 1, h => cases h; exact clsG_1
  | 2, h => cases h; exact clsG_2
  | 3, h => cases h; exact clsG_3
  | 4, h => cases h; exact clsG_4
  | 5, h => cases h; exact clsG_5
  | 6, h => cases h; exact clsG_6
  | 7, h => cases h; exact clsG_7
  | 8, h => cases h; exact clsG_8
  | 9, h => cases h; exact clsG_9
  | 10, h => cases h; exact clsG_10
  | n + 11, h => simp [classes] at h
theorem gw_fieldLink (a : String) (k : Nat) (b c d : String) : goodWord (.fieldLink a k b c d) = true := by first | rfl | simp [goodWord, Cond.onTables, Cond.keeps, Cond.steady]
theorem fld_word {ow k a b : Nat} (h : hasF ow k a b = true) : b < fN a ∧ Cond.fieldLink (oname ow) k (fAt a b).1 (fAt a b).2.1 (fAt a b).2.2.1 ∈ TSG := by
  unfold hasF at h
  obtain ⟨q, hq, he⟩ := List.any_eq_true.mp h
  simp only [Bool.and_eq_true, decide_eq_true_eq] at he
  obtain ⟨e1, e2, e3, e4⟩ := he
  have hk := List.all_eq_true.mp fld_all q hq
  unfold fldOk at hk
  simp only [Bool.and_eq_true, decide_eq_true_eq] at hk
  rw [e1, e2, e3, e4] at hk
  exact ⟨hk.1, TSG_at hk.2 (gw_fieldLink _ _ _ _ _)⟩
theorem fN_some {a b : Nat} (h : b < fN a) : ∃ q : vw_C, classes[a]? = some q ∧ b < q.2.2 ∧ fAt a b = q.2.1 b := by
  unfold fN at h
  unfold fAt
  cases hc : classes[a]? with
  | none => rw [hc] at h; simp at h
  | some q => rw [hc] at h; exact ⟨q, rfl, h, rfl⟩
theorem cls_lt {a : Nat} {q : vw_C} (h : classes[a]? = some q) : a < 11 := (List.getElem?_eq_some_iff.mp h).1
theorem nar_i (x : Int32) : narrow .int (.int x) = .int x ∧ fits .int (.int x) = true := ⟨rfl, rfl⟩
theorem nar_l (x : Int64) : narrow .long (.long x) = .long x ∧ fits .long (.long x) = true := ⟨rfl, rfl⟩
theorem nar_r {t : FieldType} (h : kty t = 2) (x : Nat) : narrow t (.ref x) = .ref x ∧ fits t (.ref x) = true := by
  cases t <;> first | exact ⟨rfl, rfl⟩ | (simp [kty] at h)
theorem kty_i {t : FieldType} (h : kty t = 0) : t = .int := by cases t <;> first | rfl | (simp [kty] at h)
theorem kty_l {t : FieldType} (h : kty t = 1) : t = .long := by cases t <;> first | rfl | (simp [kty] at h)
section FLD
variable {D : va_G} {b0 : Nat} {ca : Nat → ClassId} {ra : Nat → Nat} {sc : Nat × (Nat → Int32)} {p : Program} {l : Launch} {e : Env} {R : Room} {s : State} {m : MethodId} {args : Array Value} {below : List Frame} {meth : Method} {c : Code} {Q : State → Prop} {n0 nL y : Nat} {pc np a b idx : Nat} {v : Value} {ls : List (Option Value)} {st : List Value} {h : PH} {g : PC}
set_option maxHeartbeats 1000000 in
theorem k_getf (C : Cx D b0 ca ra sc p s m args meth c n0 y) (hd : decode (mB y) pc = .ok (.getfield idx, 3)) (hf : hasF (mO y) idx a b = true) (hkv : (FK a)[b]? = some (kv v)) (hn : np = pc + 3) (ho : o_getf np a b v ls st h = some (.inr (.inl g))) (k : KK D b0 ca ra p l e R s m args below meth c Q n0 nL g) : KK D b0 ca ra p l e R s m args below meth c Q n0 nL (pc, ls, st, h) := by
  obtain ⟨hx, hb, hml, hown, hts, hnm, hK, hRO, hsz⟩ := C
  subst hn
  obtain ⟨hbl, hword⟩ := fld_word hf
  obtain ⟨q, hc, hbN, hfa⟩ := fN_some hbl
  obtain ⟨hin, -, -, -, -, -, -⟩ := cls_all a q hc
  rw [hfa] at hword
  unfold o_getf at ho
  split at ho
  next kk r =>
    split at ho
    next hok =>
      obtain ⟨o1, o2, o3⟩ := okp_spec hok
      have hw := wsO_get (b0 := b0) (ca := ca) (ra := ra) o1
      rw [ent_O o3 (cls_lt hc)] at hw
      have key : ∀ (H : Heap) (locs : List Loc) (la : Array Slot), Rel D b0 ca ra h H → W p l e R s m args below meth c H locs (hN h - n0) (SL (hN h) - SL n0) Q (F0 m (pc + 3) la (fval b0 ra h kk b (kv v) :: r.map (cv b0 ra))) → W p l e R s m args below meth c H locs (hN h - n0) (SL (hN h) - SL n0) Q (F0 m pc la ((.ref kk :: r).map (cv b0 ra))) := by
        intro H locs la h1 hk
        refine W.eq (g2 := F0 m pc la (.ref (b0 + kk) :: r.map (cv b0 ra))) (by rw [← cr_lt (b0 := b0) (ra := ra) o2]; rfl) ?_
        exact va_get (C := q.1) (T := q.2.1) (N := q.2.2) hx hb hts hin hown hK h1 kk hw hc b hbN (hts _ hword) (fun _ h9 => h9) (flds_get hkv) hd hk
      split at ho
      · cases ho
        intro H locs la h0 h1 h2 h3
        exact key H locs la h1 (k H locs la h0 h1 h2 h3)
      · cases ho
        intro H locs la h0 h1 h2 h3
        exact key H locs la h1 (k H locs la h0 h1 h2 h3)
      next hv1 hv2 =>
        split at ho
        next q' hq' =>
          cases ho
          intro H locs la h0 h1 h2 h3
          refine key H locs la h1 ?_
          have e : fval b0 ra h kk b (kv v) = cv b0 ra (.ref q') := by
            have h2 : ∃ n, kv v = n + 2 := by
              cases v with
              | int x => exact absurd rfl (hv1 x)
              | long x => exact absurd rfl (hv2 x)
              | null => exact ⟨0, rfl⟩
              | _ => exact ⟨7, rfl⟩
            obtain ⟨n, h2⟩ := h2
            rw [h2]
            show va_rf ((hR h kk b).map (cr b0 ra)) = _
            rw [hq']
            rfl
          rw [e]
          exact k H locs la h0 h1 h2 h3
        · cases ho
    · cases ho
  · cases ho
theorem sI_at {h : PH} {k i j : Nat} {x : Int32} (e : j ≠ i) : hI (sI h k i x) k j = hI h k j := by
  rw [hI_sI_eq]; unfold upd; exact if_neg e
theorem sL_at {h : PH} {k i j : Nat} {x : Int64} (e : j ≠ i) : hL (sL h k i x) k j = hL h k j := by
  rw [hL_sL_eq]; unfold vp_updL; exact if_neg e
theorem sR_at {h : PH} {k i j : Nat} {x : Option Nat} (e : j ≠ i) : hR (sR h k i x) k j = hR h k j := by
  rw [hR_sR_eq]; unfold va_up; exact if_neg e
set_option maxHeartbeats 2000000 in
theorem k_putf (C : Cx D b0 ca ra sc p s m args meth c n0 y) (hd : decode (mB y) pc = .ok (.putfield idx, 3)) (hf : hasF (mO y) idx a b = true) (hkv : (FK a)[b]? = some (kv v)) (hfin : (fAt a b).2.2.2 = true → (mY y).name = "<init>" ∧ (fAt a b).1 = oname (mO y)) (hn : np = pc + 3) (ho : o_putf np a b v ls st h = some (.inr (.inl g))) (k : KK D b0 ca ra p l e R s m args below meth c Q n0 nL g) : KK D b0 ca ra p l e R s m args below meth c Q n0 nL (pc, ls, st, h) := by
  obtain ⟨hx, hb, hml, hown, hts, hnm, hK, hRO, hsz⟩ := C
  subst hn
  obtain ⟨hbl, hword⟩ := fld_word hf
  obtain ⟨q, hc, hbN, hfa⟩ := fN_some hbl
  obtain ⟨hin, ⟨ty0, hty, hkt⟩, hnms, hlen, -, -, -⟩ := cls_all a q hc
  rw [hfa] at hword hfin
  have hkt2 : kty (ty0 b) = kv v := Option.some.inj ((hkt b hbN).symm.trans hkv)
  have key : ∀ (kk : Nat) (h' : PH) (r : List Value) (x : Value), okp h kk a = true → hN h' = hN h → (∀ j, j ≠ kk → hI h' j = hI h j ∧ hL h' j = hL h j ∧ hR h' j = hR h j) → (∀ i, i ≠ b → hI h' kk i = hI h kk i ∧ hL h' kk i = hL h kk i ∧ hR h' kk i = hR h kk i) → fval b0 ra h' kk b (kv v) = x → narrow (ty0 b) x = x → fits (ty0 b) x = true → (KK D b0 ca ra p l e R s m args below meth c Q n0 nL (pc + 3, ls, r, h')) →
      ∀ (H : Heap) (locs : List Loc) (la : Array Slot), n0 ≤ hN h → Rel D b0 ca ra h H → va_S (AA b0) s.heap H locs → RL b0 ra la nL ls → W p l e R s m args below meth c H locs (hN h - n0) (SL (hN h) - SL n0) Q (F0 m pc la (x :: .ref (cr b0 ra kk) :: r.map (cv b0 ra))) := by
    intro kk h' r x hok hN' ho1 ho2 hfx hnar hfit k' H locs la h0 h1 h2 h3
    obtain ⟨o1, o2, o3⟩ := okp_spec hok
    have hw := wsO_get (b0 := b0) (ca := ca) (ra := ra) o1
    rw [ent_O o3 (cls_lt hc)] at hw
    rw [cr_lt o2]
    have hset : ∀ (H1 : Heap) (locs1 : List Loc), va_P D classes ((wsO b0 ca ra h).set kk (b0 + kk, .inr (a, (flds b0 ra h a kk).set b x))) H1 → va_D (AA b0) ((wsO b0 ca ra h).set kk (b0 + kk, .inr (a, (flds b0 ra h a kk).set b x))) → va_S (AA b0) s.heap H1 locs1 → W p l e R s m args below meth c H1 locs1 (hN h - n0) (SL (hN h) - SL n0) Q (F0 m (pc + 3) la (r.map (cv b0 ra))) := by
      intro H1 locs1 hP1 _ hS1
      have k2 := k' H1 locs1 la (by rw [hN']; exact h0) (set_rel (h := h) (k := kk) (h' := h') hN' ho1 (by rw [ent_O o3 (cls_lt hc), ← flds_set hkv ho2, hfx]) hP1) hS1 h3
      rw [hN'] at k2
      exact k2
    have hbl2 : b < (flds b0 ra h a kk).length := by rw [flds_len, hlen]; exact hbN
    cases hfb : (q.2.1 b).2.2.2 with
    | false => exact va_put (C := q.1) (T := q.2.1) (N := q.2.2) hx hb hts hin ty0 hty hnms hown hK h1 (wsO_D b0 ca ra h) h2 kk hw hc b hbN (hts _ hword) (fun _ h9 => h9) hfb (hty b hbN) hnar hfit hbl2 hd hset
    | true =>
      obtain ⟨f1, f2⟩ := hfin hfb
      exact va_putF (C := q.1) (T := q.2.1) (N := q.2.2) hx hb hts hin ty0 hty hnms hown hK h1 (wsO_D b0 ca ra h) h2 kk hw hc b hbN (hts _ hword) (fun _ h9 => h9) hfb (hnm f1) f2 (hty b hbN) hnar hfit hbl2 hd hset
  unfold o_putf at ho
  split at ho
  next d x kk r =>
    split at ho
    next hok =>
      cases ho
      have e1 := kty_i hkt2
      intro H locs la h0 h1 h2 h3
      exact key kk (sI h kk b x) r (.int x) hok rfl (fun j e => ⟨hI_sI_ne e, rfl, rfl⟩) (fun i e => ⟨sI_at e, rfl, rfl⟩) (by show Value.int (hI (sI h kk b x) kk b) = _; rw [hI_sI_eq]; unfold upd; simp) (by rw [e1]; rfl) (by rw [e1]; rfl) k H locs la h0 h1 h2 h3
    · cases ho
  next d x kk r =>
    split at ho
    next hok =>
      cases ho
      have e1 := kty_l hkt2
      intro H locs la h0 h1 h2 h3
      exact key kk (sL h kk b x) r (.long x) hok rfl (fun j e => ⟨rfl, hL_sL_ne e, rfl⟩) (fun i e => ⟨rfl, sL_at e, rfl⟩) (by show Value.long (hL (sL h kk b x) kk b) = _; rw [hL_sL_eq]; unfold vp_updL; simp) (by rw [e1]; rfl) (by rw [e1]; rfl) k H locs la h0 h1 h2 h3
    · cases ho
  next qr kk r =>
    split at ho
    next hok =>
      cases ho
      have e1 := nar_r hkt2 (cr b0 ra qr)
      intro H locs la h0 h1 h2 h3
      exact key kk (sR h kk b (some qr)) r (.ref (cr b0 ra qr)) hok rfl (fun j e => ⟨rfl, rfl, hR_sR_ne e⟩) (fun i e => ⟨rfl, rfl, sR_at e⟩) (by show va_rf ((hR (sR h kk b (some qr)) kk b).map (cr b0 ra)) = _; rw [hR_sR_eq]; unfold va_up; simp [va_rf]) e1.1 e1.2 k H locs la h0 h1 h2 h3
    · cases ho
  · cases ho
theorem k_gets (C : Cx D b0 ca ra sc p s m args meth c n0 y) (hd : decode (mB y) pc = .ok (.getstatic idx, 3)) (hw : lw_tbl[b]? = some (.fieldLinkNest (oname (mO y)) idx "SelfShapes" (sname a) "[I" "SelfShapes")) (hn : np = pc + 3) (ho : (if a < 4 then go np ls (.ref (1000 + a) :: st) h else none) = some (.inr (.inl g))) (k : KK D b0 ca ra p l e R s m args below meth c Q n0 nL g) : KK D b0 ca ra p l e R s m args below meth c Q n0 nL (pc, ls, st, h) := by
  obtain ⟨hx, hb, hml, hown, hts, hnm, hK, hRO, hsz⟩ := C
  subst hn
  split at ho
  next ha =>
    cases ho
    intro H locs la h0 h1 h2 h3
    have k' := k H locs la h0 h1 h2 h3
    have e : cv b0 ra (.ref (1000 + a)) = .ref (ra a) := by
      show Value.ref (cr b0 ra (1000 + a)) = _
      unfold cr
      rw [if_neg (by omega), show 1000 + a - 1000 = a by omega]
    refine va_getsN hx hb (hRO.1 a ha) h2 hown (va_Nw.use rfl (hRO.2.2.1 _ (List.mem_of_getElem? hw) rfl)) (fun _ h9 => h9) hd ?_
    rw [← e]
    exact k'
  · cases ho
end FLD
