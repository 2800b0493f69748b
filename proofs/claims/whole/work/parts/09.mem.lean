/-! ===== instructions over the heap ===== -/
theorem W.size {p : Program} {l : Launch} {e : Env} {R : Room} {s : State} {m : MethodId} {args : Array Value} {below : List Frame} {meth : Method} {c : Code} {H : Heap} {locs : List Loc} {cells slots : Nat} {Q : State → Prop} {g : JFrame} (k : H.size ≤ s.heap.size + cells → W p l e R s m args below meth c H locs cells slots Q g) : W p l e R s m args below meth c H locs cells slots Q g :=
  fun T hT X => k (by rw [← hT]; exact X.heapSize) T hT X
theorem Rel.size {D : va_G} {b0 : Nat} {ca : Nat → ClassId} {ra : Nat → Nat} {h : PH} {H H0 : Heap} {locs : List Loc} {n0 : Nat} (h1 : Rel D b0 ca ra h H) (h2 : va_S (AA b0) H0 H locs) (hs : H0.size = b0 + n0) (h0 : n0 ≤ hN h) (hu : H.size ≤ H0.size + (hN h - n0)) : H.size = b0 + hN h := by
  have hl : b0 + hN h ≤ H.size := by
    by_cases hz : hN h = 0
    · have := h2.1
      omega
    · have hk : hN h - 1 < hN h := by omega
      have hlt : b0 + (hN h - 1) < H.size := (h1 _ _ (wsO_get hk)).lt
      omega
  omega
theorem set_rel {D : va_G} {b0 : Nat} {ca : Nat → ClassId} {ra : Nat → Nat} {h h' : PH} {k : Nat} {H : Heap} {E : va_E} (hn : hN h' = hN h) (ho : ∀ j, j ≠ k → hI h' j = hI h j ∧ hL h' j = hL h j ∧ hR h' j = hR h j) (hE : E = ent b0 ca ra h' k) (hP : va_P D classes ((wsO b0 ca ra h).set k (b0 + k, E)) H) : Rel D b0 ca ra h' H := by
  subst hE
  rw [wsO_set hn ho] at hP
  exact hP
theorem ro_out {sc : Nat × (Nat → Int32)} {k : Nat} (h : 5 ≤ k) : (ro sc k).1 = 0 := by
  match k, h with
  | k + 5, _ => rfl
section MEM
variable {D : va_G} {b0 : Nat} {ca : Nat → ClassId} {ra : Nat → Nat} {sc : Nat × (Nat → Int32)} {p : Program} {l : Launch} {e : Env} {R : Room} {s : State} {m : MethodId} {args : Array Value} {below : List Frame} {meth : Method} {c : Code} {Q : State → Prop} {n0 nL y : Nat} {pc np a b : Nat} {v : Value} {ls : List (Option Value)} {st : List Value} {h : PH} {g : PC}
theorem k_iald (C : Cx D b0 ca ra sc p s m args meth c n0 y) (hd : decode (mB y) pc = .ok (.iaload, 1)) (hn : np = pc + 1) (ho : o_iald sc np ls st h = some (.inr (.inl g))) (k : KK D b0 ca ra p l e R s m args below meth c Q n0 nL g) : KK D b0 ca ra p l e R s m args below meth c Q n0 nL (pc, ls, st, h) := by
  obtain ⟨hx, hb, hml, hown, hts, hnm, hK, hRO, hsz⟩ := C
  subst hn
  unfold o_iald at ho
  split at ho
  next i kk r =>
    split at ho
    next hlt =>
      split at ho
      next hc =>
        obtain ⟨c1, c2⟩ := Bool.and_eq_true_iff.mp hc
        obtain ⟨o1, o2, o3⟩ := okp_spec c1
        cases ho
        intro H locs la h0 h1 h2 h3
        have hw := wsO_get (b0 := b0) (ca := ca) (ra := ra) o1
        rw [ent_I o3] at hw
        refine W.eq (g2 := F0 m pc la (.int i :: .ref (b0 + kk) :: r.map (cv b0 ra))) (by rw [← cr_lt (b0 := b0) (ra := ra) o2]; rfl) ?_
        exact va_iald hx hb hK h1 kk 0 hw rfl (inb_spec c2) hd (k H locs la h0 h1 h2 h3)
      · cases ho
    next hge =>
      split at ho
      next hc =>
        cases ho
        intro H locs la h0 h1 h2 h3
        have hin := inb_spec hc
        have ha : kk - 1000 < 5 := by
          by_cases q : kk - 1000 < 5
          · exact q
          · exfalso
            rw [ro_out (Nat.le_of_not_lt q)] at hin
            exact hin (Or.inr (Nat.zero_le _))
        refine W.eq (g2 := F0 m pc la (.int i :: .ref (ra (kk - 1000)) :: r.map (cv b0 ra))) (by rw [← (show cr b0 ra kk = ra (kk - 1000) from if_neg hge)]; rfl) ?_
        exact va_ti (f := fun j => .int ((ro sc (kk - 1000)).2 j)) (v := .int ((ro sc (kk - 1000)).2 i.toNatClampNeg)) hx hb (hRO.2.1 _ ha) h2 hin rfl hd (k H locs la h0 h1 h2 h3)
      · cases ho
  · cases ho
theorem k_bald (C : Cx D b0 ca ra sc p s m args meth c n0 y) (hd : decode (mB y) pc = .ok (.baload, 1)) (hn : np = pc + 1) (ho : o_bald np ls st h = some (.inr (.inl g))) (k : KK D b0 ca ra p l e R s m args below meth c Q n0 nL g) : KK D b0 ca ra p l e R s m args below meth c Q n0 nL (pc, ls, st, h) := by
  obtain ⟨hx, hb, hml, hown, hts, hnm, hK, hRO, hsz⟩ := C
  subst hn
  unfold o_bald at ho
  split at ho
  next i kk r =>
    split at ho
    next hc =>
      obtain ⟨c1, c2⟩ := Bool.and_eq_true_iff.mp hc
      obtain ⟨o1, o2, o3⟩ := okp_spec c1
      cases ho
      intro H locs la h0 h1 h2 h3
      have hw := wsO_get (b0 := b0) (ca := ca) (ra := ra) o1
      rw [ent_Z o3] at hw
      refine W.eq (g2 := F0 m pc la (.int i :: .ref (b0 + kk) :: r.map (cv b0 ra))) (by rw [← cr_lt (b0 := b0) (ra := ra) o2]; rfl) ?_
      exact va_zald hx hb hK h1 kk 2 hw rfl (inb_spec c2) hd (k H locs la h0 h1 h2 h3)
    · cases ho
  · cases ho
theorem k_lald (C : Cx D b0 ca ra sc p s m args meth c n0 y) (hd : decode (mB y) pc = .ok (.laload, 1)) (hn : np = pc + 1) (ho : o_lald np ls st h = some (.inr (.inl g))) (k : KK D b0 ca ra p l e R s m args below meth c Q n0 nL g) : KK D b0 ca ra p l e R s m args below meth c Q n0 nL (pc, ls, st, h) := by
  obtain ⟨hx, hb, hml, hown, hts, hnm, hK, hRO, hsz⟩ := C
  subst hn
  unfold o_lald at ho
  split at ho
  next i kk r =>
    split at ho
    next hc =>
      obtain ⟨c1, c2⟩ := Bool.and_eq_true_iff.mp hc
      obtain ⟨o1, o2, o3⟩ := okp_spec c1
      cases ho
      intro H locs la h0 h1 h2 h3
      have hw := wsO_get (b0 := b0) (ca := ca) (ra := ra) o1
      rw [ent_J o3] at hw
      refine W.eq (g2 := F0 m pc la (.int i :: .ref (b0 + kk) :: r.map (cv b0 ra))) (by rw [← cr_lt (b0 := b0) (ra := ra) o2]; rfl) ?_
      exact va_lald hx hb hK h1 kk 1 hw rfl (inb_spec c2) hd (k H locs la h0 h1 h2 h3)
    · cases ho
  · cases ho
theorem k_aald (C : Cx D b0 ca ra sc p s m args meth c n0 y) (hd : decode (mB y) pc = .ok (.aaload, 1)) (hn : np = pc + 1) (ho : o_aald np ls st h = some (.inr (.inl g))) (k : KK D b0 ca ra p l e R s m args below meth c Q n0 nL g) : KK D b0 ca ra p l e R s m args below meth c Q n0 nL (pc, ls, st, h) := by
  obtain ⟨hx, hb, hml, hown, hts, hnm, hK, hRO, hsz⟩ := C
  subst hn
  unfold o_aald at ho
  split at ho
  next i kk r =>
    split at ho
    next hc =>
      obtain ⟨c1, c2⟩ := Bool.and_eq_true_iff.mp hc
      split at ho
      next q hq =>
        cases ho
        intro H locs la h0 h1 h2 h3
        have fq : va_rf (rfs b0 ra h kk i.toNatClampNeg) = cv b0 ra (.ref q) := by
          unfold rfs
          rw [hq]
          rfl
        have k' := k H locs la h0 h1 h2 h3
        rcases Bool.or_eq_true_iff.mp c1 with c1 | c1
        · obtain ⟨o1, o2, o3⟩ := okp_spec c1
          have hw := wsO_get (b0 := b0) (ca := ca) (ra := ra) o1
          rw [ent_Q o3 (Or.inl rfl)] at hw
          refine W.eq (g2 := F0 m pc la (.int i :: .ref (b0 + kk) :: r.map (cv b0 ra))) (by rw [← cr_lt (b0 := b0) (ra := ra) o2]; rfl) ?_
          refine va_aldq hx hb hK h1 kk 3 hw rfl (inb_spec c2) hd ?_
          rw [fq]
          exact k'
        · obtain ⟨o1, o2, o3⟩ := okp_spec c1
          have hw := wsO_get (b0 := b0) (ca := ca) (ra := ra) o1
          rw [ent_Q o3 (Or.inr rfl)] at hw
          refine W.eq (g2 := F0 m pc la (.int i :: .ref (b0 + kk) :: r.map (cv b0 ra))) (by rw [← cr_lt (b0 := b0) (ra := ra) o2]; rfl) ?_
          refine va_aldq hx hb hK h1 kk 4 hw rfl (inb_spec c2) hd ?_
          rw [fq]
          exact k'
      · cases ho
    · cases ho
  · cases ho
theorem k_iast (C : Cx D b0 ca ra sc p s m args meth c n0 y) (hd : decode (mB y) pc = .ok (.iastore, 1)) (hn : np = pc + 1) (ho : o_iast np ls st h = some (.inr (.inl g))) (k : KK D b0 ca ra p l e R s m args below meth c Q n0 nL g) : KK D b0 ca ra p l e R s m args below meth c Q n0 nL (pc, ls, st, h) := by
  obtain ⟨hx, hb, hml, hown, hts, hnm, hK, hRO, hsz⟩ := C
  subst hn
  unfold o_iast at ho
  split at ho
  next x i kk r =>
    split at ho
    next hc =>
      obtain ⟨c1, c2⟩ := Bool.and_eq_true_iff.mp hc
      obtain ⟨o1, o2, o3⟩ := okp_spec c1
      cases ho
      intro H locs la h0 h1 h2 h3
      have hw := wsO_get (b0 := b0) (ca := ca) (ra := ra) o1
      rw [ent_I o3] at hw
      refine W.eq (g2 := F0 m pc la (.int x :: .int i :: .ref (b0 + kk) :: r.map (cv b0 ra))) (by rw [← cr_lt (b0 := b0) (ra := ra) o2]; rfl) ?_
      refine va_iast hx hb hK h1 (wsO_D b0 ca ra h) h2 kk 0 hw rfl (inb_spec c2) hd (fun H1 locs1 hP1 _ hS1 => k H1 locs1 la h0 (set_rel (h := h) (k := kk) (h' := sI h kk i.toNatClampNeg x) rfl (fun j e => ⟨hI_sI_ne e, rfl, rfl⟩) ?_ hP1) hS1 h3)
      rw [ent_I o3, hI_sI_eq]
    · cases ho
  · cases ho
theorem k_bast (C : Cx D b0 ca ra sc p s m args meth c n0 y) (hd : decode (mB y) pc = .ok (.bastore, 1)) (hn : np = pc + 1) (ho : o_bast np ls st h = some (.inr (.inl g))) (k : KK D b0 ca ra p l e R s m args below meth c Q n0 nL g) : KK D b0 ca ra p l e R s m args below meth c Q n0 nL (pc, ls, st, h) := by
  obtain ⟨hx, hb, hml, hown, hts, hnm, hK, hRO, hsz⟩ := C
  subst hn
  unfold o_bast at ho
  split at ho
  next x i kk r =>
    split at ho
    next hc =>
      obtain ⟨c1, c2⟩ := Bool.and_eq_true_iff.mp hc
      obtain ⟨o1, o2, o3⟩ := okp_spec c1
      cases ho
      intro H locs la h0 h1 h2 h3
      have hw := wsO_get (b0 := b0) (ca := ca) (ra := ra) o1
      rw [ent_Z o3] at hw
      refine W.eq (g2 := F0 m pc la (.int x :: .int i :: .ref (b0 + kk) :: r.map (cv b0 ra))) (by rw [← cr_lt (b0 := b0) (ra := ra) o2]; rfl) ?_
      refine va_zast hx hb hK h1 (wsO_D b0 ca ra h) h2 kk 2 hw rfl (inb_spec c2) hd (fun H1 locs1 hP1 _ hS1 => k H1 locs1 la h0 (set_rel (h := h) (k := kk) (h' := sI h kk i.toNatClampNeg (vp_nar .boolean x)) rfl (fun j e => ⟨hI_sI_ne e, rfl, rfl⟩) ?_ hP1) hS1 h3)
      rw [ent_Z o3, hI_sI_eq]
    · cases ho
  · cases ho
theorem k_last (C : Cx D b0 ca ra sc p s m args meth c n0 y) (hd : decode (mB y) pc = .ok (.lastore, 1)) (hn : np = pc + 1) (ho : o_last np ls st h = some (.inr (.inl g))) (k : KK D b0 ca ra p l e R s m args below meth c Q n0 nL g) : KK D b0 ca ra p l e R s m args below meth c Q n0 nL (pc, ls, st, h) := by
  obtain ⟨hx, hb, hml, hown, hts, hnm, hK, hRO, hsz⟩ := C
  subst hn
  unfold o_last at ho
  split at ho
  next x i kk r =>
    split at ho
    next hc =>
      obtain ⟨c1, c2⟩ := Bool.and_eq_true_iff.mp hc
      obtain ⟨o1, o2, o3⟩ := okp_spec c1
      cases ho
      intro H locs la h0 h1 h2 h3
      have hw := wsO_get (b0 := b0) (ca := ca) (ra := ra) o1
      rw [ent_J o3] at hw
      refine W.eq (g2 := F0 m pc la (.long x :: .int i :: .ref (b0 + kk) :: r.map (cv b0 ra))) (by rw [← cr_lt (b0 := b0) (ra := ra) o2]; rfl) ?_
      refine va_last hx hb hK h1 (wsO_D b0 ca ra h) h2 kk 1 hw rfl (inb_spec c2) hd (fun H1 locs1 hP1 _ hS1 => k H1 locs1 la h0 (set_rel (h := h) (k := kk) (h' := sL h kk i.toNatClampNeg x) rfl (fun j e => ⟨rfl, hL_sL_ne e, rfl⟩) ?_ hP1) hS1 h3)
      rw [ent_J o3, hL_sL_eq]
    · cases ho
  · cases ho
theorem rfs_up {h : PH} {kk i q : Nat} (hq : q < 1000) : rfs b0 ra (sR h kk i (some q)) kk = va_up (rfs b0 ra h kk) i (some (b0 + q)) := by
  funext j
  unfold rfs
  rw [hR_sR_eq]
  unfold va_up
  by_cases e : j = i
  · rw [if_pos e, if_pos e]
    show some (cr b0 ra q) = _
    rw [cr_lt hq]
  · rw [if_neg e, if_neg e]
theorem k_aast (C : Cx D b0 ca ra sc p s m args meth c n0 y) (hd : decode (mB y) pc = .ok (.aastore, 1)) (hn : np = pc + 1) (ho : o_aast np ls st h = some (.inr (.inl g))) (k : KK D b0 ca ra p l e R s m args below meth c Q n0 nL g) : KK D b0 ca ra p l e R s m args below meth c Q n0 nL (pc, ls, st, h) := by
  obtain ⟨hx, hb, hml, hown, hts, hnm, hK, hRO, hsz⟩ := C
  subst hn
  unfold o_aast at ho
  split at ho
  next q i kk r =>
    split at ho
    next hc =>
      obtain ⟨c1, c2⟩ := Bool.and_eq_true_iff.mp hc
      cases ho
      intro H locs la h0 h1 h2 h3
      rcases Bool.or_eq_true_iff.mp c1 with c1 | c1
      · obtain ⟨c1, c3⟩ := Bool.and_eq_true_iff.mp c1
        obtain ⟨o1, o2, o3⟩ := okp_spec c1
        obtain ⟨q1, q2, q3⟩ := okp_spec c3
        have hw := wsO_get (b0 := b0) (ca := ca) (ra := ra) o1
        rw [ent_Q o3 (Or.inl rfl)] at hw
        have hq := wsO_get (b0 := b0) (ca := ca) (ra := ra) q1
        rw [ent_O q3 (by decide)] at hq
        refine W.eq (g2 := F0 m pc la (.ref (b0 + q) :: .int i :: .ref (b0 + kk) :: r.map (cv b0 ra))) (by rw [← cr_lt (b0 := b0) (ra := ra) o2, ← cr_lt (b0 := b0) (ra := ra) q2]; rfl) ?_
        refine va_astq (r := (RX5, TX5, 2)) hx hb hK h1 (wsO_D b0 ca ra h) h2 kk 3 q 5 hw rfl hq rfl (inb_spec c2) hd (fun H1 locs1 hP1 _ hS1 => k H1 locs1 la h0 (set_rel (h := h) (k := kk) (h' := sR h kk i.toNatClampNeg (some q)) rfl (fun j e => ⟨rfl, rfl, hR_sR_ne e⟩) ?_ hP1) hS1 h3)
        rw [ent_Q o3 (Or.inl rfl), rfs_up q2]
      · obtain ⟨c1, c3⟩ := Bool.and_eq_true_iff.mp c1
        obtain ⟨o1, o2, o3⟩ := okp_spec c1
        obtain ⟨q1, q2, q3⟩ := okp_spec c3
        have hw := wsO_get (b0 := b0) (ca := ca) (ra := ra) o1
        rw [ent_Q o3 (Or.inr rfl)] at hw
        have hq := wsO_get (b0 := b0) (ca := ca) (ra := ra) q1
        rw [ent_O q3 (by decide)] at hq
        refine W.eq (g2 := F0 m pc la (.ref (b0 + q) :: .int i :: .ref (b0 + kk) :: r.map (cv b0 ra))) (by rw [← cr_lt (b0 := b0) (ra := ra) o2, ← cr_lt (b0 := b0) (ra := ra) q2]; rfl) ?_
        refine va_astq (r := (RX6, TX6, 9)) hx hb hK h1 (wsO_D b0 ca ra h) h2 kk 4 q 6 hw rfl hq rfl (inb_spec c2) hd (fun H1 locs1 hP1 _ hS1 => k H1 locs1 la h0 (set_rel (h := h) (k := kk) (h' := sR h kk i.toNatClampNeg (some q)) rfl (fun j e => ⟨rfl, rfl, hR_sR_ne e⟩) ?_ hP1) hS1 h3)
        rw [ent_Q o3 (Or.inr rfl), rfs_up q2]
    · cases ho
  · cases ho
theorem k_alen (C : Cx D b0 ca ra sc p s m args meth c n0 y) (hd : decode (mB y) pc = .ok (.arraylength, 1)) (hn : np = pc + 1) (ho : o_alen sc np ls st h = some (.inr (.inl g))) (k : KK D b0 ca ra p l e R s m args below meth c Q n0 nL g) : KK D b0 ca ra p l e R s m args below meth c Q n0 nL (pc, ls, st, h) := by
  obtain ⟨hx, hb, hml, hown, hts, hnm, hK, hRO, hsz⟩ := C
  subst hn
  unfold o_alen at ho
  split at ho
  next kk r =>
    split at ho
    next hlt =>
      split at ho
      next hc =>
        cases ho
        intro H locs la h0 h1 h2 h3
        have k' := k H locs la h0 h1 h2 h3
        refine W.eq (g2 := F0 m pc la (.ref (b0 + kk) :: r.map (cv b0 ra))) (by rw [← cr_lt (b0 := b0) (ra := ra) hlt]; rfl) ?_
        simp only [Bool.or_eq_true] at hc
        rcases hc with c1 | c1 | c1 | c1 | c1
        · obtain ⟨o1, o2, o3⟩ := okp_spec c1
          have hw := wsO_get (b0 := b0) (ca := ca) (ra := ra) o1
          rw [ent_I o3] at hw
          exact va_alen hx hb hK h1 kk 0 hw rfl rfl hd k'
        · obtain ⟨o1, o2, o3⟩ := okp_spec c1
          have hw := wsO_get (b0 := b0) (ca := ca) (ra := ra) o1
          rw [ent_J o3] at hw
          exact va_alen hx hb hK h1 kk 1 hw rfl rfl hd k'
        · obtain ⟨o1, o2, o3⟩ := okp_spec c1
          have hw := wsO_get (b0 := b0) (ca := ca) (ra := ra) o1
          rw [ent_Z o3] at hw
          exact va_alen hx hb hK h1 kk 2 hw rfl rfl hd k'
        · obtain ⟨o1, o2, o3⟩ := okp_spec c1
          have hw := wsO_get (b0 := b0) (ca := ca) (ra := ra) o1
          rw [ent_Q o3 (Or.inl rfl)] at hw
          exact va_alen hx hb hK h1 kk 3 hw rfl rfl hd k'
        · obtain ⟨o1, o2, o3⟩ := okp_spec c1
          have hw := wsO_get (b0 := b0) (ca := ca) (ra := ra) o1
          rw [ent_Q o3 (Or.inr rfl)] at hw
          exact va_alen hx hb hK h1 kk 4 hw rfl rfl hd k'
      · cases ho
    next hge =>
      split at ho
      next ha =>
        cases ho
        intro H locs la h0 h1 h2 h3
        refine W.eq (g2 := F0 m pc la (.ref (ra (kk - 1000)) :: r.map (cv b0 ra))) (by rw [← (show cr b0 ra kk = ra (kk - 1000) from if_neg hge)]; rfl) ?_
        exact va_tlen hx hb (hRO.2.1 _ ha) h2 rfl hd (k H locs la h0 h1 h2 h3)
      · cases ho
  · cases ho
end MEM
