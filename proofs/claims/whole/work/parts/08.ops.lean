/-! ===== each instruction of the pure machine is the machine's ===== -/
/-- from this place of the pure machine the machine comes to Q -/
def KK (D : va_G) (b0 : Nat) (ca : Nat → ClassId) (ra : Nat → Nat) (p : Program) (l : Launch) (e : Env) (R : Room) (s : State) (m : MethodId) (args : Array Value) (below : List Frame) (meth : Method) (c : Code) (Q : State → Prop) (n0 nL : Nat) (g : PC) : Prop := match g with
  | (pc, ls, st, h) => ∀ (H : Heap) (locs : List Loc) (la : Array Slot), n0 ≤ hN h → Rel D b0 ca ra h H → va_S (AA b0) s.heap H locs → RL b0 ra la nL ls → W p l e R s m args below meth c H locs (hN h - n0) (SL (hN h) - SL n0) Q (F0 m pc la (st.map (cv b0 ra)))
section OPS
variable {D : va_G} {b0 : Nat} {ca : Nat → ClassId} {ra : Nat → Nat} {sc : Nat × (Nat → Int32)} {p : Program} {l : Launch} {e : Env} {R : Room} {s : State} {m : MethodId} {args : Array Value} {below : List Frame} {meth : Method} {c : Code} {Q : State → Prop} {n0 nL : Nat} {cc : ByteArray} {pc np a b : Nat} {v : Value} {ls : List (Option Value)} {st : List Value} {h : PH} {g : PC}
theorem k_ldI_n {n : Fin 4} (hx : p.tables.exec = Jvm.exec) (hb : c.code = cc) (hd : decode cc pc = .ok (.iload_n n, 1)) (ha : (n : Nat) = a) (hn : np = pc + 1) (ho : o_ldI np a ls st h = some (.inr (.inl g))) (k : KK D b0 ca ra p l e R s m args below meth c Q n0 nL g) : KK D b0 ca ra p l e R s m args below meth c Q n0 nL (pc, ls, st, h) := by
  subst hn
  unfold o_ldI at ho
  split at ho
  next x hg =>
    cases ho
    intro H locs la h0 h1 h2 h3
    exact lv_iload_n hx hb hd ha (h3.at hg) (k H locs la h0 h1 h2 h3)
  · cases ho
theorem k_ldI (hx : p.tables.exec = Jvm.exec) (hb : c.code = cc) (hd : decode cc pc = .ok (.iload a, 2)) (hn : np = pc + 2) (ho : o_ldI np a ls st h = some (.inr (.inl g))) (k : KK D b0 ca ra p l e R s m args below meth c Q n0 nL g) : KK D b0 ca ra p l e R s m args below meth c Q n0 nL (pc, ls, st, h) := by
  subst hn
  unfold o_ldI at ho
  split at ho
  next x hg =>
    cases ho
    intro H locs la h0 h1 h2 h3
    exact lv_iload hx hb hd (h3.at hg) (k H locs la h0 h1 h2 h3)
  · cases ho
theorem k_ldL_n {n : Fin 4} (hx : p.tables.exec = Jvm.exec) (hb : c.code = cc) (hd : decode cc pc = .ok (.lload_n n, 1)) (ha : (n : Nat) = a) (hn : np = pc + 1) (ho : o_ldL np a ls st h = some (.inr (.inl g))) (k : KK D b0 ca ra p l e R s m args below meth c Q n0 nL g) : KK D b0 ca ra p l e R s m args below meth c Q n0 nL (pc, ls, st, h) := by
  subst hn
  unfold o_ldL at ho
  split at ho
  next x hg =>
    cases ho
    intro H locs la h0 h1 h2 h3
    exact lv_lload_n hx hb hd ha (h3.at hg) (k H locs la h0 h1 h2 h3)
  · cases ho
theorem k_ldL (hx : p.tables.exec = Jvm.exec) (hb : c.code = cc) (hd : decode cc pc = .ok (.lload a, 2)) (hn : np = pc + 2) (ho : o_ldL np a ls st h = some (.inr (.inl g))) (k : KK D b0 ca ra p l e R s m args below meth c Q n0 nL g) : KK D b0 ca ra p l e R s m args below meth c Q n0 nL (pc, ls, st, h) := by
  subst hn
  unfold o_ldL at ho
  split at ho
  next x hg =>
    cases ho
    intro H locs la h0 h1 h2 h3
    exact lv_lload hx hb hd (h3.at hg) (k H locs la h0 h1 h2 h3)
  · cases ho
theorem k_ldA_n {n : Fin 4} (hx : p.tables.exec = Jvm.exec) (hb : c.code = cc) (hd : decode cc pc = .ok (.aload_n n, 1)) (ha : (n : Nat) = a) (hn : np = pc + 1) (ho : o_ldA np a ls st h = some (.inr (.inl g))) (k : KK D b0 ca ra p l e R s m args below meth c Q n0 nL g) : KK D b0 ca ra p l e R s m args below meth c Q n0 nL (pc, ls, st, h) := by
  subst hn
  unfold o_ldA at ho
  split at ho
  next x hg =>
    cases ho
    intro H locs la h0 h1 h2 h3
    exact lv_aload_n hx hb hd ha (h3.at hg) (k H locs la h0 h1 h2 h3)
  · cases ho
theorem k_ldA (hx : p.tables.exec = Jvm.exec) (hb : c.code = cc) (hd : decode cc pc = .ok (.aload a, 2)) (hn : np = pc + 2) (ho : o_ldA np a ls st h = some (.inr (.inl g))) (k : KK D b0 ca ra p l e R s m args below meth c Q n0 nL g) : KK D b0 ca ra p l e R s m args below meth c Q n0 nL (pc, ls, st, h) := by
  subst hn
  unfold o_ldA at ho
  split at ho
  next x hg =>
    cases ho
    intro H locs la h0 h1 h2 h3
    exact lv_aload hx hb hd (h3.at hg) (k H locs la h0 h1 h2 h3)
  · cases ho
theorem k_stI_n {n : Fin 4} (hx : p.tables.exec = Jvm.exec) (hb : c.code = cc) (hd : decode cc pc = .ok (.istore_n n, 1)) (ha : (n : Nat) = a) (hn : np = pc + 1) (ho : o_stI np a ls st h = some (.inr (.inl g))) (k : KK D b0 ca ra p l e R s m args below meth c Q n0 nL g) : KK D b0 ca ra p l e R s m args below meth c Q n0 nL (pc, ls, st, h) := by
  subst hn
  unfold o_stI at ho
  split at ho
  · split at ho
    next hlt =>
      cases ho
      intro H locs la h0 h1 h2 h3
      exact lv_istore_n hx hb hd ha h3.has (by rw [← h3.2.2.1]; exact hlt) rfl (fun la' hl => k H locs la' h0 h1 h2 (h3.st1 hlt hl))
    · cases ho
  · cases ho
theorem k_stI (hx : p.tables.exec = Jvm.exec) (hb : c.code = cc) (hd : decode cc pc = .ok (.istore a, 2)) (hn : np = pc + 2) (ho : o_stI np a ls st h = some (.inr (.inl g))) (k : KK D b0 ca ra p l e R s m args below meth c Q n0 nL g) : KK D b0 ca ra p l e R s m args below meth c Q n0 nL (pc, ls, st, h) := by
  subst hn
  unfold o_stI at ho
  split at ho
  · split at ho
    next hlt =>
      cases ho
      intro H locs la h0 h1 h2 h3
      exact lv_istore hx hb hd h3.has (by rw [← h3.2.2.1]; exact hlt) rfl (fun la' hl => k H locs la' h0 h1 h2 (h3.st1 hlt hl))
    · cases ho
  · cases ho
theorem k_stL_n {n : Fin 4} (hx : p.tables.exec = Jvm.exec) (hb : c.code = cc) (hd : decode cc pc = .ok (.lstore_n n, 1)) (ha : (n : Nat) = a) (hn : np = pc + 1) (ho : o_stL np a ls st h = some (.inr (.inl g))) (k : KK D b0 ca ra p l e R s m args below meth c Q n0 nL g) : KK D b0 ca ra p l e R s m args below meth c Q n0 nL (pc, ls, st, h) := by
  subst hn
  unfold o_stL at ho
  split at ho
  · split at ho
    next hlt =>
      cases ho
      intro H locs la h0 h1 h2 h3
      exact lv_lstore_n hx hb hd ha h3.has (by rw [← h3.2.2.1]; exact hlt) rfl (fun la' hl => k H locs la' h0 h1 h2 (h3.st2 hlt hl))
    · cases ho
  · cases ho
theorem k_stL (hx : p.tables.exec = Jvm.exec) (hb : c.code = cc) (hd : decode cc pc = .ok (.lstore a, 2)) (hn : np = pc + 2) (ho : o_stL np a ls st h = some (.inr (.inl g))) (k : KK D b0 ca ra p l e R s m args below meth c Q n0 nL g) : KK D b0 ca ra p l e R s m args below meth c Q n0 nL (pc, ls, st, h) := by
  subst hn
  unfold o_stL at ho
  split at ho
  · split at ho
    next hlt =>
      cases ho
      intro H locs la h0 h1 h2 h3
      exact lv_lstore hx hb hd h3.has (by rw [← h3.2.2.1]; exact hlt) rfl (fun la' hl => k H locs la' h0 h1 h2 (h3.st2 hlt hl))
    · cases ho
  · cases ho
theorem k_stA_n {n : Fin 4} (hx : p.tables.exec = Jvm.exec) (hb : c.code = cc) (hd : decode cc pc = .ok (.astore_n n, 1)) (ha : (n : Nat) = a) (hn : np = pc + 1) (ho : o_stA np a ls st h = some (.inr (.inl g))) (k : KK D b0 ca ra p l e R s m args below meth c Q n0 nL g) : KK D b0 ca ra p l e R s m args below meth c Q n0 nL (pc, ls, st, h) := by
  subst hn
  unfold o_stA at ho
  split at ho
  · split at ho
    next hlt =>
      cases ho
      intro H locs la h0 h1 h2 h3
      exact lv_astore_n hx hb hd ha h3.has (by rw [← h3.2.2.1]; exact hlt) rfl (fun la' hl => k H locs la' h0 h1 h2 (h3.st1 hlt hl))
    · cases ho
  · cases ho
theorem k_stA (hx : p.tables.exec = Jvm.exec) (hb : c.code = cc) (hd : decode cc pc = .ok (.astore a, 2)) (hn : np = pc + 2) (ho : o_stA np a ls st h = some (.inr (.inl g))) (k : KK D b0 ca ra p l e R s m args below meth c Q n0 nL g) : KK D b0 ca ra p l e R s m args below meth c Q n0 nL (pc, ls, st, h) := by
  subst hn
  unfold o_stA at ho
  split at ho
  · split at ho
    next hlt =>
      cases ho
      intro H locs la h0 h1 h2 h3
      exact lv_astore hx hb hd h3.has (by rw [← h3.2.2.1]; exact hlt) rfl (fun la' hl => k H locs la' h0 h1 h2 (h3.st1 hlt hl))
    · cases ho
  · cases ho
theorem k_inc {n : Int} (hx : p.tables.exec = Jvm.exec) (hb : c.code = cc) (hd : decode cc pc = .ok (.iinc a n, 3)) (hv : v = .int (Int32.ofInt n)) (hn : np = pc + 3) (ho : o_inc np a v ls st h = some (.inr (.inl g))) (k : KK D b0 ca ra p l e R s m args below meth c Q n0 nL g) : KK D b0 ca ra p l e R s m args below meth c Q n0 nL (pc, ls, st, h) := by
  subst hn
  subst hv
  unfold o_inc at ho
  split at ho
  next x d hg hd2 =>
    cases hd2
    split at ho
    next hlt =>
      cases ho
      intro H locs la h0 h1 h2 h3
      obtain ⟨i, hi⟩ := List.getElem?_of_mem (lvL_mem (b0 := b0) (ra := ra) (ls := ls) (q := (a, .int x)).mpr ⟨gl_lt hg, _, hg, rfl⟩)
      exact lv_iinc hx hb hd h3.has hi rfl (by rw [← h3.2.2.1]; exact hlt) rfl (fun la' hl => k H locs la' h0 h1 h2 (h3.st1 hlt hl))
    · cases ho
  · cases ho
theorem k_push {i : Instr} {len : Nat} (hrow : ∀ (x : Value) (H : Heap) (locs : List Loc) (la : Array Slot) (rest : List Value), v = x → (W p l e R s m args below meth c H locs (hN h - n0) (SL (hN h) - SL n0) Q (F0 m (pc + len) la (x :: rest))) → W p l e R s m args below meth c H locs (hN h - n0) (SL (hN h) - SL n0) Q (F0 m pc la rest)) (hn : np = pc + len) (ho : o_push np v ls st h = some (.inr (.inl g))) (k : KK D b0 ca ra p l e R s m args below meth c Q n0 nL g) : KK D b0 ca ra p l e R s m args below meth c Q n0 nL (pc, ls, st, h) := by
  subst hn
  unfold o_push at ho
  split at ho
  · cases ho
    intro H locs la h0 h1 h2 h3
    exact hrow _ H locs la _ rfl (k H locs la h0 h1 h2 h3)
  · cases ho
    intro H locs la h0 h1 h2 h3
    exact hrow _ H locs la _ rfl (k H locs la h0 h1 h2 h3)
  · cases ho
theorem k_iadd (hx : p.tables.exec = Jvm.exec) (hb : c.code = cc) (hd : decode cc pc = .ok (.iadd, 1)) (hn : np = pc + 1) (ho : o_ii (fun x y => x + y) np ls st h = some (.inr (.inl g))) (k : KK D b0 ca ra p l e R s m args below meth c Q n0 nL g) : KK D b0 ca ra p l e R s m args below meth c Q n0 nL (pc, ls, st, h) := by
  subst hn
  unfold o_ii at ho
  split at ho
  · cases ho
    intro H locs la h0 h1 h2 h3
    exact lv_iadd hx hb hd (k H locs la h0 h1 h2 h3)
  · cases ho
theorem k_isub (hx : p.tables.exec = Jvm.exec) (hb : c.code = cc) (hd : decode cc pc = .ok (.isub, 1)) (hn : np = pc + 1) (ho : o_ii (fun x y => x - y) np ls st h = some (.inr (.inl g))) (k : KK D b0 ca ra p l e R s m args below meth c Q n0 nL g) : KK D b0 ca ra p l e R s m args below meth c Q n0 nL (pc, ls, st, h) := by
  subst hn
  unfold o_ii at ho
  split at ho
  · cases ho
    intro H locs la h0 h1 h2 h3
    exact lv_isub hx hb hd (k H locs la h0 h1 h2 h3)
  · cases ho
theorem k_imul (hx : p.tables.exec = Jvm.exec) (hb : c.code = cc) (hd : decode cc pc = .ok (.imul, 1)) (hn : np = pc + 1) (ho : o_ii (fun x y => x * y) np ls st h = some (.inr (.inl g))) (k : KK D b0 ca ra p l e R s m args below meth c Q n0 nL g) : KK D b0 ca ra p l e R s m args below meth c Q n0 nL (pc, ls, st, h) := by
  subst hn
  unfold o_ii at ho
  split at ho
  · cases ho
    intro H locs la h0 h1 h2 h3
    exact lv_imul hx hb hd (k H locs la h0 h1 h2 h3)
  · cases ho
theorem k_iand (hx : p.tables.exec = Jvm.exec) (hb : c.code = cc) (hd : decode cc pc = .ok (.iand, 1)) (hn : np = pc + 1) (ho : o_ii (fun x y => x &&& y) np ls st h = some (.inr (.inl g))) (k : KK D b0 ca ra p l e R s m args below meth c Q n0 nL g) : KK D b0 ca ra p l e R s m args below meth c Q n0 nL (pc, ls, st, h) := by
  subst hn
  unfold o_ii at ho
  split at ho
  · cases ho
    intro H locs la h0 h1 h2 h3
    exact lv_iand hx hb hd (k H locs la h0 h1 h2 h3)
  · cases ho
theorem k_ior (hx : p.tables.exec = Jvm.exec) (hb : c.code = cc) (hd : decode cc pc = .ok (.ior, 1)) (hn : np = pc + 1) (ho : o_ii (fun x y => x ||| y) np ls st h = some (.inr (.inl g))) (k : KK D b0 ca ra p l e R s m args below meth c Q n0 nL g) : KK D b0 ca ra p l e R s m args below meth c Q n0 nL (pc, ls, st, h) := by
  subst hn
  unfold o_ii at ho
  split at ho
  · cases ho
    intro H locs la h0 h1 h2 h3
    exact lv_ior hx hb hd (k H locs la h0 h1 h2 h3)
  · cases ho
theorem k_ishl (hx : p.tables.exec = Jvm.exec) (hb : c.code = cc) (hd : decode cc pc = .ok (.ishl, 1)) (hn : np = pc + 1) (ho : o_ii (fun x y => x <<< (y &&& 31)) np ls st h = some (.inr (.inl g))) (k : KK D b0 ca ra p l e R s m args below meth c Q n0 nL g) : KK D b0 ca ra p l e R s m args below meth c Q n0 nL (pc, ls, st, h) := by
  subst hn
  unfold o_ii at ho
  split at ho
  · cases ho
    intro H locs la h0 h1 h2 h3
    exact lv_ishl hx hb hd (k H locs la h0 h1 h2 h3)
  · cases ho
theorem k_ishr (hx : p.tables.exec = Jvm.exec) (hb : c.code = cc) (hd : decode cc pc = .ok (.ishr, 1)) (hn : np = pc + 1) (ho : o_ii (fun x y => x >>> (y &&& 31)) np ls st h = some (.inr (.inl g))) (k : KK D b0 ca ra p l e R s m args below meth c Q n0 nL g) : KK D b0 ca ra p l e R s m args below meth c Q n0 nL (pc, ls, st, h) := by
  subst hn
  unfold o_ii at ho
  split at ho
  · cases ho
    intro H locs la h0 h1 h2 h3
    exact lv_ishr hx hb hd (k H locs la h0 h1 h2 h3)
  · cases ho
theorem k_iushr (hx : p.tables.exec = Jvm.exec) (hb : c.code = cc) (hd : decode cc pc = .ok (.iushr, 1)) (hn : np = pc + 1) (ho : o_ii (fun x y => (x.toUInt32 >>> (y.toUInt32 &&& Int32.toUInt32 31)).toInt32) np ls st h = some (.inr (.inl g))) (k : KK D b0 ca ra p l e R s m args below meth c Q n0 nL g) : KK D b0 ca ra p l e R s m args below meth c Q n0 nL (pc, ls, st, h) := by
  subst hn
  unfold o_ii at ho
  split at ho
  · cases ho
    intro H locs la h0 h1 h2 h3
    exact lv_iushr hx hb hd rfl (k H locs la h0 h1 h2 h3)
  · cases ho
theorem k_idiv (hx : p.tables.exec = Jvm.exec) (hb : c.code = cc) (hd : decode cc pc = .ok (.idiv, 1)) (hn : np = pc + 1) (ho : o_iiz (fun x y => x / y) np ls st h = some (.inr (.inl g))) (k : KK D b0 ca ra p l e R s m args below meth c Q n0 nL g) : KK D b0 ca ra p l e R s m args below meth c Q n0 nL (pc, ls, st, h) := by
  subst hn
  unfold o_iiz at ho
  split at ho
  · split at ho
    · cases ho
    next hz =>
      cases ho
      intro H locs la h0 h1 h2 h3
      exact lv_idiv hx hb hd hz (k H locs la h0 h1 h2 h3)
  · cases ho
theorem k_irem (hx : p.tables.exec = Jvm.exec) (hb : c.code = cc) (hd : decode cc pc = .ok (.irem, 1)) (hn : np = pc + 1) (ho : o_iiz (fun x y => x - x / y * y) np ls st h = some (.inr (.inl g))) (k : KK D b0 ca ra p l e R s m args below meth c Q n0 nL g) : KK D b0 ca ra p l e R s m args below meth c Q n0 nL (pc, ls, st, h) := by
  subst hn
  unfold o_iiz at ho
  split at ho
  · split at ho
    · cases ho
    next hz =>
      cases ho
      intro H locs la h0 h1 h2 h3
      exact lv_irem hx hb hd hz (k H locs la h0 h1 h2 h3)
  · cases ho
theorem k_ladd (hx : p.tables.exec = Jvm.exec) (hb : c.code = cc) (hd : decode cc pc = .ok (.ladd, 1)) (hn : np = pc + 1) (ho : o_ll (fun x y => x + y) np ls st h = some (.inr (.inl g))) (k : KK D b0 ca ra p l e R s m args below meth c Q n0 nL g) : KK D b0 ca ra p l e R s m args below meth c Q n0 nL (pc, ls, st, h) := by
  subst hn
  unfold o_ll at ho
  split at ho
  · cases ho
    intro H locs la h0 h1 h2 h3
    exact lv_ladd hx hb hd (k H locs la h0 h1 h2 h3)
  · cases ho
theorem k_lsub (hx : p.tables.exec = Jvm.exec) (hb : c.code = cc) (hd : decode cc pc = .ok (.lsub, 1)) (hn : np = pc + 1) (ho : o_ll (fun x y => x - y) np ls st h = some (.inr (.inl g))) (k : KK D b0 ca ra p l e R s m args below meth c Q n0 nL g) : KK D b0 ca ra p l e R s m args below meth c Q n0 nL (pc, ls, st, h) := by
  subst hn
  unfold o_ll at ho
  split at ho
  · cases ho
    intro H locs la h0 h1 h2 h3
    exact lv_lsub hx hb hd (k H locs la h0 h1 h2 h3)
  · cases ho
theorem k_lmul (hx : p.tables.exec = Jvm.exec) (hb : c.code = cc) (hd : decode cc pc = .ok (.lmul, 1)) (hn : np = pc + 1) (ho : o_ll (fun x y => x * y) np ls st h = some (.inr (.inl g))) (k : KK D b0 ca ra p l e R s m args below meth c Q n0 nL g) : KK D b0 ca ra p l e R s m args below meth c Q n0 nL (pc, ls, st, h) := by
  subst hn
  unfold o_ll at ho
  split at ho
  · cases ho
    intro H locs la h0 h1 h2 h3
    exact lv_lmul hx hb hd (k H locs la h0 h1 h2 h3)
  · cases ho
theorem k_land (hx : p.tables.exec = Jvm.exec) (hb : c.code = cc) (hd : decode cc pc = .ok (.land, 1)) (hn : np = pc + 1) (ho : o_ll (fun x y => x &&& y) np ls st h = some (.inr (.inl g))) (k : KK D b0 ca ra p l e R s m args below meth c Q n0 nL g) : KK D b0 ca ra p l e R s m args below meth c Q n0 nL (pc, ls, st, h) := by
  subst hn
  unfold o_ll at ho
  split at ho
  · cases ho
    intro H locs la h0 h1 h2 h3
    exact lv_land hx hb hd (k H locs la h0 h1 h2 h3)
  · cases ho
theorem k_lor (hx : p.tables.exec = Jvm.exec) (hb : c.code = cc) (hd : decode cc pc = .ok (.lor, 1)) (hn : np = pc + 1) (ho : o_ll (fun x y => x ||| y) np ls st h = some (.inr (.inl g))) (k : KK D b0 ca ra p l e R s m args below meth c Q n0 nL g) : KK D b0 ca ra p l e R s m args below meth c Q n0 nL (pc, ls, st, h) := by
  subst hn
  unfold o_ll at ho
  split at ho
  · cases ho
    intro H locs la h0 h1 h2 h3
    exact lv_lor hx hb hd (k H locs la h0 h1 h2 h3)
  · cases ho
theorem k_ldiv (hx : p.tables.exec = Jvm.exec) (hb : c.code = cc) (hd : decode cc pc = .ok (.ldiv, 1)) (hn : np = pc + 1) (ho : o_llz (fun x y => x / y) np ls st h = some (.inr (.inl g))) (k : KK D b0 ca ra p l e R s m args below meth c Q n0 nL g) : KK D b0 ca ra p l e R s m args below meth c Q n0 nL (pc, ls, st, h) := by
  subst hn
  unfold o_llz at ho
  split at ho
  · split at ho
    · cases ho
    next hz =>
      cases ho
      intro H locs la h0 h1 h2 h3
      exact lv_ldiv hx hb hd hz (k H locs la h0 h1 h2 h3)
  · cases ho
theorem k_lrem (hx : p.tables.exec = Jvm.exec) (hb : c.code = cc) (hd : decode cc pc = .ok (.lrem, 1)) (hn : np = pc + 1) (ho : o_llz (fun x y => x - x / y * y) np ls st h = some (.inr (.inl g))) (k : KK D b0 ca ra p l e R s m args below meth c Q n0 nL g) : KK D b0 ca ra p l e R s m args below meth c Q n0 nL (pc, ls, st, h) := by
  subst hn
  unfold o_llz at ho
  split at ho
  · split at ho
    · cases ho
    next hz =>
      cases ho
      intro H locs la h0 h1 h2 h3
      exact lv_lrem hx hb hd hz (k H locs la h0 h1 h2 h3)
  · cases ho
theorem k_lshl (hx : p.tables.exec = Jvm.exec) (hb : c.code = cc) (hd : decode cc pc = .ok (.lshl, 1)) (hn : np = pc + 1) (ho : o_li (fun x y => x <<< (y.toInt64 &&& 63)) np ls st h = some (.inr (.inl g))) (k : KK D b0 ca ra p l e R s m args below meth c Q n0 nL g) : KK D b0 ca ra p l e R s m args below meth c Q n0 nL (pc, ls, st, h) := by
  subst hn
  unfold o_li at ho
  split at ho
  · cases ho
    intro H locs la h0 h1 h2 h3
    exact lv_lshl hx hb hd rfl (k H locs la h0 h1 h2 h3)
  · cases ho
theorem k_lushr (hx : p.tables.exec = Jvm.exec) (hb : c.code = cc) (hd : decode cc pc = .ok (.lushr, 1)) (hn : np = pc + 1) (ho : o_li (fun x y => (x.toUInt64 >>> (y.toInt64.toUInt64 &&& Int64.toUInt64 63)).toInt64) np ls st h = some (.inr (.inl g))) (k : KK D b0 ca ra p l e R s m args below meth c Q n0 nL g) : KK D b0 ca ra p l e R s m args below meth c Q n0 nL (pc, ls, st, h) := by
  subst hn
  unfold o_li at ho
  split at ho
  · cases ho
    intro H locs la h0 h1 h2 h3
    exact lv_lushr hx hb hd rfl (k H locs la h0 h1 h2 h3)
  · cases ho
theorem k_ineg (hx : p.tables.exec = Jvm.exec) (hb : c.code = cc) (hd : decode cc pc = .ok (.ineg, 1)) (hn : np = pc + 1) (ho : o_i (fun x => -x) np ls st h = some (.inr (.inl g))) (k : KK D b0 ca ra p l e R s m args below meth c Q n0 nL g) : KK D b0 ca ra p l e R s m args below meth c Q n0 nL (pc, ls, st, h) := by
  subst hn
  unfold o_i at ho
  split at ho
  · cases ho
    intro H locs la h0 h1 h2 h3
    exact lv_ineg hx hb hd (k H locs la h0 h1 h2 h3)
  · cases ho
theorem k_i2b (hx : p.tables.exec = Jvm.exec) (hb : c.code = cc) (hd : decode cc pc = .ok (.i2b, 1)) (hn : np = pc + 1) (ho : o_i (fun x => x.toInt8.toInt32) np ls st h = some (.inr (.inl g))) (k : KK D b0 ca ra p l e R s m args below meth c Q n0 nL g) : KK D b0 ca ra p l e R s m args below meth c Q n0 nL (pc, ls, st, h) := by
  subst hn
  unfold o_i at ho
  split at ho
  · cases ho
    intro H locs la h0 h1 h2 h3
    exact lv_i2b hx hb hd rfl (k H locs la h0 h1 h2 h3)
  · cases ho
theorem k_lneg (hx : p.tables.exec = Jvm.exec) (hb : c.code = cc) (hd : decode cc pc = .ok (.lneg, 1)) (hn : np = pc + 1) (ho : o_l (fun x => -x) np ls st h = some (.inr (.inl g))) (k : KK D b0 ca ra p l e R s m args below meth c Q n0 nL g) : KK D b0 ca ra p l e R s m args below meth c Q n0 nL (pc, ls, st, h) := by
  subst hn
  unfold o_l at ho
  split at ho
  · cases ho
    intro H locs la h0 h1 h2 h3
    exact lv_lneg hx hb hd (k H locs la h0 h1 h2 h3)
  · cases ho
theorem k_i2l (hx : p.tables.exec = Jvm.exec) (hb : c.code = cc) (hd : decode cc pc = .ok (.i2l, 1)) (hn : np = pc + 1) (ho : o_i2l np ls st h = some (.inr (.inl g))) (k : KK D b0 ca ra p l e R s m args below meth c Q n0 nL g) : KK D b0 ca ra p l e R s m args below meth c Q n0 nL (pc, ls, st, h) := by
  subst hn
  unfold o_i2l at ho
  split at ho
  · cases ho
    intro H locs la h0 h1 h2 h3
    exact lv_i2l hx hb hd rfl (k H locs la h0 h1 h2 h3)
  · cases ho
theorem k_l2i (hx : p.tables.exec = Jvm.exec) (hb : c.code = cc) (hd : decode cc pc = .ok (.l2i, 1)) (hn : np = pc + 1) (ho : o_l2i np ls st h = some (.inr (.inl g))) (k : KK D b0 ca ra p l e R s m args below meth c Q n0 nL g) : KK D b0 ca ra p l e R s m args below meth c Q n0 nL (pc, ls, st, h) := by
  subst hn
  unfold o_l2i at ho
  split at ho
  · cases ho
    intro H locs la h0 h1 h2 h3
    exact lv_l2i hx hb hd rfl (k H locs la h0 h1 h2 h3)
  · cases ho
theorem k_cmp (hx : p.tables.exec = Jvm.exec) (hb : c.code = cc) (hd : decode cc pc = .ok (.lcmp, 1)) (hn : np = pc + 1) (ho : o_cmp np ls st h = some (.inr (.inl g))) (k : KK D b0 ca ra p l e R s m args below meth c Q n0 nL g) : KK D b0 ca ra p l e R s m args below meth c Q n0 nL (pc, ls, st, h) := by
  subst hn
  unfold o_cmp at ho
  split at ho
  · cases ho
    intro H locs la h0 h1 h2 h3
    exact W.lcmp hx hb hd (k H locs la h0 h1 h2 h3)
  · cases ho
theorem k_if {cd : ClassFile.Cond} {off : Int} (hx : p.tables.exec = Jvm.exec) (hb : c.code = cc) (hd : decode cc pc = .ok (.ifCond cd off, 3)) (ht : (pc : Int) + off = (a : Int)) (hn : np = pc + 3) (ho : o_if cd np a ls st h = some (.inr (.inl g))) (k : KK D b0 ca ra p l e R s m args below meth c Q n0 nL g) : KK D b0 ca ra p l e R s m args below meth c Q n0 nL (pc, ls, st, h) := by
  subst hn
  unfold o_if at ho
  split at ho
  next x r =>
    cases cd <;> simp only at ho <;> split at ho <;> rename_i hc <;> cases ho <;> intro H locs la h0 h1 h2 h3
    · exact lv_if_eq hx hb hd ht (fun _ => k H locs la h0 h1 h2 h3) (fun q => absurd hc q)
    · exact lv_if_eq hx hb hd ht (fun q => absurd q hc) (fun _ => k H locs la h0 h1 h2 h3)
    · exact lv_if_ne hx hb hd ht (fun q => absurd hc q) (fun _ => k H locs la h0 h1 h2 h3)
    · exact lv_if_ne hx hb hd ht (fun _ => k H locs la h0 h1 h2 h3) (fun q => absurd q hc)
    · exact lv_if_lt hx hb hd ht (fun _ => k H locs la h0 h1 h2 h3) (fun q => absurd hc q)
    · exact lv_if_lt hx hb hd ht (fun q => absurd q hc) (fun _ => k H locs la h0 h1 h2 h3)
    · exact lv_if_ge hx hb hd ht (fun _ => k H locs la h0 h1 h2 h3) (fun q => absurd hc q)
    · exact lv_if_ge hx hb hd ht (fun q => absurd q hc) (fun _ => k H locs la h0 h1 h2 h3)
    · exact lv_if_gt hx hb hd ht (fun _ => k H locs la h0 h1 h2 h3) (fun q => absurd hc q)
    · exact lv_if_gt hx hb hd ht (fun q => absurd q hc) (fun _ => k H locs la h0 h1 h2 h3)
    · exact lv_if_le hx hb hd ht (fun _ => k H locs la h0 h1 h2 h3) (fun q => absurd hc q)
    · exact lv_if_le hx hb hd ht (fun q => absurd q hc) (fun _ => k H locs la h0 h1 h2 h3)
  · cases ho
theorem k_icmp {cd : ClassFile.Cond} {off : Int} (hx : p.tables.exec = Jvm.exec) (hb : c.code = cc) (hd : decode cc pc = .ok (.if_icmp cd off, 3)) (ht : (pc : Int) + off = (a : Int)) (hn : np = pc + 3) (ho : o_icmp cd np a ls st h = some (.inr (.inl g))) (k : KK D b0 ca ra p l e R s m args below meth c Q n0 nL g) : KK D b0 ca ra p l e R s m args below meth c Q n0 nL (pc, ls, st, h) := by
  subst hn
  unfold o_icmp at ho
  split at ho
  next y x r =>
    cases cd <;> simp only at ho <;> split at ho <;> rename_i hc <;> cases ho <;> intro H locs la h0 h1 h2 h3
    · exact lv_icmp_eq hx hb hd ht (fun _ => k H locs la h0 h1 h2 h3) (fun q => absurd hc q)
    · exact lv_icmp_eq hx hb hd ht (fun q => absurd q hc) (fun _ => k H locs la h0 h1 h2 h3)
    · exact lv_icmp_ne hx hb hd ht (fun q => absurd hc q) (fun _ => k H locs la h0 h1 h2 h3)
    · exact lv_icmp_ne hx hb hd ht (fun _ => k H locs la h0 h1 h2 h3) (fun q => absurd q hc)
    · exact lv_icmp_lt hx hb hd ht (fun _ => k H locs la h0 h1 h2 h3) (fun q => absurd hc q)
    · exact lv_icmp_lt hx hb hd ht (fun q => absurd q hc) (fun _ => k H locs la h0 h1 h2 h3)
    · exact lv_icmp_ge hx hb hd ht (fun _ => k H locs la h0 h1 h2 h3) (fun q => absurd hc q)
    · exact lv_icmp_ge hx hb hd ht (fun q => absurd q hc) (fun _ => k H locs la h0 h1 h2 h3)
    · exact lv_icmp_gt hx hb hd ht (fun _ => k H locs la h0 h1 h2 h3) (fun q => absurd hc q)
    · exact lv_icmp_gt hx hb hd ht (fun q => absurd q hc) (fun _ => k H locs la h0 h1 h2 h3)
    · exact lv_icmp_le hx hb hd ht (fun _ => k H locs la h0 h1 h2 h3) (fun q => absurd hc q)
    · exact lv_icmp_le hx hb hd ht (fun q => absurd q hc) (fun _ => k H locs la h0 h1 h2 h3)
  · cases ho
theorem k_goto {off : Int} (hx : p.tables.exec = Jvm.exec) (hb : c.code = cc) (hd : decode cc pc = .ok (.goto off, 3)) (ht : (pc : Int) + off = (a : Int)) (ho : go a ls st h = some (.inr (.inl g))) (k : KK D b0 ca ra p l e R s m args below meth c Q n0 nL g) : KK D b0 ca ra p l e R s m args below meth c Q n0 nL (pc, ls, st, h) := by
  cases ho
  intro H locs la h0 h1 h2 h3
  exact lv_goto hx hb hd ht (k H locs la h0 h1 h2 h3)
theorem k_sw {dflt lo hi : Int} {offs : Array Int} {len : Nat} (hx : p.tables.exec = Jvm.exec) (hb : c.code = cc) (hd : decode cc pc = .ok (.tableswitch dflt lo hi offs, len)) (ho : o_sw pc dflt lo hi offs ls st h = some (.inr (.inl g))) (k : KK D b0 ca ra p l e R s m args below meth c Q n0 nL g) : KK D b0 ca ra p l e R s m args below meth c Q n0 nL (pc, ls, st, h) := by
  unfold o_sw at ho
  split at ho
  next x r =>
    split at ho
    next hc =>
      split at ho
      next hz =>
        cases ho
        intro H locs la h0 h1 h2 h3
        exact lv_tableOut hx hb hd hc (Int.toNat_of_nonneg hz).symm (k H locs la h0 h1 h2 h3)
      · cases ho
    next hc =>
      split at ho
      next off hoff =>
        split at ho
        next hz =>
          cases ho
          intro H locs la h0 h1 h2 h3
          exact lv_tableIn hx hb hd (fun q => hc (Or.inl q)) (fun q => hc (Or.inr q)) hoff (Int.toNat_of_nonneg hz).symm (k H locs la h0 h1 h2 h3)
        · cases ho
      · cases ho
  · cases ho
theorem k_dup (hx : p.tables.exec = Jvm.exec) (hb : c.code = cc) (hd : decode cc pc = .ok (.dup, 1)) (hn : np = pc + 1) (ho : o_dup np ls st h = some (.inr (.inl g))) (k : KK D b0 ca ra p l e R s m args below meth c Q n0 nL g) : KK D b0 ca ra p l e R s m args below meth c Q n0 nL (pc, ls, st, h) := by
  subst hn
  unfold o_dup at ho
  split at ho
  · split at ho
    next hc =>
      cases ho
      intro H locs la h0 h1 h2 h3
      exact lv_dup hx hb hd (by rw [cv_cat]; exact of_decide_eq_true hc) (k H locs la h0 h1 h2 h3)
    · cases ho
  · cases ho
theorem k_dup2 (hx : p.tables.exec = Jvm.exec) (hb : c.code = cc) (hd : decode cc pc = .ok (.dup2, 1)) (hn : np = pc + 1) (ho : o_dup2 np ls st h = some (.inr (.inl g))) (k : KK D b0 ca ra p l e R s m args below meth c Q n0 nL g) : KK D b0 ca ra p l e R s m args below meth c Q n0 nL (pc, ls, st, h) := by
  subst hn
  unfold o_dup2 at ho
  split at ho
  · split at ho
    next hc =>
      cases ho
      intro H locs la h0 h1 h2 h3
      obtain ⟨c1, c2⟩ := Bool.and_eq_true_iff.mp hc
      exact lv_dup2_11 hx hb hd (by rw [cv_cat]; exact of_decide_eq_true c1) (by rw [cv_cat]; exact of_decide_eq_true c2) (k H locs la h0 h1 h2 h3)
    · cases ho
  · cases ho
theorem k_dupx2 (hx : p.tables.exec = Jvm.exec) (hb : c.code = cc) (hd : decode cc pc = .ok (.dup_x2, 1)) (hn : np = pc + 1) (ho : o_dupx2 np ls st h = some (.inr (.inl g))) (k : KK D b0 ca ra p l e R s m args below meth c Q n0 nL g) : KK D b0 ca ra p l e R s m args below meth c Q n0 nL (pc, ls, st, h) := by
  subst hn
  unfold o_dupx2 at ho
  split at ho
  · split at ho
    next hc =>
      cases ho
      intro H locs la h0 h1 h2 h3
      obtain ⟨c1, c2⟩ := Bool.and_eq_true_iff.mp hc
      obtain ⟨c2, c3⟩ := Bool.and_eq_true_iff.mp c2
      exact lv_dup_x2 hx hb hd (by rw [cv_cat]; exact of_decide_eq_true c1) (by rw [cv_cat]; exact of_decide_eq_true c2) (by rw [cv_cat]; exact of_decide_eq_true c3) (k H locs la h0 h1 h2 h3)
    · cases ho
  · cases ho
end OPS
