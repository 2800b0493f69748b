/-! ===== the two objects are made: what holds then ===== -/
def sc0 : Nat × (Nat → Int32) := (0, fun _ => 0)
/-- the methods that make objects -/
def iniS : List Nat := [0, 8, 22, 30, 35, 40, 47, 72, 86, 96, 156]
/-- an instruction that reads no row of ints and no length -/
def nsc (e : E5) : Bool := match e.1 with
  | .iaload => false
  | .arraylength => false
  | _ => true
def execK : Nat → Nat → Nat → PC → Option PRes
  | 0, _, _, _ => none
  | f + 1, d, y, c => if iniS.contains y = true then (match stp sc0 y c with
    | none => none
    | some (.inl r) => some r
    | some (.inr (.inl c')) => execK f d y c'
    | some (.inr (.inr (y', args, pc, ls, st, h))) => match d with
      | 0 => none
      | d' + 1 => match execK f d' y' (ent0 y' args h) with
        | none => none
        | some (v, h') => execK f (d' + 1) y (pc, ls, v.toList ++ st, h')) else none
def chkM (h : PH) : Bool := decide (hN h = 164) && (refL.all (fun e => decide (hR h e.1 e.2.1 = some e.2.2)) && (decide (hI h 0 14 = hI h 124 0) && ((List.range 6).all (fun f => decide (hI h 47 f = hI h 125 f)) && (decide (hI h 0 15 = hI h 124 2) && (decide (hL h 0 16 = hL h 124 3) && (decide (hL h 0 17 = hL h 124 4) && (decide (hL h 0 18 = hL h 124 5) && ((List.range 6).all (fun r => decide (hI h (48 + 2 * r) 1 = -1) && (decide (hI h 126 r < 0) && (List.range 40).all (fun j => decide (hI h 127 (40 * r + j) = hI h (49 + 2 * r) j)))) && ((List.range 4).all (fun t => decide (hI h (60 + 2 * t) 1 = -1) && (decide (hI h 129 t < 0) && (List.range 60).all (fun j => decide (hI h 130 (60 * t + j) = hI h (61 + 2 * t) j)))) && (List.range 8).all (fun s => decide (hI h (68 + 7 * s) 6 = -1) && decide (hI h 134 s = 0)))))))))))
def runK : Bool := match execK 2000 19 96 (ent0 96 [.ref 0] (nH hZ)) with
  | some (none, h1) => decide (hN h1 = 124) && (match execK 2000 19 156 (ent0 156 [.ref 124] (nH h1)) with
    | some (none, h2) => chkM h2
    | _ => false)
  | _ => false
section IN
variable {sc : Nat × (Nat → Int32)} {h : PH} {Q : PRes → Prop}
theorem look_m : ∀ (l : List (Nat × E5)) (pc : Nat) (e : E5), look l pc = some e → ∃ x, x ∈ l ∧ x.2 = e
  | [], _, _, h => by cases h
  | a :: l, pc, e, h => by
    unfold look at h
    cases z : Nat.beq a.1 pc
    · rw [z] at h
      obtain ⟨x, h1, h2⟩ := look_m l pc e h
      exact ⟨x, List.mem_cons_of_mem _ h1, h2⟩
    · rw [z] at h
      cases h
      exact ⟨a, List.mem_cons_self .., rfl⟩
theorem opr_sc {rt : Option FieldType} {pc : Nat} {e : E5} {ls : List (Option Value)} {st : List Value} (hn : nsc e = true) : opr sc rt pc e ls st h = opr sc0 rt pc e ls st h := by
  obtain ⟨i, np, a, b, v⟩ := e
  cases i <;> first | (cases hn; done) | rfl
theorem ini_n : iniS.all (fun y => (insT y).all (fun e => nsc e.2)) = true := by decide +kernel
theorem stp_sc {y : Nat} {c : PC} (hy : iniS.contains y = true) : stp sc y c = stp sc0 y c := by
  obtain ⟨pc, ls, st, h⟩ := c
  show (match look (insT y) pc with | some e => opr sc (mR y) pc e ls st h | none => none) = (match look (insT y) pc with | some e => opr sc0 (mR y) pc e ls st h | none => none)
  cases z : look (insT y) pc with
  | none => rfl
  | some e =>
    obtain ⟨x, h1, h2⟩ := look_m _ _ _ z
    have h3 := List.all_eq_true.mp ini_n y (List.contains_iff_mem.mp hy)
    have h4 := List.all_eq_true.mp h3 x h1
    rw [h2] at h4
    exact opr_sc h4
theorem execK_ok : ∀ (f d y : Nat) (c : PC) (r : PRes), execK f d y c = some r → exec sc f d y c = some r
  | 0, _, _, _, _, h => by cases h
  | f + 1, d, y, c, r, h => by
    unfold execK at h
    by_cases hy : iniS.contains y = true
    · rw [if_pos hy] at h
      unfold exec
      rw [stp_sc hy]
      split at h
      · cases h
      next r' hr => rw [hr]; exact h
      next c' hr => rw [hr]; exact execK_ok f d y c' r h
      next y' args pc ls st h1 hr =>
        rw [hr]
        dsimp only
        split at h
        · cases h
        next d' =>
          split at h
          · cases h
          next v h' hv =>
            show (match exec sc f d' y' (ent0 y' args h1) with | none => none | some (v, h') => exec sc f (d' + 1) y (pc, ls, v.toList ++ st, h')) = some r
            rw [execK_ok f d' y' _ _ hv]
            exact execK_ok f (d' + 1) y _ r h
    · rw [if_neg hy] at h
      cases h
theorem runK_t : runK = true := by decide +kernel
theorem ini_all : ∃ h1 h2, hN h1 = 124 ∧ chkM h2 = true ∧ (∀ (sc : Nat × (Nat → Int32)) (Q : PRes → Prop), Tr sc 19 96 (ent0 96 [.ref 0] (nH hZ)) Q = Q (none, h1)) ∧ ∀ (sc : Nat × (Nat → Int32)) (Q : PRes → Prop), Tr sc 19 156 (ent0 156 [.ref 124] (nH h1)) Q = Q (none, h2) := by
  have t := runK_t
  unfold runK at t
  split at t
  next h1 e1 =>
    rw [Bool.and_eq_true] at t
    obtain ⟨t1, t2⟩ := t
    split at t2
    next h2 e2 =>
      exact ⟨h1, h2, of_decide_eq_true t1, t2, fun sc Q => Tr_val ⟨_, _, execK_ok (sc := sc) _ _ _ _ _ e1, rfl⟩, fun sc Q => Tr_val ⟨_, _, execK_ok (sc := sc) _ _ _ _ _ e2, rfl⟩⟩
    · cases t2
  · cases t
theorem chk_CM (t : chkM h = true) : CM h := by
  unfold chkM at t
  simp only [Bool.and_eq_true, decide_eq_true_eq, List.all_eq_true, List.mem_range] at t
  obtain ⟨a1, a2, a3, a4, a5, a6, a7, a8, a9, a10, a11⟩ := t
  refine ⟨⟨a1, a2⟩, ⟨a3, a4, a5, a6, a7, a8⟩, fun r hr => ?_, fun r hr => ?_, fun s hs => Or.inl (a11 s hs)⟩
  · obtain ⟨b1, b2, b3⟩ := a9 r hr
    exact ⟨Or.inl ⟨b1, b2⟩, b3⟩
  · obtain ⟨b1, b2, b3⟩ := a10 r hr
    exact ⟨Or.inl ⟨b1, b2⟩, b3⟩
/-- the law, from its first instruction -/
theorem law_all (hB : ∀ sc, AllB sc) : PureLaw := by
  intro L xs hL
  obtain ⟨h1, h2, n1, t2, eq1, eq2⟩ := ini_all
  have cm := chk_CM t2
  have lp := law_loop (sc := (L, xs)) (Q := fun r => r.1 = some (.int 1) ∧ hN r.2 = 164) (hB (L, xs)) hL (fun h hc => ⟨rfl, hc.1.1⟩) 4000 0 (by show L < 0 + 4000; omega) (by omega) h2 cm
  have key : Tr (L, xs) 20 259 (ent0 259 [.ref 1004] hZ) (fun r => r.1 = some (.int 1) ∧ hN r.2 = 164) := by
    have z0 : hN hZ = 0 := rfl
    have ok1 : okp (nH hZ) 0 9 = true := by decide
    have ok2 : okp (nH h1) 124 10 = true := by
      unfold okp
      rw [hN_nH, n1]
      decide
    rw [e_259, x_259_0, z0, x_259_3, x_259_4, eq1]
    refine ⟨⟨by decide, by decide, by decide⟩, ok1, ?_⟩
    show Tr (L, xs) 20 259 (7, [some (.ref 1004), none, none, none], [.ref 0], h1) _
    rw [x_259_7, x_259_8, n1, x_259_11, x_259_12, eq2]
    refine ⟨⟨by decide, by decide, by decide⟩, ok2, ?_⟩
    show Tr (L, xs) 20 259 (15, [cl2 (some (.ref 1004)), some (.ref 0), none, none], [.ref 124], h2) _
    rw [x_259_15, x_259_16, x_259_17]
    exact lp
  obtain ⟨f, ⟨v, h'⟩, e1, e2, e3⟩ := key
  dsimp only at e2 e3
  subst e2
  exact ⟨f, h', e1, by rw [e3]; decide⟩
end IN
