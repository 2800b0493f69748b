/-! ===== the class's net: each kind of step keeps what holds ===== -/
section NS
variable {sc : Nat × (Nat → Int32)} {d : Nat} {Q : PRes → Prop} {h h' h1 H G : PH} {i j k n t u v w a b r p je step : Nat} {eC : Nat → Nat → Bool} {N fr low nx last low' nx' : Nat → Nat} {Rt : Nat → Prop} {cb : Nat → Bool} {st ch l m : List Nat} {E : Nat → Nat → Prop}
theorem lst_eq : ∀ (l : List Nat) (b : Nat), (∀ u, u ∈ l → low' u = low u ∧ nx' u = nx u) → Lst E n N fr low nx Rt l b → Lst E n N fr low' nx' Rt l b
  | [], _, _, _ => trivial
  | u :: l, b, h, L => by
    obtain ⟨h1, h2⟩ := h u (List.mem_cons_self ..)
    refine ⟨fun hr t ht => ?_, lst_eq l (N u) (fun x hx => h x (List.mem_cons_of_mem _ hx)) L.2⟩
    rw [h1, h2]
    exact L.1 hr t ht
theorem st_ne (J : Jv E n N fr last Rt k (v :: l)) : ∀ u, u ∈ l → u ≠ v := by
  intro u hu e
  have := (List.pairwise_cons.mp J.2.2.2.2.1).1 u hu
  rw [e] at this
  omega
theorem upN_e {f : Nat → Nat} {x : Nat} : upN f i x i = x := if_pos rfl
theorem upN_n {f : Nat → Nat} {x : Nat} (hu : u ≠ i) : upN f i x u = f u := if_neg hu
/-- the top has tried w, and no point got a number: low numbers and nexts -/
theorem x_try {e1 lw : Nat} (X : XI h eC n r Rt N fr low nx last cb k je (v :: l) ch) (hw : nx v = w) (hwn : w < n) (hj : eC v w = true → N w ≠ 0) (hl : low' = upN low v lw) (hl1 : eC v w = true → (Rt v ∨ w ≠ fr v) → lw = min (low v) (N w)) (hl2 : ¬ (eC v w = true ∧ (Rt v ∨ w ≠ fr v)) → lw = low v) (he : e1 = en eC v w) (I : NtI H n N fr low' (upN nx v (w + 1)) Rt cb k (je + e1)) : XI H eC n r Rt N fr low' (upN nx v (w + 1)) last cb k (je + e1) (v :: l) ch ∧ muS n N (upN nx v (w + 1)) (v :: l) < muS n N nx (v :: l) := by
  obtain ⟨-, J, L, B, je', kk, cu, rt, rr, cc, oth⟩ := X
  obtain ⟨vn, v0⟩ := J.2.2.2.1 v (List.mem_cons_self ..)
  have ne := st_ne J
  obtain ⟨b1, b2, b3, b4⟩ := B v vn v0
  have j1 := J.1
  refine ⟨⟨I, J, ⟨fun hr t ht => ?_, ?_⟩, fun u hu h0 => ?_, ?_, kk, cu, rt, rr, cc, oth⟩, ?_⟩
  · have h1 := L.1 hr
    rw [hw] at h1
    rw [upN_e]
    refine lw_try (c := eC v w = true ∧ w ≠ fr v) (low := low) hwn h1 Iff.rfl hj ?_ t ht
    rw [hl, upN_e]
    by_cases q : eC v w = true ∧ w ≠ fr v
    · exact Or.inr ⟨hl1 q.1 (Or.inr q.2), q⟩
    · exact Or.inl ⟨hl2 (fun z => q ⟨z.1, z.2.elim (fun y => absurd y hr) id⟩), q⟩
  · exact lst_eq l (N v) (fun u hu => ⟨by rw [hl, upN_n (ne u hu)], upN_n (ne u hu)⟩) L.2
  · obtain ⟨c1, c2, c3, c4⟩ := B u hu h0
    by_cases e : u = v
    · subst e
      rw [upN_e, hl, upN_e]
      refine ⟨by omega, ?_, fun q => absurd (List.mem_cons_self ..) q, fun x hx he => ?_⟩
      · by_cases q : eC u w = true ∧ (Rt u ∨ w ≠ fr u)
        · rw [hl1 q.1 q.2]; omega
        · rw [hl2 q]; exact c2
      · by_cases ex : x = w
        · rw [ex] at he ⊢; exact hj he
        · exact c4 x (by omega) he
    · rw [upN_n e, hl, upN_n e]
      exact ⟨c1, c2, c3, c4⟩
  · unfold jeS
    have s1 := sN_up (f := fun u => if N u = 0 then 0 else sN (fun w => en eC u w) (nx u)) (g := fun u => if N u = 0 then 0 else sN (fun w => en eC u w) (upN nx v (w + 1) u)) (i := v) (fun u hu => by rw [upN_n hu]) n vn
    try dsimp only at s1
    rw [if_neg v0, if_neg v0, upN_e, hw] at s1
    have s2 : sN (fun x => en eC v x) (w + 1) = sN (fun x => en eC v x) w + en eC v w := rfl
    unfold jeS at je'
    omega
  · unfold muS
    have s1 := sN_up (f := fun u => if N u = 0 then n + 2 else n - nx u) (g := fun u => if N u = 0 then n + 2 else n - upN nx v (w + 1) u) (i := v) (fun u hu => by rw [upN_n hu]) n vn
    try dsimp only at s1
    rw [if_neg v0, if_neg v0, upN_e, hw] at s1
    omega
/-- w gets its number, and comes onto the stack -/
theorem x_ent (X : XI h eC n r Rt N fr low nx last cb k je (v :: l) ch) (hw : nx v = w) (hwn : w < n) (hj : eC v w = true) (h0 : N w = 0) (I : NtI H n (upN N w (k + 1)) (upN fr w v) (upN low w (k + 1)) (upN (upN nx v (w + 1)) w 0) Rt cb (k + 1) (je + 1)) : XI H eC n r Rt (upN N w (k + 1)) (upN fr w v) (upN low w (k + 1)) (upN (upN nx v (w + 1)) w 0) last cb (k + 1) (je + 1) (w :: v :: l) ch ∧ muS n (upN N w (k + 1)) (upN (upN nx v (w + 1)) w 0) (w :: v :: l) < muS n N nx (v :: l) := by
  obtain ⟨-, J, L, B, je', kk, cu, rt, rr, cc, oth⟩ := X
  obtain ⟨vn, v0⟩ := J.2.2.2.1 v (List.mem_cons_self ..)
  have nr : ¬ Rt w := fun q => (J.2.2.2.2.2.2.2.2 w q).2 h0
  have vw : v ≠ w := fun e => v0 (by rw [e]; exact h0)
  have ws : ¬ w ∈ v :: l := fun q => (J.2.2.2.1 w q).2 h0
  have cn : ∀ q, CutF (EB eC) n (upN N w (k + 1)) (upN fr w v) last Rt (w :: v :: l) q ↔ CutF (EB eC) n N fr last Rt (v :: l) q := fun q => cut_n J h0 (fun x hx => upN_n hx) (fun x _ => Iff.rfl) (fun x hx => by rw [List.mem_cons]; exact ⟨fun z => z.elim (fun y => absurd y hx) id, Or.inr⟩) (List.mem_cons_self ..)
  have chm : ∀ r' c, (c < n ∧ upN N w (k + 1) c ≠ 0 ∧ ¬ Rt c ∧ upN fr w v c = r' ∧ ¬ c ∈ w :: v :: l) ↔ (c < n ∧ N c ≠ 0 ∧ ¬ Rt c ∧ fr c = r' ∧ ¬ c ∈ v :: l) := by
    intro r' c
    by_cases e : c = w
    · subst e
      exact ⟨fun q => absurd (List.mem_cons_self ..) q.2.2.2.2, fun q => absurd h0 q.2.1⟩
    · rw [upN_n e, upN_n e, List.mem_cons (a := c) (b := w)]
      exact ⟨fun q => ⟨q.1, q.2.1, q.2.2.1, q.2.2.2.1, fun z => q.2.2.2.2 (Or.inr z)⟩, fun q => ⟨q.1, q.2.1, q.2.2.1, q.2.2.2.1, fun z => z.elim e q.2.2.2.2⟩⟩
  refine ⟨⟨I, jv_push J hwn h0 hj, lst_push J h0 L hw rfl rfl, fun u hu hu0 => ?_, ?_, ?_, fun q hq hr => by rw [cn q]; exact cu q hq hr, fun u hu hr => ?_, rr, ⟨cc.1, fun c => by rw [chm]; exact cc.2 c⟩, fun r' h1 h2 => ?_⟩, ?_⟩
  · by_cases e : u = w
    · subst e
      rw [upN_e, upN_e]
      exact ⟨Nat.zero_le _, by omega, fun q => absurd (List.mem_cons_self ..) q, fun x hx => absurd hx (Nat.not_lt_zero _)⟩
    · rw [upN_n e] at hu0
      obtain ⟨c1, c2, c3, c4⟩ := B u hu hu0
      have up : ∀ x, N x ≠ 0 → upN N w (k + 1) x ≠ 0 := fun x hx => by
        by_cases ex : x = w
        · rw [ex, upN_e]; omega
        · rw [upN_n ex]; exact hx
      by_cases e2 : u = v
      · subst e2
        rw [upN_n e, upN_e, upN_n e]
        refine ⟨by omega, by omega, fun q => absurd (List.mem_cons_of_mem _ (List.mem_cons_self ..)) q, fun x hx he => ?_⟩
        by_cases ex : x = w
        · rw [ex, upN_e]; omega
        · exact up x (c4 x (by omega) he)
      · rw [upN_n e, upN_n e2, upN_n e]
        refine ⟨c1, by omega, fun q => c3 (fun z => q (List.mem_cons_of_mem _ z)), fun x hx he => up x (c4 x hx he)⟩
  · unfold jeS at *
    have s1 := sN_up (f := fun u => if N u = 0 then 0 else sN (fun w => en eC u w) (nx u)) (g := fun u => if N u = 0 then 0 else sN (fun w => en eC u w) (upN nx v (w + 1) u)) (i := v) (fun u hu => by rw [upN_n hu]) n vn
    try dsimp only at s1
    rw [if_neg v0, if_neg v0, upN_e, hw] at s1
    have s2 : sN (fun x => en eC v x) (w + 1) = sN (fun x => en eC v x) w + en eC v w := rfl
    have s3 : en eC v w = 1 := if_pos hj
    have s4 := sN_cg (h := fun u => if upN N w (k + 1) u = 0 then 0 else sN (fun x => en eC u x) (upN (upN nx v (w + 1)) w 0 u)) (h' := fun u => if N u = 0 then 0 else sN (fun x => en eC u x) (upN nx v (w + 1) u)) n (fun u hu => by
      by_cases e : u = w
      · subst e
        rw [upN_e, upN_e, if_neg (by omega), if_pos h0]; rfl
      · rw [upN_n e, upN_n e])
    omega
  · have s1 := sN_up (f := fun u => if N u = 0 then 0 else 1) (g := fun u => if upN N w (k + 1) u = 0 then 0 else 1) (i := w) (fun u hu => by rw [upN_n hu]) n hwn
    try dsimp only at s1
    rw [if_pos h0, upN_e, if_neg (by omega)] at s1
    omega
  · rcases List.mem_cons.mp hu with q | q
    · rw [q] at hr; exact absurd hr nr
    · exact rt u q hr
  · obtain ⟨ch', ⟨q1, q2⟩, q3⟩ := oth r' h1 h2
    exact ⟨ch', ⟨q1, fun c => by rw [chm]; exact q2 c⟩, q3⟩
  · unfold muS
    have s1 := sN_up (f := fun u => if N u = 0 then n + 2 else n - nx u) (g := fun u => if N u = 0 then n + 2 else n - upN nx v (w + 1) u) (i := v) (fun u hu => by rw [upN_n hu]) n vn
    try dsimp only at s1
    rw [if_neg v0, if_neg v0, upN_e, hw] at s1
    have s2 := sN_up (f := fun u => if N u = 0 then n + 2 else n - upN nx v (w + 1) u) (g := fun u => if upN N w (k + 1) u = 0 then n + 2 else n - upN (upN nx v (w + 1)) w 0 u) (i := w) (fun u hu => by rw [upN_n hu, upN_n hu]) n hwn
    try dsimp only at s2
    rw [if_pos h0, upN_e, if_neg (show ¬ k + 1 = 0 by omega), upN_e] at s2
    rw [List.length_cons (a := w)]
    omega
/-- the root is left: the last of the stack -/
theorem x_lv0 (sy : ∀ x y, EB eC x y → EB eC y x) (X : XI h eC n r Rt N fr low nx last cb k je [v] ch) (hv : nx v = n) : XI h eC n r Rt N fr low nx (upN last v k) cb k je [] ch := by
  obtain ⟨I, J, L, B, je', kk, cu, rt, rr, cc, oth⟩ := X
  obtain ⟨vn, v0⟩ := J.2.2.2.1 v (List.mem_cons_self ..)
  obtain ⟨b1, b2, b3, b4⟩ := B v vn v0
  rw [hv] at b4
  have hr : Rt v := J.2.2.2.2.2.1
  have tr : ∀ x, x < n → EB eC v x → N x ≠ 0 := fun x hx he => b4 x hx he
  have chm : ∀ r' c, (c < n ∧ N c ≠ 0 ∧ ¬ Rt c ∧ fr c = r' ∧ ¬ c ∈ ([] : List Nat)) ↔ (c < n ∧ N c ≠ 0 ∧ ¬ Rt c ∧ fr c = r' ∧ ¬ c ∈ [v]) := fun r' c => ⟨fun q => ⟨q.1, q.2.1, q.2.2.1, q.2.2.2.1, fun z => q.2.2.1 (by rw [List.mem_singleton.mp z]; exact hr)⟩, fun q => ⟨q.1, q.2.1, q.2.2.1, q.2.2.2.1, fun z => by cases z⟩⟩
  refine ⟨I, jv_leave sy J tr, trivial, fun u hu h0 => ?_, je', kk, fun q hq hn => ?_, fun u hu => (by cases hu), rr, ⟨cc.1, fun c => by rw [chm]; exact cc.2 c⟩, fun r' h1 h2 => ?_⟩
  · obtain ⟨c1, c2, c3, c4⟩ := B u hu h0
    refine ⟨c1, c2, fun _ => ?_, c4⟩
    by_cases e : u = v
    · rw [e]; exact hv
    · exact c3 (fun z => e (List.mem_singleton.mp z))
  · rw [cut_leave (low := low) sy J tr (fun z => absurd hr z)]
    rw [cu q hq hn]
    exact ⟨Or.inl, fun z => z.elim id (fun y => absurd hr y.1)⟩
  · obtain ⟨ch', ⟨q1, q2⟩, q3⟩ := oth r' h1 h2
    exact ⟨ch', ⟨q1, fun c => by rw [chm]; exact q2 c⟩, q3⟩
/-- another point is left: what its parent learns -/
theorem x_lv1 {cb' : Nat → Bool} {ch' : List Nat} (sy : ∀ x y, EB eC x y → EB eC y x) (X : XI h eC n r Rt N fr low nx last cb k je (v :: p :: m) ch) (hv : nx v = n) (hl : low' = upN low p (min (low p) (low v))) (hcb : cb' = fun x => if x = p ∧ p ≠ r ∧ N p ≤ low v then true else cb x) (hch : ch' = if p = r then ch ++ [v] else ch) (I : NtI H n N fr low' nx Rt cb' k je) : XI H eC n r Rt N fr low' nx (upN last v k) cb' k je (p :: m) ch' := by
  obtain ⟨-, J, L, B, je', kk, cu, rt, rr, cc, oth⟩ := X
  obtain ⟨vn, v0⟩ := J.2.2.2.1 v (List.mem_cons_self ..)
  obtain ⟨b1, b2, b3, b4⟩ := B v vn v0
  rw [hv] at b4
  have tr : ∀ x, x < n → EB eC v x → N x ≠ 0 := fun x hx he => b4 x hx he
  obtain ⟨nr, fv, -⟩ := J.2.2.2.2.2.1
  have ne := st_ne J
  have pm : p ∈ v :: p :: m := List.mem_cons_of_mem _ (List.mem_cons_self ..)
  have vp : v ≠ p := fun e => ne p (List.mem_cons_self ..) e.symm
  have low_t : ¬ Rt v → ∀ t, t ≤ N (fr v) → (low v < t ↔ Lwt (EB eC) n N v n (k + 1) t) := fun q t ht => by
    have := L.1 q t ht
    rw [hv] at this
    exact this
  have pr : Rt p → p = r := rt p pm
  have chm : ∀ r', fr v ≠ r' → ∀ c, (c < n ∧ N c ≠ 0 ∧ ¬ Rt c ∧ fr c = r' ∧ ¬ c ∈ p :: m) ↔ (c < n ∧ N c ≠ 0 ∧ ¬ Rt c ∧ fr c = r' ∧ ¬ c ∈ v :: p :: m) := fun r' hne c => by
    rw [List.mem_cons (a := c) (b := v)]
    exact ⟨fun q => ⟨q.1, q.2.1, q.2.2.1, q.2.2.2.1, fun z => z.elim (fun y => hne (by rw [← y]; exact q.2.2.2.1)) q.2.2.2.2⟩, fun q => ⟨q.1, q.2.1, q.2.2.1, q.2.2.2.1, fun z => q.2.2.2.2 (Or.inr z)⟩⟩
  refine ⟨I, jv_leave sy J tr, lst_leave J L hv hl, fun u hu h0 => ?_, je', kk, fun q hq hn => ?_, fun u hu hr => rt u (List.mem_cons_of_mem _ hu) hr, ⟨rr.1, rr.2.1, ?_⟩, ?_, fun r' h1 h2 => ?_⟩
  · obtain ⟨c1, c2, c3, c4⟩ := B u hu h0
    refine ⟨c1, ?_, fun q => ?_, c4⟩
    · rw [hl]
      by_cases e : u = p
      · subst e
        rw [upN_e]; omega
      · rw [upN_n e]; exact c2
    · by_cases e : u = v
      · rw [e]; exact hv
      · exact c3 (fun z => (List.mem_cons.mp z).elim e q)
  · rw [cut_leave (low := low) sy J tr low_t, ← cu q hq hn, hcb]
    show ((if q = p ∧ p ≠ r ∧ N p ≤ low v then true else cb q) = true) ↔ _
    by_cases e : q = p ∧ p ≠ r ∧ N p ≤ low v
    · rw [if_pos e]
      exact ⟨fun _ => Or.inr ⟨nr, by rw [fv, e.1], by rw [e.1]; omega⟩, fun _ => rfl⟩
    · rw [if_neg e]
      constructor
      · exact Or.inl
      · rintro (z | ⟨z1, z2, z3⟩)
        · exact z
        · exfalso
          have qp : q = p := by rw [← z2, fv]
          refine e ⟨qp, fun er => hn ?_, by rw [qp] at z3; omega⟩
          rw [qp, er]; exact rr.2.1
  · rw [hcb]
    show (if r = p ∧ p ≠ r ∧ N p ≤ low v then true else cb r) = false
    rw [if_neg (fun z => z.2.1 z.1.symm)]
    exact rr.2.2
  · rw [hch]
    by_cases e : p = r
    · rw [if_pos e]
      have nv : ¬ v ∈ ch := fun z => ((cc.2 v).mp z).2.2.2.2 (List.mem_cons_self ..)
      refine ⟨?_, fun c => ?_⟩
      · rw [List.nodup_append]
        refine ⟨cc.1, by simp, fun a ha b hb e => ?_⟩
        rw [List.mem_singleton.mp hb] at e
        exact nv (e ▸ ha)
      · rw [List.mem_append, List.mem_singleton, cc.2 c]
        constructor
        · rintro (z | z)
          · exact ⟨z.1, z.2.1, z.2.2.1, z.2.2.2.1, fun y => z.2.2.2.2 (List.mem_cons_of_mem _ y)⟩
          · rw [z]
            exact ⟨vn, v0, nr, by rw [fv, e], fun y => ne v y rfl⟩
        · rintro ⟨z1, z2, z3, z4, z5⟩
          by_cases ev : c = v
          · exact Or.inr ev
          · exact Or.inl ⟨z1, z2, z3, z4, fun y => (List.mem_cons.mp y).elim ev z5⟩
    · rw [if_neg e]
      exact ⟨cc.1, fun c => by rw [chm r (by rw [fv]; exact e)]; exact cc.2 c⟩
  · obtain ⟨ch2, ⟨q1, q2⟩, q3⟩ := oth r' h1 h2
    have pr' : p ≠ r' := fun e => h2 (by rw [← e] at h1 ⊢; exact pr h1)
    refine ⟨ch2, ⟨q1, fun c => by rw [chm r' (by rw [fv]; exact pr')]; exact q2 c⟩, ?_⟩
    rw [hcb]
    show ((if r' = p ∧ p ≠ r ∧ N p ≤ low v then true else cb r') = true) ↔ _
    rw [if_neg (fun z => pr' z.1.symm)]
    exact q3
end NS
