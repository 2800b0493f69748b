/-! ===== parts of a net, and its cuts ===== -/
/-- a way of n joints from u over joints E, all of it in P; a way -/
def WayN (E : Nat → Nat → Prop) (P : Nat → Prop) (u : Nat) : Nat → Nat → Prop
  | 0, v => v = u ∧ P u
  | n + 1, v => ∃ y, WayN E P u n y ∧ E y v ∧ P v
def Way (E : Nat → Nat → Prop) (P : Nat → Prop) (u v : Nat) : Prop := ∃ n, WayN E P u n v
section GR
variable {E : Nat → Nat → Prop} {P P' : Nat → Prop} {u v w a : Nat}
theorem Way.here (h : P u) : Way E P u u := ⟨0, rfl, h⟩
theorem Way.more (h : Way E P u v) (e : E v w) (p : P w) : Way E P u w := by
  obtain ⟨n, h⟩ := h
  exact ⟨n + 1, v, h, e, p⟩
theorem Way.ind (M : Nat → Prop) (h0 : P u → M u) (hs : ∀ v w, Way E P u v → M v → E v w → P w → M w) (h : Way E P u v) : M v := by
  obtain ⟨n, h⟩ := h
  induction n generalizing v with
  | zero =>
    obtain ⟨e, p⟩ := h
    rw [e]; exact h0 p
  | succ n ih =>
    obtain ⟨y, hy, e, p⟩ := h
    exact hs y v ⟨n, hy⟩ (ih hy) e p
theorem Way.l (h : Way E P u v) : P u := h.ind (fun _ => P u) (fun q => q) (fun _ _ _ q _ _ => q)
theorem Way.r (h : Way E P u v) : P v := h.ind P (fun q => q) (fun _ _ _ _ _ q => q)
theorem Way.tr (h : Way E P u v) (h' : Way E P v w) : Way E P u w := h'.ind (fun x => Way E P u x) (fun _ => h) (fun _ _ _ q e p => q.more e p)
theorem Way.sy (sy : ∀ x y, E x y → E y x) (h : Way E P u v) : Way E P v u :=
  h.ind (fun x => Way E P x u) (fun q => .here q) (fun x y q ih e p => (Way.tr (Way.more (.here p) (sy _ _ e) q.r) ih))
theorem Way.wk (hp : ∀ x, P x → P' x) (h : Way E P u v) : Way E P' u v := h.ind (fun x => Way E P' u x) (fun q => .here (hp _ q)) (fun _ _ _ q e p => q.more e (hp _ p))
/-- a way either keeps out of a or comes to it -/
theorem Way.by_ (h : Way E P u v) (hu : u ≠ a) : Way E (fun x => P x ∧ x ≠ a) u v ∨ Way E P u a :=
  h.ind (fun x => Way E (fun x => P x ∧ x ≠ a) u x ∨ Way E P u a) (fun q => Or.inl (.here ⟨q, hu⟩)) (fun y z h ih e p => by
    rcases ih with q | q
    · by_cases ez : z = a
      · exact Or.inr (ez ▸ h.more e p)
      · exact Or.inl (q.more e ⟨p, ez⟩)
    · exact Or.inr q)
/-- what is unlike here has its own fellow there: so there are not fewer there -/
theorem inj_len {α : Type} {r : α → α → Prop} (sy : ∀ x y, r x y → r y x) (tr : ∀ x y z, r x y → r y z → r x z) : ∀ (l l' : List α), l.Pairwise (fun x y => ¬ r x y) → (∀ x, x ∈ l → ∃ y, y ∈ l' ∧ r x y) → l.length ≤ l'.length
  | [], _, _, _ => Nat.zero_le _
  | x :: l, l', hp, hc => by
    obtain ⟨y, y1, y2⟩ := hc x (List.mem_cons_self ..)
    obtain ⟨s, t, e⟩ := List.append_of_mem y1
    subst e
    have hp' := List.pairwise_cons.mp hp
    have ih := inj_len sy tr l (s ++ t) hp'.2 (fun x' hx' => by
      obtain ⟨z, z1, z2⟩ := hc x' (List.mem_cons_of_mem _ hx')
      rcases List.mem_append.mp z1 with q | q
      · exact ⟨z, List.mem_append_left _ q, z2⟩
      · rcases List.mem_cons.mp q with q | q
        · subst q
          exact absurd (tr _ _ _ y2 (sy _ _ z2)) (hp'.1 x' hx')
        · exact ⟨z, List.mem_append_right _ q, z2⟩)
    rw [List.length_append] at ih
    rw [List.length_cons, List.length_append, List.length_cons]
    omega
/-- one of each part -/
def Reps (E : Nat → Nat → Prop) (P : Nat → Prop) (l : List Nat) : Prop := l.Pairwise (fun x y => ¬ Way E P x y) ∧ (∀ x, x ∈ l → P x) ∧ ∀ x, P x → ∃ y, y ∈ l ∧ Way E P x y
theorem reps_len {l l' : List Nat} (sy : ∀ x y, E x y → E y x) (h : Reps E P l) (h' : Reps E P l') : l.length = l'.length :=
  Nat.le_antisymm (inj_len (fun _ _ q => q.sy sy) (fun _ _ _ q q' => q.tr q') l l' h.1 (fun x hx => h'.2.2 x (h.2.1 x hx)))
    (inj_len (fun _ _ q => q.sy sy) (fun _ _ _ q q' => q.tr q') l' l h'.1 (fun x hx => h.2.2 x (h'.2.1 x hx)))
/-- without a, two fall apart that hung together -/
def CutP (E : Nat → Nat → Prop) (P : Nat → Prop) (a : Nat) : Prop := ∃ u v, u ≠ a ∧ v ≠ a ∧ Way E P u v ∧ ¬ Way E (fun x => P x ∧ x ≠ a) u v
theorem cut_le {l l' : List Nat} (sy : ∀ x y, E x y → E y x) (h : Reps E P l) (h' : Reps E (fun x => P x ∧ x ≠ a) l') (hn : ¬ CutP E P a) : l'.length ≤ l.length := by
  refine inj_len (r := Way E P) (fun _ _ q => q.sy sy) (fun _ _ _ q q' => q.tr q') l' l ?_ (fun x hx => h.2.2 x (h'.2.1 x hx).1)
  have key : ∀ m : List Nat, (∀ x, x ∈ m → P x ∧ x ≠ a) → m.Pairwise (fun x y => ¬ Way E (fun x => P x ∧ x ≠ a) x y) → m.Pairwise (fun x y => ¬ Way E P x y) := by
    intro m
    induction m with
    | nil => intro _ _; exact List.Pairwise.nil
    | cons x m ih =>
      intro hm hp
      have hp' := List.pairwise_cons.mp hp
      refine List.pairwise_cons.mpr ⟨fun y hy w => hn ⟨x, y, (hm x (List.mem_cons_self ..)).2, (hm y (List.mem_cons_of_mem _ hy)).2, w, hp'.1 y hy⟩, ih (fun z hz => hm z (List.mem_cons_of_mem _ hz)) hp'.2⟩
  exact key l' h'.2.1 h'.1
theorem cut_lt {l l' : List Nat} (sy : ∀ x y, E x y → E y x) (h : Reps E P l) (h' : Reps E (fun x => P x ∧ x ≠ a) l') (hc : CutP E P a) : l.length < l'.length := by
  obtain ⟨u, v, hu, hv, w1, w2⟩ := hc
  have wa : Way E P u a := by
    rcases w1.by_ hu with q | q
    · exact absurd q w2
    · exact q
  have va : Way E P v a := (w1.sy sy).tr wa
  obtain ⟨c, c1, c2⟩ := h.2.2 a wa.r
  obtain ⟨s, t, e⟩ := List.append_of_mem c1
  subst e
  have hp := List.pairwise_append.mp h.1
  have hp2 := List.pairwise_cons.mp hp.2.1
  have hst : (s ++ t).Pairwise (fun x y => ¬ Way E P x y) := List.pairwise_append.mpr ⟨hp.1, hp2.2, fun x hx y hy => hp.2.2 x hx y (List.mem_cons_of_mem _ hy)⟩
  have hca : ∀ x, x ∈ s ++ t → ¬ Way E P x a := by
    intro x hx w
    have w' := w.tr c2
    rcases List.mem_append.mp hx with q | q
    · exact hp.2.2 x q c (List.mem_cons_self ..) w'
    · exact hp2.1 x q (w'.sy sy)
  have wk : ∀ x y, Way E (fun x => P x ∧ x ≠ a) x y → Way E P x y := fun x y q => q.wk (fun _ z => z.1)
  have hP : ∀ x, x ∈ s ++ t → P x := fun x hx => h.2.1 x (by
    rcases List.mem_append.mp hx with q | q
    · exact List.mem_append_left _ q
    · exact List.mem_append_right _ (List.mem_cons_of_mem _ q))
  have ll : (u :: v :: (s ++ t)).length ≤ l'.length := by
    refine inj_len (r := Way E (fun x => P x ∧ x ≠ a)) (fun _ _ q => q.sy sy) (fun _ _ _ q q' => q.tr q') _ _ ?_ ?_
    · refine List.pairwise_cons.mpr ⟨fun y hy w => ?_, List.pairwise_cons.mpr ⟨fun y hy w => ?_, hst.imp (fun q w => q (wk _ _ w))⟩⟩
      · rcases List.mem_cons.mp hy with q | q
        · rw [q] at w; exact w2 w
        · exact hca y q (((wk _ _ w).sy sy).tr wa)
      · exact hca y hy (((wk _ _ w).sy sy).tr va)
    · intro x hx
      refine h'.2.2 x ?_
      rcases List.mem_cons.mp hx with q | q
      · rw [q]; exact ⟨wa.l, hu⟩
      · rcases List.mem_cons.mp q with q | q
        · rw [q]; exact ⟨va.l, hv⟩
        · exact ⟨hP x q, fun e => hca x q (by rw [e]; exact .here wa.r)⟩
  rw [List.length_append, List.length_cons]
  rw [List.length_cons, List.length_cons, List.length_append] at ll
  omega
/-- more parts without a: just if a is a cut -/
theorem cut_iff {l l' : List Nat} (sy : ∀ x y, E x y → E y x) (h : Reps E P l) (h' : Reps E (fun x => P x ∧ x ≠ a) l') : l.length < l'.length ↔ CutP E P a := by
  constructor
  · intro q
    apply Classical.byContradiction
    intro hn
    have := cut_le sy h h' hn
    omega
  · exact cut_lt sy h h'
end GR
/-! ===== numbers, from whom, up to where: when a point is a cut ===== -/
def Dw (N last : Nat → Nat) (n c y : Nat) : Prop := y < n ∧ N c ≤ N y ∧ N y ≤ last c
/-- what holds when every point has its number -/
def Tj (E : Nat → Nat → Prop) (n : Nat) (N fr last : Nat → Nat) (Rt : Nat → Prop) : Prop :=
  (∀ u v, u < n → v < n → N u = N v → u = v) ∧ (∀ u, u < n → ¬ Rt u → fr u < n ∧ N (fr u) < N u ∧ E (fr u) u) ∧ (∀ u, u < n → N u ≤ last u) ∧
  (∀ c y x, c < n → Dw N last n c y → x < n → E y x → Dw N last n c x ∨ (¬ Rt c ∧ N x ≤ N (fr c))) ∧ ∀ c y, c < n → Dw N last n c y → y ≠ c → ¬ Rt y ∧ Dw N last n c (fr y)
section TJ
variable {E : Nat → Nat → Prop} {n a c c' p r r' u v x y : Nat} {N fr last : Nat → Nat} {Rt : Nat → Prop}
theorem tj_rd (T : Tj E n N fr last Rt) (hr : r < n) (h1 : Rt r) (w : Way E (fun x => x < n) r x) : Dw N last n r x := by
  obtain ⟨t1, t2, t3, t4, t5⟩ := T
  refine Way.ind (E := E) (P := fun x => x < n) (u := r) (fun x => Dw N last n r x) (fun q => ⟨q, Nat.le_refl _, t3 r q⟩) (fun y z _ ih e p => ?_) w
  rcases t4 r y z hr ih p e with q | q
  · exact q
  · exact absurd h1 q.1
theorem tj_root (T : Tj E n N fr last Rt) (hr : r < n) (h1 : Rt r) (h2 : Rt r') (w : Way E (fun x => x < n) r r') : r' = r := by
  have hd := tj_rd T hr h1 w
  apply Classical.byContradiction
  intro h
  exact (T.2.2.2.2 r r' hr hd h).1 h2
/-- all below c hangs together with c, within what is below c -/
theorem tj_up (T : Tj E n N fr last Rt) (sy : ∀ x y, E x y → E y x) (hc : c < n) (P : Nat → Prop) (hP : ∀ x, Dw N last n c x → P x) : ∀ (m y : Nat), N y ≤ m → Dw N last n c y → Way E P y c := by
  obtain ⟨t1, t2, t3, t4, t5⟩ := T
  intro m
  induction m with
  | zero =>
    intro y hm hy
    have e : N y = N c := by have := hy.2.1; omega
    rw [t1 y c hy.1 hc e]
    exact .here (hP c ⟨hc, Nat.le_refl _, t3 c hc⟩)
  | succ m ih =>
    intro y hm hy
    by_cases e : y = c
    · rw [e]; exact .here (hP c ⟨hc, Nat.le_refl _, t3 c hc⟩)
    · obtain ⟨q1, q2⟩ := t5 c y hc hy e
      obtain ⟨f1, f2, f3⟩ := t2 y hy.1 q1
      have w := ih (fr y) (by omega) q2
      exact (Way.more (.here (hP y hy)) (sy _ _ f3) (hP _ q2)).tr w
/-- a point that isn't a root is a cut just if something below it has no way around it -/
theorem tj_cut (T : Tj E n N fr last Rt) (sy : ∀ x y, E x y → E y x) (hp : p < n) (hr : ¬ Rt p) : CutP E (fun x => x < n) p ↔ ∃ c, c < n ∧ ¬ Rt c ∧ fr c = p ∧ ∀ y x, Dw N last n c y → x < n → E y x → ¬ N x < N p := by
  obtain ⟨t1, t2, t3, t4, t5⟩ := id T
  obtain ⟨f1, f2, f3⟩ := t2 p hp hr
  constructor
  · intro hcut
    apply Classical.byContradiction
    intro hno
    have hyes : ∀ c, c < n → ¬ Rt c → fr c = p → ∃ y x, Dw N last n c y ∧ x < n ∧ E y x ∧ N x < N p := by
      intro c h1 h2 h3
      apply Classical.byContradiction
      intro z
      exact hno ⟨c, h1, h2, h3, fun y x a b e l => z ⟨y, x, a, b, e, l⟩⟩
    have cl : ∀ (m u : Nat), N u ≤ m → u < n → u ≠ p → ∃ r, Rt r ∧ Way E (fun x => x < n ∧ x ≠ p) u r := by
      intro m
      induction m with
      | zero =>
        intro u hm hu hne
        by_cases q : Rt u
        · exact ⟨u, q, .here ⟨hu, hne⟩⟩
        · have := (t2 u hu q).2.1; omega
      | succ m ih =>
        intro u hm hu hne
        by_cases q : Rt u
        · exact ⟨u, q, .here ⟨hu, hne⟩⟩
        · obtain ⟨g1, g2, g3⟩ := t2 u hu q
          by_cases e : fr u = p
          · obtain ⟨y, x, d1, d2, d3, d4⟩ := hyes u hu q e
            have hnp : ∀ z, Dw N last n u z → z < n ∧ z ≠ p := fun z hz => ⟨hz.1, fun ez => by
              have := hz.2.1
              rw [ez] at this; rw [e] at g2; omega⟩
            have w1 := (tj_up T sy hu (fun x => x < n ∧ x ≠ p) hnp (N y) y (Nat.le_refl _) d1).sy sy
            have hx : x ≠ p := fun ez => by rw [ez] at d4; omega
            rw [e] at g2
            obtain ⟨r, r1, r2⟩ := ih x (by omega) d2 hx
            exact ⟨r, r1, (w1.more d3 ⟨d2, hx⟩).tr r2⟩
          · obtain ⟨r, r1, r2⟩ := ih (fr u) (by omega) g1 e
            exact ⟨r, r1, (Way.more (.here ⟨hu, hne⟩) (sy _ _ g3) ⟨g1, e⟩).tr r2⟩
    obtain ⟨u, v, u1, v1, w1, w2⟩ := hcut
    obtain ⟨r, r1, r2⟩ := cl (N u) u (Nat.le_refl _) w1.l u1
    obtain ⟨r', r1', r2'⟩ := cl (N v) v (Nat.le_refl _) w1.r v1
    have wk : ∀ {x y}, Way E (fun x => x < n ∧ x ≠ p) x y → Way E (fun x => x < n) x y := fun q => q.wk (fun _ z => z.1)
    have e := tj_root T (wk r2).r r1 r1' ((((wk r2).sy sy).tr w1).tr (wk r2'))
    rw [e] at r2'
    exact w2 (r2.tr (r2'.sy sy))
  · rintro ⟨c, c1, c2, c3, c4⟩
    obtain ⟨g1, g2, g3⟩ := t2 c c1 c2
    rw [c3] at g2 g3
    refine ⟨c, fr p, fun e => by rw [e] at g2; omega, fun e => by rw [e] at f2; omega, ?_, fun w => ?_⟩
    · exact Way.more (Way.more (.here c1) (sy _ _ g3) hp) (sy _ _ f3) f1
    · have hd : Dw N last n c (fr p) := w.ind (fun x => Dw N last n c x) (fun q => ⟨c1, Nat.le_refl _, t3 c c1⟩) (fun y z _ ih e q => by
        rcases t4 c y z c1 ih q.1 e with d | d
        · exact d
        · have h1 := c4 y z ih q.1 e
          rw [c3] at d
          have h2 : N z = N p := by have := d.2; omega
          exact absurd (t1 z p q.1 hp h2) q.2)
      have := hd.2.1
      omega
/-- a root is a cut just if it has two below it -/
theorem tj_cutr (T : Tj E n N fr last Rt) (sy : ∀ x y, E x y → E y x) (hp : r < n) (hr : Rt r) : CutP E (fun x => x < n) r ↔ ∃ c c', c < n ∧ c' < n ∧ ¬ Rt c ∧ ¬ Rt c' ∧ fr c = r ∧ fr c' = r ∧ c ≠ c' := by
  obtain ⟨t1, t2, t3, t4, t5⟩ := id T
  constructor
  · intro hcut
    apply Classical.byContradiction
    intro hno
    have cl : ∀ (m u : Nat), N u ≤ m → u < n → u ≠ r → ∃ t, Way E (fun x => x < n ∧ x ≠ r) u t ∧ ((¬ Rt t ∧ fr t = r) ∨ Rt t) := by
      intro m
      induction m with
      | zero =>
        intro u hm hu hne
        by_cases q : Rt u
        · exact ⟨u, .here ⟨hu, hne⟩, Or.inr q⟩
        · have := (t2 u hu q).2.1; omega
      | succ m ih =>
        intro u hm hu hne
        by_cases q : Rt u
        · exact ⟨u, .here ⟨hu, hne⟩, Or.inr q⟩
        · obtain ⟨g1, g2, g3⟩ := t2 u hu q
          by_cases e : fr u = r
          · exact ⟨u, .here ⟨hu, hne⟩, Or.inl ⟨q, e⟩⟩
          · obtain ⟨t, h1, h2⟩ := ih (fr u) (by omega) g1 e
            exact ⟨t, (Way.more (.here ⟨hu, hne⟩) (sy _ _ g3) ⟨g1, e⟩).tr h1, h2⟩
    obtain ⟨u, v, u1, v1, w1, w2⟩ := hcut
    obtain ⟨s, s1, s2⟩ := cl (N u) u (Nat.le_refl _) w1.l u1
    obtain ⟨t, h1, h2⟩ := cl (N v) v (Nat.le_refl _) w1.r v1
    have wk : ∀ {x y}, Way E (fun x => x < n ∧ x ≠ r) x y → Way E (fun x => x < n) x y := fun q => q.wk (fun _ z => z.1)
    have st : Way E (fun x => x < n) s t := (((wk s1).sy sy).tr w1).tr (wk h1)
    have ch : ∀ z, z < n → ¬ Rt z → fr z = r → Way E (fun x => x < n) r z := fun z z1 z2 z3 => by
      have := (t2 z z1 z2).2.2
      rw [z3] at this
      exact Way.more (.here hp) this z1
    rcases s2 with s2 | s2
    · rcases h2 with h2 | h2
      · have e : s = t := by
          apply Classical.byContradiction
          intro ne
          exact hno ⟨s, t, s1.r.1, h1.r.1, s2.1, h2.1, s2.2, h2.2, ne⟩
        rw [← e] at h1
        exact w2 (s1.tr (h1.sy sy))
      · have := tj_root T hp hr h2 ((ch s s1.r.1 s2.1 s2.2).tr st)
        exact h1.r.2 this
    · rcases h2 with h2 | h2
      · have := tj_root T hp hr s2 ((ch t h1.r.1 h2.1 h2.2).tr (st.sy sy))
        exact s1.r.2 this
      · have e := tj_root T s1.r.1 s2 h2 st
        rw [e] at h1
        exact w2 (s1.tr (h1.sy sy))
  · rintro ⟨c, c', c1, c1', c2, c2', c3, c3', ne⟩
    obtain ⟨g1, g2, g3⟩ := t2 c c1 c2
    obtain ⟨g1', g2', g3'⟩ := t2 c' c1' c2'
    rw [c3] at g2 g3
    rw [c3'] at g2' g3'
    refine ⟨c, c', fun e => by rw [e] at g2; omega, fun e => by rw [e] at g2'; omega, ?_, fun w => ?_⟩
    · exact Way.more (Way.more (.here c1) (sy _ _ g3) hp) g3' c1'
    · have hd : Dw N last n c c' := by
        refine Way.ind (E := E) (P := fun x => x < n ∧ x ≠ r) (u := c) (fun x => Dw N last n c x) (fun q => ⟨c1, Nat.le_refl _, t3 c c1⟩) (fun y z wy ih e q => ?_) w
        rcases t4 c y z c1 ih q.1 e with d | d
        · exact d
        · rw [c3] at d
          have wr : Way E (fun x => x < n) r c := Way.more (P := fun x => x < n) (.here hp) g3 c1
          have wz : Way E (fun x => x < n) c z := Way.more (P := fun x => x < n) (wy.wk (fun _ z => z.1)) e q.1
          have hz := tj_rd T hp hr (wr.tr wz)
          have h1 := hz.2.1
          have h2 := d.2
          exact absurd (t1 z r q.1 hp (by omega)) q.2
      obtain ⟨-, d⟩ := t5 c c' c1 hd (fun e => ne e.symm)
      rw [c3'] at d
      have := d.2.1
      omega
end TJ
/-! ===== how the numbers are given: what holds at each step ===== -/
def upN (f : Nat → Nat) (i v : Nat) : Nat → Nat := fun x => if x = i then v else f x
def Chn (fr : Nat → Nat) (Rt : Nat → Prop) : List Nat → Prop
  | [] => True
  | [r] => Rt r
  | a :: b :: l => ¬ Rt a ∧ fr a = b ∧ Chn fr Rt (b :: l)
/-- a closed point: what was numbered below it -/
def Clo (E : Nat → Nat → Prop) (n : Nat) (N fr last : Nat → Nat) (Rt : Nat → Prop) (k : Nat) (st : List Nat) (u : Nat) : Prop := N u ≤ last u ∧ last u ≤ k ∧ ∀ y, y < n → N u ≤ N y → N y ≤ last u → ¬ y ∈ st ∧ (y ≠ u → ¬ Rt y ∧ N u ≤ N (fr y)) ∧ ∀ x, x < n → E y x → N x ≠ 0 ∧ ((N u ≤ N x ∧ N x ≤ last u) ∨ (¬ Rt u ∧ N x ≤ N (fr u)))
def Jv (E : Nat → Nat → Prop) (n : Nat) (N fr last : Nat → Nat) (Rt : Nat → Prop) (k : Nat) (st : List Nat) : Prop :=
  (∀ u, u < n → N u ≤ k) ∧ (∀ u v, u < n → v < n → N u ≠ 0 → N u = N v → u = v) ∧ (∀ u, u < n → N u ≠ 0 → ¬ Rt u → fr u < n ∧ N (fr u) ≠ 0 ∧ N (fr u) < N u ∧ E (fr u) u) ∧
  (∀ u, u ∈ st → u < n ∧ N u ≠ 0) ∧ st.Pairwise (fun a b => N b < N a) ∧ Chn fr Rt st ∧ (∀ u, u < n → N u ≠ 0 → ¬ u ∈ st → Clo E n N fr last Rt k st u) ∧
  (∀ u, u ∈ st → ∀ y, y < n → N u < N y → ¬ Rt y ∧ N u ≤ N (fr y)) ∧ ∀ r, Rt r → r < n ∧ N r ≠ 0
section JV
variable {E : Nat → Nat → Prop} {n k u v w : Nat} {N fr last : Nat → Nat} {Rt : Nat → Prop} {st l : List Nat}
theorem jv_0 : Jv E n (fun _ => 0) fr last (fun _ => False) 0 [] := ⟨fun _ _ => Nat.le_refl _, fun _ _ _ _ h => absurd rfl h, fun _ _ h => absurd rfl h, fun _ h => (by cases h), List.Pairwise.nil, trivial, fun _ _ h => absurd rfl h, fun _ h => (by cases h), fun _ h => h.elim⟩
theorem chn_t : ∀ {l : List Nat}, Chn fr Rt (u :: l) → (l = [] ∧ Rt u) ∨ (∃ b m, l = b :: m ∧ ¬ Rt u ∧ fr u = b ∧ Chn fr Rt l)
  | [], h => Or.inl ⟨rfl, h⟩
  | b :: m, h => Or.inr ⟨b, m, rfl, h.1, h.2.1, h.2.2⟩
/-- the top of the stack is left behind -/
theorem jv_leave (sy : ∀ x y, E x y → E y x) (J : Jv E n N fr last Rt k (u :: l)) (hu : ∀ x, x < n → E u x → N x ≠ 0) : Jv E n N fr (upN last u k) Rt k l := by
  obtain ⟨j1, j2, j3, j4, j5, j6, j7, j8, j9⟩ := J
  obtain ⟨un, u0⟩ := j4 u (List.mem_cons_self ..)
  have p5 := List.pairwise_cons.mp j5
  have lu : upN last u k u = k := if_pos rfl
  have lo : ∀ c, c ≠ u → upN last u k c = last c := fun c h => if_neg h
  -- a numbered neighbour of what is below u, numbered before u, lies on the stack
  have op : ∀ x y, x < n → y < n → N x ≠ 0 → N x < N u → N u ≤ N y → E y x → x ∈ l := by
    intro x y hx hy x0 hxu huy e
    apply Classical.byContradiction
    intro hn
    have hxs : ¬ x ∈ u :: l := by
      intro z
      rcases List.mem_cons.mp z with q | q
      · rw [q] at hxu; omega
      · exact hn q
    obtain ⟨c1, c2, c3⟩ := j7 x hx x0 hxs
    obtain ⟨-, -, d3⟩ := c3 x hx (Nat.le_refl _) c1
    obtain ⟨-, d⟩ := d3 y hy (sy _ _ e)
    rcases d with d | d
    · exact (c3 u un (by omega) (by omega)).1 (List.mem_cons_self ..)
    · have := (j3 x hx x0 d.1).2.2.1
      omega
  refine ⟨j1, j2, j3, fun x hx => j4 x (List.mem_cons_of_mem _ hx), p5.2, ?_, fun c hc c0 hcl => ?_, fun x hx => j8 x (List.mem_cons_of_mem _ hx), j9⟩
  · rcases chn_t j6 with ⟨e, _⟩ | ⟨b, m, _, _, _, q⟩
    · rw [e]; trivial
    · exact q
  · by_cases e : c = u
    · subst e
      refine ⟨by rw [lu]; exact j1 c un, by rw [lu]; exact Nat.le_refl _, fun y hy h1 h2 => ⟨fun z => ?_, fun ne => ?_, fun x hx ex => ?_⟩⟩
      · have := p5.1 y z; omega
      · have hlt : N c < N y := by
          rcases Nat.lt_or_ge (N c) (N y) with q | q
          · exact q
          · exact absurd (j2 y c hy un (by omega) (by omega)) ne
        exact j8 c (List.mem_cons_self ..) y hy hlt
      · rw [lu]
        have x0 : N x ≠ 0 := by
          by_cases ey : y = c
          · rw [ey] at ex; exact hu x hx ex
          · have hys : ¬ y ∈ c :: l := by
              intro z
              rcases List.mem_cons.mp z with q | q
              · exact ey q
              · have := p5.1 y q; omega
            obtain ⟨c1, c2, c3⟩ := j7 y hy (by omega) hys
            exact ((c3 y hy (Nat.le_refl _) c1).2.2 x hx ex).1
        refine ⟨x0, ?_⟩
        by_cases g : N c ≤ N x
        · exact Or.inl ⟨g, j1 x hx⟩
        · have hxl := op x y hx hy x0 (by omega) h1 ex
          rcases chn_t j6 with ⟨e, _⟩ | ⟨b, m, e1, e2, e3, _⟩
          · rw [e] at hxl; cases hxl
          · refine Or.inr ⟨e2, ?_⟩
            rw [e3]
            rw [e1] at hxl
            rcases List.mem_cons.mp hxl with q | q
            · rw [q]; exact Nat.le_refl _
            · have h5 := p5.2
              rw [e1] at h5
              exact Nat.le_of_lt ((List.pairwise_cons.mp h5).1 x q)
    · have hcs : ¬ c ∈ u :: l := by
        intro z
        rcases List.mem_cons.mp z with q | q
        · exact e q
        · exact hcl q
      obtain ⟨c1, c2, c3⟩ := j7 c hc c0 hcs
      refine ⟨by rw [lo c e]; exact c1, by rw [lo c e]; exact c2, fun y hy h1 h2 => ?_⟩
      rw [lo c e] at h2
      obtain ⟨d1, d2, d3⟩ := c3 y hy h1 h2
      refine ⟨fun z => d1 (List.mem_cons_of_mem _ z), d2, fun x hx ex => ?_⟩
      rw [lo c e]
      exact d3 x hx ex
/-- what a new number changes: nothing of what is closed -/
theorem clo_n {Rt' : Nat → Prop} {fr' : Nat → Nat} {st' : List Nat} {c : Nat} (hwn : w < n) (hw : N w = 0) (cn : c < n) (c0 : N c ≠ 0) (j3 : ∀ u, u < n → N u ≠ 0 → ¬ Rt u → fr u < n ∧ N (fr u) ≠ 0 ∧ N (fr u) < N u ∧ E (fr u) u) (hf : ∀ x, x ≠ w → fr' x = fr x) (hR : ∀ x, x ≠ w → (Rt' x ↔ Rt x)) (hs : ∀ x, x ≠ w → (x ∈ st' ↔ x ∈ st)) (h : Clo E n N fr last Rt k st c) : Clo E n (upN N w (k + 1)) fr' last Rt' (k + 1) st' c := by
  obtain ⟨c1, c2, c3⟩ := h
  have ne : ∀ x, N x ≠ 0 → x ≠ w := fun x hx e => hx (by rw [e]; exact hw)
  have no : ∀ x, x ≠ w → upN N w (k + 1) x = N x := fun x hx => if_neg hx
  have nw : upN N w (k + 1) w = k + 1 := if_pos rfl
  have cw := ne c c0
  refine ⟨by rw [no c cw]; exact c1, by omega, fun y hy h1 h2 => ?_⟩
  have yw : y ≠ w := fun e => by rw [e, nw] at h2; omega
  rw [no c cw, no y yw] at h1
  rw [no y yw] at h2
  obtain ⟨d1, d2, d3⟩ := c3 y hy h1 h2
  have y0 : N y ≠ 0 := by omega
  refine ⟨fun z => d1 ((hs y yw).mp z), fun nec => ?_, fun x hx ex => ?_⟩
  · obtain ⟨e1, e2⟩ := d2 nec
    refine ⟨fun z => e1 ((hR y yw).mp z), ?_⟩
    rw [no c cw, hf y yw, no _ (ne _ (j3 y hy y0 e1).2.1)]
    exact e2
  · obtain ⟨e1, e2⟩ := d3 x hx ex
    rw [no x (ne x e1)]
    refine ⟨e1, ?_⟩
    rcases e2 with q | q
    · rw [no c cw]; exact Or.inl q
    · refine Or.inr ⟨fun z => q.1 ((hR c cw).mp z), ?_⟩
      rw [hf c cw, no _ (ne _ (j3 c cn c0 q.1).2.1)]
      exact q.2
/-- a joint to a point without a number: it comes onto the stack -/
theorem jv_push (J : Jv E n N fr last Rt k (v :: l)) (hwn : w < n) (hw : N w = 0) (e : E v w) : Jv E n (upN N w (k + 1)) (upN fr w v) last Rt (k + 1) (w :: v :: l) := by
  obtain ⟨j1, j2, j3, j4, j5, j6, j7, j8, j9⟩ := J
  obtain ⟨vn, v0⟩ := j4 v (List.mem_cons_self ..)
  have p5 := List.pairwise_cons.mp j5
  have ne : ∀ x, N x ≠ 0 → x ≠ w := fun x hx e => hx (by rw [e]; exact hw)
  have no : ∀ x, x ≠ w → upN N w (k + 1) x = N x := fun x hx => if_neg hx
  have nw : upN N w (k + 1) w = k + 1 := if_pos rfl
  have fo : ∀ x, x ≠ w → upN fr w v x = fr x := fun x hx => if_neg hx
  have fw : upN fr w v w = v := if_pos rfl
  have rw_ : ¬ Rt w := fun z => (j9 w z).2 hw
  have ws : ∀ x, x ∈ v :: l → x ≠ w := fun x hx => ne x (j4 x hx).2
  refine ⟨fun u hu => ?_, fun a b ha hb a0 eq => ?_, fun u hu u0 hr => ?_, fun u hu => ?_, ?_, ?_, fun c hc c0 hcl => ?_, fun u hu y hy h1 => ?_, fun r hr => ?_⟩
  · by_cases q : u = w
    · rw [q, nw]; exact Nat.le_refl _
    · rw [no u q]; have := j1 u hu; omega
  · by_cases qa : a = w
    · by_cases qb : b = w
      · rw [qa, qb]
      · rw [qa, nw, no b qb] at eq
        have := j1 b hb; omega
    · by_cases qb : b = w
      · rw [qb, nw, no a qa] at eq
        have := j1 a ha; omega
      · rw [no a qa, no b qb] at eq
        rw [no a qa] at a0
        exact j2 a b ha hb a0 eq
  · by_cases q : u = w
    · rw [q, fw, nw, no v (ne v v0)]
      have := j1 v vn
      exact ⟨vn, v0, by omega, e⟩
    · rw [no u q] at u0
      obtain ⟨a, b, c, d⟩ := j3 u hu u0 hr
      rw [fo u q, no u q, no _ (ne _ b)]
      exact ⟨a, b, c, d⟩
  · rcases List.mem_cons.mp hu with q | q
    · rw [q, nw]; exact ⟨hwn, by omega⟩
    · rw [no u (ws u q)]; exact j4 u q
  · refine List.pairwise_cons.mpr ⟨fun y hy => ?_, ?_⟩
    · rw [nw, no y (ws y hy)]
      have := j1 y (j4 y hy).1; omega
    · refine List.Pairwise.imp_of_mem (fun {a b} ha hb q => ?_) j5
      rw [no a (ws a ha), no b (ws b hb)]; exact q
  · refine ⟨rw_, fw, ?_⟩
    have key : ∀ m : List Nat, (∀ x, x ∈ m → x ≠ w) → Chn fr Rt m → Chn (upN fr w v) Rt m := by
      intro m
      induction m with
      | nil => intro _ _; trivial
      | cons a m ih =>
        intro hm hc
        cases m with
        | nil => exact hc
        | cons b m =>
          exact ⟨hc.1, by rw [fo a (hm a (List.mem_cons_self ..))]; exact hc.2.1, ih (fun x hx => hm x (List.mem_cons_of_mem _ hx)) hc.2.2⟩
    exact key _ ws j6
  · have cw : c ≠ w := fun q => hcl (by rw [q]; exact List.mem_cons_self ..)
    rw [no c cw] at c0
    refine clo_n (N := N) (fr := fr) (Rt := Rt) (st := v :: l) hwn hw hc c0 j3 fo (fun x _ => Iff.rfl) (fun x hx => ?_) (j7 c hc c0 (fun z => hcl (List.mem_cons_of_mem _ z)))
    rw [List.mem_cons (a := x) (b := w)]
    constructor
    · rintro (q | q)
      · exact absurd q hx
      · exact q
    · exact Or.inr
  · rcases List.mem_cons.mp hu with q | q
    · rw [q, nw] at h1
      by_cases qy : y = w
      · rw [qy, nw] at h1; omega
      · rw [no y qy] at h1; have := j1 y hy; omega
    · rw [no u (ws u q)] at h1 ⊢
      by_cases qy : y = w
      · rw [qy, fw, no v (ne v v0)]
        refine ⟨rw_, ?_⟩
        rcases List.mem_cons.mp q with z | z
        · rw [z]; exact Nat.le_refl _
        · exact Nat.le_of_lt (p5.1 u z)
      · rw [no y qy] at h1
        obtain ⟨a, b⟩ := j8 u q y hy h1
        rw [fo y qy, no _ (ne _ (j3 y hy (by omega) a).2.1)]
        exact ⟨a, b⟩
  · obtain ⟨a, b⟩ := j9 r hr
    rw [no r (ne r b)]; exact ⟨a, b⟩
/-- a new part begins -/
theorem jv_root (J : Jv E n N fr last Rt k []) (hwn : w < n) (hw : N w = 0) : Jv E n (upN N w (k + 1)) fr last (fun x => Rt x ∨ x = w) (k + 1) [w] := by
  obtain ⟨j1, j2, j3, j4, j5, j6, j7, j8, j9⟩ := J
  have ne : ∀ x, N x ≠ 0 → x ≠ w := fun x hx e => hx (by rw [e]; exact hw)
  have no : ∀ x, x ≠ w → upN N w (k + 1) x = N x := fun x hx => if_neg hx
  have nw : upN N w (k + 1) w = k + 1 := if_pos rfl
  refine ⟨fun u hu => ?_, fun a b ha hb a0 eq => ?_, fun u hu u0 hr => ?_, fun u hu => ?_, List.pairwise_singleton .., Or.inr rfl, fun c hc c0 hcl => ?_, fun u hu y hy h1 => ?_, fun r hr => ?_⟩
  · by_cases q : u = w
    · rw [q, nw]; exact Nat.le_refl _
    · rw [no u q]; have := j1 u hu; omega
  · by_cases qa : a = w
    · by_cases qb : b = w
      · rw [qa, qb]
      · rw [qa, nw, no b qb] at eq
        have := j1 b hb; omega
    · by_cases qb : b = w
      · rw [qb, nw, no a qa] at eq
        have := j1 a ha; omega
      · rw [no a qa, no b qb] at eq
        rw [no a qa] at a0
        exact j2 a b ha hb a0 eq
  · have q : u ≠ w := fun e => hr (Or.inr e)
    rw [no u q] at u0
    obtain ⟨a, b, c, d⟩ := j3 u hu u0 (fun z => hr (Or.inl z))
    rw [no u q, no _ (ne _ b)]
    exact ⟨a, b, c, d⟩
  · rw [List.mem_singleton.mp hu, nw]; exact ⟨hwn, by omega⟩
  · have cw : c ≠ w := fun q => hcl (by rw [q]; exact List.mem_cons_self ..)
    rw [no c cw] at c0
    refine clo_n (N := N) (fr := fr) (Rt := Rt) (st := []) hwn hw hc c0 j3 (fun _ _ => rfl) (fun x hx => ⟨fun z => z.elim id (fun e => absurd e hx), Or.inl⟩) (fun x hx => ?_) (j7 c hc c0 (fun z => by cases z))
    rw [List.mem_singleton]
    exact ⟨fun q => absurd q hx, fun q => by cases q⟩
  · rw [List.mem_singleton.mp hu, nw] at h1
    by_cases qy : y = w
    · rw [qy, nw] at h1; omega
    · rw [no y qy] at h1; have := j1 y hy; omega
  · rcases hr with q | q
    · obtain ⟨a, b⟩ := j9 r q
      rw [no r (ne r b)]; exact ⟨a, b⟩
    · rw [q, nw]; exact ⟨hwn, by omega⟩
/-- when all have their numbers -/
theorem jv_end (J : Jv E n N fr last Rt k []) (h : ∀ u, u < n → N u ≠ 0) : Tj E n N fr last Rt := by
  obtain ⟨j1, j2, j3, j4, j5, j6, j7, j8, j9⟩ := J
  have cl : ∀ c, c < n → Clo E n N fr last Rt k [] c := fun c hc => j7 c hc (h c hc) (fun z => by cases z)
  refine ⟨fun u v hu hv e => j2 u v hu hv (h u hu) e, fun u hu hr => ?_, fun u hu => (cl u hu).1, fun c y x hc hy hx e => ?_, fun c y hc hy ne => ?_⟩
  · obtain ⟨a, b, c, d⟩ := j3 u hu (h u hu) hr
    exact ⟨a, c, d⟩
  · obtain ⟨-, d⟩ := ((cl c hc).2.2 y hy.1 hy.2.1 hy.2.2).2.2 x hx e
    rcases d with d | d
    · exact Or.inl ⟨hx, d⟩
    · exact Or.inr d
  · obtain ⟨a, b⟩ := ((cl c hc).2.2 y hy.1 hy.2.1 hy.2.2).2.1 ne
    obtain ⟨f1, f2, f3, f4⟩ := j3 y hy.1 (h y hy.1) a
    exact ⟨a, f1, b, by have := hy.2.2; omega⟩
end JV
/-! ===== the low numbers ===== -/
/-- of what u has tried (below m) or has closed below it (numbered before b), something is joined to a number below t -/
def Lwt (E : Nat → Nat → Prop) (n : Nat) (N : Nat → Nat) (u m b t : Nat) : Prop := (∃ x, x < m ∧ x < n ∧ E u x ∧ N x ≠ 0 ∧ N x < t) ∨ ∃ y x, y < n ∧ N u < N y ∧ N y < b ∧ x < n ∧ E y x ∧ N x ≠ 0 ∧ N x < t
def Lst (E : Nat → Nat → Prop) (n : Nat) (N fr low nx : Nat → Nat) (Rt : Nat → Prop) : List Nat → Nat → Prop
  | [], _ => True
  | u :: l, b => (¬ Rt u → ∀ t, t ≤ N (fr u) → (low u < t ↔ Lwt E n N u (nx u) b t)) ∧ Lst E n N fr low nx Rt l (N u)
section LW
variable {E : Nat → Nat → Prop} {n k u v w p : Nat} {N fr low nx low' nx' last : Nat → Nat} {Rt : Nat → Prop} {l : List Nat}
theorem lst_cg {N' fr' low' nx' : Nat → Nat} {Rt' : Nat → Prop} : ∀ (l : List Nat) (b : Nat), (∀ u, u ∈ l → low' u = low u ∧ N' u = N u ∧ (Rt u → Rt' u) ∧ N' (fr' u) = N (fr u)) → (∀ u, u ∈ l → ∀ b t, (b = N u ∨ b ≤ k + 1) → t ≤ N (fr u) → ¬ Rt' u → (Lwt E n N' u (nx' u) b t ↔ Lwt E n N u (nx u) b t)) → (∀ u, u ∈ l → N u ≤ k) → b ≤ k + 1 → Lst E n N fr low nx Rt l b → Lst E n N' fr' low' nx' Rt' l b
  | [], _, _, _, _, _, _ => trivial
  | u :: l, b, h1, h2, h3, hb, h => by
    obtain ⟨a1, a2, a3, a4⟩ := h1 u (List.mem_cons_self ..)
    refine ⟨fun hr t ht => ?_, ?_⟩
    · rw [a4] at ht
      rw [a1, h2 u (List.mem_cons_self ..) b t (Or.inr hb) ht hr]
      exact h.1 (fun z => hr (a3 z)) t ht
    · rw [a2]
      have := h3 u (List.mem_cons_self ..)
      exact lst_cg l (N u) (fun x hx => h1 x (List.mem_cons_of_mem _ hx)) (fun x hx => h2 x (List.mem_cons_of_mem _ hx)) (fun x hx => h3 x (List.mem_cons_of_mem _ hx)) (by omega) h.2
/-- the top of the stack tries w: not joined, or joined to what has a number -/
theorem lw_try {c : Prop} (hw : w < n) (h : ∀ t, t ≤ N (fr v) → (low v < t ↔ Lwt E n N v w (k + 1) t)) (hc : c ↔ E v w ∧ w ≠ fr v) (h0 : E v w → N w ≠ 0) (hl : low' v = low v ∧ ¬ c ∨ low' v = min (low v) (N w) ∧ c) : ∀ t, t ≤ N (fr v) → (low' v < t ↔ Lwt E n N v (w + 1) (k + 1) t) := by
  intro t ht
  have e1 : Lwt E n N v (w + 1) (k + 1) t ↔ Lwt E n N v w (k + 1) t ∨ (E v w ∧ N w < t) := by
    unfold Lwt
    constructor
    · rintro (⟨x, x1, x2, x3, x4, x5⟩ | q)
      · by_cases e : x = w
        · rw [e] at x3 x5; exact Or.inr ⟨x3, x5⟩
        · exact Or.inl (Or.inl ⟨x, by omega, x2, x3, x4, x5⟩)
      · exact Or.inl (Or.inr q)
    · rintro ((⟨x, x1, x2, x3, x4, x5⟩ | q) | ⟨q1, q2⟩)
      · exact Or.inl ⟨x, by omega, x2, x3, x4, x5⟩
      · exact Or.inr q
      · exact Or.inl ⟨w, by omega, hw, q1, h0 q1, q2⟩
  rw [e1, ← h t ht]
  rcases hl with ⟨q1, q2⟩ | ⟨q1, q2⟩
  · rw [q1]
    constructor
    · exact Or.inl
    · rintro (z | ⟨z1, z2⟩)
      · exact z
      · by_cases e : w = fr v
        · rw [← e] at ht; omega
        · exact absurd (hc.mpr ⟨z1, e⟩) q2
  · rw [q1]
    have ew := (hc.mp q2).1
    constructor
    · intro z
      by_cases g : low v < t
      · exact Or.inl g
      · exact Or.inr ⟨ew, by omega⟩
    · rintro (z | ⟨_, z⟩) <;> omega
/-- the top is left: what is below it and all that it tried -/
theorem lw_all (h : ∀ t, t ≤ N (fr u) → (low u < t ↔ Lwt E n N u n (k + 1) t)) (un : u < n) (j1 : ∀ u, u < n → N u ≤ k) (j2 : ∀ a b, a < n → b < n → N a ≠ 0 → N a = N b → a = b) (u0 : N u ≠ 0) : ∀ t, t ≤ N (fr u) → (low u < t ↔ ∃ y x, y < n ∧ N u ≤ N y ∧ N y ≤ k ∧ x < n ∧ E y x ∧ N x ≠ 0 ∧ N x < t) := by
  intro t ht
  rw [h t ht]
  constructor
  · rintro (⟨x, x1, x2, x3, x4, x5⟩ | ⟨y, x, y1, y2, y3, x2, x3, x4, x5⟩)
    · exact ⟨u, x, un, Nat.le_refl _, j1 u un, x2, x3, x4, x5⟩
    · exact ⟨y, x, y1, by omega, by omega, x2, x3, x4, x5⟩
  · rintro ⟨y, x, y1, y2, y3, x2, x3, x4, x5⟩
    by_cases e : y = u
    · rw [e] at x3; exact Or.inl ⟨x, x2, x2, x3, x4, x5⟩
    · refine Or.inr ⟨y, x, y1, ?_, by omega, x2, x3, x4, x5⟩
      rcases Nat.lt_or_ge (N u) (N y) with q | q
      · exact q
      · exact absurd (j2 y u y1 un (by omega) (by omega)) e
/-- the parent takes the lesser of both -/
theorem lw_up {m : Nat} (hu : ∀ t, t ≤ N (fr u) → (low u < t ↔ ∃ y x, y < n ∧ N u ≤ N y ∧ N y ≤ k ∧ x < n ∧ E y x ∧ N x ≠ 0 ∧ N x < t)) (hp : ∀ t, t ≤ N (fr p) → (low p < t ↔ Lwt E n N p m (N u) t)) (hf : fr u = p) (h1 : N (fr p) ≤ N p) (h2 : N p < N u) (h3 : N u ≤ k) : ∀ t, t ≤ N (fr p) → (min (low p) (low u) < t ↔ Lwt E n N p m (k + 1) t) := by
  intro t ht
  have a := hp t ht
  have b := hu t (by rw [hf]; omega)
  constructor
  · intro z
    by_cases g : low p < t
    · rcases a.mp g with q | ⟨y, x, y1, y2, y3, r⟩
      · exact Or.inl q
      · exact Or.inr ⟨y, x, y1, y2, by omega, r⟩
    · obtain ⟨y, x, y1, y2, y3, r⟩ := b.mp (by omega)
      exact Or.inr ⟨y, x, y1, by omega, by omega, r⟩
  · rintro (q | ⟨y, x, y1, y2, y3, r⟩)
    · have := a.mpr (Or.inl q); omega
    · by_cases g : N y < N u
      · have := a.mpr (Or.inr ⟨y, x, y1, y2, g, r⟩); omega
      · have := b.mpr ⟨y, x, y1, by omega, by omega, r⟩; omega
/-- a new number changes nothing of this for those on the stack -/
theorem lw_n {m m' b t : Nat} (hw : N w = 0) (uw : u ≠ w) (ht : t ≤ k + 1) (hb : b ≤ k + 1) (hm : m' = m ∨ (m = w ∧ m' = w + 1)) : Lwt E n (upN N w (k + 1)) u m' b t ↔ Lwt E n N u m b t := by
  have no : ∀ x, x ≠ w → upN N w (k + 1) x = N x := fun x hx => if_neg hx
  have nw : upN N w (k + 1) w = k + 1 := if_pos rfl
  have ne : ∀ x, N x ≠ 0 → x ≠ w := fun x hx e => hx (by rw [e]; exact hw)
  have nl : ∀ x, upN N w (k + 1) x < t → x ≠ w := fun x hx e => by rw [e, nw] at hx; omega
  have nb : ∀ x, upN N w (k + 1) x < b → x ≠ w := fun x hx e => by rw [e, nw] at hx; omega
  unfold Lwt
  constructor
  · rintro (⟨x, x1, x2, x3, x4, x5⟩ | ⟨y, x, y1, y2, y3, x2, x3, x4, x5⟩)
    · have xw := nl x x5
      rw [no x xw] at x4 x5
      exact Or.inl ⟨x, by omega, x2, x3, x4, x5⟩
    · have xw := nl x x5
      have yw := nb y y3
      rw [no x xw] at x4 x5
      rw [no y yw] at y2 y3
      rw [no u uw] at y2
      exact Or.inr ⟨y, x, y1, y2, y3, x2, x3, x4, x5⟩
  · rintro (⟨x, x1, x2, x3, x4, x5⟩ | ⟨y, x, y1, y2, y3, x2, x3, x4, x5⟩)
    · have xw := ne x x4
      exact Or.inl ⟨x, by omega, x2, x3, by rw [no x xw]; exact x4, by rw [no x xw]; exact x5⟩
    · have xw := ne x x4
      have yw := ne y (by omega)
      exact Or.inr ⟨y, x, y1, by rw [no y yw, no u uw]; exact y2, by rw [no y yw]; exact y3, x2, x3, by rw [no x xw]; exact x4, by rw [no x xw]; exact x5⟩
/-- the new top has tried nothing -/
theorem lw_new {t : Nat} : ¬ Lwt E n (upN N w (k + 1)) w 0 (k + 2) t := by
  have nw : upN N w (k + 1) w = k + 1 := if_pos rfl
  rintro (⟨x, x1, _⟩ | ⟨y, x, y1, y2, y3, _⟩)
  · omega
  · rw [nw] at y2; omega
/-- w comes onto the stack above v, whose next one it was -/
theorem lst_push (J : Jv E n N fr last Rt k (v :: l)) (hw : N w = 0) (h : Lst E n N fr low nx Rt (v :: l) (k + 1)) (hx : nx v = w) (hl' : low' = upN low w (k + 1)) (hn' : nx' = upN (upN nx v (w + 1)) w 0) : Lst E n (upN N w (k + 1)) (upN fr w v) low' nx' Rt (w :: v :: l) (k + 2) := by
  obtain ⟨j1, j2, j3, j4, j5, j6, j7, j8, j9⟩ := J
  obtain ⟨vn, v0⟩ := j4 v (List.mem_cons_self ..)
  have p5 := List.pairwise_cons.mp j5
  have no : ∀ x, x ≠ w → upN N w (k + 1) x = N x := fun x hx => if_neg hx
  have nw : upN N w (k + 1) w = k + 1 := if_pos rfl
  have ne : ∀ x, N x ≠ 0 → x ≠ w := fun x hx e => hx (by rw [e]; exact hw)
  have ws : ∀ x, x ∈ v :: l → x ≠ w := fun x hx => ne x (j4 x hx).2
  have vw := ne v v0
  refine ⟨fun _ t ht => ?_, ?_⟩
  · rw [show upN fr w v w = v from if_pos rfl, no v vw] at ht
    have := j1 v vn
    rw [hl', show upN low w (k + 1) w = k + 1 from if_pos rfl, hn', show upN (upN nx v (w + 1)) w 0 w = 0 from if_pos rfl]
    constructor
    · intro z; omega
    · intro z; exact absurd z lw_new
  · rw [nw]
    have frn : ∀ u, u ∈ v :: l → ¬ Rt u → fr u ≠ w ∧ N (fr u) ≤ k := fun u hu hr => by
      obtain ⟨a, b, c, d⟩ := j3 u (j4 u hu).1 (j4 u hu).2 hr
      exact ⟨ne _ b, j1 _ a⟩
    have nxo : ∀ u, u ∈ v :: l → nx' u = nx u ∨ (nx u = w ∧ nx' u = w + 1) := fun u hu => by
      rw [hn']
      by_cases e : u = v
      · rw [e]
        refine Or.inr ⟨hx, ?_⟩
        show (if v = w then 0 else if v = v then w + 1 else nx v) = w + 1
        rw [if_neg vw, if_pos rfl]
      · refine Or.inl ?_
        show (if u = w then 0 else if u = v then w + 1 else nx u) = nx u
        rw [if_neg (ws u hu), if_neg e]
    have key : ∀ (m : List Nat) (b : Nat), (∀ u, u ∈ m → u ∈ v :: l) → b ≤ k + 1 → Lst E n N fr low nx Rt m b → Lst E n (upN N w (k + 1)) (upN fr w v) low' nx' Rt m b := by
      intro m
      induction m with
      | nil => intro _ _ _ _; trivial
      | cons u m ih =>
        intro b hm hb hL
        have hu := hm u (List.mem_cons_self ..)
        refine ⟨fun hr t ht => ?_, ?_⟩
        · obtain ⟨f1, f2⟩ := frn u hu hr
          rw [show upN fr w v u = fr u from if_neg (ws u hu), no _ f1] at ht
          rw [hl', show upN low w (k + 1) u = low u from if_neg (ws u hu), lw_n hw (ws u hu) (by omega) hb (nxo u hu)]
          exact hL.1 hr t ht
        · rw [no u (ws u hu)]
          have := j1 u (j4 u hu).1
          exact ih (N u) (fun x hx => hm x (List.mem_cons_of_mem _ hx)) (by omega) hL.2
    exact key _ _ (fun u hu => hu) (Nat.le_refl _) h
end LW
/-! ===== leaving a point: low numbers and cuts ===== -/
def CutF (E : Nat → Nat → Prop) (n : Nat) (N fr last : Nat → Nat) (Rt : Nat → Prop) (st : List Nat) (p : Nat) : Prop := ∃ c, c < n ∧ N c ≠ 0 ∧ ¬ c ∈ st ∧ ¬ Rt c ∧ fr c = p ∧ ∀ y x, Dw N last n c y → x < n → E y x → ¬ N x < N p
section CF
variable {E : Nat → Nat → Prop} {n k u v w p : Nat} {N fr low nx low' last : Nat → Nat} {Rt : Nat → Prop} {l m : List Nat}
theorem lst_leave (J : Jv E n N fr last Rt k (u :: p :: m)) (h : Lst E n N fr low nx Rt (u :: p :: m) (k + 1)) (hn : nx u = n) (hl' : low' = upN low p (min (low p) (low u))) : Lst E n N fr low' nx Rt (p :: m) (k + 1) := by
  obtain ⟨j1, j2, j3, j4, j5, j6, j7, j8, j9⟩ := J
  obtain ⟨un, u0⟩ := j4 u (List.mem_cons_self ..)
  have pm : p ∈ u :: p :: m := List.mem_cons_of_mem _ (List.mem_cons_self ..)
  obtain ⟨pn, p0⟩ := j4 p pm
  have p5 := List.pairwise_cons.mp j5
  have q5 := List.pairwise_cons.mp p5.2
  obtain ⟨c1, c2, -⟩ := j6
  refine ⟨fun hr t ht => ?_, ?_⟩
  · have h1 := h.1 c1
    rw [hn] at h1
    have a := lw_all h1 un j1 j2 u0
    have f := (j3 p pn p0 hr).2.2.1
    rw [hl', show upN low p (min (low p) (low u)) p = min (low p) (low u) from if_pos rfl]
    exact lw_up a (h.2.1 hr) c2 (by omega) (p5.1 p (List.mem_cons_self ..)) (j1 u un) t ht
  · have key : ∀ (r : List Nat) (b : Nat), (∀ x, x ∈ r → x ≠ p) → Lst E n N fr low nx Rt r b → Lst E n N fr low' nx Rt r b := by
      intro r
      induction r with
      | nil => intro _ _ _; trivial
      | cons x r ih =>
        intro b hm hL
        refine ⟨fun hr t ht => ?_, ih (N x) (fun y hy => hm y (List.mem_cons_of_mem _ hy)) hL.2⟩
        rw [hl', show upN low p (min (low p) (low u)) x = low x from if_neg (hm x (List.mem_cons_self ..))]
        exact hL.1 hr t ht
    exact key m _ (fun x hx e => by have := q5.1 x hx; rw [e] at this; omega) h.2.2
/-- when u is left, its parent is a cut from now on just if u's low number isn't below the parent's -/
theorem cut_leave {q : Nat} (sy : ∀ x y, E x y → E y x) (J : Jv E n N fr last Rt k (u :: l)) (hu : ∀ x, x < n → E u x → N x ≠ 0) (h : ¬ Rt u → ∀ t, t ≤ N (fr u) → (low u < t ↔ Lwt E n N u n (k + 1) t)) : CutF E n N fr (upN last u k) Rt l q ↔ CutF E n N fr last Rt (u :: l) q ∨ (¬ Rt u ∧ fr u = q ∧ ¬ low u < N q) := by
  have J' := jv_leave sy J hu
  obtain ⟨j1, j2, j3, j4, j5, j6, j7, j8, j9⟩ := J
  obtain ⟨un, u0⟩ := j4 u (List.mem_cons_self ..)
  have p5 := List.pairwise_cons.mp j5
  have lu : upN last u k u = k := if_pos rfl
  have lo : ∀ c, c ≠ u → upN last u k c = last c := fun c h => if_neg h
  have dl : ∀ c y, c ≠ u → (Dw N (upN last u k) n c y ↔ Dw N last n c y) := fun c y hc => by
    unfold Dw; rw [lo c hc]
  have ul : ¬ u ∈ l := fun z => by have := p5.1 u z; omega
  constructor
  · rintro ⟨c, c1, c2, c3, c4, c5, c6⟩
    by_cases e : c = u
    · subst e
      refine Or.inr ⟨c4, c5, fun z => ?_⟩
      have a := (lw_all (h c4) un j1 j2 u0 (N q) (by rw [c5]; exact Nat.le_refl _)).mp z
      obtain ⟨y, x, y1, y2, y3, x2, x3, x4, x5⟩ := a
      exact c6 y x ⟨y1, y2, by rw [lu]; exact y3⟩ x2 x3 x5
    · exact Or.inl ⟨c, c1, c2, fun z => (List.mem_cons.mp z).elim e c3, c4, c5, fun y x hy => c6 y x ((dl c y e).mpr hy)⟩
  · rintro (⟨c, c1, c2, c3, c4, c5, c6⟩ | ⟨c4, c5, c6⟩)
    · have e : c ≠ u := fun z => c3 (by rw [z]; exact List.mem_cons_self ..)
      exact ⟨c, c1, c2, fun z => c3 (List.mem_cons_of_mem _ z), c4, c5, fun y x hy => c6 y x ((dl c y e).mp hy)⟩
    · refine ⟨u, un, u0, ul, c4, c5, fun y x hy hx e z => c6 ?_⟩
      have cl := J'.2.2.2.2.2.2.1 u un u0 ul
      have x0 := ((cl.2.2 y hy.1 hy.2.1 hy.2.2).2.2 x hx e).1
      refine (lw_all (h c4) un j1 j2 u0 (N q) (by rw [c5]; exact Nat.le_refl _)).mpr ⟨y, x, hy.1, hy.2.1, ?_, hx, e, x0, z⟩
      have := hy.2.2
      rw [lu] at this
      exact this
end CF
section CP
variable {E : Nat → Nat → Prop} {n k u v w p : Nat} {N fr fr' last : Nat → Nat} {Rt Rt' : Nat → Prop} {st st' : List Nat}
/-- a new number changes no cut -/
theorem cut_n (J : Jv E n N fr last Rt k st) (hw : N w = 0) (hf : ∀ x, x ≠ w → fr' x = fr x) (hR : ∀ x, x ≠ w → (Rt' x ↔ Rt x)) (hs : ∀ x, x ≠ w → (x ∈ st' ↔ x ∈ st)) (hws : w ∈ st') : CutF E n (upN N w (k + 1)) fr' last Rt' st' p ↔ CutF E n N fr last Rt st p := by
  obtain ⟨j1, j2, j3, j4, j5, j6, j7, j8, j9⟩ := J
  have no : ∀ x, x ≠ w → upN N w (k + 1) x = N x := fun x hx => if_neg hx
  have nw : upN N w (k + 1) w = k + 1 := if_pos rfl
  have ne : ∀ x, N x ≠ 0 → x ≠ w := fun x hx e => hx (by rw [e]; exact hw)
  have dw : ∀ c y, c < n → N c ≠ 0 → ¬ c ∈ st → (Dw (upN N w (k + 1)) last n c y ↔ Dw N last n c y) := fun c y hc c0 cs => by
    have cl := (j7 c hc c0 cs).2.1
    unfold Dw
    rw [no c (ne c c0)]
    by_cases e : y = w
    · rw [e, nw, hw]
      constructor
      · rintro ⟨a, b, d⟩; omega
      · rintro ⟨a, b, d⟩; omega
    · rw [no y e]
  have cf : ∀ c, c < n → N c ≠ 0 → ¬ c ∈ st → ¬ Rt c → fr c = p → ∀ y x, Dw N last n c y → x < n → E y x → upN N w (k + 1) x = N x ∧ upN N w (k + 1) p = N p := fun c hc c0 cs hr hp y x hy hx e => by
    have x0 := (((j7 c hc c0 cs).2.2 y hy.1 hy.2.1 hy.2.2).2.2 x hx e).1
    have p0 := (j3 c hc c0 hr).2.1
    rw [hp] at p0
    exact ⟨no x (ne x x0), no p (ne p p0)⟩
  constructor
  · rintro ⟨c, c1, c2, c3, c4, c5, c6⟩
    have cw : c ≠ w := fun e => c3 (by rw [e]; exact hws)
    rw [no c cw] at c2
    have c3' : ¬ c ∈ st := fun z => c3 ((hs c cw).mpr z)
    have c4' : ¬ Rt c := fun z => c4 ((hR c cw).mpr z)
    rw [hf c cw] at c5
    refine ⟨c, c1, c2, c3', c4', c5, fun y x hy hx e => ?_⟩
    have h := c6 y x ((dw c y c1 c2 c3').mpr hy) hx e
    obtain ⟨e1, e2⟩ := cf c c1 c2 c3' c4' c5 y x hy hx e
    rw [e1, e2] at h
    exact h
  · rintro ⟨c, c1, c2, c3, c4, c5, c6⟩
    have cw := ne c c2
    refine ⟨c, c1, by rw [no c cw]; exact c2, fun z => c3 ((hs c cw).mp z), fun z => c4 ((hR c cw).mp z), by rw [hf c cw]; exact c5, fun y x hy hx e => ?_⟩
    have hy' := (dw c y c1 c2 c3).mp hy
    obtain ⟨e1, e2⟩ := cf c c1 c2 c3 c4 c5 y x hy' hx e
    rw [e1, e2]
    exact c6 y x hy' hx e
/-- at the end the cuts that are no roots are just these -/
theorem cut_end (sy : ∀ x y, E x y → E y x) (J : Jv E n N fr last Rt k []) (h : ∀ u, u < n → N u ≠ 0) (hp : p < n) (hr : ¬ Rt p) : CutP E (fun x => x < n) p ↔ CutF E n N fr last Rt [] p := by
  rw [tj_cut (jv_end J h) sy hp hr]
  constructor
  · rintro ⟨c, c1, c2, c3, c4⟩
    exact ⟨c, c1, h c c1, (fun z => by cases z), c2, c3, c4⟩
  · rintro ⟨c, c1, _, _, c2, c3, c4⟩
    exact ⟨c, c1, c2, c3, c4⟩
end CP
section RR
variable {E : Nat → Nat → Prop} {n r u : Nat} {N fr last : Nat → Nat} {Rt : Nat → Prop} {rs : List Nat}
theorem tj_to (T : Tj E n N fr last Rt) (sy : ∀ x y, E x y → E y x) : ∀ (m u : Nat), N u ≤ m → u < n → ∃ r, r < n ∧ Rt r ∧ Way E (fun x => x < n) u r := by
  obtain ⟨t1, t2, t3, t4, t5⟩ := T
  intro m
  induction m with
  | zero =>
    intro u hm hu
    by_cases q : Rt u
    · exact ⟨u, hu, q, Way.here (P := fun x => x < n) hu⟩
    · have := (t2 u hu q).2.1; omega
  | succ m ih =>
    intro u hm hu
    by_cases q : Rt u
    · exact ⟨u, hu, q, Way.here (P := fun x => x < n) hu⟩
    · obtain ⟨g1, g2, g3⟩ := t2 u hu q
      obtain ⟨r, r1, r2, r3⟩ := ih (fr u) (by omega) g1
      exact ⟨r, r1, r2, (Way.more (P := fun x => x < n) (Way.here (P := fun x => x < n) hu) (sy _ _ g3) g1).tr r3⟩
/-- the roots are one of each part -/
theorem reps_roots (T : Tj E n N fr last Rt) (sy : ∀ x y, E x y → E y x) (hn : rs.Nodup) (hm : ∀ r, r ∈ rs ↔ r < n ∧ Rt r) : Reps E (fun x => x < n) rs := by
  refine ⟨?_, fun x hx => ((hm x).mp hx).1, fun x hx => ?_⟩
  · refine List.Pairwise.imp_of_mem (fun {a b} ha hb ne w => ?_) hn
    exact ne (tj_root T ((hm a).mp ha).1 ((hm a).mp ha).2 ((hm b).mp hb).2 w).symm
  · obtain ⟨r, r1, r2, r3⟩ := tj_to T sy (N x) x (Nat.le_refl _) hx
    exact ⟨r, (hm r).mpr ⟨r1, r2⟩, r3⟩
/-- two below a root: from the list of all below it -/
theorem two_of {ch : List Nat} (hn : ch.Nodup) : 1 < ch.length ↔ ∃ a b, a ∈ ch ∧ b ∈ ch ∧ a ≠ b := by
  constructor
  · intro h
    rcases ch with _ | ⟨a, _ | ⟨b, l⟩⟩
    · exact absurd h (by decide)
    · exact absurd h (by simp)
    · exact ⟨a, b, List.mem_cons_self .., List.mem_cons_of_mem _ (List.mem_cons_self ..), fun e => (List.nodup_cons.mp hn).1 (by rw [e]; exact List.mem_cons_self ..)⟩
  · rintro ⟨a, b, h1, h2, ne⟩
    rcases ch with _ | ⟨c, _ | ⟨d, l⟩⟩
    · cases h1
    · rw [List.mem_singleton] at h1 h2
      exact absurd (h1.trans h2.symm) ne
    · simp
end RR
section MP
variable {E E' : Nat → Nat → Prop} {P P' : Nat → Prop} {n a u v : Nat} {f g : Nat → Nat}
theorem Way.map (hE : ∀ x y, P x → P y → E x y → E' (f x) (f y)) (hP : ∀ x, P x → P' (f x)) (h : Way E P u v) : Way E' P' (f u) (f v) :=
  h.ind (fun x => Way E' P' (f u) (f x)) (fun q => Way.here (hP _ q)) (fun _ _ w ih e p => ih.more (hE _ _ w.r p e) (hP _ p))
/-- the same net under other numbers has the same cuts -/
theorem cut_map1 (hE : ∀ x y, x < n → y < n → (E' (f x) (f y) ↔ E x y)) (hf : ∀ x, x < n → f x < n ∧ g (f x) = x) (hg : ∀ x, x < n → g x < n ∧ f (g x) = x) (ha : a < n) (h : CutP E (fun x => x < n) a) : CutP E' (fun x => x < n) (f a) := by
  obtain ⟨u, v, hu, hv, w1, w2⟩ := h
  have ul : u < n := w1.l
  have vl : v < n := w1.r
  have ij : ∀ x, x < n → x ≠ a → f x ≠ f a := fun x hx ne e => ne (by rw [← (hf x hx).2, e, (hf a ha).2])
  refine ⟨f u, f v, ij u ul hu, ij v vl hv, Way.map (P := fun x => x < n) (P' := fun x => x < n) (fun x y hx hy e => (hE x y hx hy).mpr e) (fun x hx => (hf x hx).1) w1, fun w => w2 ?_⟩
  have w' := Way.map (E := E') (E' := E) (P := fun x => x < n ∧ x ≠ f a) (P' := fun x => x < n ∧ x ≠ a) (f := g) (fun x y hx hy e => by
    have := hE (g x) (g y) (hg x hx.1).1 (hg y hy.1).1
    rw [(hg x hx.1).2, (hg y hy.1).2] at this
    exact this.mp e) (fun x hx => ⟨(hg x hx.1).1, fun e => hx.2 (by rw [← e, (hg x hx.1).2])⟩) w
  rw [(hf u ul).2, (hf v vl).2] at w'
  exact w'
theorem cut_map (hE : ∀ x y, x < n → y < n → (E' (f x) (f y) ↔ E x y)) (hf : ∀ x, x < n → f x < n ∧ g (f x) = x) (hg : ∀ x, x < n → g x < n ∧ f (g x) = x) (ha : a < n) : CutP E' (fun x => x < n) (f a) ↔ CutP E (fun x => x < n) a := by
  constructor
  · intro h
    have hE' : ∀ x y, x < n → y < n → (E (g x) (g y) ↔ E' x y) := fun x y hx hy => by
      have := hE (g x) (g y) (hg x hx).1 (hg y hy).1
      rw [(hg x hx).2, (hg y hy).2] at this
      exact this.symm
    have h' := cut_map1 (E := E') (E' := E) (f := g) (g := f) hE' hg hf (hf a ha).1 h
    rw [(hf a ha).2] at h'
    exact h'
  · exact cut_map1 hE hf hg ha
/-- .. and as many parts -/
theorem reps_map {l l' : List Nat} (sy : ∀ x y, E' x y → E' y x) (hE : ∀ x y, x < n → y < n → (E' (f x) (f y) ↔ E x y)) (hf : ∀ x, x < n → f x < n ∧ g (f x) = x) (hg : ∀ x, x < n → g x < n ∧ f (g x) = x) (h : Reps E (fun x => x < n) l) (h' : Reps E' (fun x => x < n) l') : l.length = l'.length := by
  have bk : ∀ x y, x < n → y < n → Way E' (fun x => x < n) (f x) (f y) → Way E (fun x => x < n) x y := fun x y hx hy w => by
    have w' := Way.map (E := E') (E' := E) (P := fun x => x < n) (P' := fun x => x < n) (f := g) (fun x y hx hy e => by
      have := hE (g x) (g y) (hg x hx).1 (hg y hy).1
      rw [(hg x hx).2, (hg y hy).2] at this
      exact this.mp e) (fun x hx => (hg x hx).1) w
    rw [(hf x hx).2, (hf y hy).2] at w'
    exact w'
  have hm : Reps E' (fun x => x < n) (l.map f) := by
    refine ⟨?_, fun x hx => ?_, fun x hx => ?_⟩
    · rw [List.pairwise_map]
      exact List.Pairwise.imp_of_mem (fun {a b} ha hb q w => q (bk a b (h.2.1 a ha) (h.2.1 b hb) w)) h.1
    · obtain ⟨y, y1, y2⟩ := List.mem_map.mp hx
      rw [← y2]; exact (hf y (h.2.1 y y1)).1
    · obtain ⟨y, y1, y2⟩ := h.2.2 (g x) (hg x hx).1
      refine ⟨f y, List.mem_map.mpr ⟨y, y1, rfl⟩, ?_⟩
      have w := Way.map (E := E) (E' := E') (P := fun x => x < n) (P' := fun x => x < n) (f := f) (fun x y hx hy e => (hE x y hx hy).mpr e) (fun x hx => (hf x hx).1) y2
      rw [(hg x hx).2] at w
      exact w
  rw [← List.length_map (as := l) f]
  exact reps_len sy hm h'
end MP
/-! sums over pairs -/
def sN (h : Nat → Nat) : Nat → Nat
  | 0 => 0
  | n + 1 => sN h n + h n
section SN
variable {h h' f g : Nat → Nat} {n : Nat} {e e' : Nat → Nat → Nat}
theorem sN_cg : ∀ n, (∀ i, i < n → h i = h' i) → sN h n = sN h' n
  | 0, _ => rfl
  | n + 1, q => by
    show sN h n + h n = sN h' n + h' n
    rw [sN_cg n (fun i hi => q i (by omega)), q n (by omega)]
theorem sN_l : ∀ n, sN h n = ((List.range n).map h).sum
  | 0 => rfl
  | n + 1 => by
    show sN h n + h n = _
    rw [sN_l n, List.range_succ, List.map_append, List.sum_append]
    simp
theorem sN_add : ∀ n, sN (fun i => h i + h' i) n = sN h n + sN h' n
  | 0 => rfl
  | n + 1 => by
    show sN (fun i => h i + h' i) n + (h n + h' n) = sN h n + h n + (sN h' n + h' n)
    rw [sN_add n]; omega
theorem sN_perm (hf : ∀ x, x < n → f x < n ∧ g (f x) = x) (hg : ∀ x, x < n → g x < n ∧ f (g x) = x) : sN (fun v => h (f v)) n = sN h n := by
  rw [sN_l, sN_l]
  have p : ((List.range n).map f).Perm (List.range n) := by
    refine (List.perm_ext_iff_of_nodup ?_ List.nodup_range).mpr (fun a => ?_)
    · refine List.pairwise_map.mpr (List.Pairwise.imp_of_mem (fun {a b} ha hb ne q => ne ?_) (List.nodup_range (n := n)))
      rw [← (hf a (List.mem_range.mp ha)).2, q, (hf b (List.mem_range.mp hb)).2]
    · rw [List.mem_map, List.mem_range]
      constructor
      · rintro ⟨x, h1, h2⟩
        rw [← h2]; exact (hf x (List.mem_range.mp h1)).1
      · intro ha
        exact ⟨g a, List.mem_range.mpr (hg a ha).1, (hg a ha).2⟩
  have q := (p.map h).sum_nat
  rw [List.map_map] at q
  exact q
/-- each pair is told from both ends -/
theorem sN_two (sy : ∀ x y, e x y = e y x) (ir : ∀ x, e x x = 0) : ∀ n, sN (fun v => sN (fun w => e v w) n) n = 2 * sN (fun v => sN (fun w => if v < w then e v w else 0) n) n
  | 0 => rfl
  | n + 1 => by
    have ih := sN_two sy ir n
    have a : sN (fun v => sN (fun w => e v w) (n + 1)) (n + 1) = sN (fun v => sN (fun w => e v w) n) n + sN (fun v => e v n) n + (sN (fun w => e n w) n + e n n) := by
      show sN (fun v => sN (fun w => e v w) n + e v n) n + (sN (fun w => e n w) n + e n n) = _
      rw [sN_add n]
    have z : ∀ m, m ≤ n → sN (fun w => if n < w then e n w else 0) m = 0 := by
      intro m
      induction m with
      | zero => intro _; rfl
      | succ m ih =>
        intro hm
        show sN (fun w => if n < w then e n w else 0) m + (if n < m then e n m else 0) = 0
        rw [ih (by omega), if_neg (by omega)]
    have b : sN (fun v => sN (fun w => if v < w then e v w else 0) (n + 1)) (n + 1) = sN (fun v => sN (fun w => if v < w then e v w else 0) n) n + sN (fun v => e v n) n := by
      show sN (fun v => sN (fun w => if v < w then e v w else 0) n + (if v < n then e v n else 0)) n + (sN (fun w => if n < w then e n w else 0) n + (if n < n then e n n else 0)) = _
      rw [sN_add n, z n (Nat.le_refl _), if_neg (Nat.lt_irrefl _), sN_cg (h := fun v => if v < n then e v n else 0) (h' := fun v => e v n) n (fun i hi => if_pos hi)]
      rfl
    have c : sN (fun w => e n w) n = sN (fun v => e v n) n := sN_cg n (fun i _ => sy n i)
    rw [a, b, c, ir n, ih]
    omega
/-- as many joints under other numbers -/
theorem sN_map (hE : ∀ x y, x < n → y < n → e' (f x) (f y) = e x y) (hf : ∀ x, x < n → f x < n ∧ g (f x) = x) (hg : ∀ x, x < n → g x < n ∧ f (g x) = x) : sN (fun v => sN (fun w => e' v w) n) n = sN (fun v => sN (fun w => e v w) n) n := by
  rw [← sN_perm (h := fun v => sN (fun w => e' v w) n) hf hg]
  refine sN_cg n (fun v hv => ?_)
  show sN (fun w => e' (f v) w) n = sN (fun w => e v w) n
  rw [← sN_perm (h := fun w => e' (f v) w) hf hg]
  exact sN_cg n (fun w hw => hE v w hv hw)
end SN
