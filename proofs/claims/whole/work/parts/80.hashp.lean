/-! ===== points, keys, slots: what the class's cells hold, as lists ===== -/
abbrev Pnt : Type := Int × Int
def pt0 : Pnt := (0, 0)
def Rg (p : Pnt) : Prop := (-4096 ≤ p.1 ∧ p.1 < 4096) ∧ (-4096 ≤ p.2 ∧ p.2 < 4096)
def kyZ (p : Pnt) : Int := (p.1 + 4096) * 8192 + p.2 + 4096
def addP (B : List Pnt) (p : Pnt) : List Pnt := if p ∈ B then B else B ++ [p]
def dd (L : List Pnt) : List Pnt := L.foldl addP []
def nzc (σ : Nat → Nat) : Nat → Nat
  | 0 => 0
  | n + 1 => nzc σ n + (if σ n = 0 then 0 else 1)
/-- where the search for a key begins -/
def hsh (m : Nat) (z : Int) : Nat := (((iv z * (-1640531527)).toUInt32 >>> ((17 : Int32).toUInt32 &&& Int32.toUInt32 31)).toInt32 &&& nI (m - 1)).toNatClampNeg
def IsMc (L : List Pnt) (v : Nat) : Prop := (∀ p, p ∈ L → L.count p ≤ v) ∧ (L ≠ [] → ∃ p, p ∈ L ∧ L.count p = v) ∧ (L = [] → v = 0)
def Lo (f : Pnt → Int) (L : List Pnt) (v : Int) : Prop := (∀ p, p ∈ L → v ≤ f p) ∧ ∃ p, p ∈ L ∧ f p = v
def Hi (f : Pnt → Int) (L : List Pnt) (v : Int) : Prop := (∀ p, p ∈ L → f p ≤ v) ∧ ∃ p, p ∈ L ∧ f p = v
section HP
variable {L B : List Pnt} {p q : Pnt} {m n s t e i j : Nat} {σ : Nat → Nat} {z w : Int} {f : Pnt → Int}
theorem kyZ_b (h : Rg p) : 0 ≤ kyZ p ∧ kyZ p < 67108864 := by
  obtain ⟨⟨a, b⟩, c, d⟩ := h
  unfold kyZ
  constructor <;> omega
theorem kyZ_inj (h : Rg p) (h' : Rg q) (e : kyZ p = kyZ q) : p = q := by
  obtain ⟨⟨a, b⟩, c, d⟩ := h
  obtain ⟨⟨a', b'⟩, c', d'⟩ := h'
  unfold kyZ at e
  exact Prod.ext (by omega) (by omega)
theorem dd_s : dd (L ++ [p]) = addP (dd L) p := by
  unfold dd; rw [List.foldl_append]; rfl
theorem fold_mem : ∀ (L B : List Pnt), (∀ q, q ∈ L.foldl addP B ↔ q ∈ B ∨ q ∈ L)
  | [], B, q => by simp
  | p :: L, B, q => by
    rw [List.foldl_cons, fold_mem L (addP B p) q]
    unfold addP
    split
    · rename_i hp
      rw [List.mem_cons]
      constructor
      · rintro (a | a)
        · exact Or.inl a
        · exact Or.inr (Or.inr a)
      · rintro (a | a | a)
        · exact Or.inl a
        · rw [a]; exact Or.inl hp
        · exact Or.inr a
    · rw [List.mem_append, List.mem_singleton, List.mem_cons, or_assoc]
theorem dd_mem : q ∈ dd L ↔ q ∈ L := by
  unfold dd; rw [fold_mem]; simp
theorem fold_nd : ∀ (L B : List Pnt), B.Nodup → (L.foldl addP B).Nodup
  | [], B, h => h
  | p :: L, B, h => by
    rw [List.foldl_cons]
    refine fold_nd L _ ?_
    unfold addP
    split
    · exact h
    · rename_i hp
      rw [List.nodup_append]
      refine ⟨h, by simp, fun a ha b hb => ?_⟩
      rw [List.mem_singleton.mp hb]
      exact fun e => hp (e ▸ ha)
theorem dd_nd : (dd L).Nodup := fold_nd L [] List.nodup_nil
theorem fold_len : ∀ (L B : List Pnt), (L.foldl addP B).length ≤ B.length + L.length
  | [], B => Nat.le_refl _
  | p :: L, B => by
    rw [List.foldl_cons, List.length_cons]
    refine Nat.le_trans (fold_len L _) ?_
    unfold addP
    split
    · omega
    · rw [List.length_append, List.length_singleton]; omega
theorem dd_len : (dd L).length ≤ L.length := by
  have := fold_len L []
  rw [List.length_nil] at this
  unfold dd; omega
theorem dd_nil : dd L = [] ↔ L = [] := by
  constructor
  · intro h
    rcases L with _ | ⟨p, L⟩
    · rfl
    · have := (dd_mem (L := p :: L)).mpr (List.mem_cons_self ..)
      rw [h] at this; cases this
  · intro h; rw [h]; rfl
theorem gd_ix {L : List Pnt} (hi : i < L.length) : L.getD i pt0 = L[i] := by rw [List.getD_eq_getElem?_getD, List.getElem?_eq_getElem hi]; rfl
theorem gd_mem {L : List Pnt} (hi : i < L.length) : L.getD i pt0 ∈ L := by rw [gd_ix hi]; exact List.getElem_mem _
theorem mem_gd {L : List Pnt} (hp : p ∈ L) : ∃ i, i < L.length ∧ L.getD i pt0 = p := by
  obtain ⟨i, hi, e⟩ := List.mem_iff_getElem.mp hp
  exact ⟨i, hi, by rw [gd_ix hi]; exact e⟩
theorem gd_inj {L : List Pnt} (h : L.Nodup) (hi : i < L.length) (hj : j < L.length) (e : L.getD i pt0 = L.getD j pt0) : i = j := by
  rw [gd_ix hi, gd_ix hj] at e
  exact (List.getElem_inj h).mp e
theorem gd_app1 {L : List Pnt} (hi : i < L.length) : (L ++ [p]).getD i pt0 = L.getD i pt0 := by
  rw [List.getD_eq_getElem?_getD, List.getD_eq_getElem?_getD, List.getElem?_append_left hi]
theorem gd_app2 {L : List Pnt} : (L ++ [p]).getD L.length pt0 = p := by
  rw [List.getD_eq_getElem?_getD, List.getElem?_append_right (Nat.le_refl _), Nat.sub_self]; rfl
theorem nzc_le : ∀ n, nzc σ n ≤ n
  | 0 => Nat.le_refl _
  | n + 1 => by
    have := nzc_le (σ := σ) n
    show nzc σ n + _ ≤ n + 1
    split <;> omega
/-- if not all are taken, one is free -/
theorem nzc_free : ∀ n, nzc σ n < n → ∃ s, s < n ∧ σ s = 0
  | 0, h => absurd h (Nat.not_lt_zero _)
  | n + 1, h => by
    by_cases q : σ n = 0
    · exact ⟨n, by omega, q⟩
    · have e : nzc σ (n + 1) = nzc σ n + 1 := by show nzc σ n + (if σ n = 0 then 0 else 1) = _; rw [if_neg q]
      obtain ⟨s, h1, h2⟩ := nzc_free n (by omega)
      exact ⟨s, by omega, h2⟩
theorem nzc_up {v : Nat} (hs : σ s = 0) (hv : v ≠ 0) : ∀ n, nzc (fun x => if x = s then v else σ x) n = nzc σ n + (if s < n then 1 else 0)
  | 0 => by rw [if_neg (Nat.not_lt_zero _)]; rfl
  | n + 1 => by
    have ih := nzc_up hs hv n
    show nzc (fun x => if x = s then v else σ x) n + (if (if n = s then v else σ n) = 0 then 0 else 1) = nzc σ n + (if σ n = 0 then 0 else 1) + _
    rw [ih]
    by_cases q : n = s
    · rw [if_pos q, if_neg hv, q, hs, if_neg (Nat.lt_irrefl _), if_pos rfl, if_pos (by omega)]
    · rw [if_neg q]
      by_cases r : s < n
      · rw [if_pos r, if_pos (by omega)]; omega
      · rw [if_neg r, if_neg (by omega)]
theorem and_m (z : Int32) (he : e ≤ 30) : z &&& nI (2 ^ e - 1) = nI (z.toBitVec.toNat % 2 ^ e) := by
  have h1 : 2 ^ e ≤ 2 ^ 30 := Nat.pow_le_pow_right (by decide) he
  have h2 : 0 < 2 ^ e := Nat.pow_pos (by decide)
  have h3 := Nat.mod_lt z.toBitVec.toNat h2
  apply Int32.toBitVec_inj.mp
  rw [Int32.toBitVec_and]
  apply BitVec.eq_of_toNat_eq
  rw [BitVec.toNat_and]
  have e1 : (nI (2 ^ e - 1)).toBitVec.toNat = 2 ^ e - 1 := by
    show (BitVec.ofNat 32 (2 ^ e - 1)).toNat = _
    rw [BitVec.toNat_ofNat, Nat.mod_eq_of_lt (by omega)]
  have e2 : (nI (z.toBitVec.toNat % 2 ^ e)).toBitVec.toNat = z.toBitVec.toNat % 2 ^ e := by
    show (BitVec.ofNat 32 (z.toBitVec.toNat % 2 ^ e)).toNat = _
    rw [BitVec.toNat_ofNat, Nat.mod_eq_of_lt (by omega)]
  rw [e1, e2, Nat.and_two_pow_sub_one_eq_mod]
theorem hs_eq (hm : m = 2 ^ e) (he : e ≤ 30) : ((iv z * (-1640531527)).toUInt32 >>> ((17 : Int32).toUInt32 &&& Int32.toUInt32 31)).toInt32 &&& nI (m - 1) = nI (hsh m z) ∧ hsh m z < m := by
  have h1 : 2 ^ e ≤ 2 ^ 30 := Nat.pow_le_pow_right (by decide) he
  have h2 : 0 < 2 ^ e := Nat.pow_pos (by decide)
  unfold hsh
  rw [hm, and_m _ he]
  generalize ((iv z * (-1640531527)).toUInt32 >>> ((17 : Int32).toUInt32 &&& Int32.toUInt32 31)).toInt32.toBitVec.toNat = v
  have h3 := Nat.mod_lt v h2
  rw [nI_clamp (n := v % 2 ^ e) (by omega)]
  exact ⟨rfl, h3⟩
theorem nx_eq (hm : m = 2 ^ e) (he : e ≤ 30) (hs : s < m) : nI (s + 1) &&& nI (m - 1) = nI ((s + 1) % m) := by
  have h1 : 2 ^ e ≤ 2 ^ 30 := Nat.pow_le_pow_right (by decide) he
  rw [hm, and_m _ he]
  congr 2
  show (BitVec.ofNat 32 (s + 1)).toNat = _
  rw [BitVec.toNat_ofNat, Nat.mod_eq_of_lt (by omega)]
/-- the first t with a decidable property, below a bound -/
theorem fst_t (P : Nat → Prop) [DecidablePred P] : ∀ n, (∃ t, t < n ∧ P t) → ∃ t, t < n ∧ P t ∧ ∀ t', t' < t → ¬ P t'
  | 0, ⟨t, h, _⟩ => absurd h (Nat.not_lt_zero _)
  | n + 1, ⟨t, h, ht⟩ => by
    by_cases q : ∃ t, t < n ∧ P t
    · obtain ⟨u, h1, h2, h3⟩ := fst_t P n q
      exact ⟨u, by omega, h2, h3⟩
    · have e : t = n := by
        rcases Nat.lt_or_ge t n with a | a
        · exact absurd ⟨t, a, ht⟩ q
        · omega
      subst e
      exact ⟨t, h, ht, fun t' h' hp => q ⟨t', h', hp⟩⟩
/-- from any place on, every slot comes -/
theorem rch_t (hm : 0 < m) (hs : s < m) (hn : n < m) : ∃ t, t < m ∧ (n + t) % m = s := by
  by_cases q : n ≤ s
  · exact ⟨s - n, by omega, by rw [Nat.add_sub_cancel' q, Nat.mod_eq_of_lt hs]⟩
  · exact ⟨s + m - n, by omega, by rw [show n + (s + m - n) = s + m by omega, Nat.add_mod_right, Nat.mod_eq_of_lt hs]⟩
theorem mc_s {v v' : Nat} (h : IsMc L v) (hp : v' = max v ((L ++ [p]).count p)) : IsMc (L ++ [p]) v' := by
  obtain ⟨a, b, c⟩ := h
  have cs : ∀ q, (L ++ [p]).count q = L.count q + (if p = q then 1 else 0) := by
    intro q
    rw [List.count_append, List.count_singleton]
    by_cases e : p = q
    · rw [if_pos e, if_pos (by simpa using e)]
    · rw [if_neg e, if_neg (by simpa using e)]
  refine ⟨fun q hq => ?_, fun _ => ?_, fun e => ?_⟩
  · by_cases e : p = q
    · subst e; rw [hp]; exact Nat.le_max_right ..
    · rw [cs, if_neg e, hp]
      have hq' : q ∈ L := by
        rcases List.mem_append.mp hq with u | u
        · exact u
        · exact absurd (List.mem_singleton.mp u).symm e
      exact Nat.le_trans (a q hq') (Nat.le_max_left ..)
  · by_cases g : v ≤ (L ++ [p]).count p
    · exact ⟨p, by simp, by rw [hp]; omega⟩
    · have hl : L ≠ [] := by
        intro e; have := c e; omega
      obtain ⟨q, hq, e⟩ := b hl
      refine ⟨q, List.mem_append_left _ hq, ?_⟩
      have := cs q
      by_cases e' : p = q
      · subst e'; rw [if_pos rfl] at this; omega
      · rw [if_neg e'] at this; omega
  · simp at e
theorem mc_u {v w : Nat} (h : IsMc L v) (h' : IsMc L w) : v = w := by
  by_cases q : L = []
  · rw [h.2.2 q, h'.2.2 q]
  · obtain ⟨a, a1, a2⟩ := h.2.1 q
    obtain ⟨b, b1, b2⟩ := h'.2.1 q
    have := h.1 b b1
    have := h'.1 a a1
    omega
theorem Lo_u (h : Lo f L z) (h' : Lo f L w) : z = w := by
  obtain ⟨a, a1, a2⟩ := h.2
  obtain ⟨b, b1, b2⟩ := h'.2
  have := h.1 b b1
  have := h'.1 a a1
  omega
theorem Hi_u (h : Hi f L z) (h' : Hi f L w) : z = w := by
  obtain ⟨a, a1, a2⟩ := h.2
  obtain ⟨b, b1, b2⟩ := h'.2
  have := h.1 b b1
  have := h'.1 a a1
  omega
theorem Lo_1 (e : L = []) : Lo f (L ++ [p]) (f p) := by
  subst e
  exact ⟨fun q hq => by rw [List.mem_singleton.mp hq]; exact Int.le_refl _, p, by simp, rfl⟩
theorem Hi_1 (e : L = []) : Hi f (L ++ [p]) (f p) := by
  subst e
  exact ⟨fun q hq => by rw [List.mem_singleton.mp hq]; exact Int.le_refl _, p, by simp, rfl⟩
theorem Lo_s (h : Lo f L z) : Lo f (L ++ [p]) (min z (f p)) := by
  obtain ⟨a, q, b, c⟩ := h
  refine ⟨fun r hr => ?_, ?_⟩
  · rcases List.mem_append.mp hr with u | u
    · have := a r u; omega
    · rw [List.mem_singleton.mp u]; omega
  · by_cases g : z ≤ f p
    · exact ⟨q, List.mem_append_left _ b, by omega⟩
    · exact ⟨p, by simp, by omega⟩
theorem Hi_s (h : Hi f L z) : Hi f (L ++ [p]) (max z (f p)) := by
  obtain ⟨a, q, b, c⟩ := h
  refine ⟨fun r hr => ?_, ?_⟩
  · rcases List.mem_append.mp hr with u | u
    · have := a r u; omega
    · rw [List.mem_singleton.mp u]; omega
  · by_cases g : f p ≤ z
    · exact ⟨q, List.mem_append_left _ b, by omega⟩
    · exact ⟨p, by simp, by omega⟩
theorem Lo_i (h : Lo f L z) (hp : p ∈ L) : Lo f (L ++ [p]) z := by
  obtain ⟨a, q, b, c⟩ := h
  refine ⟨fun r hr => ?_, q, List.mem_append_left _ b, c⟩
  rcases List.mem_append.mp hr with u | u
  · exact a r u
  · rw [List.mem_singleton.mp u]; exact a p hp
theorem Hi_i (h : Hi f L z) (hp : p ∈ L) : Hi f (L ++ [p]) z := by
  obtain ⟨a, q, b, c⟩ := h
  refine ⟨fun r hr => ?_, q, List.mem_append_left _ b, c⟩
  rcases List.mem_append.mp hr with u | u
  · exact a r u
  · rw [List.mem_singleton.mp u]; exact a p hp
end HP
