/-! ===== points, keys, slots: what the class's cells hold, as lists ===== -/
abbrev Pnt : Type := Int × Int
def pt0 : Pnt := (0, 0)
def Rg (p : Pnt) : Prop := (-4096 ≤ p.1 ∧ p.1 < 4096) ∧ (-4096 ≤ p.2 ∧ p.2 < 4096)
def kyZ (p : Pnt) : Int := (p.1 + 4096) * 8192 + p.2 + 4096
def addP (B : List Pnt) (p : Pnt) : List Pnt := if p ∈ B then B else B ++ [p]
def dd (L : List Pnt) : List Pnt := L.foldl addP []
def nzc (σ : Nat → Nat) : Nat → Nat
  | 0 => 0
  | n + 1 => nzc σ n + (if σ n = 0 then 0 else 1)
/-- where the search for a key begins -/
def hsh (m : Nat) (z : Int) : Nat := (((iv z * (-1640531527)).toUInt32 >>> ((17 : Int32).toUInt32 &&& Int32.toUInt32 31)).toInt32 &&& nI (m - 1)).toNatClampNeg
def IsMc (L : List Pnt) (v : Nat) : Prop := (∀ p, p ∈ L → L.count p ≤ v) ∧ (L ≠ [] → ∃ p, p ∈ L ∧ L.count p = v) ∧ (L = [] → v = 0)
def Lo (f : Pnt → Int) (L : List Pnt) (v : Int) : Prop := (∀ p, p ∈ L → v ≤ f p) ∧ ∃ p, p ∈ L ∧ f p = v
def Hi (f : Pnt → Int) (L : List Pnt) (v : Int) : Prop := (∀ p, p ∈ L → f p ≤ v) ∧ ∃ p, p ∈ L ∧ f p = v
section HP
variable {L B : List Pnt} {p q : Pnt} {m n s t e i j : Nat} {σ : Nat → Nat} {z w : Int} {f : Pnt → Int}
theorem kyZ_b (h : Rg p) : 0 ≤ kyZ p ∧ kyZ p < 67108864 := by
  obtain ⟨⟨a, b⟩, c, d⟩ := h
  unfold kyZ
  constructor <;> omega
theorem kyZ_inj (h : Rg p) (h' : Rg q) (e : kyZ p = kyZ q) : p = q := by
  obtain ⟨⟨a, b⟩, c, d⟩ := h
  obtain ⟨⟨a', b'⟩, c', d'⟩ := h'
  unfold kyZ at e
  exact Prod.ext (by omega) (by omega)
theorem dd_s : dd (L ++ [p]) = addP (dd L) p := by
  unfold dd; rw [List.foldl_append]; rfl
theorem fold_mem : ∀ (L B : List Pnt), (∀ q, q ∈ L.foldl addP B ↔ q ∈ B ∨ q ∈ L)
  | [], B, q => by simp
  | p :: L, B, q => by
    rw [List.foldl_cons, fold_mem L (addP B p) q]
    unfold addP
    split
    · rename_i hp
      rw [List.mem_cons]
      constructor
      · rintro (a | a)
        · exact Or.inl a
        · exact Or.inr (Or.inr a)
      · rintro (a | a | a)
        · exact Or.inl a
        · rw [a]; exact Or.inl hp
        · exact Or.inr a
    · rw [List.mem_append, List.mem_singleton, List.mem_cons, or_assoc]
theorem dd_mem : q ∈ dd L ↔ q ∈ L := by
  unfold dd; rw [fold_mem]; simp
theorem fold_nd : ∀ (L B : List Pnt), B.Nodup → (L.foldl addP B).Nodup
  | [], B, h => h
  | p :: L, B, h => by
    rw [List.foldl_cons]
    refine fold_nd L _ ?_
    unfold addP
    split
    · exact h
    · rename_i hp
      rw [List.nodup_append]
      refine ⟨h, by simp, fun a ha b hb => ?_⟩
      rw [List.mem_singleton.mp hb]
      exact fun e => hp (e ▸ ha)
theorem dd_nd : (dd L).Nodup := fold_nd L [] List.nodup_nil
theorem fold_len : ∀ (L B : List Pnt), (L.foldl addP B).length ≤ B.length + L.length
  | [], B => Nat.le_refl _
  | p :: L, B => by
    rw [List.foldl_cons, List.length_cons]
    refine Nat.le_trans (fold_len L _) ?_
    unfold addP
    split
    · omega
    · rw [List.length_append, List.length_singleton]; omega
theorem dd_len : (dd L).length ≤ L.length := by
  have := fold_len L []
  rw [List.length_nil] at this
  unfold dd; omega
theorem dd_nil : dd L = [] ↔ L = [] := by
  constructor
  · intro h
    rcases L with _ | ⟨p, L⟩
    · rfl
    · have := (dd_mem (L := p :: L)).mpr (List.mem_cons_self ..)
      rw [h] at this; cases this
  · intro h; rw [h]; rfl
theorem gd_ix {L : List Pnt} (hi : i < L.length) : L.getD i pt0 = L[i] := by rw [List.getD_eq_getElem?_getD, List.getElem?_eq_getElem hi]; rfl
theorem gd_mem {L : List Pnt} (hi : i < L.length) : L.getD i pt0 ∈ L := by rw [gd_ix hi]; exact List.getElem_mem _
theorem mem_gd {L : List Pnt} (hp : p ∈ L) : ∃ i, i < L.length ∧ L.getD i pt0 = p := by
  obtain ⟨i, hi, e⟩ := List.mem_iff_getElem.mp hp
  exact ⟨i, hi, by rw [gd_ix hi]; exact e⟩
theorem gd_inj {L : List Pnt} (h : L.Nodup) (hi : i < L.length) (hj : j < L.length) (e : L.getD i pt0 = L.getD j pt0) : i = j := by
  rw [gd_ix hi, gd_ix hj] at e
  exact (List.getElem_inj h).mp e
theorem gd_app1 {L : List Pnt} (hi : i < L.length) : (L ++ [p]).getD i pt0 = L.getD i pt0 := by
  rw [List.getD_eq_getElem?_getD, List.getD_eq_getElem?_getD, List.getElem?_append_left hi]
theorem gd_app2 {L : List Pnt} : (L ++ [p]).getD L.length pt0 = p := by
  rw [List.getD_eq_getElem?_getD, List.getElem?_append_right (Nat.le_refl _), Nat.sub_self]; rfl
theorem nzc_le : ∀ n, nzc σ n ≤ n
  | 0 => Nat.le_refl _
  | n + 1 => by
    have := nzc_le n
    show nzc σ n + _ ≤ n + 1
    split <;> omega
/-- if not all are taken, one is free -/
theorem nzc_free : ∀ n, nzc σ n < n → ∃ s, s < n ∧ σ s = 0
  | 0, h => absurd h (Nat.not_lt_zero _)
  | n + 1, h => by
    by_cases q : σ n = 0
    · exact ⟨n, by omega, q⟩
    · have e : nzc σ (n + 1) = nzc σ n + 1 := by show nzc σ n + (if σ n = 0 then 0 else 1) = _; rw [if_neg q]
      obtain ⟨s, h1, h2⟩ := nzc_free n (by omega)
      exact ⟨s, by omega, h2⟩
theorem nzc_up {v : Nat} (hs : σ s = 0) (hv : v ≠ 0) : ∀ n, nzc (fun x => if x = s then v else σ x) n = nzc σ n + (if s < n then 1 else 0)
  | 0 => by rw [if_neg (Nat.not_lt_zero _)]; rfl
  | n + 1 => by
    have ih := nzc_up hs hv n
    show nzc (fun x => if x = s then v else σ x) n + (if (if n = s then v else σ n) = 0 then 0 else 1) = nzc σ n + (if σ n = 0 then 0 else 1) + _
    rw [ih]
    by_cases q : n = s
    · rw [if_pos q, if_neg hv, q, hs, if_neg (Nat.lt_irrefl _), if_pos rfl, if_pos (by omega)]
    · rw [if_neg q]
      by_cases r : s < n
      · rw [if_pos r, if_pos (show s < n + 1 by omega)]; omega
      · rw [if_neg r, if_neg (show ¬ s < n + 1 by omega)]; omega
theorem and_m (z : Int32) (he : e ≤ 30) : z &&& nI (2 ^ e - 1) = nI (z.toBitVec.toNat % 2 ^ e) := by
  have h1 : 2 ^ e ≤ 2 ^ 30 := Nat.pow_le_pow_right (by decide) he
  have h2 : 0 < 2 ^ e := Nat.pow_pos (by decide)
  have h3 := Nat.mod_lt z.toBitVec.toNat h2
  apply Int32.toBitVec_inj.mp
  rw [Int32.toBitVec_and]
  apply BitVec.eq_of_toNat_eq
  rw [BitVec.toNat_and]
  have e1 : (nI (2 ^ e - 1)).toBitVec.toNat = 2 ^ e - 1 := by
    show (BitVec.ofNat 32 (2 ^ e - 1)).toNat = _
    rw [BitVec.toNat_ofNat, Nat.mod_eq_of_lt (by omega)]
  have e2 : (nI (z.toBitVec.toNat % 2 ^ e)).toBitVec.toNat = z.toBitVec.toNat % 2 ^ e := by
    show (BitVec.ofNat 32 (z.toBitVec.toNat % 2 ^ e)).toNat = _
    rw [BitVec.toNat_ofNat, Nat.mod_eq_of_lt (by omega)]
  rw [e1, e2, Nat.and_two_pow_sub_one_eq_mod]
theorem hs_eq (hm : m = 2 ^ e) (he : e ≤ 30) : ((iv z * (-1640531527)).toUInt32 >>> ((17 : Int32).toUInt32 &&& Int32.toUInt32 31)).toInt32 &&& nI (m - 1) = nI (hsh m z) ∧ hsh m z < m := by
  have h1 : 2 ^ e ≤ 2 ^ 30 := Nat.pow_le_pow_right (by decide) he
  have h2 : 0 < 2 ^ e := Nat.pow_pos (by decide)
  unfold hsh
  rw [hm, and_m _ he]
  generalize ((iv z * (-1640531527)).toUInt32 >>> ((17 : Int32).toUInt32 &&& Int32.toUInt32 31)).toInt32.toBitVec.toNat = v
  have h3 := Nat.mod_lt v h2
  rw [nI_clamp (n := v % 2 ^ e) (by omega)]
  exact ⟨rfl, h3⟩
theorem nx_eq (hm : m = 2 ^ e) (he : e ≤ 30) (hs : s < m) : nI (s + 1) &&& nI (m - 1) = nI ((s + 1) % m) := by
  have h1 : 2 ^ e ≤ 2 ^ 30 := Nat.pow_le_pow_right (by decide) he
  rw [hm, and_m _ he]
  congr 2
  show (BitVec.ofNat 32 (s + 1)).toNat = _
  rw [BitVec.toNat_ofNat, Nat.mod_eq_of_lt (by omega)]
/-- the first t with a decidable property, below a bound -/
theorem fst_t (P : Nat → Prop) [DecidablePred P] : ∀ n, (∃ t, t < n ∧ P t) → ∃ t, t < n ∧ P t ∧ ∀ t', t' < t → ¬ P t'
  | 0, ⟨t, h, _⟩ => absurd h (Nat.not_lt_zero _)
  | n + 1, ⟨t, h, ht⟩ => by
    by_cases q : ∃ t, t < n ∧ P t
    · obtain ⟨u, h1, h2, h3⟩ := fst_t P n q
      exact ⟨u, by omega, h2, h3⟩
    · have e : t = n := by
        rcases Nat.lt_or_ge t n with a | a
        · exact absurd ⟨t, a, ht⟩ q
        · omega
      subst e
      exact ⟨t, h, ht, fun t' h' hp => q ⟨t', h', hp⟩⟩
/-- from any place on, every slot comes -/
theorem rch_t (hm : 0 < m) (hs : s < m) (hn : n < m) : ∃ t, t < m ∧ (n + t) % m = s := by
  by_cases q : n ≤ s
  · exact ⟨s - n, by omega, by rw [Nat.add_sub_cancel' q, Nat.mod_eq_of_lt hs]⟩
  · exact ⟨s + m - n, by omega, by rw [show n + (s + m - n) = s + m by omega, Nat.add_mod_right, Nat.mod_eq_of_lt hs]⟩
theorem mc_s {v v' : Nat} (h : IsMc L v) (hp : v' = max v ((L ++ [p]).count p)) : IsMc (L ++ [p]) v' := by
  obtain ⟨a, b, c⟩ := h
  have cs : ∀ q, (L ++ [p]).count q = L.count q + (if p = q then 1 else 0) := by
    intro q
    rw [List.count_append, List.count_singleton]
    by_cases e : p = q
    · rw [if_pos e, if_pos (by simpa using e)]
    · rw [if_neg e, if_neg (by simpa using e)]
  refine ⟨fun q hq => ?_, fun _ => ?_, fun e => ?_⟩
  · by_cases e : p = q
    · subst e; rw [hp]; exact Nat.le_max_right ..
    · rw [cs, if_neg e, hp]
      have hq' : q ∈ L := by
        rcases List.mem_append.mp hq with u | u
        · exact u
        · exact absurd (List.mem_singleton.mp u).symm e
      exact Nat.le_trans (a q hq') (Nat.le_max_left ..)
  · by_cases g : v ≤ (L ++ [p]).count p
    · exact ⟨p, by simp, by rw [hp]; omega⟩
    · have hl : L ≠ [] := by
        intro e; have := c e; omega
      obtain ⟨q, hq, e⟩ := b hl
      refine ⟨q, List.mem_append_left _ hq, ?_⟩
      have := cs q
      by_cases e' : p = q
      · subst e'; rw [if_pos rfl] at this; omega
      · rw [if_neg e'] at this; omega
  · simp at e
theorem mc_u {v w : Nat} (h : IsMc L v) (h' : IsMc L w) : v = w := by
  by_cases q : L = []
  · rw [h.2.2 q, h'.2.2 q]
  · obtain ⟨a, a1, a2⟩ := h.2.1 q
    obtain ⟨b, b1, b2⟩ := h'.2.1 q
    have := h.1 b b1
    have := h'.1 a a1
    omega
theorem Lo_u (h : Lo f L z) (h' : Lo f L w) : z = w := by
  obtain ⟨a, a1, a2⟩ := h.2
  obtain ⟨b, b1, b2⟩ := h'.2
  have := h.1 b b1
  have := h'.1 a a1
  omega
theorem Hi_u (h : Hi f L z) (h' : Hi f L w) : z = w := by
  obtain ⟨a, a1, a2⟩ := h.2
  obtain ⟨b, b1, b2⟩ := h'.2
  have := h.1 b b1
  have := h'.1 a a1
  omega
theorem Lo_1 (e : L = []) : Lo f (L ++ [p]) (f p) := by
  subst e
  exact ⟨fun q hq => by rw [List.mem_singleton.mp hq]; exact Int.le_refl _, p, by simp, rfl⟩
theorem Hi_1 (e : L = []) : Hi f (L ++ [p]) (f p) := by
  subst e
  exact ⟨fun q hq => by rw [List.mem_singleton.mp hq]; exact Int.le_refl _, p, by simp, rfl⟩
theorem Lo_s (h : Lo f L z) : Lo f (L ++ [p]) (min z (f p)) := by
  obtain ⟨a, q, b, c⟩ := h
  refine ⟨fun r hr => ?_, ?_⟩
  · rcases List.mem_append.mp hr with u | u
    · have := a r u; omega
    · rw [List.mem_singleton.mp u]; omega
  · by_cases g : z ≤ f p
    · exact ⟨q, List.mem_append_left _ b, by omega⟩
    · exact ⟨p, by simp, by omega⟩
theorem Hi_s (h : Hi f L z) : Hi f (L ++ [p]) (max z (f p)) := by
  obtain ⟨a, q, b, c⟩ := h
  refine ⟨fun r hr => ?_, ?_⟩
  · rcases List.mem_append.mp hr with u | u
    · have := a r u; omega
    · rw [List.mem_singleton.mp u]; omega
  · by_cases g : f p ≤ z
    · exact ⟨q, List.mem_append_left _ b, by omega⟩
    · exact ⟨p, by simp, by omega⟩
theorem Lo_i (h : Lo f L z) (hp : p ∈ L) : Lo f (L ++ [p]) z := by
  obtain ⟨a, q, b, c⟩ := h
  refine ⟨fun r hr => ?_, q, List.mem_append_left _ b, c⟩
  rcases List.mem_append.mp hr with u | u
  · exact a r u
  · rw [List.mem_singleton.mp u]; exact a p hp
theorem Hi_i (h : Hi f L z) (hp : p ∈ L) : Hi f (L ++ [p]) z := by
  obtain ⟨a, q, b, c⟩ := h
  refine ⟨fun r hr => ?_, q, List.mem_append_left _ b, c⟩
  rcases List.mem_append.mp hr with u | u
  · exact a r u
  · rw [List.mem_singleton.mp u]; exact a p hp
end HP
/-- the slot that is looked at after t others -/
def slt (m : Nat) (z : Int) (t : Nat) : Nat := (hsh m z + t) % m
/-- what the slots keep to: they name the points of B, each where a search comes to it -/
def Hsp (m : Nat) (σ : Nat → Nat) (B : List Pnt) : Prop := (∀ s, s < m → σ s ≤ B.length) ∧ nzc σ m = B.length ∧ ∀ i, i < B.length → ∃ t, t < m ∧ σ (slt m (kyZ (B.getD i pt0)) t) = i + 1 ∧ ∀ t', t' < t → σ (slt m (kyZ (B.getD i pt0)) t') ≠ 0
def StpH (m : Nat) (σ : Nat → Nat) (B : List Pnt) (z : Int) (t : Nat) : Prop := σ (slt m z t) = 0 ∨ kyZ (B.getD (σ (slt m z t) - 1) pt0) = z
section HQ
variable {L B : List Pnt} {p q : Pnt} {m n s t e i j : Nat} {σ : Nat → Nat} {z w : Int}
theorem slt_lt (hm : 0 < m) : slt m z t < m := Nat.mod_lt _ hm
theorem find_in (hm : 0 < m) (S : Hsp m σ B) (hn : B.Nodup) (hr : ∀ q, q ∈ B → Rg q) (hi : i < B.length) : ∃ t, t < m ∧ σ (slt m (kyZ (B.getD i pt0)) t) = i + 1 ∧ ∀ t', t' < t → ¬ StpH m σ B (kyZ (B.getD i pt0)) t' := by
  obtain ⟨s1, s2, s3⟩ := S
  obtain ⟨u, u1, u2, u3⟩ := s3 i hi
  obtain ⟨t, t1, t2, t3⟩ := fst_t (fun t => σ (slt m (kyZ (B.getD i pt0)) t) = i + 1) (u + 1) ⟨u, by omega, u2⟩
  refine ⟨t, by omega, t2, fun t' h' st => ?_⟩
  have z1 := u3 t' (by omega)
  have z2 := t3 t' h'
  have z3 := s1 _ (slt_lt (z := kyZ (B.getD i pt0)) (t := t') hm)
  rcases st with a | a
  · exact z1 a
  · have hj : σ (slt m (kyZ (B.getD i pt0)) t') - 1 < B.length := by omega
    have := gd_inj hn hj hi (kyZ_inj (hr _ (gd_mem hj)) (hr _ (gd_mem hi)) a)
    omega
theorem find_out (hm : m = 2 ^ e) (he : e ≤ 30) (S : Hsp m σ B) (hr : ∀ q, q ∈ B → Rg q) (hp : Rg p) (ho : ¬ p ∈ B) (hl : B.length < m) : ∃ t, t < m ∧ σ (slt m (kyZ p) t) = 0 ∧ ∀ t', t' < t → ¬ StpH m σ B (kyZ p) t' := by
  obtain ⟨s1, s2, s3⟩ := S
  have h2 : 0 < m := by omega
  obtain ⟨s, hs, hz⟩ := nzc_free (σ := σ) m (by omega)
  obtain ⟨u, u1, u2⟩ := rch_t h2 hs (hs_eq (z := kyZ p) hm he).2
  obtain ⟨t, t1, t2, t3⟩ := fst_t (fun t => σ (slt m (kyZ p) t) = 0) m ⟨u, u1, by show σ ((hsh m (kyZ p) + u) % m) = 0; rw [u2]; exact hz⟩
  refine ⟨t, t1, t2, fun t' h' st => ?_⟩
  have z2 := t3 t' h'
  have z3 := s1 _ (slt_lt (z := kyZ p) (t := t') h2)
  rcases st with a | a
  · exact z2 a
  · have hj : σ (slt m (kyZ p) t') - 1 < B.length := by omega
    have := kyZ_inj (hr _ (gd_mem hj)) hp a
    exact ho (this ▸ gd_mem hj)
theorem Hsp_add (hm : 0 < m) (S : Hsp m σ B) (ht : t < m) (hz : σ (slt m (kyZ p) t) = 0) (hb : ∀ t', t' < t → ¬ StpH m σ B (kyZ p) t') : Hsp m (fun x => if x = slt m (kyZ p) t then B.length + 1 else σ x) (B ++ [p]) := by
  obtain ⟨s1, s2, s3⟩ := S
  have hl : (B ++ [p]).length = B.length + 1 := by rw [List.length_append]; rfl
  refine ⟨fun s hs => ?_, ?_, fun i hi => ?_⟩
  · show (if s = slt m (kyZ p) t then B.length + 1 else σ s) ≤ _
    rw [hl]
    split
    · exact Nat.le_refl _
    · have := s1 s hs; omega
  · rw [nzc_up hz (by omega), if_pos (slt_lt hm), s2, hl]
  · rw [hl] at hi
    by_cases g : i < B.length
    · obtain ⟨u, u1, u2, u3⟩ := s3 i g
      rw [gd_app1 g]
      refine ⟨u, u1, ?_, fun t' h' => ?_⟩
      · show (if _ = slt m (kyZ p) t then B.length + 1 else _) = _
        rw [if_neg (fun e => by rw [e, hz] at u2; omega)]
        exact u2
      · show (if _ = slt m (kyZ p) t then B.length + 1 else _) ≠ 0
        split
        · omega
        · exact u3 t' h'
    · have e : i = B.length := by omega
      subst e
      rw [gd_app2]
      refine ⟨t, ht, if_pos rfl, fun t' h' => ?_⟩
      show (if _ = slt m (kyZ p) t then B.length + 1 else _) ≠ 0
      split
      · omega
      · exact fun a => hb t' h' (Or.inl a)
theorem Hsp_0 : Hsp m (fun _ => 0) [] := by
  refine ⟨fun s _ => Nat.le_refl _, ?_, fun i hi => absurd hi (Nat.not_lt_zero _)⟩
  show nzc (fun _ => 0) m = 0
  induction m with
  | zero => rfl
  | succ m ih => show nzc (fun _ => 0) m + 0 = 0; rw [ih]
end HQ
/-! ===== a row of numbers: swaps, counts, a heap, its order, its runs ===== -/
def swp (f : Nat → Int) (i j : Nat) : Nat → Int := fun x => if x = i then f j else if x = j then f i else f x
def cnF (f : Nat → Int) (v : Int) : Nat → Nat
  | 0 => 0
  | n + 1 => cnF f v n + (if f n = v then 1 else 0)
def upF (f : Nat → Int) (i : Nat) (v : Int) : Nat → Int := fun x => if x = i then v else f x
/-- the greater one of a's two below n -/
def bigc (f : Nat → Int) (n a : Nat) : Nat := if 2 * a + 2 < n ∧ f (2 * a + 1) < f (2 * a + 2) then 2 * a + 2 else 2 * a + 1
def snk (n : Nat) : Nat → (Nat → Int) → Nat → (Nat → Int)
  | 0, f, _ => f
  | q + 1, f, a => if 2 * a + 1 < n ∧ f a < f (bigc f n a) then snk n q (swp f a (bigc f n a)) (bigc f n a) else f
def Hp (f : Nat → Int) (lo n : Nat) : Prop := ∀ c, 1 ≤ c → c < n → lo ≤ (c - 1) / 2 → f c ≤ f ((c - 1) / 2)
def HpX (f : Nat → Int) (lo a n : Nat) : Prop := (∀ c, 1 ≤ c → c < n → lo ≤ (c - 1) / 2 → (c - 1) / 2 ≠ a → f c ≤ f ((c - 1) / 2)) ∧ (1 ≤ a → lo ≤ (a - 1) / 2 → ∀ c, 1 ≤ c → c < n → (c - 1) / 2 = a → f c ≤ f ((a - 1) / 2))
section HE
variable {f g : Nat → Int} {i j n a c lo N : Nat} {v w : Int}
theorem cn_up (hi : i < n) : cnF (upF f i w) v n + (if f i = v then 1 else 0) = cnF f v n + (if w = v then 1 else 0) := by
  have lo : ∀ m, m ≤ i → cnF (upF f i w) v m = cnF f v m := by
    intro m
    induction m with
    | zero => intro _; rfl
    | succ m ih =>
      intro hm
      show cnF (upF f i w) v m + (if (if m = i then w else f m) = v then 1 else 0) = cnF f v m + _
      rw [ih (by omega), if_neg (show ¬ m = i by omega)]
  have hg : ∀ m, i < m → cnF (upF f i w) v m + (if f i = v then 1 else 0) = cnF f v m + (if w = v then 1 else 0) := by
    intro m
    induction m with
    | zero => intro h; omega
    | succ m ih =>
      intro hm
      show cnF (upF f i w) v m + (if (if m = i then w else f m) = v then 1 else 0) + _ = cnF f v m + (if f m = v then 1 else 0) + _
      by_cases e : m = i
      · rw [if_pos e, e, lo i (Nat.le_refl _)]; omega
      · rw [if_neg e]
        have := ih (by omega)
        omega
  exact hg n hi
theorem swp_up (h : i ≠ j) : swp f i j = upF (upF f i (f j)) j (f i) := by
  funext x
  show (if x = i then f j else if x = j then f i else f x) = if x = j then f i else if x = i then f j else f x
  by_cases e : x = i
  · rw [if_pos e, if_neg (by omega), if_pos e]
  · rw [if_neg e]
    by_cases e' : x = j
    · rw [if_pos e', if_pos e']
    · rw [if_neg e', if_neg e', if_neg e]
theorem cn_swp (hi : i < n) (hj : j < n) : cnF (swp f i j) v n = cnF f v n := by
  by_cases e : i = j
  · subst e
    congr 1
    funext x
    show (if x = i then f i else if x = i then f i else f x) = f x
    split
    · rename_i q; rw [q]
    · rfl
  · rw [swp_up e]
    have h1 := cn_up (f := upF f i (f j)) (w := f i) (v := v) hj
    have h2 := cn_up (f := f) (w := f j) (v := v) hi
    have h3 : upF f i (f j) j = f j := if_neg (fun q => e q.symm)
    rw [h3] at h1
    omega
theorem swp_ge (hi : i < n) (hj : j < n) (hc : n ≤ c) : swp f i j c = f c := by
  show (if c = i then f j else if c = j then f i else f c) = f c
  rw [if_neg (by omega), if_neg (by omega)]
theorem big_b (h : 2 * a + 1 < n) : bigc f n a < n ∧ (bigc f n a = 2 * a + 1 ∨ bigc f n a = 2 * a + 2) ∧ ∀ c, 1 ≤ c → c < n → (c - 1) / 2 = a → f c ≤ f (bigc f n a) := by
  unfold bigc
  by_cases q : 2 * a + 2 < n ∧ f (2 * a + 1) < f (2 * a + 2)
  · rw [if_pos q]
    refine ⟨q.1, Or.inr rfl, fun c h1 h2 h3 => ?_⟩
    rcases (show c = 2 * a + 1 ∨ c = 2 * a + 2 by omega) with e | e
    · rw [e]; have := q.2; omega
    · rw [e]; exact Int.le_refl _
  · rw [if_neg q]
    refine ⟨h, Or.inl rfl, fun c h1 h2 h3 => ?_⟩
    rcases (show c = 2 * a + 1 ∨ c = 2 * a + 2 by omega) with e | e
    · rw [e]; exact Int.le_refl _
    · rw [e]
      have : ¬ f (2 * a + 1) < f (2 * a + 2) := fun r => q ⟨by omega, r⟩
      omega
theorem snk_hp : ∀ (q : Nat) (f : Nat → Int) (a : Nat), HpX f lo a n → lo ≤ a → n ≤ a + q → Hp (snk n q f a) lo n
  | 0, f, a, X, hl, hq => by
    show Hp f lo n
    exact fun c h1 h2 h3 => X.1 c h1 h2 h3 (by omega)
  | q + 1, f, a, X, hl, hq => by
    show Hp (if 2 * a + 1 < n ∧ f a < f (bigc f n a) then snk n q (swp f a (bigc f n a)) (bigc f n a) else f) lo n
    by_cases r : 2 * a + 1 < n ∧ f a < f (bigc f n a)
    · rw [if_pos r]
      obtain ⟨b1, b2, b3⟩ := big_b (f := f) r.1
      generalize bigc f n a = b at r b1 b2 b3
      have pb : (b - 1) / 2 = a := by omega
      have sa : swp f a b a = f b := if_pos rfl
      have sb : swp f a b b = f a := by show (if b = a then _ else if b = b then _ else _) = _; rw [if_neg (by omega), if_pos rfl]
      have so : ∀ c, c ≠ a → c ≠ b → swp f a b c = f c := fun c h1 h2 => by show (if c = a then _ else if c = b then _ else _) = _; rw [if_neg h1, if_neg h2]
      refine snk_hp q _ b ⟨fun c h1 h2 h3 h4 => ?_, fun h1 h2 c h3 h4 h5 => ?_⟩ (by omega) (by omega)
      · by_cases e1 : c = a
        · subst e1
          rw [sa, so _ (by omega) (by omega)]
          exact X.2 h1 h3 b (by omega) b1 pb
        · by_cases e2 : c = b
          · rw [e2, sb, pb, sa]; omega
          · rw [so c e1 e2]
            by_cases e3 : (c - 1) / 2 = a
            · rw [e3, sa]; exact b3 c h1 h2 e3
            · rw [so _ e3 h4]; exact X.1 c h1 h2 h3 e3
      · rw [pb, sa, so c (by omega) (by omega)]
        have := X.1 c h3 h4 (by omega) (by omega)
        rw [h5] at this
        exact this
    · rw [if_neg r]
      intro c h1 h2 h3
      by_cases e : (c - 1) / 2 = a
      · have h4 : 2 * a + 1 < n := by omega
        obtain ⟨b1, b2, b3⟩ := big_b (f := f) h4
        have := b3 c h1 h2 e
        have : ¬ f a < f (bigc f n a) := fun z => r ⟨h4, z⟩
        rw [e]; omega
      · exact X.1 c h1 h2 h3 e
theorem snk_cn (hN : n ≤ N) : ∀ (q : Nat) (f : Nat → Int) (a : Nat), cnF (snk n q f a) v N = cnF f v N
  | 0, f, a => rfl
  | q + 1, f, a => by
    show cnF (if 2 * a + 1 < n ∧ f a < f (bigc f n a) then snk n q (swp f a (bigc f n a)) (bigc f n a) else f) v N = _
    split
    · rename_i r
      obtain ⟨b1, b2, -⟩ := big_b (f := f) r.1
      rw [snk_cn hN q, cn_swp (by omega) (by omega)]
    · rfl
theorem snk_ge (hc : n ≤ c) : ∀ (q : Nat) (f : Nat → Int) (a : Nat), snk n q f a c = f c
  | 0, f, a => rfl
  | q + 1, f, a => by
    show (if 2 * a + 1 < n ∧ f a < f (bigc f n a) then snk n q (swp f a (bigc f n a)) (bigc f n a) else f) c = _
    split
    · rename_i r
      obtain ⟨b1, b2, -⟩ := big_b (f := f) r.1
      rw [snk_ge hc q, swp_ge (n := n) (by omega) b1 hc]
    · rfl
/-- a property of all numbers below n stays -/
theorem snk_all {P : Int → Prop} : ∀ (q : Nat) (f : Nat → Int) (a : Nat), (∀ x, x < n → P (f x)) → ∀ x, x < n → P (snk n q f a x)
  | 0, f, a, h => h
  | q + 1, f, a, h => by
    intro x hx
    show P ((if 2 * a + 1 < n ∧ f a < f (bigc f n a) then snk n q (swp f a (bigc f n a)) (bigc f n a) else f) x)
    split
    · rename_i r
      obtain ⟨b1, b2, -⟩ := big_b (f := f) r.1
      refine snk_all q _ _ (fun y hy => ?_) x hx
      show P (if y = a then _ else if y = _ then _ else _)
      split
      · exact h _ b1
      · split
        · exact h _ (by omega)
        · exact h _ hy
    · exact h x hx
theorem hp_top (h : Hp f 0 n) : ∀ c, c < n → f c ≤ f 0 := by
  intro c
  induction c using Nat.strongRecOn with
  | _ c ih =>
    intro hc
    by_cases e : c = 0
    · rw [e]; exact Int.le_refl _
    · have h1 := h c (by omega) hc (Nat.zero_le _)
      have h2 := ih ((c - 1) / 2) (by omega) (by omega)
      omega
/-- the heap is on the first i, behind it all is in order and not less -/
def Hso (f : Nat → Int) (i n : Nat) : Prop := Hp f 0 i ∧ (∀ x y, i ≤ x → x ≤ y → y < n → f x ≤ f y) ∧ ∀ x y, x < i → i ≤ y → y < n → f x ≤ f y
theorem hso_0 (h : Hp f 0 n) : Hso f n n := ⟨h, fun x y h1 h2 h3 => by omega, fun x y h1 h2 h3 => by omega⟩
theorem hso_s (h : Hso f (i + 1) n) (hi : i < n) : Hso (snk i i (swp f 0 i) 0) i n := by
  obtain ⟨h1, h2, h3⟩ := h
  have s0 : ∀ x, x < i → swp f 0 i x = if x = 0 then f i else f x := fun x hx => by
    show (if x = 0 then f i else if x = i then f 0 else f x) = _
    rw [if_neg (show ¬ x = i by omega)]
  have si : swp f 0 i i = f 0 := by
    show (if i = 0 then f i else if i = i then f 0 else f i) = _
    by_cases e : i = 0
    · rw [if_pos e, e]
    · rw [if_neg e, if_pos rfl]
  have sg : ∀ x, i < x → swp f 0 i x = f x := fun x hx => by
    show (if x = 0 then f i else if x = i then f 0 else f x) = _
    rw [if_neg (by omega), if_neg (by omega)]
  have tp := hp_top h1
  have all : ∀ x, x < i → snk i i (swp f 0 i) 0 x ≤ f 0 := by
    refine snk_all (P := fun v => v ≤ f 0) i _ 0 (fun x hx => ?_)
    show swp f 0 i x ≤ f 0
    rw [s0 x hx]
    split
    · exact tp i (by omega)
    · exact tp x (by omega)
  have ups : ∀ y, i ≤ y → y < n → f 0 ≤ snk i i (swp f 0 i) 0 y := by
    intro y hy hn
    rw [snk_ge hy]
    by_cases e : y = i
    · rw [e, si]; exact Int.le_refl _
    · rw [sg y (by omega)]; exact h3 0 y (by omega) (by omega) hn
  refine ⟨?_, fun x y a b c => ?_, fun x y a b c => Int.le_trans (all x a) (ups y b c)⟩
  · refine snk_hp i _ 0 ⟨fun c c1 c2 c3 c4 => ?_, fun c1 => by omega⟩ (Nat.le_refl _) (by omega)
    rw [s0 c c2, s0 ((c - 1) / 2) (by omega), if_neg (by omega), if_neg c4]
    exact h1 c c1 (by omega) c3
  · rw [snk_ge a, snk_ge (by omega)]
    by_cases e : x = i
    · rw [e, si]
      by_cases e' : y = i
      · rw [e', si]; exact Int.le_refl _
      · rw [sg y (by omega)]; exact h3 0 y (by omega) (by omega) c
    · rw [sg x (by omega), sg y (by omega)]; exact h2 x y (by omega) b c
theorem hso_1 (h : Hso f 1 n) : ∀ x y, x ≤ y → y < n → f x ≤ f y := by
  intro x y h1 h2
  by_cases e : x = 0
  · by_cases e' : y = 0
    · rw [e, e']; exact Int.le_refl _
    · exact h.2.2 x y (by omega) (by omega) h2
  · exact h.2.1 x y (by omega) h1 h2
theorem hp_s (h : Hp f (a + 1) n) (q : Nat) (hq : n ≤ a + q) : Hp (snk n q f a) a n :=
  snk_hp q f a ⟨fun c h1 h2 h3 h4 => h c h1 h2 (by omega), fun h1 h2 => by omega⟩ (Nat.le_refl _) hq
theorem hp_0 : Hp f (n / 2 + 1) n := fun c h1 h2 h3 => by omega
/-- how often the number at i came up to i -/
def cur (g : Nat → Int) (i : Nat) : Nat := cnF g (g i) (i + 1)
def rA (g : Nat → Int) : Nat → List Int
  | 0 => []
  | i + 1 => if cur g i = 1 then rA g i ++ [g i] else rA g i
def rM (g : Nat → Int) : Nat → Nat
  | 0 => 0
  | i + 1 => max (rM g i) (cur g i)
theorem cn_0 : ∀ n, (∀ j, j < n → g j ≠ v) → cnF g v n = 0
  | 0, _ => rfl
  | n + 1, h => by
    show cnF g v n + (if g n = v then 1 else 0) = 0
    rw [cn_0 n (fun j hj => h j (by omega)), if_neg (h n (by omega))]
theorem cn_pos : ∀ n, cnF g v n ≠ 0 → ∃ j, j < n ∧ g j = v
  | 0, h => absurd rfl h
  | n + 1, h => by
    by_cases e : g n = v
    · exact ⟨n, by omega, e⟩
    · have : cnF g v (n + 1) = cnF g v n := by show cnF g v n + (if g n = v then 1 else 0) = _; rw [if_neg e]; rfl
      obtain ⟨j, h1, h2⟩ := cn_pos n (by omega)
      exact ⟨j, by omega, h2⟩
theorem cn_mono : ∀ m, cnF g v n ≤ cnF g v (n + m)
  | 0 => Nat.le_refl _
  | m + 1 => Nat.le_trans (cn_mono m) (Nat.le_add_right _ _)
theorem cn_ge (hj : j < n) (e : g j = v) : 1 ≤ cnF g v n := by
  have h1 : cnF g v (j + 1) = cnF g v j + 1 := by show cnF g v j + (if g j = v then 1 else 0) = _; rw [if_pos e]
  have h2 := cn_mono (g := g) (v := v) (n := j + 1) (n - (j + 1))
  rw [show j + 1 + (n - (j + 1)) = n by omega] at h2
  omega
theorem cur_e : cur g i = cnF g (g i) i + 1 := by
  show cnF g (g i) i + (if g i = g i then 1 else 0) = _
  rw [if_pos rfl]
theorem cur_s (so : ∀ x y, x ≤ y → y < n → g x ≤ g y) (hi : i < n) : cur g i = if 0 < i ∧ g i = g (i - 1) then cur g (i - 1) + 1 else 1 := by
  rw [cur_e]
  by_cases q : 0 < i ∧ g i = g (i - 1)
  · rw [if_pos q]
    have e : cur g (i - 1) = cnF g (g i) i := by
      unfold cur
      rw [← q.2, show i - 1 + 1 = i by omega]
    rw [e]
  · rw [if_neg q, cn_0]
    intro j hj e
    have h1 := so j (i - 1) (by omega) (by omega)
    have h2 := so (i - 1) i (by omega) hi
    exact q ⟨by omega, by omega⟩
theorem cur_1 : cur g i = 1 ↔ ∀ j, j < i → g j ≠ g i := by
  rw [cur_e]
  constructor
  · intro h j hj e
    have := cn_ge (g := g) hj e
    omega
  · intro h; rw [cn_0 i h]
theorem rA_mem : ∀ i, v ∈ rA g i ↔ ∃ j, j < i ∧ g j = v
  | 0 => by
    constructor
    · intro h; cases h
    · rintro ⟨j, h, _⟩; omega
  | i + 1 => by
    have ih := rA_mem i
    show v ∈ (if cur g i = 1 then rA g i ++ [g i] else rA g i) ↔ _
    split
    · rw [List.mem_append, ih, List.mem_singleton]
      constructor
      · rintro (⟨j, h1, h2⟩ | h)
        · exact ⟨j, by omega, h2⟩
        · exact ⟨i, by omega, h.symm⟩
      · rintro ⟨j, h1, h2⟩
        by_cases e : j = i
        · rw [e] at h2; exact Or.inr h2.symm
        · exact Or.inl ⟨j, by omega, h2⟩
    · rename_i q
      rw [ih]
      constructor
      · rintro ⟨j, h1, h2⟩
        exact ⟨j, by omega, h2⟩
      · rintro ⟨j, h1, h2⟩
        by_cases e : j = i
        · have := mt cur_1.mpr q
          have : ∃ j, j < i ∧ g j = g i := by
            apply Classical.byContradiction
            intro z
            exact this (fun j hj ee => z ⟨j, hj, ee⟩)
          obtain ⟨u, u1, u2⟩ := this
          exact ⟨u, u1, by rw [u2, ← e]; exact h2⟩
        · exact ⟨j, by omega, h2⟩
theorem rA_lt (so : ∀ x y, x ≤ y → y < n → g x ≤ g y) : ∀ i, i ≤ n → (rA g i).Pairwise (· < ·)
  | 0, _ => List.Pairwise.nil
  | i + 1, hi => by
    have ih := rA_lt so i (by omega)
    show (if cur g i = 1 then rA g i ++ [g i] else rA g i).Pairwise (· < ·)
    split
    · rename_i q
      rw [List.pairwise_append]
      refine ⟨ih, List.pairwise_singleton .., fun a ha b hb => ?_⟩
      rw [List.mem_singleton.mp hb]
      obtain ⟨j, h1, h2⟩ := (rA_mem i).mp ha
      have h3 := cur_1.mp q j h1
      have h4 := so j i (by omega) (by omega)
      omega
    · exact ih
theorem rA_len : ∀ i, (rA g i).length ≤ i
  | 0 => Nat.le_refl _
  | i + 1 => by
    have := rA_len i
    show (if cur g i = 1 then rA g i ++ [g i] else rA g i).length ≤ i + 1
    split
    · rw [List.length_append, List.length_singleton]; omega
    · omega
theorem rM_ge : ∀ i, cnF g v i ≤ rM g i
  | 0 => Nat.le_refl _
  | i + 1 => by
    have ih := rM_ge i
    show cnF g v i + (if g i = v then 1 else 0) ≤ max (rM g i) (cur g i)
    by_cases e : g i = v
    · rw [if_pos e]
      have : cur g i = cnF g v i + 1 := by rw [cur_e, e]
      omega
    · rw [if_neg e]; omega
theorem rM_at : ∀ i, i = 0 ∨ ∃ j, j < i ∧ rM g i = cnF g (g j) (j + 1)
  | 0 => Or.inl rfl
  | i + 1 => by
    refine Or.inr ?_
    have e : rM g (i + 1) = max (rM g i) (cur g i) := rfl
    by_cases q : rM g i ≤ cur g i
    · exact ⟨i, by omega, by rw [e, Nat.max_eq_right q]; rfl⟩
    · rcases rM_at i with h | ⟨j, h1, h2⟩
      · subst h
        exact absurd (Nat.zero_le _) q
      · exact ⟨j, by omega, by rw [e, Nat.max_eq_left (by omega)]; exact h2⟩
theorem rM_is (hn : 0 < n) : ∃ j, j < n ∧ rM g n = cnF g (g j) n := by
  rcases rM_at (g := g) n with h | ⟨j, h1, h2⟩
  · omega
  · refine ⟨j, h1, ?_⟩
    have h3 := rM_ge (g := g) (v := g j) n
    have h4 := cn_mono (g := g) (v := g j) (n := j + 1) (n - (j + 1))
    rw [show j + 1 + (n - (j + 1)) = n by omega] at h4
    omega
end HE
/-! ===== the model's points and the class's are the same ===== -/
def ky2 (p : Pnt) : Int := (p.2 + 1000000) * 4000000 + p.1 + 1000000
def Rw (p : Pnt) : Prop := (-1000000 ≤ p.1 ∧ p.1 < 1000000) ∧ (-1000000 ≤ p.2 ∧ p.2 < 1000000)
/-- the point of a key of the model -/
def un2 (z : Int) : Pnt := (z % 4000000 - 1000000, z / 4000000 - 1000000)
def kf (L : List Pnt) : Nat → Int := fun j => ky2 (L.getD j pt0)
section PS
variable {L L' B : List Pnt} {p q : Pnt} {n i j : Nat} {g f : Nat → Int} {v z w : Int} {k : Pnt → Int}
theorem Rg_w (h : Rg p) : Rw p := by
  obtain ⟨⟨a, b⟩, c, d⟩ := h
  exact ⟨⟨by omega, by omega⟩, by omega, by omega⟩
theorem ky2_b (h : Rw p) : 0 ≤ ky2 p ∧ ky2 p < 8000000000000 := by
  obtain ⟨⟨a, b⟩, c, d⟩ := h
  unfold ky2
  constructor <;> omega
theorem un_ky (h : Rw p) : un2 (ky2 p) = p := by
  obtain ⟨⟨a, b⟩, c, d⟩ := h
  unfold un2 ky2
  exact Prod.ext (by show _ = p.1; dsimp only; omega) (by show _ = p.2; dsimp only; omega)
theorem ky2_inj (h : Rw p) (h' : Rw q) (e : ky2 p = ky2 q) : p = q := by rw [← un_ky h, ← un_ky h', e]
theorem kf_cn (hr : ∀ q, q ∈ L → Rw q) (hp : Rw p) : ∀ n, n ≤ L.length → cnF (kf L) (ky2 p) n = (L.take n).count p
  | 0, _ => by rw [List.take_zero]; rfl
  | n + 1, hn => by
    have ih := kf_cn hr hp n (by omega)
    show cnF (kf L) (ky2 p) n + (if ky2 (L.getD n pt0) = ky2 p then 1 else 0) = _
    rw [ih, List.take_succ, List.count_append, List.getElem?_eq_getElem (by omega), gd_ix (by omega)]
    congr 1
    show _ = List.count p [L[n]]
    rw [List.count_singleton]
    by_cases e : L[n] = p
    · rw [if_pos (by rw [e]), if_pos (by simpa using e)]
    · rw [if_neg (fun r => e (ky2_inj (hr _ (List.getElem_mem _)) hp r)), if_neg (by simpa using e)]
theorem kf_all (hr : ∀ q, q ∈ L → Rw q) (hp : Rw p) : cnF (kf L) (ky2 p) L.length = L.count p := by rw [kf_cn hr hp _ (Nat.le_refl _), List.take_length]
theorem kf_mem : (∃ j, j < L.length ∧ kf L j = v) ↔ ∃ p, p ∈ L ∧ ky2 p = v := by
  constructor
  · rintro ⟨j, h1, h2⟩
    exact ⟨_, gd_mem h1, h2⟩
  · rintro ⟨p, h1, h2⟩
    obtain ⟨i, h3, h4⟩ := mem_gd h1
    exact ⟨i, h3, by show ky2 (L.getD i pt0) = v; rw [h4]; exact h2⟩
theorem cn_mem (h : ∀ v, cnF g v n = cnF f v n) : (∃ j, j < n ∧ g j = v) ↔ ∃ j, j < n ∧ f j = v := by
  constructor
  · rintro ⟨j, h1, h2⟩
    have := cn_ge (g := g) h1 h2
    exact cn_pos n (by rw [← h]; omega)
  · rintro ⟨j, h1, h2⟩
    have := cn_ge (g := f) h1 h2
    exact cn_pos n (by rw [h]; omega)
theorem rA_L (h : ∀ v, cnF g v L.length = cnF (kf L) v L.length) : v ∈ rA g L.length ↔ ∃ p, p ∈ L ∧ ky2 p = v := by
  rw [rA_mem, cn_mem h, kf_mem]
theorem rM_L (hr : ∀ q, q ∈ L → Rw q) (h : ∀ v, cnF g v L.length = cnF (kf L) v L.length) : IsMc L (rM g L.length) := by
  refine ⟨fun p hp => ?_, fun e => ?_, fun e => ?_⟩
  · rw [← kf_all hr (hr p hp), ← h]; exact rM_ge _
  · have hl : 0 < L.length := by
      rcases L with _ | ⟨a, L⟩
      · exact absurd rfl e
      · exact Nat.succ_pos _
    obtain ⟨j, h1, h2⟩ := rM_is (g := g) hl
    obtain ⟨p, h3, h4⟩ := kf_mem.mp ((cn_mem h).mp ⟨j, h1, rfl⟩)
    refine ⟨p, h3, ?_⟩
    rw [h2, ← kf_all hr (hr p h3), ← h, h4]
  · rw [e]; rfl
/-- without doubles and with the same members: as long -/
theorem nd_len {α : Type} [BEq α] [LawfulBEq α] {l l' : List α} (h : l.Nodup) (h' : l'.Nodup) (e : ∀ a, a ∈ l ↔ a ∈ l') : l.length = l'.length := by
  have key : ∀ (l l' : List α), l.Nodup → (∀ a, a ∈ l → a ∈ l') → l.length ≤ l'.length := by
    intro l
    induction l with
    | nil => intro l' _ _; exact Nat.zero_le _
    | cons a l ih =>
      intro l' hn hs
      have ha : a ∈ l' := hs a (List.mem_cons_self ..)
      have hn' := List.nodup_cons.mp hn
      have h1 := ih (l'.erase a) hn'.2 (fun b hb => (List.mem_erase_of_ne (fun q : b = a => hn'.1 (q ▸ hb))).mpr (hs b (List.mem_cons_of_mem _ hb)))
      rw [List.length_erase_of_mem ha] at h1
      have := List.length_pos_of_mem ha
      rw [List.length_cons]; omega
  exact Nat.le_antisymm (key l l' h (fun a => (e a).mp)) (key l' l h' (fun a => (e a).mpr))
theorem nd_map (hr : ∀ q, q ∈ L → Rw q) (h : L.Nodup) : (L.map ky2).Nodup := by
  induction L with
  | nil => exact List.nodup_nil
  | cons a L ih =>
    have h' := List.nodup_cons.mp h
    rw [List.map_cons]
    refine List.nodup_cons.mpr ⟨fun z => ?_, ih (fun q hq => hr q (List.mem_cons_of_mem _ hq)) h'.2⟩
    obtain ⟨b, b1, b2⟩ := List.mem_map.mp z
    have := ky2_inj (hr b (List.mem_cons_of_mem _ b1)) (hr a (List.mem_cons_self ..)) b2
    exact h'.1 (this ▸ b1)
theorem rA_nd (so : ∀ x y, x ≤ y → y < n → g x ≤ g y) : (rA g n).Nodup := (rA_lt so n (Nat.le_refl _)).imp (fun h e => by omega)
/-- as many points here as there -/
theorem pts_len (hr : ∀ q, q ∈ L → Rw q) (h : ∀ v, cnF g v L.length = cnF (kf L) v L.length) (so : ∀ x y, x ≤ y → y < L.length → g x ≤ g y) : (rA g L.length).length = (dd L).length := by
  rw [← List.length_map (as := dd L) ky2]
  refine nd_len (rA_nd so) (nd_map (fun q hq => hr q (dd_mem.mp hq)) dd_nd) (fun a => ?_)
  rw [rA_L h, List.mem_map]
  constructor
  · rintro ⟨p, h1, h2⟩; exact ⟨p, dd_mem.mpr h1, h2⟩
  · rintro ⟨p, h1, h2⟩; exact ⟨p, dd_mem.mp h1, h2⟩
theorem Lo_cg (e : ∀ p, p ∈ L ↔ p ∈ L') (h : Lo k L z) : Lo k L' z := ⟨fun p hp => h.1 p ((e p).mpr hp), by obtain ⟨p, h1, h2⟩ := h.2; exact ⟨p, (e p).mp h1, h2⟩⟩
theorem Hi_cg (e : ∀ p, p ∈ L ↔ p ∈ L') (h : Hi k L z) : Hi k L' z := ⟨fun p hp => h.1 p ((e p).mpr hp), by obtain ⟨p, h1, h2⟩ := h.2; exact ⟨p, (e p).mp h1, h2⟩⟩
/-- the model's points, in its order, as points -/
def mPt (g : Nat → Int) (n : Nat) : List Pnt := (rA g n).map un2
theorem mPt_mem (hr : ∀ q, q ∈ L → Rw q) (h : ∀ v, cnF g v L.length = cnF (kf L) v L.length) : p ∈ mPt g L.length ↔ p ∈ L := by
  unfold mPt
  rw [List.mem_map]
  constructor
  · rintro ⟨v, h1, h2⟩
    obtain ⟨q, h3, h4⟩ := (rA_L h).mp h1
    rw [← h2, ← h4, un_ky (hr q h3)]; exact h3
  · intro hp
    exact ⟨ky2 p, (rA_L h).mpr ⟨p, hp, rfl⟩, un_ky (hr p hp)⟩
theorem mPt_nd (hr : ∀ q, q ∈ L → Rw q) (h : ∀ v, cnF g v L.length = cnF (kf L) v L.length) (so : ∀ x y, x ≤ y → y < L.length → g x ≤ g y) : (mPt g L.length).Nodup := by
  have key : ∀ l : List Int, l.Nodup → (∀ v, v ∈ l → ∃ p, p ∈ L ∧ ky2 p = v) → (l.map un2).Nodup := by
    intro l
    induction l with
    | nil => intro _ _; exact List.nodup_nil
    | cons a l ih =>
      intro hn hm
      have h' := List.nodup_cons.mp hn
      rw [List.map_cons]
      refine List.nodup_cons.mpr ⟨fun z => ?_, ih h'.2 (fun v hv => hm v (List.mem_cons_of_mem _ hv))⟩
      obtain ⟨b, b1, b2⟩ := List.mem_map.mp z
      obtain ⟨p, p1, p2⟩ := hm a (List.mem_cons_self ..)
      obtain ⟨q, q1, q2⟩ := hm b (List.mem_cons_of_mem _ b1)
      rw [← p2, ← q2, un_ky (hr p p1), un_ky (hr q q1)] at b2
      exact h'.1 (by rw [← p2, ← b2, q2]; exact b1)
  exact key _ (rA_nd so) (fun v hv => (rA_L h).mp hv)
end PS
/-! ===== places that go on for ever ===== -/
/-- p is in a set out of which, from each of its places, one comes to a place of it -/
def Gfw (n : Nat) (S : Nat → Nat → Prop) (p : Nat) : Prop := ∃ A : Nat → Prop, A p ∧ ∀ q, A q → q < n ∧ ∃ r, A r ∧ S q r
/-- how many below n are not struck out -/
def lft (e : Nat → Bool) : Nat → Nat
  | 0 => 0
  | n + 1 => lft e n + (if e n = true then 0 else 1)
section GF
variable {n p q : Nat} {S : Nat → Nat → Prop} {e e' : Nat → Bool}
theorem gf_end (he : ∀ q, q < n → e q = true → ¬ Gfw n S q) (hp : ∀ r, r < n → S p r → e r = true) : ¬ Gfw n S p := by
  rintro ⟨A, a1, a2⟩
  obtain ⟨_, r, r1, r2⟩ := a2 p a1
  have hr := (a2 r r1).1
  exact he r hr (hp r hr r2) ⟨A, r1, a2⟩
theorem gf_fix (h : ∀ q, q < n → e q = false → ∃ r, r < n ∧ S q r ∧ e r = false) (hp : p < n) (hq : e p = false) : Gfw n S p := by
  refine ⟨fun x => x < n ∧ e x = false, ⟨hp, hq⟩, fun q hq => ⟨hq.1, ?_⟩⟩
  obtain ⟨r, r1, r2, r3⟩ := h q hq.1 hq.2
  exact ⟨r, ⟨r1, r3⟩, r2⟩
/-- what is struck out at the end is just what doesn't go on -/
theorem gf_iff (he : ∀ q, q < n → e q = true → ¬ Gfw n S q) (h : ∀ q, q < n → e q = false → ∃ r, r < n ∧ S q r ∧ e r = false) (hp : p < n) : e p = false ↔ Gfw n S p := by
  constructor
  · exact gf_fix h hp
  · intro g
    cases q : e p
    · rfl
    · exact absurd g (he p hp q)
theorem lft_cg : ∀ n, (∀ q, q < n → e q = e' q) → lft e n = lft e' n
  | 0, _ => rfl
  | n + 1, h => by
    have ih := lft_cg n (fun q hq => h q (by omega))
    show lft e n + (if e n = true then 0 else 1) = lft e' n + _
    rw [ih, h n (by omega)]
/-- two ways of striking out leave as many -/
theorem gf_two (he : ∀ q, q < n → e q = true → ¬ Gfw n S q) (h : ∀ q, q < n → e q = false → ∃ r, r < n ∧ S q r ∧ e r = false) (he' : ∀ q, q < n → e' q = true → ¬ Gfw n S q) (h' : ∀ q, q < n → e' q = false → ∃ r, r < n ∧ S q r ∧ e' r = false) : lft e n = lft e' n := by
  refine lft_cg n (fun q hq => ?_)
  have a := gf_iff he h hq
  have b := gf_iff he' h' hq
  cases x : e q <;> cases y : e' q
  · rfl
  · have := b.mpr (a.mp x); rw [y] at this; cases this
  · have := a.mpr (b.mp y); rw [x] at this; cases this
  · rfl
theorem lft_le : ∀ n, lft e n ≤ n
  | 0 => Nat.le_refl _
  | n + 1 => by
    have := lft_le n
    show lft e n + _ ≤ n + 1
    split <;> omega
/-- striking out one more leaves one less -/
theorem lft_s (hq : e p = false) : ∀ n, lft (fun x => if x = p then true else e x) n + (if p < n then 1 else 0) = lft e n
  | 0 => by rw [if_neg (Nat.not_lt_zero _)]; rfl
  | n + 1 => by
    have ih := lft_s hq n
    show lft (fun x => if x = p then true else e x) n + (if (if n = p then true else e n) = true then 0 else 1) + (if p < n + 1 then 1 else 0) = lft e n + (if e n = true then 0 else 1)
    by_cases z : n = p
    · subst z
      rw [if_neg (Nat.lt_irrefl _)] at ih
      rw [if_pos rfl, if_pos rfl, if_pos (Nat.lt_succ_self _), hq, if_neg (show ¬ (false = true) by decide)]
      omega
    · rw [if_neg z]
      by_cases r : p < n
      · rw [if_pos r] at ih
        rw [if_pos (show p < n + 1 by omega)]; omega
      · rw [if_neg r] at ih
        rw [if_neg (show ¬ p < n + 1 by omega)]; omega
end GF
/-! ===== how far the points of a step lie ===== -/
section WB
variable {b M n i t : Nat} {kd : Int32} {tn : Nat → Nat} {sx sy ex : Nat → Int} {x y : Int}
theorem tXw : ∃ u v : Int, (u = 0 ∧ (v = 1 ∨ v = -1) ∨ v = 0 ∧ (u = 1 ∨ u = -1)) ∧ tX t x y = u * x + v * y := by
  refine ⟨xxT t, xyT t, ?_, rfl⟩
  unfold xxT xyT
  split <;> simp
theorem tYw : ∃ u v : Int, (u = 0 ∧ (v = 1 ∨ v = -1) ∨ v = 0 ∧ (u = 1 ∨ u = -1)) ∧ tY t x y = u * x + v * y := by
  refine ⟨yxT t, yyT t, ?_, rfl⟩
  unfold yxT yyT
  split <;> simp
theorem tX_c : tX t x y = x ∨ tX t x y = -x ∨ tX t x y = y ∨ tX t x y = -y := by
  obtain ⟨u, v, h, e⟩ := tXw (t := t) (x := x) (y := y)
  rcases h with ⟨rfl, rfl | rfl⟩ | ⟨rfl, rfl | rfl⟩ <;> rw [e] <;> omega
theorem tY_c : tY t x y = x ∨ tY t x y = -x ∨ tY t x y = y ∨ tY t x y = -y := by
  obtain ⟨u, v, h, e⟩ := tYw (t := t) (x := x) (y := y)
  rcases h with ⟨rfl, rfl | rfl⟩ | ⟨rfl, rfl | rfl⟩ <;> rw [e] <;> omega
/-- b - 1 times a coordinate is at most 9 times (b ^ n - 1) -/
def Wb (b n : Nat) (z : Int) : Prop := -(9 * ((b : Int) ^ n - 1)) ≤ ((b : Int) - 1) * z ∧ ((b : Int) - 1) * z ≤ 9 * ((b : Int) ^ n - 1)
theorem Wb_neg (h : Wb b n x) : Wb b n (-x) := by
  unfold Wb at *
  rw [Int.mul_neg]
  constructor <;> omega
theorem Wb_s {s : Int} (hb : 2 ≤ b ∧ b ≤ 4) (hs : -9 ≤ s ∧ s ≤ 9) (h : Wb b n x) : Wb b (n + 1) (x + (b : Int) ^ n * s) := by
  unfold Wb at *
  have hp : (0 : Int) ≤ (b : Int) ^ n := Int.pow_nonneg (by omega)
  have h1 := Int.mul_le_mul_of_nonneg_left hs.1 hp
  have h2 := Int.mul_le_mul_of_nonneg_left hs.2 hp
  rw [Int.pow_succ]
  generalize (b : Int) ^ n = p at *
  generalize p * s = q at *
  rcases (show b = 2 ∨ b = 3 ∨ b = 4 by omega) with rfl | rfl | rfl
  · omega
  · omega
  · omega
theorem Ws_b (hb : 2 ≤ b ∧ b ≤ 4) (hs : ∀ i, i < M → (-9 ≤ sx i ∧ sx i ≤ 9) ∧ (-9 ≤ sy i ∧ sy i ≤ 9)) : ∀ n w, w ∈ Ws b M tn sx sy kd ex n → Wb b n w.1 ∧ Wb b n w.2.1
  | 0, w, hw => by
    rw [List.mem_singleton.mp hw]
    unfold Wb w0
    constructor <;> constructor <;> simp
  | n + 1, w, hw => by
    obtain ⟨u, hu, hk⟩ := List.mem_flatMap.mp hw
    obtain ⟨i, hi, e⟩ := List.mem_map.mp hk
    have hiM := List.mem_range.mp (List.mem_filter.mp hi).1
    obtain ⟨b1, b2⟩ := Ws_b hb hs n u hu
    rw [← e]
    refine ⟨Wb_s hb (hs i hiM).1 ?_, Wb_s hb (hs i hiM).2 ?_⟩
    · rcases tX_c (t := tn i) (x := u.1) (y := u.2.1) with q | q | q | q <;> rw [q]
      · exact b1
      · exact Wb_neg b1
      · exact b2
      · exact Wb_neg b2
    · rcases tY_c (t := tn i) (x := u.1) (y := u.2.1) with q | q | q | q <;> rw [q]
      · exact b1
      · exact Wb_neg b1
      · exact b2
      · exact Wb_neg b2
theorem Wb_5 (hb : 2 ≤ b ∧ b ≤ 4) (hn : n ≤ 5) (h : Wb b n x) : -3069 ≤ x ∧ x ≤ 3069 := by
  unfold Wb at h
  have hp : b ^ n ≤ b ^ 5 := Nat.pow_le_pow_right (by omega) hn
  have hq : ((b ^ n : Nat) : Int) = (b : Int) ^ n := by rw [Int.natCast_pow]
  rw [← hq] at h
  generalize b ^ n = p at *
  rcases (show b = 2 ∨ b = 3 ∨ b = 4 by omega) with rfl | rfl | rfl
  · omega
  · omega
  · omega
/-- the points of a step up to the fifth have keys -/
theorem Ws_rg (hb : 2 ≤ b ∧ b ≤ 4) (hs : ∀ i, i < M → (-9 ≤ sx i ∧ sx i ≤ 9) ∧ (-9 ≤ sy i ∧ sy i ≤ 9)) (hn : n ≤ 5) (w : Wrd) (hw : w ∈ Ws b M tn sx sy kd ex n) : Rg (w.1, w.2.1) := by
  obtain ⟨b1, b2⟩ := Ws_b hb hs n w hw
  have h1 := Wb_5 hb hn b1
  have h2 := Wb_5 hb hn b2
  exact ⟨⟨by show _ ≤ w.1; omega, by show w.1 < _; omega⟩, by show _ ≤ w.2.1; omega, by show w.2.1 < _; omega⟩
end WB
section SR
/-- in order and with the same members: the same -/
theorem srt_eq : ∀ (l l' : List Int), l.Pairwise (· < ·) → l'.Pairwise (· < ·) → (∀ a, a ∈ l ↔ a ∈ l') → l = l'
  | [], [], _, _, _ => rfl
  | [], b :: l', _, _, h => by have := (h b).mpr (List.mem_cons_self ..); cases this
  | a :: l, [], _, _, h => by have := (h a).mp (List.mem_cons_self ..); cases this
  | a :: l, b :: l', p, p', h => by
    have q := List.pairwise_cons.mp p
    have q' := List.pairwise_cons.mp p'
    have e : a = b := by
      rcases List.mem_cons.mp ((h a).mp (List.mem_cons_self ..)) with z | z
      · exact z
      · rcases List.mem_cons.mp ((h b).mpr (List.mem_cons_self ..)) with y | y
        · exact y.symm
        · have := q'.1 a z; have := q.1 b y; omega
    subst e
    rw [srt_eq l l' q.2 q'.2 (fun x => ?_)]
    constructor
    · intro hx
      rcases List.mem_cons.mp ((h x).mp (List.mem_cons_of_mem _ hx)) with z | z
      · have := q.1 x hx; omega
      · exact z
    · intro hx
      rcases List.mem_cons.mp ((h x).mpr (List.mem_cons_of_mem _ hx)) with z | z
      · have := q'.1 x hx; omega
      · exact z
theorem ky2_mv (p : Pnt) (x y : Int) : ky2 (p.1 + x, p.2 + y) = ky2 p + (y * 4000000 + x) := by
  unfold ky2; dsimp only; omega
/-- moved by x, y all come to lie in the other, which is as long: then the others' keys are the keys moved -/
theorem srt_mv {A B : List Pnt} {x y : Int} (hA : (A.map ky2).Pairwise (· < ·)) (hB : (B.map ky2).Pairwise (· < ·)) (hl : A.length = B.length) (hs : ∀ p, p ∈ A → (p.1 + x, p.2 + y) ∈ B) : B.map ky2 = A.map (fun p => ky2 p + (y * 4000000 + x)) := by
  have hA' : (A.map (fun p => ky2 p + (y * 4000000 + x))).Pairwise (· < ·) := by
    rw [List.pairwise_map] at hA ⊢
    exact hA.imp (fun q => by omega)
  have sub : ∀ a, a ∈ A.map (fun p => ky2 p + (y * 4000000 + x)) → a ∈ B.map ky2 := by
    intro a ha
    obtain ⟨p, h1, h2⟩ := List.mem_map.mp ha
    rw [← h2, ← ky2_mv]
    exact List.mem_map.mpr ⟨_, hs p h1, rfl⟩
  refine srt_eq _ _ hB hA' (fun a => ⟨fun ha => ?_, sub a⟩)
  apply Classical.byContradiction
  intro hn
  have key : ∀ (l l' : List Int), l.Nodup → (∀ a, a ∈ l → a ∈ l') → l.length ≤ l'.length := by
    intro l
    induction l with
    | nil => intro l' _ _; exact Nat.zero_le _
    | cons a l ih =>
      intro l' hn hs
      have ha : a ∈ l' := hs a (List.mem_cons_self ..)
      have hn' := List.nodup_cons.mp hn
      have h1 := ih (l'.erase a) hn'.2 (fun b hb => (List.mem_erase_of_ne (fun q : b = a => hn'.1 (q ▸ hb))).mpr (hs b (List.mem_cons_of_mem _ hb)))
      rw [List.length_erase_of_mem ha] at h1
      have := List.length_pos_of_mem ha
      rw [List.length_cons]; omega
  have nd : (a :: A.map (fun p => ky2 p + (y * 4000000 + x))).Nodup := List.nodup_cons.mpr ⟨hn, hA'.imp (fun q e => by omega)⟩
  have := key _ _ nd (fun b hb => by
    rcases List.mem_cons.mp hb with q | q
    · rw [q]; exact ha
    · exact sub b q)
  rw [List.length_cons, List.length_map, List.length_map] at this
  omega
end SR
