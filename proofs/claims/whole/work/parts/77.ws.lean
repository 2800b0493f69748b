/-! ===== all words of a step, as a list ===== -/
abbrev Wrd : Type := Int × Int × Nat × Int
def kid (b : Nat) (tn : Nat → Nat) (sx sy : Nat → Int) (kd : Int32) (ex : Nat → Int) (n : Nat) (w : Wrd) (i : Nat) : Wrd := (tX (tn i) w.1 w.2.1 + (b : Int) ^ n * sx i, tY (tn i) w.1 w.2.1 + (b : Int) ^ n * sy i, i, w.2.2.2 * wgt kd ex i)
def okK (kd : Int32) (ex : Nat → Int) (w : Wrd) (i : Nat) : Bool := !(decide (w.2.2.1 < 6) && bF kd ex i w.2.2.1)
def kids (b M : Nat) (tn : Nat → Nat) (sx sy : Nat → Int) (kd : Int32) (ex : Nat → Int) (n : Nat) (w : Wrd) : List Wrd := ((List.range M).filter (okK kd ex w)).map (kid b tn sx sy kd ex n w)
def w0 : Wrd := (0, 0, 6, 1)
def Ws (b M : Nat) (tn : Nat → Nat) (sx sy : Nat → Int) (kd : Int32) (ex : Nat → Int) : Nat → List Wrd
  | 0 => [w0]
  | n + 1 => (Ws b M tn sx sy kd ex n).flatMap (kids b M tn sx sy kd ex n)
/-- what is left of the first v of all moves put ahead of the words of L -/
def cf (b M : Nat) (tn : Nat → Nat) (sx sy : Nat → Int) (kd : Int32) (ex : Nat → Int) (n : Nat) (L : List Wrd) : Nat → List Wrd
  | 0 => []
  | v + 1 => cf b M tn sx sy kd ex n L v ++ (if okK kd ex (L.getD (v / M) w0) (v % M) = true then [kid b tn sx sy kd ex n (L.getD (v / M) w0) (v % M)] else [])
section WS
variable {b M n i v : Nat} {kd : Int32} {tn : Nat → Nat} {sx sy ex : Nat → Int} {L : List Wrd}
theorem cf_s : cf b M tn sx sy kd ex n L (v + 1) = cf b M tn sx sy kd ex n L v ++ (if okK kd ex (L.getD (v / M) w0) (v % M) = true then [kid b tn sx sy kd ex n (L.getD (v / M) w0) (v % M)] else []) := rfl
theorem cf_i (hM : 1 ≤ M) (w : Nat) : ∀ i, i ≤ M → cf b M tn sx sy kd ex n L (w * M + i) = cf b M tn sx sy kd ex n L (w * M) ++ ((List.range i).filter (okK kd ex (L.getD w w0))).map (kid b tn sx sy kd ex n (L.getD w w0))
  | 0, _ => by rw [List.range_zero]; simp
  | i + 1, hi => by
    have ih := cf_i hM w i (by omega)
    have e1 : (w * M + i) / M = w := by rw [Nat.mul_comm, Nat.mul_add_div (by omega), Nat.div_eq_of_lt (by omega), Nat.add_zero]
    have e2 : (w * M + i) % M = i := by rw [Nat.mul_comm, Nat.mul_add_mod, Nat.mod_eq_of_lt (by omega)]
    rw [show w * M + (i + 1) = w * M + i + 1 from rfl, cf_s, e1, e2, ih, List.range_succ, List.filter_append, List.map_append, List.append_assoc]
    generalize L.getD w w0 = u
    congr 2
    by_cases q : okK kd ex u i = true
    · rw [if_pos q, List.filter_cons_of_pos q]; rfl
    · rw [if_neg q, List.filter_cons_of_neg q]; rfl
theorem cf_w (hM : 1 ≤ M) : ∀ w, w ≤ L.length → cf b M tn sx sy kd ex n L (w * M) = (L.take w).flatMap (kids b M tn sx sy kd ex n)
  | 0, _ => by rw [Nat.zero_mul]; rfl
  | w + 1, hw => by
    have ih := cf_w hM w (by omega)
    rw [Nat.add_mul, Nat.one_mul, cf_i hM w M (Nat.le_refl _), ih, List.take_succ, List.flatMap_append, List.getElem?_eq_getElem (by omega)]
    congr 1
    rw [show L.getD w w0 = L[w] by rw [List.getD_eq_getElem?_getD, List.getElem?_eq_getElem (by omega)]; rfl]
    simp [kids]
theorem cf_all (hM : 1 ≤ M) : cf b M tn sx sy kd ex n L (L.length * M) = L.flatMap (kids b M tn sx sy kd ex n) := by
  rw [cf_w hM L.length (Nat.le_refl _), List.take_length]
theorem cf_len : ∀ v, (cf b M tn sx sy kd ex n L v).length ≤ v
  | 0 => Nat.le_refl _
  | v + 1 => by
    have := cf_len v
    show (cf b M tn sx sy kd ex n L v ++ _).length ≤ v + 1
    rw [List.length_append]
    split
    · rw [List.length_singleton]; omega
    · rw [List.length_nil]; omega
theorem Ws_len (hM : 1 ≤ M) : ∀ n, (Ws b M tn sx sy kd ex n).length ≤ M ^ n
  | 0 => Nat.le_refl _
  | n + 1 => by
    have ih := Ws_len hM n
    show ((Ws b M tn sx sy kd ex n).flatMap (kids b M tn sx sy kd ex n)).length ≤ M ^ (n + 1)
    rw [← cf_all hM, Nat.pow_succ]
    exact Nat.le_trans (cf_len _) (Nat.mul_le_mul_right M ih)
theorem pow6 (hM : M ≤ 6) (hn : n ≤ 4) : M ^ n * M ≤ 7776 := by
  have h1 : M ^ n * M = M ^ (n + 1) := (Nat.pow_succ ..).symm
  rw [h1]
  have h2 := Nat.pow_le_pow_left hM (n + 1)
  have h3 := Nat.pow_le_pow_right (show 0 < 6 by decide) (show n + 1 ≤ 5 by omega)
  have h4 : (6 : Nat) ^ 5 = 7776 := by decide
  omega
/-- every word's first move is a move -/
theorem Ws_f : ∀ n w, w ∈ Ws b M tn sx sy kd ex n → w.2.2.1 < M ∨ (w.2.2.1 = 6 ∧ n = 0)
  | 0, w, hw => by
    rw [List.mem_singleton.mp hw]; exact Or.inr ⟨rfl, rfl⟩
  | n + 1, w, hw => by
    obtain ⟨u, hu, hk⟩ := List.mem_flatMap.mp hw
    obtain ⟨i, hi, e⟩ := List.mem_map.mp hk
    rw [← e]
    exact Or.inl (List.mem_range.mp (List.mem_filter.mp hi).1)
end WS
