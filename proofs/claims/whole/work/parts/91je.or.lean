section BT
variable {a b c d k x n i j : Nat}
theorem cb_set (hk : x.testBit k = false) : ∀ n, cb (x ||| 2 ^ k) n = cb x n + (if k < n then 1 else 0)
  | 0 => by rw [if_neg (Nat.not_lt_zero _)]; rfl
  | n + 1 => by
    have ih := cb_set hk n
    show cb (x ||| 2 ^ k) n + (if (x ||| 2 ^ k).testBit n = true then 1 else 0) = cb x n + (if x.testBit n = true then 1 else 0) + _
    rw [ih, Nat.testBit_or, Nat.testBit_two_pow]
    by_cases e : k = n
    · subst e
      rw [hk, if_neg (Nat.lt_irrefl _), if_pos (Nat.lt_succ_self _), decide_eq_true rfl]
      simp
    · rw [decide_eq_false e, Bool.or_false]
      by_cases l : k < n
      · rw [if_pos l, if_pos (show k < n + 1 by omega)]; omega
      · rw [if_neg l, if_neg (show ¬ k < n + 1 by omega)]; omega
def orN (l : List Nat) : Nat := l.foldl (fun a k => a ||| 2 ^ k) 0
theorem orN_s {l : List Nat} : orN (l ++ [k]) = orN l ||| 2 ^ k := by unfold orN; rw [List.foldl_append]; rfl
theorem orN_b : ∀ (l : List Nat) (a : Nat), (l.foldl (fun a k => a ||| 2 ^ k) a).testBit i = (a.testBit i || decide (i ∈ l))
  | [], a => by simp
  | k :: l, a => by
    rw [List.foldl_cons, orN_b l (a ||| 2 ^ k), Nat.testBit_or, Nat.testBit_two_pow, Bool.or_assoc]
    congr 1
    by_cases e : k = i
    · rw [decide_eq_true e, Bool.true_or, decide_eq_true (by rw [e]; exact List.mem_cons_self ..)]
    · rw [decide_eq_false e, Bool.false_or]
      congr 1
      apply propext
      rw [List.mem_cons]
      exact ⟨Or.inr, fun q => q.elim (fun w => absurd w.symm e) id⟩
theorem orN_t {l : List Nat} : (orN l).testBit i = decide (i ∈ l) := by
  unfold orN
  rw [orN_b, Nat.zero_testBit, Bool.false_or]
theorem orN_cg {l l' : List Nat} (h : ∀ i, i ∈ l ↔ i ∈ l') : orN l = orN l' := by
  apply Nat.eq_of_testBit_eq
  intro i
  rw [orN_t, orN_t]
  congr 1
  exact propext (h i)
theorem orN_lt : ∀ (l : List Nat) (a : Nat), a < 2 ^ 60 → (∀ k, k ∈ l → k < 60) → l.foldl (fun a k => a ||| 2 ^ k) a < 2 ^ 60
  | [], a, h, _ => h
  | k :: l, a, h, hl => orN_lt l _ (Nat.or_lt_two_pow h (Nat.pow_lt_pow_right (by decide) (hl k (List.mem_cons_self ..)))) (fun i hi => hl i (List.mem_cons_of_mem _ hi))
theorem orN_cb : ∀ (l : List Nat) (a : Nat), l.Nodup → (∀ k, k ∈ l → k < 64) → (∀ k, k ∈ l → a.testBit k = false) → cb (l.foldl (fun a k => a ||| 2 ^ k) a) 64 = cb a 64 + l.length
  | [], a, _, _, _ => rfl
  | k :: l, a, hn, hl, ha => by
    have hn' := List.nodup_cons.mp hn
    rw [List.foldl_cons, orN_cb l _ hn'.2 (fun i hi => hl i (List.mem_cons_of_mem _ hi)) (fun i hi => by
      rw [Nat.testBit_or, Nat.testBit_two_pow, ha i (List.mem_cons_of_mem _ hi), decide_eq_false (fun e : k = i => hn'.1 (by rw [e]; exact hi))]; rfl), cb_set (ha k (List.mem_cons_self ..)), if_pos (hl k (List.mem_cons_self ..)), List.length_cons]
    omega
theorem cb_0 : ∀ n, cb 0 n = 0
  | 0 => rfl
  | n + 1 => by
    show cb 0 n + (if (0 : Nat).testBit n = true then 1 else 0) = 0
    rw [cb_0 n, Nat.zero_testBit, if_neg (by decide)]
theorem orN_len {l : List Nat} (hn : l.Nodup) (hl : ∀ k, k ∈ l → k < 64) : cb (orN l) 64 = l.length := by
  unfold orN
  rw [orN_cb l 0 hn hl (fun k _ => Nat.zero_testBit k), cb_0, Nat.zero_add]
end BT
