section BT
variable {a b c d k x n i j : Nat}
theorem dvq {u m q r : Nat} (hu : u = m * q + r) (hr : r < m) : u / m = q := by
  subst hu
  have hm : 0 < m := Nat.lt_of_le_of_lt (Nat.zero_le _) hr
  rw [Nat.mul_add_div hm, Nat.div_eq_of_lt hr, Nat.add_zero]
theorem dg_s : dgT (k + 1) x = 256 * dgT k (x / 256) + t3F (x % 256) := rfl
theorem sm_s : smT (k + 1) x = smT k (x / 256) + t3F (x % 256) := rfl
theorem ad8 {t0 t1 t2 t3 t4 t5 t6 t7 : Nat} : t0 + t1 + t2 + t3 + t4 + t5 + t6 + t7 = 0 + t7 + t6 + t5 + t4 + t3 + t2 + t1 + t0 := by omega
theorem sum8 {t0 t1 t2 t3 t4 t5 t6 t7 u : Nat} (h0 : t0 ≤ 8) (h1 : t1 ≤ 8) (h2 : t2 ≤ 8) (h3 : t3 ≤ 8) (h4 : t4 ≤ 8) (h5 : t5 ≤ 8) (h6 : t6 ≤ 8) (h7 : t7 ≤ 8) (hu : u = 256 * (256 * (256 * (256 * (256 * (256 * (256 * (256 * 0 + t7) + t6) + t5) + t4) + t3) + t2) + t1) + t0) : u < 2 ^ 60 ∧ u + u / 256 < 2 ^ 61 ∧ (u + u / 256) + (u + u / 256) / 65536 < 2 ^ 62 ∧ ((u + u / 256) + (u + u / 256) / 65536 + ((u + u / 256) + (u + u / 256) / 65536) / 4294967296) % 128 = t0 + t1 + t2 + t3 + t4 + t5 + t6 + t7 := by
  have e1 : u / 256 = 256 * (256 * (256 * (256 * (256 * (256 * (256 * 0 + t7) + t6) + t5) + t4) + t3) + t2) + t1 := dvq hu (by omega)
  rw [e1]
  have q2 : u + (256 * (256 * (256 * (256 * (256 * (256 * (256 * 0 + t7) + t6) + t5) + t4) + t3) + t2) + t1) = 65536 * (256 * (256 * (256 * (256 * (256 * t7 + (t6 + t7)) + (t5 + t6)) + (t4 + t5)) + (t3 + t4)) + (t2 + t3)) + (256 * (t1 + t2) + (t0 + t1)) := by omega
  have e2 : (u + (256 * (256 * (256 * (256 * (256 * (256 * (256 * 0 + t7) + t6) + t5) + t4) + t3) + t2) + t1)) / 65536 = 256 * (256 * (256 * (256 * (256 * t7 + (t6 + t7)) + (t5 + t6)) + (t4 + t5)) + (t3 + t4)) + (t2 + t3) := dvq q2 (by omega)
  rw [e2]
  have q3 : u + (256 * (256 * (256 * (256 * (256 * (256 * (256 * 0 + t7) + t6) + t5) + t4) + t3) + t2) + t1) + (256 * (256 * (256 * (256 * (256 * t7 + (t6 + t7)) + (t5 + t6)) + (t4 + t5)) + (t3 + t4)) + (t2 + t3)) = 4294967296 * (256 * (256 * (256 * t7 + (t6 + t7)) + (t5 + t6 + t7)) + (t4 + t5 + t6 + t7)) + (256 * (256 * (256 * (t3 + t4 + t5 + t6) + (t2 + t3 + t4 + t5)) + (t1 + t2 + t3 + t4)) + (t0 + t1 + t2 + t3)) := by omega
  have e3 : (u + (256 * (256 * (256 * (256 * (256 * (256 * (256 * 0 + t7) + t6) + t5) + t4) + t3) + t2) + t1) + (256 * (256 * (256 * (256 * (256 * t7 + (t6 + t7)) + (t5 + t6)) + (t4 + t5)) + (t3 + t4)) + (t2 + t3))) / 4294967296 = 256 * (256 * (256 * t7 + (t6 + t7)) + (t5 + t6 + t7)) + (t4 + t5 + t6 + t7) := dvq q3 (by omega)
  rw [e3]
  have q4 : u + (256 * (256 * (256 * (256 * (256 * (256 * (256 * 0 + t7) + t6) + t5) + t4) + t3) + t2) + t1) + (256 * (256 * (256 * (256 * (256 * t7 + (t6 + t7)) + (t5 + t6)) + (t4 + t5)) + (t3 + t4)) + (t2 + t3)) + (256 * (256 * (256 * t7 + (t6 + t7)) + (t5 + t6 + t7)) + (t4 + t5 + t6 + t7)) = 128 * (2 * (256 * (256 * (256 * (256 * (256 * (256 * (t7) + (t6 + t7)) + (t5 + t6 + t7)) + (t4 + t5 + t6 + t7)) + (t3 + t4 + t5 + t6 + t7)) + (t2 + t3 + t4 + t5 + t6 + t7)) + (t1 + t2 + t3 + t4 + t5 + t6 + t7))) + (t0 + t1 + t2 + t3 + t4 + t5 + t6 + t7) := by omega
  refine ⟨by omega, by omega, by omega, ?_⟩
  rw [q4, Nat.mul_add_mod, Nat.mod_eq_of_lt (by omega)]
end BT
