section BT
variable {a b c d k x n i j : Nat}
theorem cb_cg {y : Nat} : ∀ n, (∀ i, i < n → x.testBit i = y.testBit i) → cb x n = cb y n
  | 0, _ => rfl
  | n + 1, h => by
    show cb x n + (if x.testBit n = true then 1 else 0) = cb y n + _
    rw [cb_cg n (fun i hi => h i (by omega)), h n (by omega)]
theorem cb_8 (hc : c < 256) : ∀ n, cb (256 * x + c) (8 + n) = cb c 8 + cb x n
  | 0 => by
    show cb (256 * x + c) 8 = cb c 8 + 0
    rw [Nat.add_zero]
    refine cb_cg 8 (fun i hi => ?_)
    rw [show (256 : Nat) = 2 ^ 8 from rfl, Nat.testBit_two_pow_mul_add x hc, if_pos hi]
  | n + 1 => by
    have ih := cb_8 hc n
    show cb (256 * x + c) (8 + n) + (if (256 * x + c).testBit (8 + n) = true then 1 else 0) = cb c 8 + (cb x n + (if x.testBit n = true then 1 else 0))
    have tb : (256 * x + c).testBit (8 + n) = x.testBit n := by
      rw [show (256 : Nat) = 2 ^ 8 from rfl, Nat.testBit_two_pow_mul_add x hc, if_neg (by omega), Nat.add_sub_cancel_left]
    rw [ih, tb]
    exact Nat.add_assoc _ _ _
theorem smT_cb : ∀ k x, smT k x = cb x (8 * k)
  | 0, _ => rfl
  | k + 1, x => by
    have hc : x % 256 < 256 := Nat.mod_lt _ (by decide)
    have e : x = 256 * (x / 256) + x % 256 := by omega
    show smT k (x / 256) + t3F (x % 256) = _
    rw [smT_cb k (x / 256), (by3 _ hc).2.2.2.1]
    conv => rhs; rw [e]
    rw [show 8 * (k + 1) = 8 + 8 * k by omega, cb_8 hc]
    omega
theorem dg_8 : dgT 8 x = 256 * (256 * (256 * (256 * (256 * (256 * (256 * (256 * 0 + t3F (x / 256 / 256 / 256 / 256 / 256 / 256 / 256 % 256)) + t3F (x / 256 / 256 / 256 / 256 / 256 / 256 % 256)) + t3F (x / 256 / 256 / 256 / 256 / 256 % 256)) + t3F (x / 256 / 256 / 256 / 256 % 256)) + t3F (x / 256 / 256 / 256 % 256)) + t3F (x / 256 / 256 % 256)) + t3F (x / 256 % 256)) + t3F (x % 256) := by
  have z : dgT 0 (x / 256 / 256 / 256 / 256 / 256 / 256 / 256 / 256) = 0 := rfl
  rw [dg_s (k := 7), dg_s (k := 6), dg_s (k := 5), dg_s (k := 4), dg_s (k := 3), dg_s (k := 2), dg_s (k := 1), dg_s (k := 0), z]
theorem sm_8 : smT 8 x = 0 + t3F (x / 256 / 256 / 256 / 256 / 256 / 256 / 256 % 256) + t3F (x / 256 / 256 / 256 / 256 / 256 / 256 % 256) + t3F (x / 256 / 256 / 256 / 256 / 256 % 256) + t3F (x / 256 / 256 / 256 / 256 % 256) + t3F (x / 256 / 256 / 256 % 256) + t3F (x / 256 / 256 % 256) + t3F (x / 256 % 256) + t3F (x % 256) := by
  have z : smT 0 (x / 256 / 256 / 256 / 256 / 256 / 256 / 256 / 256) = 0 := rfl
  rw [sm_s (k := 7), sm_s (k := 6), sm_s (k := 5), sm_s (k := 4), sm_s (k := 3), sm_s (k := 2), sm_s (k := 1), sm_s (k := 0), z]
/-- all bits counted, as numbers -/
theorem pop_n (hx : x < 2 ^ 64) : (s3F 8 (s2F 8 (s1F 8 x))) < 2 ^ 60 ∧ (s3F 8 (s2F 8 (s1F 8 x))) + (s3F 8 (s2F 8 (s1F 8 x))) / 256 < 2 ^ 61 ∧ ((s3F 8 (s2F 8 (s1F 8 x))) + (s3F 8 (s2F 8 (s1F 8 x))) / 256) + ((s3F 8 (s2F 8 (s1F 8 x))) + (s3F 8 (s2F 8 (s1F 8 x))) / 256) / 65536 < 2 ^ 62 ∧ (((s3F 8 (s2F 8 (s1F 8 x))) + (s3F 8 (s2F 8 (s1F 8 x))) / 256) + ((s3F 8 (s2F 8 (s1F 8 x))) + (s3F 8 (s2F 8 (s1F 8 x))) / 256) / 65536 + (((s3F 8 (s2F 8 (s1F 8 x))) + (s3F 8 (s2F 8 (s1F 8 x))) / 256) + ((s3F 8 (s2F 8 (s1F 8 x))) + (s3F 8 (s2F 8 (s1F 8 x))) / 256) / 65536) / 4294967296) % 128 = cb x 64 := by
  rw [u_dg 8 x (by rw [show (256 : Nat) ^ 8 = 2 ^ 64 from rfl]; exact hx)]
  have m : ∀ y, y % 256 < 256 := fun y => Nat.mod_lt _ (by decide)
  have t8 : ∀ y, t3F (y % 256) ≤ 8 := fun y => (by3 _ (m y)).2.2.2.2
  have sm : smT 8 x = cb x 64 := smT_cb 8 x
  obtain ⟨r1, r2, r3, r4⟩ := sum8 (u := dgT 8 x) (t8 x) (t8 (x / 256)) (t8 (x / 256 / 256)) (t8 (x / 256 / 256 / 256)) (t8 (x / 256 / 256 / 256 / 256)) (t8 (x / 256 / 256 / 256 / 256 / 256)) (t8 (x / 256 / 256 / 256 / 256 / 256 / 256)) (t8 (x / 256 / 256 / 256 / 256 / 256 / 256 / 256)) dg_8
  refine ⟨r1, r2, r3, ?_⟩
  rw [r4, ← sm, sm_8]
  exact ad8
end BT
