section BT
variable {a b c d k x n i j : Nat}
theorem s1_s (hc : c < 256) : s1F (k + 1) (256 * x + c) = 256 * s1F k x + b1F c := by
  unfold s1F b1F
  obtain ⟨e1, e2⟩ := by1 c hc (x % 2) (by omega)
  have h1 : (256 * x + c) / 2 = 256 * (x / 2) + (128 * (x % 2) + c / 2) := by omega
  have h2 : mk8 85 (k + 1) = 256 * mk8 85 k + 85 := rfl
  have h3 : (x / 2) &&& mk8 85 k ≤ x / 2 := Nat.and_le_left
  rw [h1, h2, and256 (by omega) (by decide), e1]
  omega
theorem s2_s (hc : c < 256) : s2F (k + 1) (256 * x + c) = 256 * s2F k x + b2F c := by
  unfold s2F b2F
  have e1 := by2 c hc (x % 4) (by omega)
  have h1 : (256 * x + c) / 4 = 256 * (x / 4) + (64 * (x % 4) + c / 4) := by omega
  have h2 : mk8 51 (k + 1) = 256 * mk8 51 k + 51 := rfl
  rw [h1, h2, and256 hc (by decide), and256 (a := x / 4) (by omega) (by decide), e1]
  omega
theorem s3_s (hc : c ≤ 68) (hx : x % 16 ≤ 4) : s3F (k + 1) (256 * x + c) = 256 * s3F k x + (c + c / 16) % 16 := by
  unfold s3F
  have h1 : 256 * x + c + (256 * x + c) / 16 = 256 * (x + x / 16) + (c + 16 * (x % 16) + c / 16) := by omega
  have h2 : mk8 15 (k + 1) = 256 * mk8 15 k + 15 := rfl
  rw [h1, h2, and256 (by omega) (by decide)]
  have h3 := Nat.and_two_pow_sub_one_eq_mod (c + 16 * (x % 16) + c / 16) 4
  rw [show (2 : Nat) ^ 4 - 1 = 15 from rfl, show (2 : Nat) ^ 4 = 16 from rfl] at h3
  rw [h3]
  omega
theorem s2_m : ∀ k x, x < 256 ^ k → s2F k (s1F k x) % 16 ≤ 4
  | 0, x, h => by
    have e : x = 0 := by rw [Nat.pow_zero] at h; omega
    subst e
    decide
  | k + 1, x, h => by
    have e : x = 256 * (x / 256) + x % 256 := by omega
    have hc : x % 256 < 256 := Nat.mod_lt _ (by decide)
    obtain ⟨b1, b2, b3, -⟩ := by3 (x % 256) hc
    rw [e, s1_s hc, s2_s b1]
    omega
def dgT : Nat → Nat → Nat
  | 0, _ => 0
  | k + 1, x => 256 * dgT k (x / 256) + t3F (x % 256)
theorem u_dg : ∀ k x, x < 256 ^ k → s3F k (s2F k (s1F k x)) = dgT k x
  | 0, x, h => by
    have e : x = 0 := by rw [Nat.pow_zero] at h; omega
    subst e
    decide
  | k + 1, x, h => by
    have e : x = 256 * (x / 256) + x % 256 := by omega
    have hc : x % 256 < 256 := Nat.mod_lt _ (by decide)
    have hx : x / 256 < 256 ^ k := Nat.div_lt_of_lt_mul (by rw [Nat.mul_comm, ← Nat.pow_succ]; exact h)
    obtain ⟨b1, b2, b3, -⟩ := by3 (x % 256) hc
    have ih := u_dg k (x / 256) hx
    show _ = 256 * dgT k (x / 256) + t3F (x % 256)
    rw [← ih]
    conv => lhs; rw [e]
    rw [s1_s hc, s2_s b1, s3_s b2 (s2_m k _ hx)]
    rfl
end BT
