section BT
variable {a b c d k x n i j : Nat}
theorem by1 : ∀ c, c < 256 → ∀ t, t < 2 → ((128 * t + c / 2) &&& 85) = ((c / 2) &&& 85) ∧ ((c / 2) &&& 85) ≤ c := by decide +kernel
theorem by2 : ∀ f, f < 256 → ∀ t, t < 4 → ((64 * t + f / 4) &&& 51) = ((f / 4) &&& 51) := by decide +kernel
theorem by3 : ∀ c, c < 256 → b1F c < 256 ∧ b2F (b1F c) ≤ 68 ∧ b2F (b1F c) % 16 ≤ 4 ∧ t3F c = cb c 8 ∧ t3F c ≤ 8 := by decide +kernel
end BT
