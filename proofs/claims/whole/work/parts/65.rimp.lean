/-! ===== rim, as sums ===== -/
def eX (b M R : Nat) (f : Nat → Int) (o : Nat → Nat → Int) (v p : Nat) : Int := b * o R v + dX M f p
/-- ways of t steps from (x, y) -/
noncomputable def Gw (b M R : Nat) (sx sy : Nat → Int) : Nat → Int → Int → Int
  | 0, x, y => if cd (Alv b M R sx sy x y) = true then 1 else 0
  | t + 1, x, y => if cd (Alv b M R sx sy x y) = true then sZ (fun p => if cd (Alv b M R sx sy (b * x + dX M sx p) (b * y + dX M sy p)) = true then Gw b M R sx sy t (b * x + dX M sx p) (b * y + dX M sy p) else 0) (M * M) else 0
noncomputable def hit (b M R : Nat) (sx sy : Nat → Int) (v p j : Nat) : Bool := cd (Alv b M R sx sy (b * xo R v + dX M sx p) (b * yo R v + dX M sy p) ∧ vi R (b * xo R v + dX M sx p) (b * yo R v + dX M sy p) = j)
noncomputable def psh (b M R : Nat) (sx sy : Nat → Int) (u : Nat → Int) (n j : Nat) : Int := sZ (fun v => sZ (fun p => if hit b M R sx sy v p j = true then u v else 0) (M * M)) n
noncomputable def uw (b M R : Nat) (sx sy : Nat → Int) : Nat → Nat → Int
  | 0, v => if v = vi R 0 0 then 0 else if cd (Alv b M R sx sy (xo R v) (yo R v)) = true then 1 else 0
  | t + 1, v => psh b M R sx sy (uw b M R sx sy t) ((2 * R + 1) * (2 * R + 1)) v
section RM
variable {b M R i j v p n t : Nat} {sx sy : Nat → Int} {X Y : Int}
theorem sZ_mulr {f : Nat → Int} {c : Int} (n : Nat) : sZ f n * c = sZ (fun j => f j * c) n := by
  rw [Int.mul_comm, ← sZ_mulc]
  exact sZ_congr n (fun j _ => Int.mul_comm _ _)
theorem sZ_delta {f : Nat → Int} {k : Nat} : ∀ n, sZ (fun j => if j = k then f j else 0) n = if k < n then f k else 0
  | 0 => (if_neg (by omega)).symm
  | n + 1 => by
    show sZ (fun j => if j = k then f j else 0) n + (if n = k then f n else 0) = _
    rw [sZ_delta n]
    by_cases e : n = k
    · rw [if_pos e, if_neg (by omega), if_pos (by omega), e, Int.zero_add]
    · rw [if_neg e, Int.add_zero]
      by_cases e2 : k < n
      · rw [if_pos e2, if_pos (by omega)]
      · rw [if_neg e2, if_neg (by omega)]
theorem Gw_0 (q : ¬ Alv b M R sx sy X Y) : ∀ t, Gw b M R sx sy t X Y = 0
  | 0 => if_neg (by rw [cd_t]; exact q)
  | t + 1 => if_neg (by rw [cd_t]; exact q)
/-- to push and weigh is to weigh and pull -/
theorem adj {u : Nat → Int} (hu : ∀ v, ¬ Alv b M R sx sy (xo R v) (yo R v) → u v = 0) : sZ (fun j => psh b M R sx sy u ((2 * R + 1) * (2 * R + 1)) j * Gw b M R sx sy t (xo R j) (yo R j)) ((2 * R + 1) * (2 * R + 1)) = sZ (fun v => u v * Gw b M R sx sy (t + 1) (xo R v) (yo R v)) ((2 * R + 1) * (2 * R + 1)) := by
  generalize hN : (2 * R + 1) * (2 * R + 1) = N
  have e1 : sZ (fun j => psh b M R sx sy u N j * Gw b M R sx sy t (xo R j) (yo R j)) N = sZ (fun j => sZ (fun v => sZ (fun p => (if hit b M R sx sy v p j = true then u v else 0) * Gw b M R sx sy t (xo R j) (yo R j)) (M * M)) N) N := by
    refine sZ_congr N (fun j hj => ?_)
    unfold psh
    rw [sZ_mulr]
    refine sZ_congr N (fun v hv => ?_)
    rw [sZ_mulr]
  rw [e1, sZ_swap]
  refine sZ_congr N (fun v hv => ?_)
  rw [sZ_swap]
  by_cases q : Alv b M R sx sy (xo R v) (yo R v)
  · have e2 : Gw b M R sx sy (t + 1) (xo R v) (yo R v) = sZ (fun p => if cd (Alv b M R sx sy (b * xo R v + dX M sx p) (b * yo R v + dX M sy p)) = true then Gw b M R sx sy t (b * xo R v + dX M sx p) (b * yo R v + dX M sy p) else 0) (M * M) := if_pos (by rw [cd_t]; exact q)
    rw [e2, ← sZ_mulc]
    refine sZ_congr _ (fun p hp => ?_)
    generalize hXX : (b : Int) * xo R v + dX M sx p = XX
    generalize hYY : (b : Int) * yo R v + dX M sy p = YY
    by_cases z : Alv b M R sx sy XX YY
    · have hin : inX R XX YY := Gf_b (v := (XX, YY)) z
      obtain ⟨g1, g2⟩ := vi_xo hin
      have hlt : vi R XX YY < N := by rw [← hN]; exact vi_lt hin
      rw [if_pos (by rw [cd_t]; exact z)]
      have e3 : sZ (fun j => (if hit b M R sx sy v p j = true then u v else 0) * Gw b M R sx sy t (xo R j) (yo R j)) N = sZ (fun j => if j = vi R XX YY then (fun j => u v * Gw b M R sx sy t (xo R j) (yo R j)) j else 0) N := by
        refine sZ_congr N (fun j hj => ?_)
        by_cases w : j = vi R XX YY
        · rw [if_pos w, if_pos (by unfold hit; rw [cd_t, hXX, hYY]; exact ⟨z, w.symm⟩)]
        · rw [if_neg w, if_neg (by unfold hit; rw [cd_t, hXX, hYY]; exact fun q => w q.2.symm), Int.zero_mul]
      rw [e3, sZ_delta, if_pos hlt, g1, g2]
    · rw [if_neg (by rw [cd_t]; exact z), Int.mul_zero]
      refine sZ_0 N (fun j hj => ?_)
      rw [if_neg (by unfold hit; rw [cd_t, hXX, hYY]; exact fun q => z q.1), Int.zero_mul]
  · rw [hu v q, Int.zero_mul]
    refine sZ_0 _ (fun p hp => sZ_0 _ (fun j hj => ?_))
    split <;> exact Int.zero_mul _
theorem uw_s : ∀ t v, v < (2 * R + 1) * (2 * R + 1) → ¬ Alv b M R sx sy (xo R v) (yo R v) → uw b M R sx sy t v = 0
  | 0, v, _, q => by
    show (if v = vi R 0 0 then 0 else if cd (Alv b M R sx sy (xo R v) (yo R v)) = true then 1 else 0) = (0 : Int)
    rw [if_neg (show ¬ cd (Alv b M R sx sy (xo R v) (yo R v)) = true by rw [cd_t]; exact q)]
    split <;> rfl
  | t + 1, v, hv, q => by
    refine sZ_0 _ (fun w hw => sZ_0 _ (fun p hp => if_neg ?_))
    unfold hit
    rw [cd_t]
    rintro ⟨z1, z2⟩
    obtain ⟨g1, g2⟩ := vi_xo (Gf_b (v := (_, _)) z1)
    rw [← z2, g1, g2] at q
    exact q z1
theorem uw_G : ∀ k t, sZ (fun j => uw b M R sx sy k j * Gw b M R sx sy t (xo R j) (yo R j)) ((2 * R + 1) * (2 * R + 1)) = sZ (fun j => uw b M R sx sy 0 j * Gw b M R sx sy (t + k) (xo R j) (yo R j)) ((2 * R + 1) * (2 * R + 1))
  | 0, t => rfl
  | k + 1, t => by
    have e1 : sZ (fun j => uw b M R sx sy (k + 1) j * Gw b M R sx sy t (xo R j) (yo R j)) ((2 * R + 1) * (2 * R + 1)) = sZ (fun j => psh b M R sx sy (fun v => if v < (2 * R + 1) * (2 * R + 1) then uw b M R sx sy k v else 0) ((2 * R + 1) * (2 * R + 1)) j * Gw b M R sx sy t (xo R j) (yo R j)) ((2 * R + 1) * (2 * R + 1)) := by
      refine sZ_congr _ (fun j hj => ?_)
      congr 1
      refine sZ_congr _ (fun v hv => sZ_congr _ (fun p hp => ?_))
      simp only [if_pos hv]
    have e2 := adj (b := b) (M := M) (R := R) (sx := sx) (sy := sy) (t := t) (u := fun v => if v < (2 * R + 1) * (2 * R + 1) then uw b M R sx sy k v else 0) (fun v q => by
      by_cases hv : v < (2 * R + 1) * (2 * R + 1)
      · simp only [if_pos hv]; exact uw_s k v hv q
      · simp only [if_neg hv])
    rw [e1, e2]
    have e3 : sZ (fun v => (if v < (2 * R + 1) * (2 * R + 1) then uw b M R sx sy k v else 0) * Gw b M R sx sy (t + 1) (xo R v) (yo R v)) ((2 * R + 1) * (2 * R + 1)) = sZ (fun v => uw b M R sx sy k v * Gw b M R sx sy (t + 1) (xo R v) (yo R v)) ((2 * R + 1) * (2 * R + 1)) := by
      refine sZ_congr _ (fun v hv => ?_)
      rw [if_pos hv]
    rw [e3, uw_G k (t + 1), show t + 1 + k = t + (k + 1) by omega]
/-- the sum that the class tells is the one that the model tells -/
theorem rim_eq (hR : R ≤ 18) (k : Nat) : sZ (uw b M R sx sy k) ((2 * R + 1) * (2 * R + 1)) = sZ (fun a => if a = 684 then 0 else Gw b M R sx sy k (xm a) (ym a)) 1369 := by
  have e1 : sZ (uw b M R sx sy k) ((2 * R + 1) * (2 * R + 1)) = sZ (fun j => uw b M R sx sy k j * Gw b M R sx sy 0 (xo R j) (yo R j)) ((2 * R + 1) * (2 * R + 1)) := by
    refine sZ_congr _ (fun j hj => ?_)
    by_cases q : Alv b M R sx sy (xo R j) (yo R j)
    · rw [show Gw b M R sx sy 0 (xo R j) (yo R j) = 1 from if_pos (by rw [cd_t]; exact q), Int.mul_one]
    · rw [uw_s k j hj q, Int.zero_mul]
  rw [e1, uw_G k 0, Nat.zero_add]
  have e2 : sZ (fun j => uw b M R sx sy 0 j * Gw b M R sx sy k (xo R j) (yo R j)) ((2 * R + 1) * (2 * R + 1)) = sZ (fun j => (fun X Y => if X = 0 ∧ Y = 0 then 0 else Gw b M R sx sy k X Y) (xo R j) (yo R j)) ((2 * R + 1) * (2 * R + 1)) := by
    refine sZ_congr _ (fun j hj => ?_)
    show (if j = vi R 0 0 then 0 else if cd (Alv b M R sx sy (xo R j) (yo R j)) = true then 1 else 0) * Gw b M R sx sy k (xo R j) (yo R j) = if xo R j = 0 ∧ yo R j = 0 then 0 else Gw b M R sx sy k (xo R j) (yo R j)
    have h0 : inX R 0 0 := ⟨by omega, by omega⟩
    by_cases z : j = vi R 0 0
    · obtain ⟨g1, g2⟩ := vi_xo h0
      rw [if_pos z, Int.zero_mul, if_pos (by rw [z]; exact ⟨g1, g2⟩)]
    · have nz : ¬ (xo R j = 0 ∧ yo R j = 0) := fun q => z (by have e := vi_v hj; rw [q.1, q.2] at e; exact e.symm)
      rw [if_neg z, if_neg nz]
      by_cases q : Alv b M R sx sy (xo R j) (yo R j)
      · rw [if_pos (show cd (Alv b M R sx sy (xo R j) (yo R j)) = true by rw [cd_t]; exact q), Int.one_mul]
      · rw [Gw_0 q k, Int.mul_zero]
  rw [e2, sZ_vec (F := fun X Y => if X = 0 ∧ Y = 0 then 0 else Gw b M R sx sy k X Y) hR (fun X Y q => by
    show (if X = 0 ∧ Y = 0 then 0 else Gw b M R sx sy k X Y) = 0
    rw [Gw_0 (fun z => q (Gf_b (v := (X, Y)) z)) k]
    split <;> rfl)]
  refine sZ_congr _ (fun a ha => ?_)
  have hz : (xm a = 0 ∧ ym a = 0) = (a = 684) := by
    apply propext
    unfold xm ym
    omega
  simp only [hz]
theorem vi_mid : (2 * R + 1) * (2 * R + 1) / 2 = vi R 0 0 := by
  unfold vi
  rw [show ((0 : Int) + R).toNat = R by omega, Nat.add_mul, Nat.one_mul, Nat.mul_assoc]
  generalize R * (2 * R + 1) = u
  omega
end RM
