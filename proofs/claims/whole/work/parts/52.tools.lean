/-! ===== tools: numbers as Int, finer frames, scratch cells, shapes as numbers ===== -/
def iv (z : Int) : Int32 := Int32.ofInt z
def jv (z : Int) : Int64 := Int64.ofInt z
def R3 (z : Int) : Prop := -2147483648 ≤ z ∧ z < 2147483648
def R6 (z : Int) : Prop := -9223372036854775808 ≤ z ∧ z < 9223372036854775808
/-- only what P tells of has changed -/
def Fq (P : Nat → Nat → Prop) (h h' : PH) : Prop := hN h' = hN h ∧ (∀ a b, hR h' a b = hR h a b) ∧ ∀ a b, ¬ P a b → hI h' a b = hI h a b ∧ hL h' a b = hL h a b
/-- what no answer rests on -/
def Sc (a b : Nat) : Prop := (4 ≤ a ∧ a < 47) ∨ (68 ≤ a ∧ a < 124 ∧ 5 ≤ (a - 68) % 7) ∨ a = 128 ∨ a = 131 ∨ 139 ≤ a ∨ (a = 124 ∧ 6 ≤ b)
def Sd (a b : Nat) : Prop := Sc a b ∨ a = 0 ∨ a = 47 ∨ a = 124 ∨ a = 125
section TL
variable {sc : Nat × (Nat → Int32)} {d : Nat} {Q : PRes → Prop} {h h' h1 h2 h3 : PH} {k j q r a b : Nat} {P P' : Nat → Nat → Prop}
theorem iv_add (a b : Int) : iv a + iv b = iv (a + b) := (Int32.ofInt_add a b).symm
theorem iv_sub (a b : Int) : iv a - iv b = iv (a - b) := (Int32.ofInt_sub a b).symm
theorem iv_mul (a b : Int) : iv a * iv b = iv (a * b) := (Int32.ofInt_mul a b).symm
theorem iv_neg (a : Int) : -iv a = iv (-a) := (Int32.ofInt_neg a).symm
theorem iv_n (n : Nat) : nI n = iv n := Int32.ofInt_eq_ofNat.symm
theorem iv_t {z : Int} (q : R3 z) : (iv z).toInt = z := Int32.toInt_ofInt_of_le (by have := q.1; omega) (by have := q.2; omega)
theorem iv_of (x : Int32) : x = iv x.toInt := (Int32.ofInt_toInt x).symm
theorem iv_r (x : Int32) : R3 x.toInt := by
  have h1 := x.minValue_le_toInt
  have h2 := x.toInt_le
  have e1 : Int32.minValue.toInt = -2147483648 := rfl
  have e2 : Int32.maxValue.toInt = 2147483647 := rfl
  rw [e1] at h1
  rw [e2] at h2
  exact ⟨h1, by omega⟩
theorem iv_lt {x y : Int} (hx : R3 x) (hy : R3 y) : (iv x < iv y) = (x < y) := by rw [i_tri, iv_t hx, iv_t hy]
theorem iv_le {x y : Int} (hx : R3 x) (hy : R3 y) : (iv x ≤ iv y) = (x ≤ y) := by rw [i_tre, iv_t hx, iv_t hy]
theorem iv_eq {x y : Int} (hx : R3 x) (hy : R3 y) : (iv x = iv y) = (x = y) := by
  apply propext
  constructor
  · intro e
    have : (iv x).toInt = (iv y).toInt := by rw [e]
    rwa [iv_t hx, iv_t hy] at this
  · intro e; rw [e]
theorem iv_cl {z : Int} (h0 : 0 ≤ z) (h1 : z < 2147483648) : (iv z).toNatClampNeg = z.toNat := by
  have e : iv z = nI z.toNat := by rw [iv_n, Int.toNat_of_nonneg h0]
  rw [e, nI_clamp (by omega)]
theorem iv_nn {z : Int} (h0 : 0 ≤ z) : iv z = nI z.toNat := by rw [iv_n, Int.toNat_of_nonneg h0]
theorem jv_add (a b : Int) : jv a + jv b = jv (a + b) := (Int64.ofInt_add a b).symm
theorem jv_sub (a b : Int) : jv a - jv b = jv (a - b) := (Int64.ofInt_sub a b).symm
theorem jv_mul (a b : Int) : jv a * jv b = jv (a * b) := (Int64.ofInt_mul a b).symm
theorem jv_neg (a : Int) : -jv a = jv (-a) := (Int64.ofInt_neg a).symm
theorem jv_t {z : Int} (q : R6 z) : (jv z).toInt = z := Int64.toInt_ofInt_of_le (by have := q.1; omega) (by have := q.2; omega)
theorem jv_of (x : Int64) : x = jv x.toInt := (Int64.ofInt_toInt x).symm
theorem jv_eq {x y : Int} (hx : R6 x) (hy : R6 y) : (jv x = jv y) = (x = y) := by
  apply propext
  constructor
  · intro e
    have : (jv x).toInt = (jv y).toInt := by rw [e]
    rwa [jv_t hx, jv_t hy] at this
  · intro e; rw [e]
theorem iv_l {z : Int} (q : R3 z) : (iv z).toInt64 = jv z := by
  apply Int64.toInt_inj.mp
  rw [Int32.toInt_toInt64, iv_t q, jv_t ⟨by have := q.1; omega, by have := q.2; omega⟩]
theorem jv_i (z : Int) : (jv z).toInt32 = iv z := Int64.toInt32_ofInt
theorem nI_j {n : Nat} (hn : n < 2147483648) : (nI n).toInt64 = jv n := by rw [iv_n, iv_l ⟨by omega, by omega⟩]
theorem Fq.rf : Fq P h h := ⟨rfl, fun _ _ => rfl, fun _ _ _ => ⟨rfl, rfl⟩⟩
theorem Fq.tr (a : Fq P h1 h2) (b : Fq P h2 h3) : Fq P h1 h3 := ⟨b.1.trans a.1, fun x y => (b.2.1 x y).trans (a.2.1 x y), fun x y hx => ⟨(b.2.2 x y hx).1.trans (a.2.2 x y hx).1, (b.2.2 x y hx).2.trans (a.2.2 x y hx).2⟩⟩
theorem Fq.wk (a : Fq P h h') (hp : ∀ x y, P x y → P' x y) : Fq P' h h' := ⟨a.1, a.2.1, fun x y hx => a.2.2 x y (fun z => hx (hp x y z))⟩
theorem Fq.WF (a : Fq P h h') (hw : WF h) : WF h' := ⟨a.1.trans hw.1, fun e he => (a.2.1 _ _).trans (hw.2 e he)⟩
theorem Fq.ok (a : Fq P h h') (x c : Nat) : okp h' x c = okp h x c := by
  unfold okp
  rw [a.1]
theorem Fq.i (f : Fq P h h') (q : ¬ P a b) : hI h' a b = hI h a b := (f.2.2 a b q).1
theorem Fq.l (f : Fq P h h') (q : ¬ P a b) : hL h' a b = hL h a b := (f.2.2 a b q).2
theorem Fq.sI {v : Int32} (f : Fq P h h') (q : P k j) : Fq P h (sI h' k j v) := f.tr ⟨rfl, fun _ _ => rfl, fun a b hn => ⟨by
  rw [hI_sI]
  by_cases e : a = k
  · rw [if_pos e]
    by_cases e2 : b = j
    · exact absurd (by rw [e, e2]; exact q) hn
    · rw [if_neg e2]
  · rw [if_neg e], rfl⟩⟩
theorem Fq.sL {v : Int64} (f : Fq P h h') (q : P k j) : Fq P h (sL h' k j v) := f.tr ⟨rfl, fun _ _ => rfl, fun a b hn => ⟨rfl, by
  rw [hL_sL]
  by_cases e : a = k
  · rw [if_pos e]
    by_cases e2 : b = j
    · exact absurd (by rw [e, e2]; exact q) hn
    · rw [if_neg e2]
  · rw [if_neg e]⟩⟩
theorem Fq.aI {g : Nat → Int32} (f : Fq P h h') (q : ∀ b, P k b) : Fq P h (aI h' k g) := f.tr ⟨rfl, fun _ _ => rfl, fun a b hn => ⟨by
  rw [hI_aI, if_neg (fun e => hn (by rw [e]; exact q b))], rfl⟩⟩
theorem Fq.aL {g : Nat → Int64} (f : Fq P h h') (q : ∀ b, P k b) : Fq P h (aL h' k g) := f.tr ⟨rfl, fun _ _ => rfl, fun a b hn => ⟨rfl, by
  rw [hL_aL, if_neg (fun e => hn (by rw [e]; exact q b))]⟩⟩
theorem Fq_fr {P : Nat → Prop} (f : Fr P h h') : Fq (fun a _ => P a) h h' := ⟨f.1, f.2.1, fun a b q => f.2.2 a q b⟩
theorem cm_w (c : CM h) (f : Fq Sd h h') (hf : CMf h') : CM h' := by
  have kI : ∀ a b, ¬ Sd a b → hI h' a b = hI h a b := fun a b q => f.i q
  obtain ⟨hw, -, hr, ht, hs⟩ := c
  refine ⟨f.WF hw, hf, ?_, ?_, ?_⟩
  · intro r hr'
    obtain ⟨c1, c2⟩ := hr r hr'
    rw [kI (48 + 2 * r) 1 (by unfold Sd Sc; omega), kI 126 r (by unfold Sd Sc; omega)]
    refine ⟨c1, fun j hj => ?_⟩
    rw [kI 127 _ (by unfold Sd Sc; omega), kI (49 + 2 * r) j (by unfold Sd Sc; omega)]
    exact c2 j hj
  · intro r hr'
    obtain ⟨c1, c2⟩ := ht r hr'
    rw [kI (60 + 2 * r) 1 (by unfold Sd Sc; omega), kI 129 r (by unfold Sd Sc; omega)]
    refine ⟨c1, fun j hj => ?_⟩
    rw [kI 130 _ (by unfold Sd Sc; omega), kI (61 + 2 * r) j (by unfold Sd Sc; omega)]
    exact c2 j hj
  · intro s hs'
    have kf : ∀ a, (∀ b, ¬ Sd a b) → hI h' a = hI h a := fun a ha => funext (fun b => kI a b (ha b))
    have c1 := hs s hs'
    rw [kf (68 + 7 * s) (by unfold Sd Sc; omega), kf (69 + 7 * s) (by unfold Sd Sc; omega), kf (70 + 7 * s) (by unfold Sd Sc; omega), kf (71 + 7 * s) (by unfold Sd Sc; omega), kf (72 + 7 * s) (by unfold Sd Sc; omega), kf 132 (by unfold Sd Sc; omega), kf 133 (by unfold Sd Sc; omega), kf 134 (by unfold Sd Sc; omega), kf 135 (by unfold Sd Sc; omega), kf 136 (by unfold Sd Sc; omega), kf 137 (by unfold Sd Sc; omega), kf 138 (by unfold Sd Sc; omega)]
    exact c1
/-- the fields that are told stay as they are -/
theorem Fq.cf (f : Fq Sc h h') : hI h' 0 14 = hI h 0 14 ∧ hI h' 124 0 = hI h 124 0 ∧ (∀ g, hI h' 47 g = hI h 47 g) ∧ (∀ g, hI h' 125 g = hI h 125 g) ∧ hI h' 0 15 = hI h 0 15 ∧ hI h' 124 2 = hI h 124 2 ∧ hL h' 0 16 = hL h 0 16 ∧ hL h' 124 3 = hL h 124 3 ∧ hL h' 0 17 = hL h 0 17 ∧ hL h' 124 4 = hL h 124 4 ∧ hL h' 0 18 = hL h 0 18 ∧ hL h' 124 5 = hL h 124 5 :=
  ⟨f.i (by unfold Sc; omega), f.i (by unfold Sc; omega), fun g => f.i (by unfold Sc; omega), fun g => f.i (by unfold Sc; omega), f.i (by unfold Sc; omega), f.i (by unfold Sc; omega), f.l (by unfold Sc; omega), f.l (by unfold Sc; omega), f.l (by unfold Sc; omega), f.l (by unfold Sc; omega), f.l (by unfold Sc; omega), f.l (by unfold Sc; omega)⟩
theorem Fq.toD (f : Fq Sc h h') : Fq Sd h h' := f.wk (fun _ _ => Or.inl)
theorem cm_e0 (c : CM h) (f : Fq Sc h h') : CM h' := by
  refine cm_w c f.toD ?_
  obtain ⟨f1, f2, f3, f4, f5, f6⟩ := c.2.1
  obtain ⟨g1, g2, g3, g4, g5, g6, g7, g8, g9, g10, g11, g12⟩ := f.cf
  exact ⟨by rw [g1, g2]; exact f1, fun g hg => by rw [g3, g4]; exact f2 g hg, by rw [g5, g6]; exact f3, by rw [g7, g8]; exact f4, by rw [g9, g10]; exact f5, by rw [g11, g12]; exact f6⟩
theorem cm_eA {v : Int32} (c : CM h) (f : Fq Sc h h1) (g : Fq Sc (sI h1 0 15 v) h2) : CM (sI h2 124 2 v) := by
  have c1 := cm_e0 c f
  refine cm_w c1 (((Fq.rf (P := Sd)).sI (by unfold Sd; omega)).tr (g.toD.sI (by unfold Sd; omega))) ?_
  obtain ⟨f1, f2, f3, f4, f5, f6⟩ := c1.2.1
  obtain ⟨g1, g2, g3, g4, g5, g6, g7, g8, g9, g10, g11, g12⟩ := g.cf
  refine ⟨?_, fun g hg => ?_, ?_, ?_, ?_, ?_⟩
  · show hI h2 0 14 = hI h2 124 0
    rw [g1, g2]; exact f1
  · show hI h2 47 g = hI h2 125 g
    rw [g3, g4]; exact f2 g hg
  · show hI h2 0 15 = v
    rw [g5]; rfl
  · show hL h2 0 16 = hL h2 124 3
    rw [g7, g8]; exact f4
  · show hL h2 0 17 = hL h2 124 4
    rw [g9, g10]; exact f5
  · show hL h2 0 18 = hL h2 124 5
    rw [g11, g12]; exact f6
theorem cm_eM {v : Int64} (c : CM h) (f : Fq Sc h h1) (g : Fq Sc (sL h1 0 16 v) h2) : CM (sL h2 124 3 v) := by
  have c1 := cm_e0 c f
  refine cm_w c1 (((Fq.rf (P := Sd)).sL (by unfold Sd; omega)).tr (g.toD.sL (by unfold Sd; omega))) ?_
  obtain ⟨f1, f2, f3, f4, f5, f6⟩ := c1.2.1
  obtain ⟨g1, g2, g3, g4, g5, g6, g7, g8, g9, g10, g11, g12⟩ := g.cf
  refine ⟨?_, fun g hg => ?_, ?_, ?_, ?_, ?_⟩
  · show hI h2 0 14 = hI h2 124 0
    rw [g1, g2]; exact f1
  · show hI h2 47 g = hI h2 125 g
    rw [g3, g4]; exact f2 g hg
  · show hI h2 0 15 = hI h2 124 2
    rw [g5, g6]; exact f3
  · show hL h2 0 16 = v
    rw [g7]; rfl
  · show hL h2 0 17 = hL h2 124 4
    rw [g9, g10]; exact f5
  · show hL h2 0 18 = hL h2 124 5
    rw [g11, g12]; exact f6
theorem cm_eN {v : Int64} (c : CM h) (f : Fq Sc h h1) (g : Fq (fun a b => Sc a b ∨ (a = 124 ∧ b = 3)) (sL h1 0 16 v) h2) (hv : hL h2 124 3 = v) : CM h2 := by
  have c1 := cm_e0 c f
  refine cm_w c1 (((Fq.rf (P := Sd)).sL (by unfold Sd; omega)).tr (g.wk (fun a b q => q.elim Or.inl (fun z => by unfold Sd; omega)))) ?_
  obtain ⟨f1, f2, f3, f4, f5, f6⟩ := c1.2.1
  refine ⟨?_, fun e he => ?_, ?_, ?_, ?_, ?_⟩
  · rw [g.i (by unfold Sc; omega), g.i (a := 124) (by unfold Sc; omega)]; exact f1
  · rw [g.i (by unfold Sc; omega), g.i (a := 125) (by unfold Sc; omega)]; exact f2 e he
  · rw [g.i (by unfold Sc; omega), g.i (a := 124) (by unfold Sc; omega)]; exact f3
  · rw [g.l (by unfold Sc; omega), hv]; rfl
  · rw [g.l (by unfold Sc; omega), g.l (a := 124) (by unfold Sc; omega)]; exact f5
  · rw [g.l (by unfold Sc; omega), g.l (a := 124) (by unfold Sc; omega)]; exact f6
theorem cm_eF {u v : Int64} (c : CM h) (f : Fq Sc h h1) (g : Fq Sc (sL (sL h1 0 17 u) 0 18 v) h2) : CM (sL (sL h2 124 4 u) 124 5 v) := by
  have c1 := cm_e0 c f
  refine cm_w c1 ((((Fq.rf (P := Sd)).sL (by unfold Sd; omega)).sL (by unfold Sd; omega)).tr ((g.toD.sL (by unfold Sd; omega)).sL (by unfold Sd; omega))) ?_
  obtain ⟨f1, f2, f3, f4, f5, f6⟩ := c1.2.1
  obtain ⟨g1, g2, g3, g4, g5, g6, g7, g8, g9, g10, g11, g12⟩ := g.cf
  refine ⟨?_, fun g hg => ?_, ?_, ?_, ?_, ?_⟩
  · show hI h2 0 14 = hI h2 124 0
    rw [g1, g2]; exact f1
  · show hI h2 47 g = hI h2 125 g
    rw [g3, g4]; exact f2 g hg
  · show hI h2 0 15 = hI h2 124 2
    rw [g5, g6]; exact f3
  · show hL h2 0 16 = hL h2 124 3
    rw [g7, g8]; exact f4
  · show hL h2 0 17 = u
    rw [g9]; rfl
  · show hL h2 0 18 = v
    rw [g11]; rfl
theorem Fq_refu {f : Nat} : Fq Sd h (refu h f) := ((Fq.rf (P := Sd)).sI (by unfold Sd; omega)).sI (by unfold Sd; omega)
theorem Fq_refm {f : Nat} : Fq Sd h (refm h f) := ((Fq.rf (P := Sd)).sI (by unfold Sd; omega)).sI (by unfold Sd; omega)
theorem cm_eR {f : Nat} (hf : f < 6) (c : CM h) (fr : Fq Sc h h1) (g : Fq Sc (refu h1 f) h2) : CM (refm h2 f) := by
  have c1 := cm_e0 c fr
  refine cm_w c1 ((Fq_refu (f := f)).tr (g.toD.tr Fq_refm)) ?_
  obtain ⟨f1, f2, f3, f4, f5, f6⟩ := c1.2.1
  obtain ⟨g1, g2, g3, g4, g5, g6, g7, g8, g9, g10, g11, g12⟩ := g.cf
  refine ⟨?_, fun e he => ?_, ?_, ?_, ?_, ?_⟩
  · show hI h2 0 14 = nI f
    rw [g1]; rfl
  · have e1 : hI (refm h2 f) 47 e = hI h2 47 e := rfl
    have e2 : hI (refm h2 f) 125 e = if e = f then hI h2 125 f + 1 else hI h2 125 e := rfl
    have e3 : hI (refu h1 f) 47 e = if e = f then hI h1 47 f + 1 else hI h1 47 e := rfl
    have e4 : ∀ x, hI (refu h1 f) 125 x = hI h1 125 x := fun _ => rfl
    rw [e1, e2, g3, e3, g4, g4, e4, e4]
    by_cases z : e = f
    · rw [if_pos z, if_pos z, f2 f hf]
    · rw [if_neg z, if_neg z, f2 e he]
  · show hI h2 0 15 = hI h2 124 2
    rw [g5, g6]; exact f3
  · show hL h2 0 16 = hL h2 124 3
    rw [g7, g8]; exact f4
  · show hL h2 0 17 = hL h2 124 4
    rw [g9, g10]; exact f5
  · show hL h2 0 18 = hL h2 124 5
    rw [g11, g12]; exact f6
end TL
