/-! ===== the world once the two objects are made: which cell holds which ===== -/
def refL : List (Nat × Nat × Nat) := [(0, 0, 1), (0, 1, 2), (0, 2, 3), (0, 3, 4), (0, 4, 11), (0, 5, 14), (0, 6, 15), (0, 7, 16), (0, 8, 20), (0, 9, 24), (0, 10, 32), (0, 11, 40), (0, 12, 44), (0, 13, 47), (1, 0, 48), (1, 1, 50), (1, 2, 52), (1, 3, 54), (1, 4, 56), (1, 5, 58), (2, 0, 60), (2, 1, 62), (2, 2, 64), (2, 3, 66), (3, 0, 68), (3, 1, 75), (3, 2, 82), (3, 3, 89), (3, 4, 96), (3, 5, 103), (3, 6, 110), (3, 7, 117), (4, 0, 5), (4, 1, 6), (4, 2, 7), (4, 3, 8), (4, 4, 9), (4, 5, 10), (12, 0, 13), (16, 0, 17), (16, 1, 18), (16, 2, 19), (20, 0, 21), (20, 1, 22), (20, 2, 23), (24, 0, 25), (24, 1, 26), (24, 2, 27), (24, 3, 28), (24, 4, 29), (24, 5, 30), (24, 6, 31), (32, 0, 33), (32, 1, 34), (32, 2, 35), (32, 3, 36), (32, 4, 37), (32, 5, 38), (32, 6, 39), (32, 7, 16), (32, 8, 24), (40, 0, 41), (40, 1, 42), (40, 2, 43), (40, 3, 16), (44, 0, 45), (44, 1, 46), (48, 0, 49), (50, 0, 51), (52, 0, 53), (54, 0, 55), (56, 0, 57), (58, 0, 59), (60, 0, 61), (62, 0, 63), (64, 0, 65), (66, 0, 67), (68, 0, 69), (68, 1, 70), (68, 2, 71), (68, 3, 72), (68, 4, 73), (68, 5, 74), (75, 0, 76), (75, 1, 77), (75, 2, 78), (75, 3, 79), (75, 4, 80), (75, 5, 81), (82, 0, 83), (82, 1, 84), (82, 2, 85), (82, 3, 86), (82, 4, 87), (82, 5, 88), (89, 0, 90), (89, 1, 91), (89, 2, 92), (89, 3, 93), (89, 4, 94), (89, 5, 95), (96, 0, 97), (96, 1, 98), (96, 2, 99), (96, 3, 100), (96, 4, 101), (96, 5, 102), (103, 0, 104), (103, 1, 105), (103, 2, 106), (103, 3, 107), (103, 4, 108), (103, 5, 109), (110, 0, 111), (110, 1, 112), (110, 2, 113), (110, 3, 114), (110, 4, 115), (110, 5, 116), (117, 0, 118), (117, 1, 119), (117, 2, 120), (117, 3, 121), (117, 4, 122), (117, 5, 123), (124, 1, 125), (124, 6, 126), (124, 7, 127), (124, 8, 128), (124, 9, 129), (124, 10, 130), (124, 13, 131), (124, 16, 132), (124, 17, 133), (124, 18, 134), (124, 19, 135), (124, 20, 136), (124, 21, 137), (124, 22, 138), (124, 29, 139), (124, 30, 140), (124, 32, 141), (124, 33, 142), (124, 34, 143), (124, 35, 144), (124, 38, 145), (124, 39, 146), (124, 40, 147), (124, 45, 148), (124, 46, 149), (124, 47, 150), (124, 48, 151), (124, 49, 152), (124, 51, 153), (124, 52, 154), (124, 53, 155), (124, 54, 156), (124, 55, 157), (124, 56, 158), (124, 57, 159), (124, 58, 160), (124, 59, 161), (124, 60, 162), (124, 61, 163)]
/-- the references that stay -/
def WF (h : PH) : Prop := hN h = 164 ∧ ∀ e ∈ refL, hR h e.1 e.2.1 = some e.2.2
section WF
variable {h h' : PH} {k j q r : Nat}
theorem WF_r (hw : WF h) (he : (k, j, q) ∈ refL) : hR h k j = some q := hw.2 _ he
theorem WF_sI {v : Int32} (hw : WF h) : WF (sI h k j v) := hw
theorem WF_sL {v : Int64} (hw : WF h) : WF (sL h k j v) := hw
theorem WF_aI {f : Nat → Int32} (hw : WF h) : WF (aI h k f) := hw
theorem WF_aL {f : Nat → Int64} (hw : WF h) : WF (aL h k f) := hw
theorem WF.src (hw : WF h) : WF (sR h 11 0 (some q)) := ⟨hw.1, fun e he => by
  rw [hR_sR]
  have hn : refL.all (fun e => !(decide (e.1 = 11) && decide (e.2.1 = 0))) = true := by decide +kernel
  have h1 := List.all_eq_true.mp hn e he
  by_cases e1 : e.1 = 11
  · rw [if_pos e1]
    by_cases e2 : e.2.1 = 0
    · rw [e1, e2] at h1
      cases h1
    · rw [if_neg e2]
      exact hw.2 e he
  · rw [if_neg e1]
    exact hw.2 e he⟩
/-- nothing but ints and longs of cells of a kind has changed -/
def Fr (P : Nat → Prop) (h h' : PH) : Prop := hN h' = hN h ∧ (∀ a b, hR h' a b = hR h a b) ∧ ∀ a, ¬ P a → ∀ b, hI h' a b = hI h a b ∧ hL h' a b = hL h a b
theorem Fr.rf {P : Nat → Prop} : Fr P h h := ⟨rfl, fun _ _ => rfl, fun _ _ _ => ⟨rfl, rfl⟩⟩
theorem Fr.tr {P : Nat → Prop} {h1 h2 h3 : PH} (a : Fr P h1 h2) (b : Fr P h2 h3) : Fr P h1 h3 := ⟨b.1.trans a.1, fun x y => (b.2.1 x y).trans (a.2.1 x y), fun x hx y => ⟨(b.2.2 x hx y).1.trans (a.2.2 x hx y).1, (b.2.2 x hx y).2.trans (a.2.2 x hx y).2⟩⟩
theorem Fr.wk {P P' : Nat → Prop} (a : Fr P h h') (hp : ∀ x, P x → P' x) : Fr P' h h' := ⟨a.1, a.2.1, fun x hx y => a.2.2 x (fun z => hx (hp x z)) y⟩
theorem Fr_WF {P : Nat → Prop} (a : Fr P h h') (hw : WF h) : WF h' := ⟨a.1.trans hw.1, fun e he => (a.2.1 _ _).trans (hw.2 e he)⟩
theorem Fr_okp {P : Nat → Prop} (a : Fr P h h') (x c : Nat) : okp h' x c = okp h x c := by
  unfold okp
  rw [a.1]
theorem Fr_sI {P : Nat → Prop} {v : Int32} (hk : P k) : Fr P h (sI h k j v) := ⟨rfl, fun _ _ => rfl, fun a ha b => ⟨by rw [hI_sI, if_neg (fun e : a = k => ha (by rw [e]; exact hk))], rfl⟩⟩
theorem Fr_sL {P : Nat → Prop} {v : Int64} (hk : P k) : Fr P h (sL h k j v) := ⟨rfl, fun _ _ => rfl, fun a ha b => ⟨rfl, by rw [hL_sL, if_neg (fun e : a = k => ha (by rw [e]; exact hk))]⟩⟩
theorem Fr_aI {P : Nat → Prop} {f : Nat → Int32} (hk : P k) : Fr P h (aI h k f) := ⟨rfl, fun _ _ => rfl, fun a ha b => ⟨by rw [hI_aI, if_neg (fun e : a = k => ha (by rw [e]; exact hk))], rfl⟩⟩
theorem Fr_aL {P : Nat → Prop} {f : Nat → Int64} (hk : P k) : Fr P h (aL h k f) := ⟨rfl, fun _ _ => rfl, fun a ha b => ⟨rfl, by rw [hL_aL, if_neg (fun e : a = k => ha (by rw [e]; exact hk))]⟩⟩

theorem w_0_0 (hw : WF h) : hR h 0 0 = some 1 := WF_r hw (by decide +kernel)
theorem w_0_1 (hw : WF h) : hR h 0 1 = some 2 := WF_r hw (by decide +kernel)
theorem w_0_2 (hw : WF h) : hR h 0 2 = some 3 := WF_r hw (by decide +kernel)
theorem w_0_3 (hw : WF h) : hR h 0 3 = some 4 := WF_r hw (by decide +kernel)
theorem w_0_4 (hw : WF h) : hR h 0 4 = some 11 := WF_r hw (by decide +kernel)
theorem w_0_5 (hw : WF h) : hR h 0 5 = some 14 := WF_r hw (by decide +kernel)
theorem w_0_6 (hw : WF h) : hR h 0 6 = some 15 := WF_r hw (by decide +kernel)
theorem w_0_7 (hw : WF h) : hR h 0 7 = some 16 := WF_r hw (by decide +kernel)
theorem w_0_8 (hw : WF h) : hR h 0 8 = some 20 := WF_r hw (by decide +kernel)
theorem w_0_9 (hw : WF h) : hR h 0 9 = some 24 := WF_r hw (by decide +kernel)
theorem w_0_10 (hw : WF h) : hR h 0 10 = some 32 := WF_r hw (by decide +kernel)
theorem w_0_11 (hw : WF h) : hR h 0 11 = some 40 := WF_r hw (by decide +kernel)
theorem w_0_12 (hw : WF h) : hR h 0 12 = some 44 := WF_r hw (by decide +kernel)
theorem w_0_13 (hw : WF h) : hR h 0 13 = some 47 := WF_r hw (by decide +kernel)
theorem w_1_0 (hw : WF h) : hR h 1 0 = some 48 := WF_r hw (by decide +kernel)
theorem w_1_1 (hw : WF h) : hR h 1 1 = some 50 := WF_r hw (by decide +kernel)
theorem w_1_2 (hw : WF h) : hR h 1 2 = some 52 := WF_r hw (by decide +kernel)
theorem w_1_3 (hw : WF h) : hR h 1 3 = some 54 := WF_r hw (by decide +kernel)
theorem w_1_4 (hw : WF h) : hR h 1 4 = some 56 := WF_r hw (by decide +kernel)
theorem w_1_5 (hw : WF h) : hR h 1 5 = some 58 := WF_r hw (by decide +kernel)
theorem w_2_0 (hw : WF h) : hR h 2 0 = some 60 := WF_r hw (by decide +kernel)
theorem w_2_1 (hw : WF h) : hR h 2 1 = some 62 := WF_r hw (by decide +kernel)
theorem w_2_2 (hw : WF h) : hR h 2 2 = some 64 := WF_r hw (by decide +kernel)
theorem w_2_3 (hw : WF h) : hR h 2 3 = some 66 := WF_r hw (by decide +kernel)
theorem w_3_0 (hw : WF h) : hR h 3 0 = some 68 := WF_r hw (by decide +kernel)
theorem w_3_1 (hw : WF h) : hR h 3 1 = some 75 := WF_r hw (by decide +kernel)
theorem w_3_2 (hw : WF h) : hR h 3 2 = some 82 := WF_r hw (by decide +kernel)
theorem w_3_3 (hw : WF h) : hR h 3 3 = some 89 := WF_r hw (by decide +kernel)
theorem w_3_4 (hw : WF h) : hR h 3 4 = some 96 := WF_r hw (by decide +kernel)
theorem w_3_5 (hw : WF h) : hR h 3 5 = some 103 := WF_r hw (by decide +kernel)
theorem w_3_6 (hw : WF h) : hR h 3 6 = some 110 := WF_r hw (by decide +kernel)
theorem w_3_7 (hw : WF h) : hR h 3 7 = some 117 := WF_r hw (by decide +kernel)
theorem w_4_0 (hw : WF h) : hR h 4 0 = some 5 := WF_r hw (by decide +kernel)
theorem w_4_1 (hw : WF h) : hR h 4 1 = some 6 := WF_r hw (by decide +kernel)
theorem w_4_2 (hw : WF h) : hR h 4 2 = some 7 := WF_r hw (by decide +kernel)
theorem w_4_3 (hw : WF h) : hR h 4 3 = some 8 := WF_r hw (by decide +kernel)
theorem w_4_4 (hw : WF h) : hR h 4 4 = some 9 := WF_r hw (by decide +kernel)
theorem w_4_5 (hw : WF h) : hR h 4 5 = some 10 := WF_r hw (by decide +kernel)
theorem w_12_0 (hw : WF h) : hR h 12 0 = some 13 := WF_r hw (by decide +kernel)
theorem w_16_0 (hw : WF h) : hR h 16 0 = some 17 := WF_r hw (by decide +kernel)
theorem w_16_1 (hw : WF h) : hR h 16 1 = some 18 := WF_r hw (by decide +kernel)
theorem w_16_2 (hw : WF h) : hR h 16 2 = some 19 := WF_r hw (by decide +kernel)
theorem w_20_0 (hw : WF h) : hR h 20 0 = some 21 := WF_r hw (by decide +kernel)
theorem w_20_1 (hw : WF h) : hR h 20 1 = some 22 := WF_r hw (by decide +kernel)
theorem w_20_2 (hw : WF h) : hR h 20 2 = some 23 := WF_r hw (by decide +kernel)
theorem w_24_0 (hw : WF h) : hR h 24 0 = some 25 := WF_r hw (by decide +kernel)
theorem w_24_1 (hw : WF h) : hR h 24 1 = some 26 := WF_r hw (by decide +kernel)
theorem w_24_2 (hw : WF h) : hR h 24 2 = some 27 := WF_r hw (by decide +kernel)
theorem w_24_3 (hw : WF h) : hR h 24 3 = some 28 := WF_r hw (by decide +kernel)
theorem w_24_4 (hw : WF h) : hR h 24 4 = some 29 := WF_r hw (by decide +kernel)
theorem w_24_5 (hw : WF h) : hR h 24 5 = some 30 := WF_r hw (by decide +kernel)
theorem w_24_6 (hw : WF h) : hR h 24 6 = some 31 := WF_r hw (by decide +kernel)
theorem w_32_0 (hw : WF h) : hR h 32 0 = some 33 := WF_r hw (by decide +kernel)
theorem w_32_1 (hw : WF h) : hR h 32 1 = some 34 := WF_r hw (by decide +kernel)
theorem w_32_2 (hw : WF h) : hR h 32 2 = some 35 := WF_r hw (by decide +kernel)
theorem w_32_3 (hw : WF h) : hR h 32 3 = some 36 := WF_r hw (by decide +kernel)
theorem w_32_4 (hw : WF h) : hR h 32 4 = some 37 := WF_r hw (by decide +kernel)
theorem w_32_5 (hw : WF h) : hR h 32 5 = some 38 := WF_r hw (by decide +kernel)
theorem w_32_6 (hw : WF h) : hR h 32 6 = some 39 := WF_r hw (by decide +kernel)
theorem w_32_7 (hw : WF h) : hR h 32 7 = some 16 := WF_r hw (by decide +kernel)
theorem w_32_8 (hw : WF h) : hR h 32 8 = some 24 := WF_r hw (by decide +kernel)
theorem w_40_0 (hw : WF h) : hR h 40 0 = some 41 := WF_r hw (by decide +kernel)
theorem w_40_1 (hw : WF h) : hR h 40 1 = some 42 := WF_r hw (by decide +kernel)
theorem w_40_2 (hw : WF h) : hR h 40 2 = some 43 := WF_r hw (by decide +kernel)
theorem w_40_3 (hw : WF h) : hR h 40 3 = some 16 := WF_r hw (by decide +kernel)
theorem w_44_0 (hw : WF h) : hR h 44 0 = some 45 := WF_r hw (by decide +kernel)
theorem w_44_1 (hw : WF h) : hR h 44 1 = some 46 := WF_r hw (by decide +kernel)
theorem w_48_0 (hw : WF h) : hR h 48 0 = some 49 := WF_r hw (by decide +kernel)
theorem w_50_0 (hw : WF h) : hR h 50 0 = some 51 := WF_r hw (by decide +kernel)
theorem w_52_0 (hw : WF h) : hR h 52 0 = some 53 := WF_r hw (by decide +kernel)
theorem w_54_0 (hw : WF h) : hR h 54 0 = some 55 := WF_r hw (by decide +kernel)
theorem w_56_0 (hw : WF h) : hR h 56 0 = some 57 := WF_r hw (by decide +kernel)
theorem w_58_0 (hw : WF h) : hR h 58 0 = some 59 := WF_r hw (by decide +kernel)
theorem w_60_0 (hw : WF h) : hR h 60 0 = some 61 := WF_r hw (by decide +kernel)
theorem w_62_0 (hw : WF h) : hR h 62 0 = some 63 := WF_r hw (by decide +kernel)
theorem w_64_0 (hw : WF h) : hR h 64 0 = some 65 := WF_r hw (by decide +kernel)
theorem w_66_0 (hw : WF h) : hR h 66 0 = some 67 := WF_r hw (by decide +kernel)
theorem w_68_0 (hw : WF h) : hR h 68 0 = some 69 := WF_r hw (by decide +kernel)
theorem w_68_1 (hw : WF h) : hR h 68 1 = some 70 := WF_r hw (by decide +kernel)
theorem w_68_2 (hw : WF h) : hR h 68 2 = some 71 := WF_r hw (by decide +kernel)
theorem w_68_3 (hw : WF h) : hR h 68 3 = some 72 := WF_r hw (by decide +kernel)
theorem w_68_4 (hw : WF h) : hR h 68 4 = some 73 := WF_r hw (by decide +kernel)
theorem w_68_5 (hw : WF h) : hR h 68 5 = some 74 := WF_r hw (by decide +kernel)
theorem w_75_0 (hw : WF h) : hR h 75 0 = some 76 := WF_r hw (by decide +kernel)
theorem w_75_1 (hw : WF h) : hR h 75 1 = some 77 := WF_r hw (by decide +kernel)
theorem w_75_2 (hw : WF h) : hR h 75 2 = some 78 := WF_r hw (by decide +kernel)
theorem w_75_3 (hw : WF h) : hR h 75 3 = some 79 := WF_r hw (by decide +kernel)
theorem w_75_4 (hw : WF h) : hR h 75 4 = some 80 := WF_r hw (by decide +kernel)
theorem w_75_5 (hw : WF h) : hR h 75 5 = some 81 := WF_r hw (by decide +kernel)
theorem w_82_0 (hw : WF h) : hR h 82 0 = some 83 := WF_r hw (by decide +kernel)
theorem w_82_1 (hw : WF h) : hR h 82 1 = some 84 := WF_r hw (by decide +kernel)
theorem w_82_2 (hw : WF h) : hR h 82 2 = some 85 := WF_r hw (by decide +kernel)
theorem w_82_3 (hw : WF h) : hR h 82 3 = some 86 := WF_r hw (by decide +kernel)
theorem w_82_4 (hw : WF h) : hR h 82 4 = some 87 := WF_r hw (by decide +kernel)
theorem w_82_5 (hw : WF h) : hR h 82 5 = some 88 := WF_r hw (by decide +kernel)
theorem w_89_0 (hw : WF h) : hR h 89 0 = some 90 := WF_r hw (by decide +kernel)
theorem w_89_1 (hw : WF h) : hR h 89 1 = some 91 := WF_r hw (by decide +kernel)
theorem w_89_2 (hw : WF h) : hR h 89 2 = some 92 := WF_r hw (by decide +kernel)
theorem w_89_3 (hw : WF h) : hR h 89 3 = some 93 := WF_r hw (by decide +kernel)
theorem w_89_4 (hw : WF h) : hR h 89 4 = some 94 := WF_r hw (by decide +kernel)
theorem w_89_5 (hw : WF h) : hR h 89 5 = some 95 := WF_r hw (by decide +kernel)
theorem w_96_0 (hw : WF h) : hR h 96 0 = some 97 := WF_r hw (by decide +kernel)
theorem w_96_1 (hw : WF h) : hR h 96 1 = some 98 := WF_r hw (by decide +kernel)
theorem w_96_2 (hw : WF h) : hR h 96 2 = some 99 := WF_r hw (by decide +kernel)
theorem w_96_3 (hw : WF h) : hR h 96 3 = some 100 := WF_r hw (by decide +kernel)
theorem w_96_4 (hw : WF h) : hR h 96 4 = some 101 := WF_r hw (by decide +kernel)
theorem w_96_5 (hw : WF h) : hR h 96 5 = some 102 := WF_r hw (by decide +kernel)
theorem w_103_0 (hw : WF h) : hR h 103 0 = some 104 := WF_r hw (by decide +kernel)
theorem w_103_1 (hw : WF h) : hR h 103 1 = some 105 := WF_r hw (by decide +kernel)
theorem w_103_2 (hw : WF h) : hR h 103 2 = some 106 := WF_r hw (by decide +kernel)
theorem w_103_3 (hw : WF h) : hR h 103 3 = some 107 := WF_r hw (by decide +kernel)
theorem w_103_4 (hw : WF h) : hR h 103 4 = some 108 := WF_r hw (by decide +kernel)
theorem w_103_5 (hw : WF h) : hR h 103 5 = some 109 := WF_r hw (by decide +kernel)
theorem w_110_0 (hw : WF h) : hR h 110 0 = some 111 := WF_r hw (by decide +kernel)
theorem w_110_1 (hw : WF h) : hR h 110 1 = some 112 := WF_r hw (by decide +kernel)
theorem w_110_2 (hw : WF h) : hR h 110 2 = some 113 := WF_r hw (by decide +kernel)
theorem w_110_3 (hw : WF h) : hR h 110 3 = some 114 := WF_r hw (by decide +kernel)
theorem w_110_4 (hw : WF h) : hR h 110 4 = some 115 := WF_r hw (by decide +kernel)
theorem w_110_5 (hw : WF h) : hR h 110 5 = some 116 := WF_r hw (by decide +kernel)
theorem w_117_0 (hw : WF h) : hR h 117 0 = some 118 := WF_r hw (by decide +kernel)
theorem w_117_1 (hw : WF h) : hR h 117 1 = some 119 := WF_r hw (by decide +kernel)
theorem w_117_2 (hw : WF h) : hR h 117 2 = some 120 := WF_r hw (by decide +kernel)
theorem w_117_3 (hw : WF h) : hR h 117 3 = some 121 := WF_r hw (by decide +kernel)
theorem w_117_4 (hw : WF h) : hR h 117 4 = some 122 := WF_r hw (by decide +kernel)
theorem w_117_5 (hw : WF h) : hR h 117 5 = some 123 := WF_r hw (by decide +kernel)
theorem w_124_1 (hw : WF h) : hR h 124 1 = some 125 := WF_r hw (by decide +kernel)
theorem w_124_6 (hw : WF h) : hR h 124 6 = some 126 := WF_r hw (by decide +kernel)
theorem w_124_7 (hw : WF h) : hR h 124 7 = some 127 := WF_r hw (by decide +kernel)
theorem w_124_8 (hw : WF h) : hR h 124 8 = some 128 := WF_r hw (by decide +kernel)
theorem w_124_9 (hw : WF h) : hR h 124 9 = some 129 := WF_r hw (by decide +kernel)
theorem w_124_10 (hw : WF h) : hR h 124 10 = some 130 := WF_r hw (by decide +kernel)
theorem w_124_13 (hw : WF h) : hR h 124 13 = some 131 := WF_r hw (by decide +kernel)
theorem w_124_16 (hw : WF h) : hR h 124 16 = some 132 := WF_r hw (by decide +kernel)
theorem w_124_17 (hw : WF h) : hR h 124 17 = some 133 := WF_r hw (by decide +kernel)
theorem w_124_18 (hw : WF h) : hR h 124 18 = some 134 := WF_r hw (by decide +kernel)
theorem w_124_19 (hw : WF h) : hR h 124 19 = some 135 := WF_r hw (by decide +kernel)
theorem w_124_20 (hw : WF h) : hR h 124 20 = some 136 := WF_r hw (by decide +kernel)
theorem w_124_21 (hw : WF h) : hR h 124 21 = some 137 := WF_r hw (by decide +kernel)
theorem w_124_22 (hw : WF h) : hR h 124 22 = some 138 := WF_r hw (by decide +kernel)
theorem w_124_29 (hw : WF h) : hR h 124 29 = some 139 := WF_r hw (by decide +kernel)
theorem w_124_30 (hw : WF h) : hR h 124 30 = some 140 := WF_r hw (by decide +kernel)
theorem w_124_32 (hw : WF h) : hR h 124 32 = some 141 := WF_r hw (by decide +kernel)
theorem w_124_33 (hw : WF h) : hR h 124 33 = some 142 := WF_r hw (by decide +kernel)
theorem w_124_34 (hw : WF h) : hR h 124 34 = some 143 := WF_r hw (by decide +kernel)
theorem w_124_35 (hw : WF h) : hR h 124 35 = some 144 := WF_r hw (by decide +kernel)
theorem w_124_38 (hw : WF h) : hR h 124 38 = some 145 := WF_r hw (by decide +kernel)
theorem w_124_39 (hw : WF h) : hR h 124 39 = some 146 := WF_r hw (by decide +kernel)
theorem w_124_40 (hw : WF h) : hR h 124 40 = some 147 := WF_r hw (by decide +kernel)
theorem w_124_45 (hw : WF h) : hR h 124 45 = some 148 := WF_r hw (by decide +kernel)
theorem w_124_46 (hw : WF h) : hR h 124 46 = some 149 := WF_r hw (by decide +kernel)
theorem w_124_47 (hw : WF h) : hR h 124 47 = some 150 := WF_r hw (by decide +kernel)
theorem w_124_48 (hw : WF h) : hR h 124 48 = some 151 := WF_r hw (by decide +kernel)
theorem w_124_49 (hw : WF h) : hR h 124 49 = some 152 := WF_r hw (by decide +kernel)
theorem w_124_51 (hw : WF h) : hR h 124 51 = some 153 := WF_r hw (by decide +kernel)
theorem w_124_52 (hw : WF h) : hR h 124 52 = some 154 := WF_r hw (by decide +kernel)
theorem w_124_53 (hw : WF h) : hR h 124 53 = some 155 := WF_r hw (by decide +kernel)
theorem w_124_54 (hw : WF h) : hR h 124 54 = some 156 := WF_r hw (by decide +kernel)
theorem w_124_55 (hw : WF h) : hR h 124 55 = some 157 := WF_r hw (by decide +kernel)
theorem w_124_56 (hw : WF h) : hR h 124 56 = some 158 := WF_r hw (by decide +kernel)
theorem w_124_57 (hw : WF h) : hR h 124 57 = some 159 := WF_r hw (by decide +kernel)
theorem w_124_58 (hw : WF h) : hR h 124 58 = some 160 := WF_r hw (by decide +kernel)
theorem w_124_59 (hw : WF h) : hR h 124 59 = some 161 := WF_r hw (by decide +kernel)
theorem w_124_60 (hw : WF h) : hR h 124 60 = some 162 := WF_r hw (by decide +kernel)
theorem w_124_61 (hw : WF h) : hR h 124 61 = some 163 := WF_r hw (by decide +kernel)
theorem o_0 (hw : WF h) : okp h 0 9 = true := okp_of hw.1 (by decide) rfl
theorem o_1 (hw : WF h) : okp h 1 14 = true := okp_of hw.1 (by decide) rfl
theorem o_2 (hw : WF h) : okp h 2 14 = true := okp_of hw.1 (by decide) rfl
theorem o_3 (hw : WF h) : okp h 3 15 = true := okp_of hw.1 (by decide) rfl
theorem o_4 (hw : WF h) : okp h 4 6 = true := okp_of hw.1 (by decide) rfl
theorem o_5 (hw : WF h) : okp h 5 11 = true := okp_of hw.1 (by decide) rfl
theorem o_6 (hw : WF h) : okp h 6 11 = true := okp_of hw.1 (by decide) rfl
theorem o_7 (hw : WF h) : okp h 7 11 = true := okp_of hw.1 (by decide) rfl
theorem o_8 (hw : WF h) : okp h 8 11 = true := okp_of hw.1 (by decide) rfl
theorem o_9 (hw : WF h) : okp h 9 12 = true := okp_of hw.1 (by decide) rfl
theorem o_10 (hw : WF h) : okp h 10 12 = true := okp_of hw.1 (by decide) rfl
theorem o_11 (hw : WF h) : okp h 11 4 = true := okp_of hw.1 (by decide) rfl
theorem o_12 (hw : WF h) : okp h 12 5 = true := okp_of hw.1 (by decide) rfl
theorem o_13 (hw : WF h) : okp h 13 11 = true := okp_of hw.1 (by decide) rfl
theorem o_14 (hw : WF h) : okp h 14 0 = true := okp_of hw.1 (by decide) rfl
theorem o_15 (hw : WF h) : okp h 15 0 = true := okp_of hw.1 (by decide) rfl
theorem o_16 (hw : WF h) : okp h 16 1 = true := okp_of hw.1 (by decide) rfl
theorem o_17 (hw : WF h) : okp h 17 11 = true := okp_of hw.1 (by decide) rfl
theorem o_18 (hw : WF h) : okp h 18 11 = true := okp_of hw.1 (by decide) rfl
theorem o_19 (hw : WF h) : okp h 19 11 = true := okp_of hw.1 (by decide) rfl
theorem o_20 (hw : WF h) : okp h 20 1 = true := okp_of hw.1 (by decide) rfl
theorem o_21 (hw : WF h) : okp h 21 11 = true := okp_of hw.1 (by decide) rfl
theorem o_22 (hw : WF h) : okp h 22 11 = true := okp_of hw.1 (by decide) rfl
theorem o_23 (hw : WF h) : okp h 23 11 = true := okp_of hw.1 (by decide) rfl
theorem o_24 (hw : WF h) : okp h 24 7 = true := okp_of hw.1 (by decide) rfl
theorem o_25 (hw : WF h) : okp h 25 13 = true := okp_of hw.1 (by decide) rfl
theorem o_26 (hw : WF h) : okp h 26 13 = true := okp_of hw.1 (by decide) rfl
theorem o_27 (hw : WF h) : okp h 27 11 = true := okp_of hw.1 (by decide) rfl
theorem o_28 (hw : WF h) : okp h 28 12 = true := okp_of hw.1 (by decide) rfl
theorem o_29 (hw : WF h) : okp h 29 12 = true := okp_of hw.1 (by decide) rfl
theorem o_30 (hw : WF h) : okp h 30 11 = true := okp_of hw.1 (by decide) rfl
theorem o_31 (hw : WF h) : okp h 31 11 = true := okp_of hw.1 (by decide) rfl
theorem o_32 (hw : WF h) : okp h 32 2 = true := okp_of hw.1 (by decide) rfl
theorem o_33 (hw : WF h) : okp h 33 11 = true := okp_of hw.1 (by decide) rfl
theorem o_34 (hw : WF h) : okp h 34 11 = true := okp_of hw.1 (by decide) rfl
theorem o_35 (hw : WF h) : okp h 35 11 = true := okp_of hw.1 (by decide) rfl
theorem o_36 (hw : WF h) : okp h 36 11 = true := okp_of hw.1 (by decide) rfl
theorem o_37 (hw : WF h) : okp h 37 11 = true := okp_of hw.1 (by decide) rfl
theorem o_38 (hw : WF h) : okp h 38 11 = true := okp_of hw.1 (by decide) rfl
theorem o_39 (hw : WF h) : okp h 39 13 = true := okp_of hw.1 (by decide) rfl
theorem o_40 (hw : WF h) : okp h 40 8 = true := okp_of hw.1 (by decide) rfl
theorem o_41 (hw : WF h) : okp h 41 13 = true := okp_of hw.1 (by decide) rfl
theorem o_42 (hw : WF h) : okp h 42 11 = true := okp_of hw.1 (by decide) rfl
theorem o_43 (hw : WF h) : okp h 43 11 = true := okp_of hw.1 (by decide) rfl
theorem o_44 (hw : WF h) : okp h 44 3 = true := okp_of hw.1 (by decide) rfl
theorem o_45 (hw : WF h) : okp h 45 13 = true := okp_of hw.1 (by decide) rfl
theorem o_46 (hw : WF h) : okp h 46 11 = true := okp_of hw.1 (by decide) rfl
theorem o_47 (hw : WF h) : okp h 47 11 = true := okp_of hw.1 (by decide) rfl
theorem o_48 (hw : WF h) : okp h 48 5 = true := okp_of hw.1 (by decide) rfl
theorem o_49 (hw : WF h) : okp h 49 11 = true := okp_of hw.1 (by decide) rfl
theorem o_50 (hw : WF h) : okp h 50 5 = true := okp_of hw.1 (by decide) rfl
theorem o_51 (hw : WF h) : okp h 51 11 = true := okp_of hw.1 (by decide) rfl
theorem o_52 (hw : WF h) : okp h 52 5 = true := okp_of hw.1 (by decide) rfl
theorem o_53 (hw : WF h) : okp h 53 11 = true := okp_of hw.1 (by decide) rfl
theorem o_54 (hw : WF h) : okp h 54 5 = true := okp_of hw.1 (by decide) rfl
theorem o_55 (hw : WF h) : okp h 55 11 = true := okp_of hw.1 (by decide) rfl
theorem o_56 (hw : WF h) : okp h 56 5 = true := okp_of hw.1 (by decide) rfl
theorem o_57 (hw : WF h) : okp h 57 11 = true := okp_of hw.1 (by decide) rfl
theorem o_58 (hw : WF h) : okp h 58 5 = true := okp_of hw.1 (by decide) rfl
theorem o_59 (hw : WF h) : okp h 59 11 = true := okp_of hw.1 (by decide) rfl
theorem o_60 (hw : WF h) : okp h 60 5 = true := okp_of hw.1 (by decide) rfl
theorem o_61 (hw : WF h) : okp h 61 11 = true := okp_of hw.1 (by decide) rfl
theorem o_62 (hw : WF h) : okp h 62 5 = true := okp_of hw.1 (by decide) rfl
theorem o_63 (hw : WF h) : okp h 63 11 = true := okp_of hw.1 (by decide) rfl
theorem o_64 (hw : WF h) : okp h 64 5 = true := okp_of hw.1 (by decide) rfl
theorem o_65 (hw : WF h) : okp h 65 11 = true := okp_of hw.1 (by decide) rfl
theorem o_66 (hw : WF h) : okp h 66 5 = true := okp_of hw.1 (by decide) rfl
theorem o_67 (hw : WF h) : okp h 67 11 = true := okp_of hw.1 (by decide) rfl
theorem o_68 (hw : WF h) : okp h 68 6 = true := okp_of hw.1 (by decide) rfl
theorem o_69 (hw : WF h) : okp h 69 11 = true := okp_of hw.1 (by decide) rfl
theorem o_70 (hw : WF h) : okp h 70 11 = true := okp_of hw.1 (by decide) rfl
theorem o_71 (hw : WF h) : okp h 71 11 = true := okp_of hw.1 (by decide) rfl
theorem o_72 (hw : WF h) : okp h 72 11 = true := okp_of hw.1 (by decide) rfl
theorem o_73 (hw : WF h) : okp h 73 12 = true := okp_of hw.1 (by decide) rfl
theorem o_74 (hw : WF h) : okp h 74 12 = true := okp_of hw.1 (by decide) rfl
theorem o_75 (hw : WF h) : okp h 75 6 = true := okp_of hw.1 (by decide) rfl
theorem o_76 (hw : WF h) : okp h 76 11 = true := okp_of hw.1 (by decide) rfl
theorem o_77 (hw : WF h) : okp h 77 11 = true := okp_of hw.1 (by decide) rfl
theorem o_78 (hw : WF h) : okp h 78 11 = true := okp_of hw.1 (by decide) rfl
theorem o_79 (hw : WF h) : okp h 79 11 = true := okp_of hw.1 (by decide) rfl
theorem o_80 (hw : WF h) : okp h 80 12 = true := okp_of hw.1 (by decide) rfl
theorem o_81 (hw : WF h) : okp h 81 12 = true := okp_of hw.1 (by decide) rfl
theorem o_82 (hw : WF h) : okp h 82 6 = true := okp_of hw.1 (by decide) rfl
theorem o_83 (hw : WF h) : okp h 83 11 = true := okp_of hw.1 (by decide) rfl
theorem o_84 (hw : WF h) : okp h 84 11 = true := okp_of hw.1 (by decide) rfl
theorem o_85 (hw : WF h) : okp h 85 11 = true := okp_of hw.1 (by decide) rfl
theorem o_86 (hw : WF h) : okp h 86 11 = true := okp_of hw.1 (by decide) rfl
theorem o_87 (hw : WF h) : okp h 87 12 = true := okp_of hw.1 (by decide) rfl
theorem o_88 (hw : WF h) : okp h 88 12 = true := okp_of hw.1 (by decide) rfl
theorem o_89 (hw : WF h) : okp h 89 6 = true := okp_of hw.1 (by decide) rfl
theorem o_90 (hw : WF h) : okp h 90 11 = true := okp_of hw.1 (by decide) rfl
theorem o_91 (hw : WF h) : okp h 91 11 = true := okp_of hw.1 (by decide) rfl
theorem o_92 (hw : WF h) : okp h 92 11 = true := okp_of hw.1 (by decide) rfl
theorem o_93 (hw : WF h) : okp h 93 11 = true := okp_of hw.1 (by decide) rfl
theorem o_94 (hw : WF h) : okp h 94 12 = true := okp_of hw.1 (by decide) rfl
theorem o_95 (hw : WF h) : okp h 95 12 = true := okp_of hw.1 (by decide) rfl
theorem o_96 (hw : WF h) : okp h 96 6 = true := okp_of hw.1 (by decide) rfl
theorem o_97 (hw : WF h) : okp h 97 11 = true := okp_of hw.1 (by decide) rfl
theorem o_98 (hw : WF h) : okp h 98 11 = true := okp_of hw.1 (by decide) rfl
theorem o_99 (hw : WF h) : okp h 99 11 = true := okp_of hw.1 (by decide) rfl
theorem o_100 (hw : WF h) : okp h 100 11 = true := okp_of hw.1 (by decide) rfl
theorem o_101 (hw : WF h) : okp h 101 12 = true := okp_of hw.1 (by decide) rfl
theorem o_102 (hw : WF h) : okp h 102 12 = true := okp_of hw.1 (by decide) rfl
theorem o_103 (hw : WF h) : okp h 103 6 = true := okp_of hw.1 (by decide) rfl
theorem o_104 (hw : WF h) : okp h 104 11 = true := okp_of hw.1 (by decide) rfl
theorem o_105 (hw : WF h) : okp h 105 11 = true := okp_of hw.1 (by decide) rfl
theorem o_106 (hw : WF h) : okp h 106 11 = true := okp_of hw.1 (by decide) rfl
theorem o_107 (hw : WF h) : okp h 107 11 = true := okp_of hw.1 (by decide) rfl
theorem o_108 (hw : WF h) : okp h 108 12 = true := okp_of hw.1 (by decide) rfl
theorem o_109 (hw : WF h) : okp h 109 12 = true := okp_of hw.1 (by decide) rfl
theorem o_110 (hw : WF h) : okp h 110 6 = true := okp_of hw.1 (by decide) rfl
theorem o_111 (hw : WF h) : okp h 111 11 = true := okp_of hw.1 (by decide) rfl
theorem o_112 (hw : WF h) : okp h 112 11 = true := okp_of hw.1 (by decide) rfl
theorem o_113 (hw : WF h) : okp h 113 11 = true := okp_of hw.1 (by decide) rfl
theorem o_114 (hw : WF h) : okp h 114 11 = true := okp_of hw.1 (by decide) rfl
theorem o_115 (hw : WF h) : okp h 115 12 = true := okp_of hw.1 (by decide) rfl
theorem o_116 (hw : WF h) : okp h 116 12 = true := okp_of hw.1 (by decide) rfl
theorem o_117 (hw : WF h) : okp h 117 6 = true := okp_of hw.1 (by decide) rfl
theorem o_118 (hw : WF h) : okp h 118 11 = true := okp_of hw.1 (by decide) rfl
theorem o_119 (hw : WF h) : okp h 119 11 = true := okp_of hw.1 (by decide) rfl
theorem o_120 (hw : WF h) : okp h 120 11 = true := okp_of hw.1 (by decide) rfl
theorem o_121 (hw : WF h) : okp h 121 11 = true := okp_of hw.1 (by decide) rfl
theorem o_122 (hw : WF h) : okp h 122 12 = true := okp_of hw.1 (by decide) rfl
theorem o_123 (hw : WF h) : okp h 123 12 = true := okp_of hw.1 (by decide) rfl
theorem o_124 (hw : WF h) : okp h 124 10 = true := okp_of hw.1 (by decide) rfl
theorem o_125 (hw : WF h) : okp h 125 11 = true := okp_of hw.1 (by decide) rfl
theorem o_126 (hw : WF h) : okp h 126 11 = true := okp_of hw.1 (by decide) rfl
theorem o_127 (hw : WF h) : okp h 127 11 = true := okp_of hw.1 (by decide) rfl
theorem o_128 (hw : WF h) : okp h 128 11 = true := okp_of hw.1 (by decide) rfl
theorem o_129 (hw : WF h) : okp h 129 11 = true := okp_of hw.1 (by decide) rfl
theorem o_130 (hw : WF h) : okp h 130 11 = true := okp_of hw.1 (by decide) rfl
theorem o_131 (hw : WF h) : okp h 131 11 = true := okp_of hw.1 (by decide) rfl
theorem o_132 (hw : WF h) : okp h 132 11 = true := okp_of hw.1 (by decide) rfl
theorem o_133 (hw : WF h) : okp h 133 11 = true := okp_of hw.1 (by decide) rfl
theorem o_134 (hw : WF h) : okp h 134 11 = true := okp_of hw.1 (by decide) rfl
theorem o_135 (hw : WF h) : okp h 135 11 = true := okp_of hw.1 (by decide) rfl
theorem o_136 (hw : WF h) : okp h 136 11 = true := okp_of hw.1 (by decide) rfl
theorem o_137 (hw : WF h) : okp h 137 11 = true := okp_of hw.1 (by decide) rfl
theorem o_138 (hw : WF h) : okp h 138 11 = true := okp_of hw.1 (by decide) rfl
theorem o_139 (hw : WF h) : okp h 139 12 = true := okp_of hw.1 (by decide) rfl
theorem o_140 (hw : WF h) : okp h 140 12 = true := okp_of hw.1 (by decide) rfl
theorem o_141 (hw : WF h) : okp h 141 11 = true := okp_of hw.1 (by decide) rfl
theorem o_142 (hw : WF h) : okp h 142 11 = true := okp_of hw.1 (by decide) rfl
theorem o_143 (hw : WF h) : okp h 143 11 = true := okp_of hw.1 (by decide) rfl
theorem o_144 (hw : WF h) : okp h 144 12 = true := okp_of hw.1 (by decide) rfl
theorem o_145 (hw : WF h) : okp h 145 12 = true := okp_of hw.1 (by decide) rfl
theorem o_146 (hw : WF h) : okp h 146 11 = true := okp_of hw.1 (by decide) rfl
theorem o_147 (hw : WF h) : okp h 147 11 = true := okp_of hw.1 (by decide) rfl
theorem o_148 (hw : WF h) : okp h 148 13 = true := okp_of hw.1 (by decide) rfl
theorem o_149 (hw : WF h) : okp h 149 13 = true := okp_of hw.1 (by decide) rfl
theorem o_150 (hw : WF h) : okp h 150 13 = true := okp_of hw.1 (by decide) rfl
theorem o_151 (hw : WF h) : okp h 151 13 = true := okp_of hw.1 (by decide) rfl
theorem o_152 (hw : WF h) : okp h 152 11 = true := okp_of hw.1 (by decide) rfl
theorem o_153 (hw : WF h) : okp h 153 11 = true := okp_of hw.1 (by decide) rfl
theorem o_154 (hw : WF h) : okp h 154 11 = true := okp_of hw.1 (by decide) rfl
theorem o_155 (hw : WF h) : okp h 155 13 = true := okp_of hw.1 (by decide) rfl
theorem o_156 (hw : WF h) : okp h 156 11 = true := okp_of hw.1 (by decide) rfl
theorem o_157 (hw : WF h) : okp h 157 11 = true := okp_of hw.1 (by decide) rfl
theorem o_158 (hw : WF h) : okp h 158 12 = true := okp_of hw.1 (by decide) rfl
theorem o_159 (hw : WF h) : okp h 159 12 = true := okp_of hw.1 (by decide) rfl
theorem o_160 (hw : WF h) : okp h 160 11 = true := okp_of hw.1 (by decide) rfl
theorem o_161 (hw : WF h) : okp h 161 11 = true := okp_of hw.1 (by decide) rfl
theorem o_162 (hw : WF h) : okp h 162 11 = true := okp_of hw.1 (by decide) rfl
theorem o_163 (hw : WF h) : okp h 163 11 = true := okp_of hw.1 (by decide) rfl
theorem WF.row (hw : WF h) (hr : r < 6) : hR h 1 r = some (48 + 2 * r) ∧ hR h (48 + 2 * r) 0 = some (49 + 2 * r) ∧ okp h (48 + 2 * r) 5 = true ∧ okp h (49 + 2 * r) 11 = true ∧ LN (49 + 2 * r) = 40 := by
  match r, hr with
  | 0, _ => exact ⟨w_1_0 hw, w_48_0 hw, o_48 hw, o_49 hw, rfl⟩
  | 1, _ => exact ⟨w_1_1 hw, w_50_0 hw, o_50 hw, o_51 hw, rfl⟩
  | 2, _ => exact ⟨w_1_2 hw, w_52_0 hw, o_52 hw, o_53 hw, rfl⟩
  | 3, _ => exact ⟨w_1_3 hw, w_54_0 hw, o_54 hw, o_55 hw, rfl⟩
  | 4, _ => exact ⟨w_1_4 hw, w_56_0 hw, o_56 hw, o_57 hw, rfl⟩
  | 5, _ => exact ⟨w_1_5 hw, w_58_0 hw, o_58 hw, o_59 hw, rfl⟩
  | n + 6, hn => omega
theorem WF.text (hw : WF h) (hr : r < 4) : hR h 2 r = some (60 + 2 * r) ∧ hR h (60 + 2 * r) 0 = some (61 + 2 * r) ∧ okp h (60 + 2 * r) 5 = true ∧ okp h (61 + 2 * r) 11 = true ∧ LN (61 + 2 * r) = 60 := by
  match r, hr with
  | 0, _ => exact ⟨w_2_0 hw, w_60_0 hw, o_60 hw, o_61 hw, rfl⟩
  | 1, _ => exact ⟨w_2_1 hw, w_62_0 hw, o_62 hw, o_63 hw, rfl⟩
  | 2, _ => exact ⟨w_2_2 hw, w_64_0 hw, o_64 hw, o_65 hw, rfl⟩
  | 3, _ => exact ⟨w_2_3 hw, w_66_0 hw, o_66 hw, o_67 hw, rfl⟩
  | n + 4, hn => omega
theorem WF.shape (hw : WF h) (hr : r < 8) : hR h 3 r = some (68 + 7 * r) ∧ okp h (68 + 7 * r) 6 = true ∧ (hR h (68 + 7 * r) 0 = some (69 + 7 * r) ∧ hR h (68 + 7 * r) 1 = some (70 + 7 * r) ∧ hR h (68 + 7 * r) 2 = some (71 + 7 * r) ∧ hR h (68 + 7 * r) 3 = some (72 + 7 * r) ∧ hR h (68 + 7 * r) 4 = some (73 + 7 * r) ∧ hR h (68 + 7 * r) 5 = some (74 + 7 * r)) ∧ (okp h (69 + 7 * r) 11 = true ∧ okp h (70 + 7 * r) 11 = true ∧ okp h (71 + 7 * r) 11 = true ∧ okp h (72 + 7 * r) 11 = true ∧ okp h (73 + 7 * r) 12 = true ∧ okp h (74 + 7 * r) 12 = true) ∧ (LN (69 + 7 * r) = 6 ∧ LN (70 + 7 * r) = 6 ∧ LN (71 + 7 * r) = 6 ∧ LN (72 + 7 * r) = 6 ∧ LN (73 + 7 * r) = 6 ∧ LN (74 + 7 * r) = 6) := by
  match r, hr with
  | 0, _ => exact ⟨w_3_0 hw, o_68 hw, ⟨w_68_0 hw, w_68_1 hw, w_68_2 hw, w_68_3 hw, w_68_4 hw, w_68_5 hw⟩, ⟨o_69 hw, o_70 hw, o_71 hw, o_72 hw, o_73 hw, o_74 hw⟩, rfl, rfl, rfl, rfl, rfl, rfl⟩
  | 1, _ => exact ⟨w_3_1 hw, o_75 hw, ⟨w_75_0 hw, w_75_1 hw, w_75_2 hw, w_75_3 hw, w_75_4 hw, w_75_5 hw⟩, ⟨o_76 hw, o_77 hw, o_78 hw, o_79 hw, o_80 hw, o_81 hw⟩, rfl, rfl, rfl, rfl, rfl, rfl⟩
  | 2, _ => exact ⟨w_3_2 hw, o_82 hw, ⟨w_82_0 hw, w_82_1 hw, w_82_2 hw, w_82_3 hw, w_82_4 hw, w_82_5 hw⟩, ⟨o_83 hw, o_84 hw, o_85 hw, o_86 hw, o_87 hw, o_88 hw⟩, rfl, rfl, rfl, rfl, rfl, rfl⟩
  | 3, _ => exact ⟨w_3_3 hw, o_89 hw, ⟨w_89_0 hw, w_89_1 hw, w_89_2 hw, w_89_3 hw, w_89_4 hw, w_89_5 hw⟩, ⟨o_90 hw, o_91 hw, o_92 hw, o_93 hw, o_94 hw, o_95 hw⟩, rfl, rfl, rfl, rfl, rfl, rfl⟩
  | 4, _ => exact ⟨w_3_4 hw, o_96 hw, ⟨w_96_0 hw, w_96_1 hw, w_96_2 hw, w_96_3 hw, w_96_4 hw, w_96_5 hw⟩, ⟨o_97 hw, o_98 hw, o_99 hw, o_100 hw, o_101 hw, o_102 hw⟩, rfl, rfl, rfl, rfl, rfl, rfl⟩
  | 5, _ => exact ⟨w_3_5 hw, o_103 hw, ⟨w_103_0 hw, w_103_1 hw, w_103_2 hw, w_103_3 hw, w_103_4 hw, w_103_5 hw⟩, ⟨o_104 hw, o_105 hw, o_106 hw, o_107 hw, o_108 hw, o_109 hw⟩, rfl, rfl, rfl, rfl, rfl, rfl⟩
  | 6, _ => exact ⟨w_3_6 hw, o_110 hw, ⟨w_110_0 hw, w_110_1 hw, w_110_2 hw, w_110_3 hw, w_110_4 hw, w_110_5 hw⟩, ⟨o_111 hw, o_112 hw, o_113 hw, o_114 hw, o_115 hw, o_116 hw⟩, rfl, rfl, rfl, rfl, rfl, rfl⟩
  | 7, _ => exact ⟨w_3_7 hw, o_117 hw, ⟨w_117_0 hw, w_117_1 hw, w_117_2 hw, w_117_3 hw, w_117_4 hw, w_117_5 hw⟩, ⟨o_118 hw, o_119 hw, o_120 hw, o_121 hw, o_122 hw, o_123 hw⟩, rfl, rfl, rfl, rfl, rfl, rfl⟩
  | n + 8, hn => omega
end WF
