/-! ===== the law: its loop, over what class and model are shown to answer alike (AllB) ===== -/
section LW
variable {sc : Nat × (Nat → Int32)} {d y : Nat} {Q : PRes → Prop} {h : PH}
theorem ex_int : ∀ (f d y : Nat) (g : PC) (v : Option Value) (h' : PH), y < 260 → exec sc f d y g = some (v, h') → (mR y = some .int → ∃ x, v = some (.int x)) ∧ (mR y = some .long → ∃ x, v = some (.long x)) := by
  intro f
  induction f with
  | zero => intro d y g v h' hy he; cases he
  | succ f ih =>
    intro d y g v h' hy he
    obtain ⟨pc, ls, st, h⟩ := g
    unfold exec at he
    split at he
    · cases he
    next r hr =>
      rcases stp_cases hy hr with ⟨g', e1, -⟩ | ⟨v', e1, -, e3⟩ | ⟨_, _, _, e1, -⟩
      · cases e1
      · cases e1
        cases he
        rcases e3 with ⟨x, rfl, -, e5⟩ | ⟨x, rfl, -, e5⟩ | ⟨rfl, -, e5⟩
        · exact ⟨fun _ => ⟨x, rfl⟩, fun q => by rcases e5 with e5 | ⟨e5, -⟩ <;> rw [q] at e5 <;> cases e5⟩
        · exact ⟨fun q => (by rw [q] at e5; cases e5), fun _ => ⟨x, rfl⟩⟩
        · exact ⟨fun q => (by rw [q] at e5; cases e5), fun q => (by rw [q] at e5; cases e5)⟩
      · cases e1
    next g' hr => exact ih _ _ _ _ _ hy he
    next y' as pc' ls' st' h1 hr =>
      split at he
      · cases he
      · split at he
        · cases he
        · exact ih _ _ _ _ _ hy he
theorem okp_up {h1 : PH} (h : 164 ≤ hN h1) : okp h1 124 10 = true := by
  unfold okp
  rw [decide_eq_true (Nat.lt_of_lt_of_le (by decide) h), decide_eq_true (show 124 < 1000 by decide), decide_eq_true (show TG 124 = 10 from rfl)]
  rfl
theorem both_I {yc ym : Nat} {as : List Value} {K : PRes → Prop} (hb : Both sc yc ym as h) (hn : hN h = 164) (hy : yc < 260) (hr : mR yc = some .int) (hK : ∀ (x : Int32) (h1 : PH), okp h1 124 10 = true → Tr sc 19 ym (ent0 ym (.ref 124 :: as) h1) (fun r2 => r2.1 = some (.int x) ∧ CM r2.2) → K (some (.int x), h1)) : Tr sc 19 yc (ent0 yc (.ref 0 :: as) h) K := by
  obtain ⟨f, r1, e1, f2, r2, e2, ⟨v, v1, v2⟩, hc⟩ := hb
  obtain ⟨a1, h1⟩ := r1
  obtain ⟨x, hx⟩ := (ex_int _ _ _ _ _ _ hy e1).1 hr
  refine ⟨f, (a1, h1), e1, ?_⟩
  simp only at v1 hx
  subst hx
  refine hK x h1 (okp_up (Nat.le_trans (Nat.le_of_eq hn.symm) (ex_mono _ _ _ _ _ _ hy e1))) ⟨f2, r2, e2, ?_, hc⟩
  rw [v2, ← v1]
theorem both_L {yc ym : Nat} {as : List Value} {K : PRes → Prop} (hb : Both sc yc ym as h) (hn : hN h = 164) (hy : yc < 260) (hr : mR yc = some .long) (hK : ∀ (x : Int64) (h1 : PH), okp h1 124 10 = true → Tr sc 19 ym (ent0 ym (.ref 124 :: as) h1) (fun r2 => r2.1 = some (.long x) ∧ CM r2.2) → K (some (.long x), h1)) : Tr sc 19 yc (ent0 yc (.ref 0 :: as) h) K := by
  obtain ⟨f, r1, e1, f2, r2, e2, ⟨v, v1, v2⟩, hc⟩ := hb
  obtain ⟨a1, h1⟩ := r1
  obtain ⟨x, hx⟩ := (ex_int _ _ _ _ _ _ hy e1).2 hr
  refine ⟨f, (a1, h1), e1, ?_⟩
  simp only at v1 hx
  subst hx
  refine hK x h1 (okp_up (Nat.le_trans (Nat.le_of_eq hn.symm) (ex_mono _ _ _ _ _ _ hy e1))) ⟨f2, r2, e2, ?_, hc⟩
  rw [v2, ← v1]
theorem iOk_sc {i : Int32} : iOk sc h 1004 i = (inb i sc.1 = true) := rfl
theorem iRd_sc {i : Int32} : iRd sc h 1004 i = sc.2 i.toNatClampNeg := rfl
theorem lcmp_eq (x : Int64) : lg_cmp x x = 0 := by unfold lg_cmp; rw [if_neg (show ¬ x > x from Int64.lt_irrefl), if_pos rfl]

/-- class and model answer alike, whatever the call -/
def AllB (sc : Nat × (Nat → Int32)) : Prop := ∀ h, CM h → True ∧ (∀ a0 a1 : Int32, Both sc 97 165 [.int a0, .int a1] h) ∧ (∀ a0 a1 a2 : Int32, Both sc 98 166 [.int a0, .int a1, .int a2] h) ∧ (∀ a0 : Int32, Both sc 99 167 [.int a0] h) ∧ (∀ a0 a1 a2 a3 a4 : Int32, Both sc 100 168 [.int a0, .int a1, .int a2, .int a3, .int a4] h) ∧ (∀ a0 : Int32, Both sc 101 169 [.int a0] h) ∧ (∀ a0 a1 : Int32, Both sc 102 170 [.int a0, .int a1] h) ∧ (∀ a0 a1 a2 : Int32, Both sc 103 171 [.int a0, .int a1, .int a2] h) ∧ (∀ a0 : Int32, Both sc 104 175 [.int a0] h) ∧ (∀ a0 a1 : Int32, Both sc 105 181 [.int a0, .int a1] h) ∧ (∀ a0 a1 a2 : Int32, Both sc 106 188 [.int a0, .int a1, .int a2] h) ∧ (∀ a0 a1 a2 : Int32, Both sc 107 189 [.int a0, .int a1, .int a2] h) ∧ (∀ a0 a1 : Int32, Both sc 108 190 [.int a0, .int a1] h) ∧ (∀ a0 : Int32, Both sc 109 191 [.int a0] h) ∧ (∀ a0 a1 : Int32, Both sc 110 192 [.int a0, .int a1] h) ∧ (∀ a0 a1 a2 : Int32, Both sc 111 193 [.int a0, .int a1, .int a2] h) ∧ (∀ a0 a1 : Int32, Both sc 112 195 [.int a0, .int a1] h) ∧ (∀ a0 a1 a2 a3 : Int32, (a3 = 0 ∨ a3 = 1) → Both sc 113 199 [.int a0, .int a1, .int a2, .int a3] h) ∧ (∀ a0 a1 a2 a3 a4 : Int32, (a4 = 0 ∨ a4 = 1) → Both sc 114 200 [.int a0, .int a1, .int a2, .int a3, .int a4] h) ∧ (∀ a0 a1 : Int32, Both sc 115 201 [.int a0, .int a1] h) ∧ (∀ a0 a1 : Int32, Both sc 116 207 [.int a0, .int a1] h) ∧ (∀ a0 a1 a2 a3 : Int32, Both sc 117 208 [.int a0, .int a1, .int a2, .int a3] h) ∧ (∀ a0 a1 a2 : Int32, Both sc 118 209 [.int a0, .int a1, .int a2] h) ∧ (∀ a0 : Int32, Both sc 119 210 [.int a0] h) ∧ (∀ a0 : Int32, Both sc 120 219 [.int a0] h) ∧ (∀ a0 a1 a2 : Int32, Both sc 121 220 [.int a0, .int a1, .int a2] h) ∧ (∀ a0 a1 : Int32, Both sc 122 222 [.int a0, .int a1] h) ∧ (∀ a0 : Int32, Both sc 123 223 [.int a0] h) ∧ (∀ a0 a1 : Int32, Both sc 124 228 [.int a0, .int a1] h) ∧ (∀ a0 a1 : Int32, Both sc 125 229 [.int a0, .int a1] h) ∧ (∀ a0 a1 a2 a3 : Int32, Both sc 126 233 [.int a0, .int a1, .int a2, .int a3] h) ∧ (∀ a0 a1 : Int32, Both sc 127 235 [.int a0, .int a1] h) ∧ (∀ a0 a1 : Int32, (a1 = 0 ∨ a1 = 1) → Both sc 128 236 [.int a0, .int a1] h) ∧ (∀ a0 a1 a2 a3 : Int32, Both sc 129 237 [.int a0, .int a1, .int a2, .int a3] h) ∧ (∀ a0 a1 : Int32, Both sc 130 238 [.int a0, .int a1] h) ∧ (∀ a0 a1 a2 : Int32, Both sc 131 240 [.int a0, .int a1, .int a2] h) ∧ (∀ a0 a1 a2 : Int32, Both sc 132 241 [.int a0, .int a1, .int a2] h) ∧ Both sc 133 242 [] h ∧ Both sc 134 243 [] h ∧ Both sc 135 244 [] h ∧ Both sc 136 245 [] h ∧ (∀ a0 : Int32, Both sc 137 246 [.int a0] h) ∧ Both sc 138 247 [] h ∧ (∀ a0 : Int32, Both sc 139 248 [.int a0] h) ∧ Both sc 140 251 [] h
theorem k_259_33 : lk 259 33 = some (.tableswitch 1715 0 43 #[191, 224, 267, 290, 353, 376, 409, 452, 475, 508, 551, 594, 627, 650, 683, 726, 759, 828, 907, 940, 973, 1026, 1069, 1092, 1115, 1158, 1191, 1214, 1247, 1280, 1333, 1366, 1415, 1468, 1501, 1544, 1587, 1601, 1614, 1628, 1642, 1665, 1678, 1701], 224, 0, 0, .null) := by decide +kernel
theorem sw_0 {l0 l1 l2 l3 : Option Value} : Tr sc d 259 (33, [l0, l1, l2, l3], [.int (nI 0)], h) Q = Tr sc d 259 (224, [l0, l1, l2, l3], [], h) Q := t_go k_259_33 rfl
theorem sw_1 {l0 l1 l2 l3 : Option Value} : Tr sc d 259 (33, [l0, l1, l2, l3], [.int (nI 1)], h) Q = Tr sc d 259 (257, [l0, l1, l2, l3], [], h) Q := t_go k_259_33 rfl
theorem sw_2 {l0 l1 l2 l3 : Option Value} : Tr sc d 259 (33, [l0, l1, l2, l3], [.int (nI 2)], h) Q = Tr sc d 259 (300, [l0, l1, l2, l3], [], h) Q := t_go k_259_33 rfl
theorem sw_3 {l0 l1 l2 l3 : Option Value} : Tr sc d 259 (33, [l0, l1, l2, l3], [.int (nI 3)], h) Q = Tr sc d 259 (323, [l0, l1, l2, l3], [], h) Q := t_go k_259_33 rfl
theorem sw_4 {l0 l1 l2 l3 : Option Value} : Tr sc d 259 (33, [l0, l1, l2, l3], [.int (nI 4)], h) Q = Tr sc d 259 (386, [l0, l1, l2, l3], [], h) Q := t_go k_259_33 rfl
theorem sw_5 {l0 l1 l2 l3 : Option Value} : Tr sc d 259 (33, [l0, l1, l2, l3], [.int (nI 5)], h) Q = Tr sc d 259 (409, [l0, l1, l2, l3], [], h) Q := t_go k_259_33 rfl
theorem sw_6 {l0 l1 l2 l3 : Option Value} : Tr sc d 259 (33, [l0, l1, l2, l3], [.int (nI 6)], h) Q = Tr sc d 259 (442, [l0, l1, l2, l3], [], h) Q := t_go k_259_33 rfl
theorem sw_7 {l0 l1 l2 l3 : Option Value} : Tr sc d 259 (33, [l0, l1, l2, l3], [.int (nI 7)], h) Q = Tr sc d 259 (485, [l0, l1, l2, l3], [], h) Q := t_go k_259_33 rfl
theorem sw_8 {l0 l1 l2 l3 : Option Value} : Tr sc d 259 (33, [l0, l1, l2, l3], [.int (nI 8)], h) Q = Tr sc d 259 (508, [l0, l1, l2, l3], [], h) Q := t_go k_259_33 rfl
theorem sw_9 {l0 l1 l2 l3 : Option Value} : Tr sc d 259 (33, [l0, l1, l2, l3], [.int (nI 9)], h) Q = Tr sc d 259 (541, [l0, l1, l2, l3], [], h) Q := t_go k_259_33 rfl
theorem sw_10 {l0 l1 l2 l3 : Option Value} : Tr sc d 259 (33, [l0, l1, l2, l3], [.int (nI 10)], h) Q = Tr sc d 259 (584, [l0, l1, l2, l3], [], h) Q := t_go k_259_33 rfl
theorem sw_11 {l0 l1 l2 l3 : Option Value} : Tr sc d 259 (33, [l0, l1, l2, l3], [.int (nI 11)], h) Q = Tr sc d 259 (627, [l0, l1, l2, l3], [], h) Q := t_go k_259_33 rfl
theorem sw_12 {l0 l1 l2 l3 : Option Value} : Tr sc d 259 (33, [l0, l1, l2, l3], [.int (nI 12)], h) Q = Tr sc d 259 (660, [l0, l1, l2, l3], [], h) Q := t_go k_259_33 rfl
theorem sw_13 {l0 l1 l2 l3 : Option Value} : Tr sc d 259 (33, [l0, l1, l2, l3], [.int (nI 13)], h) Q = Tr sc d 259 (683, [l0, l1, l2, l3], [], h) Q := t_go k_259_33 rfl
theorem sw_14 {l0 l1 l2 l3 : Option Value} : Tr sc d 259 (33, [l0, l1, l2, l3], [.int (nI 14)], h) Q = Tr sc d 259 (716, [l0, l1, l2, l3], [], h) Q := t_go k_259_33 rfl
theorem sw_15 {l0 l1 l2 l3 : Option Value} : Tr sc d 259 (33, [l0, l1, l2, l3], [.int (nI 15)], h) Q = Tr sc d 259 (759, [l0, l1, l2, l3], [], h) Q := t_go k_259_33 rfl
theorem sw_16 {l0 l1 l2 l3 : Option Value} : Tr sc d 259 (33, [l0, l1, l2, l3], [.int (nI 16)], h) Q = Tr sc d 259 (792, [l0, l1, l2, l3], [], h) Q := t_go k_259_33 rfl
theorem sw_17 {l0 l1 l2 l3 : Option Value} : Tr sc d 259 (33, [l0, l1, l2, l3], [.int (nI 17)], h) Q = Tr sc d 259 (861, [l0, l1, l2, l3], [], h) Q := t_go k_259_33 rfl
theorem sw_18 {l0 l1 l2 l3 : Option Value} : Tr sc d 259 (33, [l0, l1, l2, l3], [.int (nI 18)], h) Q = Tr sc d 259 (940, [l0, l1, l2, l3], [], h) Q := t_go k_259_33 rfl
theorem sw_19 {l0 l1 l2 l3 : Option Value} : Tr sc d 259 (33, [l0, l1, l2, l3], [.int (nI 19)], h) Q = Tr sc d 259 (973, [l0, l1, l2, l3], [], h) Q := t_go k_259_33 rfl
theorem sw_20 {l0 l1 l2 l3 : Option Value} : Tr sc d 259 (33, [l0, l1, l2, l3], [.int (nI 20)], h) Q = Tr sc d 259 (1006, [l0, l1, l2, l3], [], h) Q := t_go k_259_33 rfl
theorem sw_21 {l0 l1 l2 l3 : Option Value} : Tr sc d 259 (33, [l0, l1, l2, l3], [.int (nI 21)], h) Q = Tr sc d 259 (1059, [l0, l1, l2, l3], [], h) Q := t_go k_259_33 rfl
theorem sw_22 {l0 l1 l2 l3 : Option Value} : Tr sc d 259 (33, [l0, l1, l2, l3], [.int (nI 22)], h) Q = Tr sc d 259 (1102, [l0, l1, l2, l3], [], h) Q := t_go k_259_33 rfl
theorem sw_23 {l0 l1 l2 l3 : Option Value} : Tr sc d 259 (33, [l0, l1, l2, l3], [.int (nI 23)], h) Q = Tr sc d 259 (1125, [l0, l1, l2, l3], [], h) Q := t_go k_259_33 rfl
theorem sw_24 {l0 l1 l2 l3 : Option Value} : Tr sc d 259 (33, [l0, l1, l2, l3], [.int (nI 24)], h) Q = Tr sc d 259 (1148, [l0, l1, l2, l3], [], h) Q := t_go k_259_33 rfl
theorem sw_25 {l0 l1 l2 l3 : Option Value} : Tr sc d 259 (33, [l0, l1, l2, l3], [.int (nI 25)], h) Q = Tr sc d 259 (1191, [l0, l1, l2, l3], [], h) Q := t_go k_259_33 rfl
theorem sw_26 {l0 l1 l2 l3 : Option Value} : Tr sc d 259 (33, [l0, l1, l2, l3], [.int (nI 26)], h) Q = Tr sc d 259 (1224, [l0, l1, l2, l3], [], h) Q := t_go k_259_33 rfl
theorem sw_27 {l0 l1 l2 l3 : Option Value} : Tr sc d 259 (33, [l0, l1, l2, l3], [.int (nI 27)], h) Q = Tr sc d 259 (1247, [l0, l1, l2, l3], [], h) Q := t_go k_259_33 rfl
theorem sw_28 {l0 l1 l2 l3 : Option Value} : Tr sc d 259 (33, [l0, l1, l2, l3], [.int (nI 28)], h) Q = Tr sc d 259 (1280, [l0, l1, l2, l3], [], h) Q := t_go k_259_33 rfl
theorem sw_29 {l0 l1 l2 l3 : Option Value} : Tr sc d 259 (33, [l0, l1, l2, l3], [.int (nI 29)], h) Q = Tr sc d 259 (1313, [l0, l1, l2, l3], [], h) Q := t_go k_259_33 rfl
theorem sw_30 {l0 l1 l2 l3 : Option Value} : Tr sc d 259 (33, [l0, l1, l2, l3], [.int (nI 30)], h) Q = Tr sc d 259 (1366, [l0, l1, l2, l3], [], h) Q := t_go k_259_33 rfl
theorem sw_31 {l0 l1 l2 l3 : Option Value} : Tr sc d 259 (33, [l0, l1, l2, l3], [.int (nI 31)], h) Q = Tr sc d 259 (1399, [l0, l1, l2, l3], [], h) Q := t_go k_259_33 rfl
theorem sw_32 {l0 l1 l2 l3 : Option Value} : Tr sc d 259 (33, [l0, l1, l2, l3], [.int (nI 32)], h) Q = Tr sc d 259 (1448, [l0, l1, l2, l3], [], h) Q := t_go k_259_33 rfl
theorem sw_33 {l0 l1 l2 l3 : Option Value} : Tr sc d 259 (33, [l0, l1, l2, l3], [.int (nI 33)], h) Q = Tr sc d 259 (1501, [l0, l1, l2, l3], [], h) Q := t_go k_259_33 rfl
theorem sw_34 {l0 l1 l2 l3 : Option Value} : Tr sc d 259 (33, [l0, l1, l2, l3], [.int (nI 34)], h) Q = Tr sc d 259 (1534, [l0, l1, l2, l3], [], h) Q := t_go k_259_33 rfl
theorem sw_35 {l0 l1 l2 l3 : Option Value} : Tr sc d 259 (33, [l0, l1, l2, l3], [.int (nI 35)], h) Q = Tr sc d 259 (1577, [l0, l1, l2, l3], [], h) Q := t_go k_259_33 rfl
theorem sw_36 {l0 l1 l2 l3 : Option Value} : Tr sc d 259 (33, [l0, l1, l2, l3], [.int (nI 36)], h) Q = Tr sc d 259 (1620, [l0, l1, l2, l3], [], h) Q := t_go k_259_33 rfl
theorem sw_37 {l0 l1 l2 l3 : Option Value} : Tr sc d 259 (33, [l0, l1, l2, l3], [.int (nI 37)], h) Q = Tr sc d 259 (1634, [l0, l1, l2, l3], [], h) Q := t_go k_259_33 rfl
theorem sw_38 {l0 l1 l2 l3 : Option Value} : Tr sc d 259 (33, [l0, l1, l2, l3], [.int (nI 38)], h) Q = Tr sc d 259 (1647, [l0, l1, l2, l3], [], h) Q := t_go k_259_33 rfl
theorem sw_39 {l0 l1 l2 l3 : Option Value} : Tr sc d 259 (33, [l0, l1, l2, l3], [.int (nI 39)], h) Q = Tr sc d 259 (1661, [l0, l1, l2, l3], [], h) Q := t_go k_259_33 rfl
theorem sw_40 {l0 l1 l2 l3 : Option Value} : Tr sc d 259 (33, [l0, l1, l2, l3], [.int (nI 40)], h) Q = Tr sc d 259 (1675, [l0, l1, l2, l3], [], h) Q := t_go k_259_33 rfl
theorem sw_41 {l0 l1 l2 l3 : Option Value} : Tr sc d 259 (33, [l0, l1, l2, l3], [.int (nI 41)], h) Q = Tr sc d 259 (1698, [l0, l1, l2, l3], [], h) Q := t_go k_259_33 rfl
theorem sw_42 {l0 l1 l2 l3 : Option Value} : Tr sc d 259 (33, [l0, l1, l2, l3], [.int (nI 42)], h) Q = Tr sc d 259 (1711, [l0, l1, l2, l3], [], h) Q := t_go k_259_33 rfl
theorem sw_43 {l0 l1 l2 l3 : Option Value} : Tr sc d 259 (33, [l0, l1, l2, l3], [.int (nI 43)], h) Q = Tr sc d 259 (1734, [l0, l1, l2, l3], [], h) Q := t_go k_259_33 rfl
theorem sw_44 {l0 l1 l2 l3 : Option Value} : Tr sc d 259 (33, [l0, l1, l2, l3], [.int (nI 44)], h) Q = Tr sc d 259 (1748, [l0, l1, l2, l3], [], h) Q := t_go k_259_33 rfl
theorem sw_45 {l0 l1 l2 l3 : Option Value} : Tr sc d 259 (33, [l0, l1, l2, l3], [.int (nI 45)], h) Q = Tr sc d 259 (1748, [l0, l1, l2, l3], [], h) Q := t_go k_259_33 rfl
theorem sw_46 {l0 l1 l2 l3 : Option Value} : Tr sc d 259 (33, [l0, l1, l2, l3], [.int (nI 46)], h) Q = Tr sc d 259 (1748, [l0, l1, l2, l3], [], h) Q := t_go k_259_33 rfl
theorem sw_47 {l0 l1 l2 l3 : Option Value} : Tr sc d 259 (33, [l0, l1, l2, l3], [.int (nI 47)], h) Q = Tr sc d 259 (1748, [l0, l1, l2, l3], [], h) Q := t_go k_259_33 rfl
theorem sw_48 {l0 l1 l2 l3 : Option Value} : Tr sc d 259 (33, [l0, l1, l2, l3], [.int (nI 48)], h) Q = Tr sc d 259 (1748, [l0, l1, l2, l3], [], h) Q := t_go k_259_33 rfl
theorem sw_49 {l0 l1 l2 l3 : Option Value} : Tr sc d 259 (33, [l0, l1, l2, l3], [.int (nI 49)], h) Q = Tr sc d 259 (1748, [l0, l1, l2, l3], [], h) Q := t_go k_259_33 rfl
theorem sw_50 {l0 l1 l2 l3 : Option Value} : Tr sc d 259 (33, [l0, l1, l2, l3], [.int (nI 50)], h) Q = Tr sc d 259 (1748, [l0, l1, l2, l3], [], h) Q := t_go k_259_33 rfl
theorem sw_51 {l0 l1 l2 l3 : Option Value} : Tr sc d 259 (33, [l0, l1, l2, l3], [.int (nI 51)], h) Q = Tr sc d 259 (1748, [l0, l1, l2, l3], [], h) Q := t_go k_259_33 rfl
theorem sw_52 {l0 l1 l2 l3 : Option Value} : Tr sc d 259 (33, [l0, l1, l2, l3], [.int (nI 52)], h) Q = Tr sc d 259 (1748, [l0, l1, l2, l3], [], h) Q := t_go k_259_33 rfl
theorem sw_53 {l0 l1 l2 l3 : Option Value} : Tr sc d 259 (33, [l0, l1, l2, l3], [.int (nI 53)], h) Q = Tr sc d 259 (1748, [l0, l1, l2, l3], [], h) Q := t_go k_259_33 rfl
theorem sw_54 {l0 l1 l2 l3 : Option Value} : Tr sc d 259 (33, [l0, l1, l2, l3], [.int (nI 54)], h) Q = Tr sc d 259 (1748, [l0, l1, l2, l3], [], h) Q := t_go k_259_33 rfl
theorem sw_55 {l0 l1 l2 l3 : Option Value} : Tr sc d 259 (33, [l0, l1, l2, l3], [.int (nI 55)], h) Q = Tr sc d 259 (1748, [l0, l1, l2, l3], [], h) Q := t_go k_259_33 rfl
theorem sw_56 {l0 l1 l2 l3 : Option Value} : Tr sc d 259 (33, [l0, l1, l2, l3], [.int (nI 56)], h) Q = Tr sc d 259 (1748, [l0, l1, l2, l3], [], h) Q := t_go k_259_33 rfl
theorem sw_57 {l0 l1 l2 l3 : Option Value} : Tr sc d 259 (33, [l0, l1, l2, l3], [.int (nI 57)], h) Q = Tr sc d 259 (1748, [l0, l1, l2, l3], [], h) Q := t_go k_259_33 rfl
theorem sw_58 {l0 l1 l2 l3 : Option Value} : Tr sc d 259 (33, [l0, l1, l2, l3], [.int (nI 58)], h) Q = Tr sc d 259 (1748, [l0, l1, l2, l3], [], h) Q := t_go k_259_33 rfl
theorem sw_59 {l0 l1 l2 l3 : Option Value} : Tr sc d 259 (33, [l0, l1, l2, l3], [.int (nI 59)], h) Q = Tr sc d 259 (1748, [l0, l1, l2, l3], [], h) Q := t_go k_259_33 rfl
theorem sw_60 {l0 l1 l2 l3 : Option Value} : Tr sc d 259 (33, [l0, l1, l2, l3], [.int (nI 60)], h) Q = Tr sc d 259 (1748, [l0, l1, l2, l3], [], h) Q := t_go k_259_33 rfl
theorem sw_61 {l0 l1 l2 l3 : Option Value} : Tr sc d 259 (33, [l0, l1, l2, l3], [.int (nI 61)], h) Q = Tr sc d 259 (1748, [l0, l1, l2, l3], [], h) Q := t_go k_259_33 rfl
theorem sw_62 {l0 l1 l2 l3 : Option Value} : Tr sc d 259 (33, [l0, l1, l2, l3], [.int (nI 62)], h) Q = Tr sc d 259 (1748, [l0, l1, l2, l3], [], h) Q := t_go k_259_33 rfl
theorem sw_63 {l0 l1 l2 l3 : Option Value} : Tr sc d 259 (33, [l0, l1, l2, l3], [.int (nI 63)], h) Q = Tr sc d 259 (1748, [l0, l1, l2, l3], [], h) Q := t_go k_259_33 rfl
/-- the loop's foot -/
theorem lw_foot {i : Nat} (K : ∀ h, CM h → Tr sc 20 259 (18, [some (.ref 1004), some (.ref 0), some (.ref 124), some (.int (nI (i + 6)))], [], h) Q) (hc : CM h) : Tr sc 20 259 (1748, [some (.ref 1004), some (.ref 0), some (.ref 124), some (.int (nI i))], [], h) Q := by
  simp only [x_259_1748, x_259_1751, cl2_r]
  rw [show nI i + 6 = nI (i + 6) from nI_add i 6]
  exact K h hc
set_option maxHeartbeats 1000000 in
theorem blk_0 {i : Nat} (hB : AllB sc) (hL : sc.1 ≤ 3072) (hi : i + 6 ≤ sc.1) (hc : CM h) (K : ∀ h, CM h → Tr sc 20 259 (18, [some (.ref 1004), some (.ref 0), some (.ref 124), some (.int (nI (i + 6)))], [], h) Q) : Tr sc 20 259 (224, [some (.ref 1004), some (.ref 0), some (.ref 124), some (.int (nI i))], [], h) Q := by
  have hw := hc.1
  have hB := hB h hc
  simp only [x_259_224, x_259_225, x_259_226, x_259_227, x_259_228, x_259_229, x_259_230, x_259_231, x_259_232, x_259_233, x_259_234, x_259_235, iOk_sc, iRd_sc, true_and, cl2_r, show (nI i + 1 : Int32) = nI (i + 1) from nI_add i 1, inb_nI (n := sc.1) (i := i + 1) (by omega) (by omega), nI_clamp (n := i + 1) (by omega), show (nI i + 2 : Int32) = nI (i + 2) from nI_add i 2, inb_nI (n := sc.1) (i := i + 2) (by omega) (by omega), nI_clamp (n := i + 2) (by omega), o_0 hw]
  refine both_I (hB.2.1 (sc.2 (i + 1)) (sc.2 (i + 2))) hw.1 (by decide) r_97 (fun x h1 ho ht => ?_)
  simp only [tl_s, x_259_238, x_259_239, x_259_240, x_259_241, x_259_242, x_259_243, x_259_244, x_259_245, x_259_246, x_259_247, x_259_248, x_259_249, iOk_sc, iRd_sc, true_and, cl2_r, show (nI i + 1 : Int32) = nI (i + 1) from nI_add i 1, inb_nI (n := sc.1) (i := i + 1) (by omega) (by omega), nI_clamp (n := i + 1) (by omega), show (nI i + 2 : Int32) = nI (i + 2) from nI_add i 2, inb_nI (n := sc.1) (i := i + 2) (by omega) (by omega), nI_clamp (n := i + 2) (by omega), ho]
  refine Tr_mono ht (fun r2 hr => ?_)
  obtain ⟨a2, h2⟩ := r2
  obtain ⟨e1, c2⟩ := hr
  simp only at e1 c2
  subst e1
  simp only [tl_s, x_259_252, x_259_255, x_259_256, if_true]
  exact lw_foot K c2
set_option maxHeartbeats 1000000 in
theorem blk_1 {i : Nat} (hB : AllB sc) (hL : sc.1 ≤ 3072) (hi : i + 6 ≤ sc.1) (hc : CM h) (K : ∀ h, CM h → Tr sc 20 259 (18, [some (.ref 1004), some (.ref 0), some (.ref 124), some (.int (nI (i + 6)))], [], h) Q) : Tr sc 20 259 (257, [some (.ref 1004), some (.ref 0), some (.ref 124), some (.int (nI i))], [], h) Q := by
  have hw := hc.1
  have hB := hB h hc
  simp only [x_259_257, x_259_258, x_259_259, x_259_260, x_259_261, x_259_262, x_259_263, x_259_264, x_259_265, x_259_266, x_259_267, x_259_268, x_259_269, x_259_270, x_259_271, x_259_272, x_259_273, iOk_sc, iRd_sc, true_and, cl2_r, show (nI i + 1 : Int32) = nI (i + 1) from nI_add i 1, inb_nI (n := sc.1) (i := i + 1) (by omega) (by omega), nI_clamp (n := i + 1) (by omega), show (nI i + 2 : Int32) = nI (i + 2) from nI_add i 2, inb_nI (n := sc.1) (i := i + 2) (by omega) (by omega), nI_clamp (n := i + 2) (by omega), show (nI i + 3 : Int32) = nI (i + 3) from nI_add i 3, inb_nI (n := sc.1) (i := i + 3) (by omega) (by omega), nI_clamp (n := i + 3) (by omega), o_0 hw]
  refine both_I (hB.2.2.1 (sc.2 (i + 1)) (sc.2 (i + 2)) (sc.2 (i + 3))) hw.1 (by decide) r_98 (fun x h1 ho ht => ?_)
  simp only [tl_s, x_259_276, x_259_277, x_259_278, x_259_279, x_259_280, x_259_281, x_259_282, x_259_283, x_259_284, x_259_285, x_259_286, x_259_287, x_259_288, x_259_289, x_259_290, x_259_291, x_259_292, iOk_sc, iRd_sc, true_and, cl2_r, show (nI i + 1 : Int32) = nI (i + 1) from nI_add i 1, inb_nI (n := sc.1) (i := i + 1) (by omega) (by omega), nI_clamp (n := i + 1) (by omega), show (nI i + 2 : Int32) = nI (i + 2) from nI_add i 2, inb_nI (n := sc.1) (i := i + 2) (by omega) (by omega), nI_clamp (n := i + 2) (by omega), show (nI i + 3 : Int32) = nI (i + 3) from nI_add i 3, inb_nI (n := sc.1) (i := i + 3) (by omega) (by omega), nI_clamp (n := i + 3) (by omega), ho]
  refine Tr_mono ht (fun r2 hr => ?_)
  obtain ⟨a2, h2⟩ := r2
  obtain ⟨e1, c2⟩ := hr
  simp only at e1 c2
  subst e1
  simp only [tl_s, x_259_295, x_259_298, x_259_299, if_true]
  exact lw_foot K c2
set_option maxHeartbeats 1000000 in
theorem blk_2 {i : Nat} (hB : AllB sc) (hL : sc.1 ≤ 3072) (hi : i + 6 ≤ sc.1) (hc : CM h) (K : ∀ h, CM h → Tr sc 20 259 (18, [some (.ref 1004), some (.ref 0), some (.ref 124), some (.int (nI (i + 6)))], [], h) Q) : Tr sc 20 259 (300, [some (.ref 1004), some (.ref 0), some (.ref 124), some (.int (nI i))], [], h) Q := by
  have hw := hc.1
  have hB := hB h hc
  simp only [x_259_300, x_259_301, x_259_302, x_259_303, x_259_304, x_259_305, x_259_306, iOk_sc, iRd_sc, true_and, cl2_r, show (nI i + 1 : Int32) = nI (i + 1) from nI_add i 1, inb_nI (n := sc.1) (i := i + 1) (by omega) (by omega), nI_clamp (n := i + 1) (by omega), o_0 hw]
  refine both_I (hB.2.2.2.1 (sc.2 (i + 1))) hw.1 (by decide) r_99 (fun x h1 ho ht => ?_)
  simp only [tl_s, x_259_309, x_259_310, x_259_311, x_259_312, x_259_313, x_259_314, x_259_315, iOk_sc, iRd_sc, true_and, cl2_r, show (nI i + 1 : Int32) = nI (i + 1) from nI_add i 1, inb_nI (n := sc.1) (i := i + 1) (by omega) (by omega), nI_clamp (n := i + 1) (by omega), ho]
  refine Tr_mono ht (fun r2 hr => ?_)
  obtain ⟨a2, h2⟩ := r2
  obtain ⟨e1, c2⟩ := hr
  simp only at e1 c2
  subst e1
  simp only [tl_s, x_259_318, x_259_321, x_259_322, if_true]
  exact lw_foot K c2
set_option maxHeartbeats 1000000 in
theorem blk_3 {i : Nat} (hB : AllB sc) (hL : sc.1 ≤ 3072) (hi : i + 6 ≤ sc.1) (hc : CM h) (K : ∀ h, CM h → Tr sc 20 259 (18, [some (.ref 1004), some (.ref 0), some (.ref 124), some (.int (nI (i + 6)))], [], h) Q) : Tr sc 20 259 (323, [some (.ref 1004), some (.ref 0), some (.ref 124), some (.int (nI i))], [], h) Q := by
  have hw := hc.1
  have hB := hB h hc
  simp only [x_259_323, x_259_324, x_259_325, x_259_326, x_259_327, x_259_328, x_259_329, x_259_330, x_259_331, x_259_332, x_259_333, x_259_334, x_259_335, x_259_336, x_259_337, x_259_338, x_259_339, x_259_340, x_259_341, x_259_342, x_259_343, x_259_344, x_259_345, x_259_346, x_259_347, x_259_348, x_259_349, iOk_sc, iRd_sc, true_and, cl2_r, show (nI i + 1 : Int32) = nI (i + 1) from nI_add i 1, inb_nI (n := sc.1) (i := i + 1) (by omega) (by omega), nI_clamp (n := i + 1) (by omega), show (nI i + 2 : Int32) = nI (i + 2) from nI_add i 2, inb_nI (n := sc.1) (i := i + 2) (by omega) (by omega), nI_clamp (n := i + 2) (by omega), show (nI i + 3 : Int32) = nI (i + 3) from nI_add i 3, inb_nI (n := sc.1) (i := i + 3) (by omega) (by omega), nI_clamp (n := i + 3) (by omega), show (nI i + 4 : Int32) = nI (i + 4) from nI_add i 4, inb_nI (n := sc.1) (i := i + 4) (by omega) (by omega), nI_clamp (n := i + 4) (by omega), show (nI i + 5 : Int32) = nI (i + 5) from nI_add i 5, inb_nI (n := sc.1) (i := i + 5) (by omega) (by omega), nI_clamp (n := i + 5) (by omega), o_0 hw]
  refine both_I (hB.2.2.2.2.1 (sc.2 (i + 1)) (sc.2 (i + 2)) (sc.2 (i + 3)) (sc.2 (i + 4)) (sc.2 (i + 5))) hw.1 (by decide) r_100 (fun x h1 ho ht => ?_)
  simp only [tl_s, x_259_352, x_259_353, x_259_354, x_259_355, x_259_356, x_259_357, x_259_358, x_259_359, x_259_360, x_259_361, x_259_362, x_259_363, x_259_364, x_259_365, x_259_366, x_259_367, x_259_368, x_259_369, x_259_370, x_259_371, x_259_372, x_259_373, x_259_374, x_259_375, x_259_376, x_259_377, x_259_378, iOk_sc, iRd_sc, true_and, cl2_r, show (nI i + 1 : Int32) = nI (i + 1) from nI_add i 1, inb_nI (n := sc.1) (i := i + 1) (by omega) (by omega), nI_clamp (n := i + 1) (by omega), show (nI i + 2 : Int32) = nI (i + 2) from nI_add i 2, inb_nI (n := sc.1) (i := i + 2) (by omega) (by omega), nI_clamp (n := i + 2) (by omega), show (nI i + 3 : Int32) = nI (i + 3) from nI_add i 3, inb_nI (n := sc.1) (i := i + 3) (by omega) (by omega), nI_clamp (n := i + 3) (by omega), show (nI i + 4 : Int32) = nI (i + 4) from nI_add i 4, inb_nI (n := sc.1) (i := i + 4) (by omega) (by omega), nI_clamp (n := i + 4) (by omega), show (nI i + 5 : Int32) = nI (i + 5) from nI_add i 5, inb_nI (n := sc.1) (i := i + 5) (by omega) (by omega), nI_clamp (n := i + 5) (by omega), ho]
  refine Tr_mono ht (fun r2 hr => ?_)
  obtain ⟨a2, h2⟩ := r2
  obtain ⟨e1, c2⟩ := hr
  simp only at e1 c2
  subst e1
  simp only [tl_s, x_259_381, x_259_384, x_259_385, if_true]
  exact lw_foot K c2
set_option maxHeartbeats 1000000 in
theorem blk_4 {i : Nat} (hB : AllB sc) (hL : sc.1 ≤ 3072) (hi : i + 6 ≤ sc.1) (hc : CM h) (K : ∀ h, CM h → Tr sc 20 259 (18, [some (.ref 1004), some (.ref 0), some (.ref 124), some (.int (nI (i + 6)))], [], h) Q) : Tr sc 20 259 (386, [some (.ref 1004), some (.ref 0), some (.ref 124), some (.int (nI i))], [], h) Q := by
  have hw := hc.1
  have hB := hB h hc
  simp only [x_259_386, x_259_387, x_259_388, x_259_389, x_259_390, x_259_391, x_259_392, iOk_sc, iRd_sc, true_and, cl2_r, show (nI i + 1 : Int32) = nI (i + 1) from nI_add i 1, inb_nI (n := sc.1) (i := i + 1) (by omega) (by omega), nI_clamp (n := i + 1) (by omega), o_0 hw]
  refine both_I (hB.2.2.2.2.2.1 (sc.2 (i + 1))) hw.1 (by decide) r_101 (fun x h1 ho ht => ?_)
  simp only [tl_s, x_259_395, x_259_396, x_259_397, x_259_398, x_259_399, x_259_400, x_259_401, iOk_sc, iRd_sc, true_and, cl2_r, show (nI i + 1 : Int32) = nI (i + 1) from nI_add i 1, inb_nI (n := sc.1) (i := i + 1) (by omega) (by omega), nI_clamp (n := i + 1) (by omega), ho]
  refine Tr_mono ht (fun r2 hr => ?_)
  obtain ⟨a2, h2⟩ := r2
  obtain ⟨e1, c2⟩ := hr
  simp only at e1 c2
  subst e1
  simp only [tl_s, x_259_404, x_259_407, x_259_408, if_true]
  exact lw_foot K c2
set_option maxHeartbeats 1000000 in
theorem blk_5 {i : Nat} (hB : AllB sc) (hL : sc.1 ≤ 3072) (hi : i + 6 ≤ sc.1) (hc : CM h) (K : ∀ h, CM h → Tr sc 20 259 (18, [some (.ref 1004), some (.ref 0), some (.ref 124), some (.int (nI (i + 6)))], [], h) Q) : Tr sc 20 259 (409, [some (.ref 1004), some (.ref 0), some (.ref 124), some (.int (nI i))], [], h) Q := by
  have hw := hc.1
  have hB := hB h hc
  simp only [x_259_409, x_259_410, x_259_411, x_259_412, x_259_413, x_259_414, x_259_415, x_259_416, x_259_417, x_259_418, x_259_419, x_259_420, iOk_sc, iRd_sc, true_and, cl2_r, show (nI i + 1 : Int32) = nI (i + 1) from nI_add i 1, inb_nI (n := sc.1) (i := i + 1) (by omega) (by omega), nI_clamp (n := i + 1) (by omega), show (nI i + 2 : Int32) = nI (i + 2) from nI_add i 2, inb_nI (n := sc.1) (i := i + 2) (by omega) (by omega), nI_clamp (n := i + 2) (by omega), o_0 hw]
  refine both_I (hB.2.2.2.2.2.2.1 (sc.2 (i + 1)) (sc.2 (i + 2))) hw.1 (by decide) r_102 (fun x h1 ho ht => ?_)
  simp only [tl_s, x_259_423, x_259_424, x_259_425, x_259_426, x_259_427, x_259_428, x_259_429, x_259_430, x_259_431, x_259_432, x_259_433, x_259_434, iOk_sc, iRd_sc, true_and, cl2_r, show (nI i + 1 : Int32) = nI (i + 1) from nI_add i 1, inb_nI (n := sc.1) (i := i + 1) (by omega) (by omega), nI_clamp (n := i + 1) (by omega), show (nI i + 2 : Int32) = nI (i + 2) from nI_add i 2, inb_nI (n := sc.1) (i := i + 2) (by omega) (by omega), nI_clamp (n := i + 2) (by omega), ho]
  refine Tr_mono ht (fun r2 hr => ?_)
  obtain ⟨a2, h2⟩ := r2
  obtain ⟨e1, c2⟩ := hr
  simp only at e1 c2
  subst e1
  simp only [tl_s, x_259_437, x_259_440, x_259_441, if_true]
  exact lw_foot K c2
set_option maxHeartbeats 1000000 in
theorem blk_6 {i : Nat} (hB : AllB sc) (hL : sc.1 ≤ 3072) (hi : i + 6 ≤ sc.1) (hc : CM h) (K : ∀ h, CM h → Tr sc 20 259 (18, [some (.ref 1004), some (.ref 0), some (.ref 124), some (.int (nI (i + 6)))], [], h) Q) : Tr sc 20 259 (442, [some (.ref 1004), some (.ref 0), some (.ref 124), some (.int (nI i))], [], h) Q := by
  have hw := hc.1
  have hB := hB h hc
  simp only [x_259_442, x_259_443, x_259_444, x_259_445, x_259_446, x_259_447, x_259_448, x_259_449, x_259_450, x_259_451, x_259_452, x_259_453, x_259_454, x_259_455, x_259_456, x_259_457, x_259_458, iOk_sc, iRd_sc, true_and, cl2_r, show (nI i + 1 : Int32) = nI (i + 1) from nI_add i 1, inb_nI (n := sc.1) (i := i + 1) (by omega) (by omega), nI_clamp (n := i + 1) (by omega), show (nI i + 2 : Int32) = nI (i + 2) from nI_add i 2, inb_nI (n := sc.1) (i := i + 2) (by omega) (by omega), nI_clamp (n := i + 2) (by omega), show (nI i + 3 : Int32) = nI (i + 3) from nI_add i 3, inb_nI (n := sc.1) (i := i + 3) (by omega) (by omega), nI_clamp (n := i + 3) (by omega), o_0 hw]
  refine both_I (hB.2.2.2.2.2.2.2.1 (sc.2 (i + 1)) (sc.2 (i + 2)) (sc.2 (i + 3))) hw.1 (by decide) r_103 (fun x h1 ho ht => ?_)
  simp only [tl_s, x_259_461, x_259_462, x_259_463, x_259_464, x_259_465, x_259_466, x_259_467, x_259_468, x_259_469, x_259_470, x_259_471, x_259_472, x_259_473, x_259_474, x_259_475, x_259_476, x_259_477, iOk_sc, iRd_sc, true_and, cl2_r, show (nI i + 1 : Int32) = nI (i + 1) from nI_add i 1, inb_nI (n := sc.1) (i := i + 1) (by omega) (by omega), nI_clamp (n := i + 1) (by omega), show (nI i + 2 : Int32) = nI (i + 2) from nI_add i 2, inb_nI (n := sc.1) (i := i + 2) (by omega) (by omega), nI_clamp (n := i + 2) (by omega), show (nI i + 3 : Int32) = nI (i + 3) from nI_add i 3, inb_nI (n := sc.1) (i := i + 3) (by omega) (by omega), nI_clamp (n := i + 3) (by omega), ho]
  refine Tr_mono ht (fun r2 hr => ?_)
  obtain ⟨a2, h2⟩ := r2
  obtain ⟨e1, c2⟩ := hr
  simp only at e1 c2
  subst e1
  simp only [tl_s, x_259_480, x_259_483, x_259_484, if_true]
  exact lw_foot K c2
set_option maxHeartbeats 1000000 in
theorem blk_7 {i : Nat} (hB : AllB sc) (hL : sc.1 ≤ 3072) (hi : i + 6 ≤ sc.1) (hc : CM h) (K : ∀ h, CM h → Tr sc 20 259 (18, [some (.ref 1004), some (.ref 0), some (.ref 124), some (.int (nI (i + 6)))], [], h) Q) : Tr sc 20 259 (485, [some (.ref 1004), some (.ref 0), some (.ref 124), some (.int (nI i))], [], h) Q := by
  have hw := hc.1
  have hB := hB h hc
  simp only [x_259_485, x_259_486, x_259_487, x_259_488, x_259_489, x_259_490, x_259_491, iOk_sc, iRd_sc, true_and, cl2_r, show (nI i + 1 : Int32) = nI (i + 1) from nI_add i 1, inb_nI (n := sc.1) (i := i + 1) (by omega) (by omega), nI_clamp (n := i + 1) (by omega), o_0 hw]
  refine both_I (hB.2.2.2.2.2.2.2.2.1 (sc.2 (i + 1))) hw.1 (by decide) r_104 (fun x h1 ho ht => ?_)
  simp only [tl_s, x_259_494, x_259_495, x_259_496, x_259_497, x_259_498, x_259_499, x_259_500, iOk_sc, iRd_sc, true_and, cl2_r, show (nI i + 1 : Int32) = nI (i + 1) from nI_add i 1, inb_nI (n := sc.1) (i := i + 1) (by omega) (by omega), nI_clamp (n := i + 1) (by omega), ho]
  refine Tr_mono ht (fun r2 hr => ?_)
  obtain ⟨a2, h2⟩ := r2
  obtain ⟨e1, c2⟩ := hr
  simp only at e1 c2
  subst e1
  simp only [tl_s, x_259_503, x_259_506, x_259_507, if_true]
  exact lw_foot K c2
set_option maxHeartbeats 1000000 in
theorem blk_8 {i : Nat} (hB : AllB sc) (hL : sc.1 ≤ 3072) (hi : i + 6 ≤ sc.1) (hc : CM h) (K : ∀ h, CM h → Tr sc 20 259 (18, [some (.ref 1004), some (.ref 0), some (.ref 124), some (.int (nI (i + 6)))], [], h) Q) : Tr sc 20 259 (508, [some (.ref 1004), some (.ref 0), some (.ref 124), some (.int (nI i))], [], h) Q := by
  have hw := hc.1
  have hB := hB h hc
  simp only [x_259_508, x_259_509, x_259_510, x_259_511, x_259_512, x_259_513, x_259_514, x_259_515, x_259_516, x_259_517, x_259_518, x_259_519, iOk_sc, iRd_sc, true_and, cl2_r, show (nI i + 1 : Int32) = nI (i + 1) from nI_add i 1, inb_nI (n := sc.1) (i := i + 1) (by omega) (by omega), nI_clamp (n := i + 1) (by omega), show (nI i + 2 : Int32) = nI (i + 2) from nI_add i 2, inb_nI (n := sc.1) (i := i + 2) (by omega) (by omega), nI_clamp (n := i + 2) (by omega), o_0 hw]
  refine both_I (hB.2.2.2.2.2.2.2.2.2.1 (sc.2 (i + 1)) (sc.2 (i + 2))) hw.1 (by decide) r_105 (fun x h1 ho ht => ?_)
  simp only [tl_s, x_259_522, x_259_523, x_259_524, x_259_525, x_259_526, x_259_527, x_259_528, x_259_529, x_259_530, x_259_531, x_259_532, x_259_533, iOk_sc, iRd_sc, true_and, cl2_r, show (nI i + 1 : Int32) = nI (i + 1) from nI_add i 1, inb_nI (n := sc.1) (i := i + 1) (by omega) (by omega), nI_clamp (n := i + 1) (by omega), show (nI i + 2 : Int32) = nI (i + 2) from nI_add i 2, inb_nI (n := sc.1) (i := i + 2) (by omega) (by omega), nI_clamp (n := i + 2) (by omega), ho]
  refine Tr_mono ht (fun r2 hr => ?_)
  obtain ⟨a2, h2⟩ := r2
  obtain ⟨e1, c2⟩ := hr
  simp only at e1 c2
  subst e1
  simp only [tl_s, x_259_536, x_259_539, x_259_540, if_true]
  exact lw_foot K c2
set_option maxHeartbeats 1000000 in
theorem blk_9 {i : Nat} (hB : AllB sc) (hL : sc.1 ≤ 3072) (hi : i + 6 ≤ sc.1) (hc : CM h) (K : ∀ h, CM h → Tr sc 20 259 (18, [some (.ref 1004), some (.ref 0), some (.ref 124), some (.int (nI (i + 6)))], [], h) Q) : Tr sc 20 259 (541, [some (.ref 1004), some (.ref 0), some (.ref 124), some (.int (nI i))], [], h) Q := by
  have hw := hc.1
  have hB := hB h hc
  simp only [x_259_541, x_259_542, x_259_543, x_259_544, x_259_545, x_259_546, x_259_547, x_259_548, x_259_549, x_259_550, x_259_551, x_259_552, x_259_553, x_259_554, x_259_555, x_259_556, x_259_557, iOk_sc, iRd_sc, true_and, cl2_r, show (nI i + 1 : Int32) = nI (i + 1) from nI_add i 1, inb_nI (n := sc.1) (i := i + 1) (by omega) (by omega), nI_clamp (n := i + 1) (by omega), show (nI i + 2 : Int32) = nI (i + 2) from nI_add i 2, inb_nI (n := sc.1) (i := i + 2) (by omega) (by omega), nI_clamp (n := i + 2) (by omega), show (nI i + 3 : Int32) = nI (i + 3) from nI_add i 3, inb_nI (n := sc.1) (i := i + 3) (by omega) (by omega), nI_clamp (n := i + 3) (by omega), o_0 hw]
  refine both_I (hB.2.2.2.2.2.2.2.2.2.2.1 (sc.2 (i + 1)) (sc.2 (i + 2)) (sc.2 (i + 3))) hw.1 (by decide) r_106 (fun x h1 ho ht => ?_)
  simp only [tl_s, x_259_560, x_259_561, x_259_562, x_259_563, x_259_564, x_259_565, x_259_566, x_259_567, x_259_568, x_259_569, x_259_570, x_259_571, x_259_572, x_259_573, x_259_574, x_259_575, x_259_576, iOk_sc, iRd_sc, true_and, cl2_r, show (nI i + 1 : Int32) = nI (i + 1) from nI_add i 1, inb_nI (n := sc.1) (i := i + 1) (by omega) (by omega), nI_clamp (n := i + 1) (by omega), show (nI i + 2 : Int32) = nI (i + 2) from nI_add i 2, inb_nI (n := sc.1) (i := i + 2) (by omega) (by omega), nI_clamp (n := i + 2) (by omega), show (nI i + 3 : Int32) = nI (i + 3) from nI_add i 3, inb_nI (n := sc.1) (i := i + 3) (by omega) (by omega), nI_clamp (n := i + 3) (by omega), ho]
  refine Tr_mono ht (fun r2 hr => ?_)
  obtain ⟨a2, h2⟩ := r2
  obtain ⟨e1, c2⟩ := hr
  simp only at e1 c2
  subst e1
  simp only [tl_s, x_259_579, x_259_582, x_259_583, if_true]
  exact lw_foot K c2
set_option maxHeartbeats 1000000 in
theorem blk_10 {i : Nat} (hB : AllB sc) (hL : sc.1 ≤ 3072) (hi : i + 6 ≤ sc.1) (hc : CM h) (K : ∀ h, CM h → Tr sc 20 259 (18, [some (.ref 1004), some (.ref 0), some (.ref 124), some (.int (nI (i + 6)))], [], h) Q) : Tr sc 20 259 (584, [some (.ref 1004), some (.ref 0), some (.ref 124), some (.int (nI i))], [], h) Q := by
  have hw := hc.1
  have hB := hB h hc
  simp only [x_259_584, x_259_585, x_259_586, x_259_587, x_259_588, x_259_589, x_259_590, x_259_591, x_259_592, x_259_593, x_259_594, x_259_595, x_259_596, x_259_597, x_259_598, x_259_599, x_259_600, iOk_sc, iRd_sc, true_and, cl2_r, show (nI i + 1 : Int32) = nI (i + 1) from nI_add i 1, inb_nI (n := sc.1) (i := i + 1) (by omega) (by omega), nI_clamp (n := i + 1) (by omega), show (nI i + 2 : Int32) = nI (i + 2) from nI_add i 2, inb_nI (n := sc.1) (i := i + 2) (by omega) (by omega), nI_clamp (n := i + 2) (by omega), show (nI i + 3 : Int32) = nI (i + 3) from nI_add i 3, inb_nI (n := sc.1) (i := i + 3) (by omega) (by omega), nI_clamp (n := i + 3) (by omega), o_0 hw]
  refine both_I (hB.2.2.2.2.2.2.2.2.2.2.2.1 (sc.2 (i + 1)) (sc.2 (i + 2)) (sc.2 (i + 3))) hw.1 (by decide) r_107 (fun x h1 ho ht => ?_)
  simp only [tl_s, x_259_603, x_259_604, x_259_605, x_259_606, x_259_607, x_259_608, x_259_609, x_259_610, x_259_611, x_259_612, x_259_613, x_259_614, x_259_615, x_259_616, x_259_617, x_259_618, x_259_619, iOk_sc, iRd_sc, true_and, cl2_r, show (nI i + 1 : Int32) = nI (i + 1) from nI_add i 1, inb_nI (n := sc.1) (i := i + 1) (by omega) (by omega), nI_clamp (n := i + 1) (by omega), show (nI i + 2 : Int32) = nI (i + 2) from nI_add i 2, inb_nI (n := sc.1) (i := i + 2) (by omega) (by omega), nI_clamp (n := i + 2) (by omega), show (nI i + 3 : Int32) = nI (i + 3) from nI_add i 3, inb_nI (n := sc.1) (i := i + 3) (by omega) (by omega), nI_clamp (n := i + 3) (by omega), ho]
  refine Tr_mono ht (fun r2 hr => ?_)
  obtain ⟨a2, h2⟩ := r2
  obtain ⟨e1, c2⟩ := hr
  simp only at e1 c2
  subst e1
  simp only [tl_s, x_259_622, x_259_625, x_259_626, if_true]
  exact lw_foot K c2
set_option maxHeartbeats 1000000 in
theorem blk_11 {i : Nat} (hB : AllB sc) (hL : sc.1 ≤ 3072) (hi : i + 6 ≤ sc.1) (hc : CM h) (K : ∀ h, CM h → Tr sc 20 259 (18, [some (.ref 1004), some (.ref 0), some (.ref 124), some (.int (nI (i + 6)))], [], h) Q) : Tr sc 20 259 (627, [some (.ref 1004), some (.ref 0), some (.ref 124), some (.int (nI i))], [], h) Q := by
  have hw := hc.1
  have hB := hB h hc
  simp only [x_259_627, x_259_628, x_259_629, x_259_630, x_259_631, x_259_632, x_259_633, x_259_634, x_259_635, x_259_636, x_259_637, x_259_638, iOk_sc, iRd_sc, true_and, cl2_r, show (nI i + 1 : Int32) = nI (i + 1) from nI_add i 1, inb_nI (n := sc.1) (i := i + 1) (by omega) (by omega), nI_clamp (n := i + 1) (by omega), show (nI i + 2 : Int32) = nI (i + 2) from nI_add i 2, inb_nI (n := sc.1) (i := i + 2) (by omega) (by omega), nI_clamp (n := i + 2) (by omega), o_0 hw]
  refine both_I (hB.2.2.2.2.2.2.2.2.2.2.2.2.1 (sc.2 (i + 1)) (sc.2 (i + 2))) hw.1 (by decide) r_108 (fun x h1 ho ht => ?_)
  simp only [tl_s, x_259_641, x_259_642, x_259_643, x_259_644, x_259_645, x_259_646, x_259_647, x_259_648, x_259_649, x_259_650, x_259_651, x_259_652, iOk_sc, iRd_sc, true_and, cl2_r, show (nI i + 1 : Int32) = nI (i + 1) from nI_add i 1, inb_nI (n := sc.1) (i := i + 1) (by omega) (by omega), nI_clamp (n := i + 1) (by omega), show (nI i + 2 : Int32) = nI (i + 2) from nI_add i 2, inb_nI (n := sc.1) (i := i + 2) (by omega) (by omega), nI_clamp (n := i + 2) (by omega), ho]
  refine Tr_mono ht (fun r2 hr => ?_)
  obtain ⟨a2, h2⟩ := r2
  obtain ⟨e1, c2⟩ := hr
  simp only at e1 c2
  subst e1
  simp only [tl_s, x_259_655, x_259_658, x_259_659, if_true]
  exact lw_foot K c2
set_option maxHeartbeats 1000000 in
theorem blk_12 {i : Nat} (hB : AllB sc) (hL : sc.1 ≤ 3072) (hi : i + 6 ≤ sc.1) (hc : CM h) (K : ∀ h, CM h → Tr sc 20 259 (18, [some (.ref 1004), some (.ref 0), some (.ref 124), some (.int (nI (i + 6)))], [], h) Q) : Tr sc 20 259 (660, [some (.ref 1004), some (.ref 0), some (.ref 124), some (.int (nI i))], [], h) Q := by
  have hw := hc.1
  have hB := hB h hc
  simp only [x_259_660, x_259_661, x_259_662, x_259_663, x_259_664, x_259_665, x_259_666, iOk_sc, iRd_sc, true_and, cl2_r, show (nI i + 1 : Int32) = nI (i + 1) from nI_add i 1, inb_nI (n := sc.1) (i := i + 1) (by omega) (by omega), nI_clamp (n := i + 1) (by omega), o_0 hw]
  refine both_I (hB.2.2.2.2.2.2.2.2.2.2.2.2.2.1 (sc.2 (i + 1))) hw.1 (by decide) r_109 (fun x h1 ho ht => ?_)
  simp only [tl_s, x_259_669, x_259_670, x_259_671, x_259_672, x_259_673, x_259_674, x_259_675, iOk_sc, iRd_sc, true_and, cl2_r, show (nI i + 1 : Int32) = nI (i + 1) from nI_add i 1, inb_nI (n := sc.1) (i := i + 1) (by omega) (by omega), nI_clamp (n := i + 1) (by omega), ho]
  refine Tr_mono ht (fun r2 hr => ?_)
  obtain ⟨a2, h2⟩ := r2
  obtain ⟨e1, c2⟩ := hr
  simp only at e1 c2
  subst e1
  simp only [tl_s, x_259_678, x_259_681, x_259_682, if_true]
  exact lw_foot K c2
set_option maxHeartbeats 1000000 in
theorem blk_13 {i : Nat} (hB : AllB sc) (hL : sc.1 ≤ 3072) (hi : i + 6 ≤ sc.1) (hc : CM h) (K : ∀ h, CM h → Tr sc 20 259 (18, [some (.ref 1004), some (.ref 0), some (.ref 124), some (.int (nI (i + 6)))], [], h) Q) : Tr sc 20 259 (683, [some (.ref 1004), some (.ref 0), some (.ref 124), some (.int (nI i))], [], h) Q := by
  have hw := hc.1
  have hB := hB h hc
  simp only [x_259_683, x_259_684, x_259_685, x_259_686, x_259_687, x_259_688, x_259_689, x_259_690, x_259_691, x_259_692, x_259_693, x_259_694, iOk_sc, iRd_sc, true_and, cl2_r, show (nI i + 1 : Int32) = nI (i + 1) from nI_add i 1, inb_nI (n := sc.1) (i := i + 1) (by omega) (by omega), nI_clamp (n := i + 1) (by omega), show (nI i + 2 : Int32) = nI (i + 2) from nI_add i 2, inb_nI (n := sc.1) (i := i + 2) (by omega) (by omega), nI_clamp (n := i + 2) (by omega), o_0 hw]
  refine both_I (hB.2.2.2.2.2.2.2.2.2.2.2.2.2.2.1 (sc.2 (i + 1)) (sc.2 (i + 2))) hw.1 (by decide) r_110 (fun x h1 ho ht => ?_)
  simp only [tl_s, x_259_697, x_259_698, x_259_699, x_259_700, x_259_701, x_259_702, x_259_703, x_259_704, x_259_705, x_259_706, x_259_707, x_259_708, iOk_sc, iRd_sc, true_and, cl2_r, show (nI i + 1 : Int32) = nI (i + 1) from nI_add i 1, inb_nI (n := sc.1) (i := i + 1) (by omega) (by omega), nI_clamp (n := i + 1) (by omega), show (nI i + 2 : Int32) = nI (i + 2) from nI_add i 2, inb_nI (n := sc.1) (i := i + 2) (by omega) (by omega), nI_clamp (n := i + 2) (by omega), ho]
  refine Tr_mono ht (fun r2 hr => ?_)
  obtain ⟨a2, h2⟩ := r2
  obtain ⟨e1, c2⟩ := hr
  simp only at e1 c2
  subst e1
  simp only [tl_s, x_259_711, x_259_714, x_259_715, if_true]
  exact lw_foot K c2
set_option maxHeartbeats 1000000 in
theorem blk_14 {i : Nat} (hB : AllB sc) (hL : sc.1 ≤ 3072) (hi : i + 6 ≤ sc.1) (hc : CM h) (K : ∀ h, CM h → Tr sc 20 259 (18, [some (.ref 1004), some (.ref 0), some (.ref 124), some (.int (nI (i + 6)))], [], h) Q) : Tr sc 20 259 (716, [some (.ref 1004), some (.ref 0), some (.ref 124), some (.int (nI i))], [], h) Q := by
  have hw := hc.1
  have hB := hB h hc
  simp only [x_259_716, x_259_717, x_259_718, x_259_719, x_259_720, x_259_721, x_259_722, x_259_723, x_259_724, x_259_725, x_259_726, x_259_727, x_259_728, x_259_729, x_259_730, x_259_731, x_259_732, iOk_sc, iRd_sc, true_and, cl2_r, show (nI i + 1 : Int32) = nI (i + 1) from nI_add i 1, inb_nI (n := sc.1) (i := i + 1) (by omega) (by omega), nI_clamp (n := i + 1) (by omega), show (nI i + 2 : Int32) = nI (i + 2) from nI_add i 2, inb_nI (n := sc.1) (i := i + 2) (by omega) (by omega), nI_clamp (n := i + 2) (by omega), show (nI i + 3 : Int32) = nI (i + 3) from nI_add i 3, inb_nI (n := sc.1) (i := i + 3) (by omega) (by omega), nI_clamp (n := i + 3) (by omega), o_0 hw]
  refine both_I (hB.2.2.2.2.2.2.2.2.2.2.2.2.2.2.2.1 (sc.2 (i + 1)) (sc.2 (i + 2)) (sc.2 (i + 3))) hw.1 (by decide) r_111 (fun x h1 ho ht => ?_)
  simp only [tl_s, x_259_735, x_259_736, x_259_737, x_259_738, x_259_739, x_259_740, x_259_741, x_259_742, x_259_743, x_259_744, x_259_745, x_259_746, x_259_747, x_259_748, x_259_749, x_259_750, x_259_751, iOk_sc, iRd_sc, true_and, cl2_r, show (nI i + 1 : Int32) = nI (i + 1) from nI_add i 1, inb_nI (n := sc.1) (i := i + 1) (by omega) (by omega), nI_clamp (n := i + 1) (by omega), show (nI i + 2 : Int32) = nI (i + 2) from nI_add i 2, inb_nI (n := sc.1) (i := i + 2) (by omega) (by omega), nI_clamp (n := i + 2) (by omega), show (nI i + 3 : Int32) = nI (i + 3) from nI_add i 3, inb_nI (n := sc.1) (i := i + 3) (by omega) (by omega), nI_clamp (n := i + 3) (by omega), ho]
  refine Tr_mono ht (fun r2 hr => ?_)
  obtain ⟨a2, h2⟩ := r2
  obtain ⟨e1, c2⟩ := hr
  simp only at e1 c2
  subst e1
  simp only [tl_s, x_259_754, x_259_757, x_259_758, if_true]
  exact lw_foot K c2
set_option maxHeartbeats 1000000 in
theorem blk_15 {i : Nat} (hB : AllB sc) (hL : sc.1 ≤ 3072) (hi : i + 6 ≤ sc.1) (hc : CM h) (K : ∀ h, CM h → Tr sc 20 259 (18, [some (.ref 1004), some (.ref 0), some (.ref 124), some (.int (nI (i + 6)))], [], h) Q) : Tr sc 20 259 (759, [some (.ref 1004), some (.ref 0), some (.ref 124), some (.int (nI i))], [], h) Q := by
  have hw := hc.1
  have hB := hB h hc
  simp only [x_259_759, x_259_760, x_259_761, x_259_762, x_259_763, x_259_764, x_259_765, x_259_766, x_259_767, x_259_768, x_259_769, x_259_770, iOk_sc, iRd_sc, true_and, cl2_r, show (nI i + 1 : Int32) = nI (i + 1) from nI_add i 1, inb_nI (n := sc.1) (i := i + 1) (by omega) (by omega), nI_clamp (n := i + 1) (by omega), show (nI i + 2 : Int32) = nI (i + 2) from nI_add i 2, inb_nI (n := sc.1) (i := i + 2) (by omega) (by omega), nI_clamp (n := i + 2) (by omega), o_0 hw]
  refine both_I (hB.2.2.2.2.2.2.2.2.2.2.2.2.2.2.2.2.1 (sc.2 (i + 1)) (sc.2 (i + 2))) hw.1 (by decide) r_112 (fun x h1 ho ht => ?_)
  simp only [tl_s, x_259_773, x_259_774, x_259_775, x_259_776, x_259_777, x_259_778, x_259_779, x_259_780, x_259_781, x_259_782, x_259_783, x_259_784, iOk_sc, iRd_sc, true_and, cl2_r, show (nI i + 1 : Int32) = nI (i + 1) from nI_add i 1, inb_nI (n := sc.1) (i := i + 1) (by omega) (by omega), nI_clamp (n := i + 1) (by omega), show (nI i + 2 : Int32) = nI (i + 2) from nI_add i 2, inb_nI (n := sc.1) (i := i + 2) (by omega) (by omega), nI_clamp (n := i + 2) (by omega), ho]
  refine Tr_mono ht (fun r2 hr => ?_)
  obtain ⟨a2, h2⟩ := r2
  obtain ⟨e1, c2⟩ := hr
  simp only at e1 c2
  subst e1
  simp only [tl_s, x_259_787, x_259_790, x_259_791, if_true]
  exact lw_foot K c2
set_option maxHeartbeats 1000000 in
theorem blk_16 {i : Nat} (hB : AllB sc) (hL : sc.1 ≤ 3072) (hi : i + 6 ≤ sc.1) (hc : CM h) (K : ∀ h, CM h → Tr sc 20 259 (18, [some (.ref 1004), some (.ref 0), some (.ref 124), some (.int (nI (i + 6)))], [], h) Q) : Tr sc 20 259 (792, [some (.ref 1004), some (.ref 0), some (.ref 124), some (.int (nI i))], [], h) Q := by
  have hw := hc.1
  have hB := hB h hc
  by_cases eb : sc.2 (i + 4) = 0
  · simp only [x_259_792, x_259_793, x_259_794, x_259_795, x_259_796, x_259_797, x_259_798, x_259_799, x_259_800, x_259_801, x_259_802, x_259_803, x_259_804, x_259_805, x_259_806, x_259_807, x_259_808, x_259_809, x_259_810, x_259_811, x_259_812, x_259_813, x_259_816, x_259_817, x_259_820, x_259_821, iOk_sc, iRd_sc, true_and, cl2_r, show (nI i + 1 : Int32) = nI (i + 1) from nI_add i 1, inb_nI (n := sc.1) (i := i + 1) (by omega) (by omega), nI_clamp (n := i + 1) (by omega), show (nI i + 2 : Int32) = nI (i + 2) from nI_add i 2, inb_nI (n := sc.1) (i := i + 2) (by omega) (by omega), nI_clamp (n := i + 2) (by omega), show (nI i + 3 : Int32) = nI (i + 3) from nI_add i 3, inb_nI (n := sc.1) (i := i + 3) (by omega) (by omega), nI_clamp (n := i + 3) (by omega), show (nI i + 4 : Int32) = nI (i + 4) from nI_add i 4, inb_nI (n := sc.1) (i := i + 4) (by omega) (by omega), nI_clamp (n := i + 4) (by omega), o_0 hw, if_pos eb]
    refine both_I (hB.2.2.2.2.2.2.2.2.2.2.2.2.2.2.2.2.2.1 (sc.2 (i + 1)) (sc.2 (i + 2)) (sc.2 (i + 3)) 0 (Or.inl rfl)) hw.1 (by decide) r_113 (fun x h1 ho ht => ?_)
    simp only [tl_s, x_259_824, x_259_825, x_259_826, x_259_827, x_259_828, x_259_829, x_259_830, x_259_831, x_259_832, x_259_833, x_259_834, x_259_835, x_259_836, x_259_837, x_259_838, x_259_839, x_259_840, x_259_841, x_259_842, x_259_843, x_259_844, x_259_845, x_259_848, x_259_849, x_259_852, x_259_853, iOk_sc, iRd_sc, true_and, cl2_r, show (nI i + 1 : Int32) = nI (i + 1) from nI_add i 1, inb_nI (n := sc.1) (i := i + 1) (by omega) (by omega), nI_clamp (n := i + 1) (by omega), show (nI i + 2 : Int32) = nI (i + 2) from nI_add i 2, inb_nI (n := sc.1) (i := i + 2) (by omega) (by omega), nI_clamp (n := i + 2) (by omega), show (nI i + 3 : Int32) = nI (i + 3) from nI_add i 3, inb_nI (n := sc.1) (i := i + 3) (by omega) (by omega), nI_clamp (n := i + 3) (by omega), show (nI i + 4 : Int32) = nI (i + 4) from nI_add i 4, inb_nI (n := sc.1) (i := i + 4) (by omega) (by omega), nI_clamp (n := i + 4) (by omega), ho, if_pos eb]
    refine Tr_mono ht (fun r2 hr => ?_)
    obtain ⟨a2, h2⟩ := r2
    obtain ⟨e1, c2⟩ := hr
    simp only at e1 c2
    subst e1
    simp only [tl_s, x_259_856, x_259_859, x_259_860, if_true]
    exact lw_foot K c2
  · simp only [x_259_792, x_259_793, x_259_794, x_259_795, x_259_796, x_259_797, x_259_798, x_259_799, x_259_800, x_259_801, x_259_802, x_259_803, x_259_804, x_259_805, x_259_806, x_259_807, x_259_808, x_259_809, x_259_810, x_259_811, x_259_812, x_259_813, x_259_816, x_259_817, x_259_820, x_259_821, iOk_sc, iRd_sc, true_and, cl2_r, show (nI i + 1 : Int32) = nI (i + 1) from nI_add i 1, inb_nI (n := sc.1) (i := i + 1) (by omega) (by omega), nI_clamp (n := i + 1) (by omega), show (nI i + 2 : Int32) = nI (i + 2) from nI_add i 2, inb_nI (n := sc.1) (i := i + 2) (by omega) (by omega), nI_clamp (n := i + 2) (by omega), show (nI i + 3 : Int32) = nI (i + 3) from nI_add i 3, inb_nI (n := sc.1) (i := i + 3) (by omega) (by omega), nI_clamp (n := i + 3) (by omega), show (nI i + 4 : Int32) = nI (i + 4) from nI_add i 4, inb_nI (n := sc.1) (i := i + 4) (by omega) (by omega), nI_clamp (n := i + 4) (by omega), o_0 hw, if_neg eb]
    refine both_I (hB.2.2.2.2.2.2.2.2.2.2.2.2.2.2.2.2.2.1 (sc.2 (i + 1)) (sc.2 (i + 2)) (sc.2 (i + 3)) 1 (Or.inr rfl)) hw.1 (by decide) r_113 (fun x h1 ho ht => ?_)
    simp only [tl_s, x_259_824, x_259_825, x_259_826, x_259_827, x_259_828, x_259_829, x_259_830, x_259_831, x_259_832, x_259_833, x_259_834, x_259_835, x_259_836, x_259_837, x_259_838, x_259_839, x_259_840, x_259_841, x_259_842, x_259_843, x_259_844, x_259_845, x_259_848, x_259_849, x_259_852, x_259_853, iOk_sc, iRd_sc, true_and, cl2_r, show (nI i + 1 : Int32) = nI (i + 1) from nI_add i 1, inb_nI (n := sc.1) (i := i + 1) (by omega) (by omega), nI_clamp (n := i + 1) (by omega), show (nI i + 2 : Int32) = nI (i + 2) from nI_add i 2, inb_nI (n := sc.1) (i := i + 2) (by omega) (by omega), nI_clamp (n := i + 2) (by omega), show (nI i + 3 : Int32) = nI (i + 3) from nI_add i 3, inb_nI (n := sc.1) (i := i + 3) (by omega) (by omega), nI_clamp (n := i + 3) (by omega), show (nI i + 4 : Int32) = nI (i + 4) from nI_add i 4, inb_nI (n := sc.1) (i := i + 4) (by omega) (by omega), nI_clamp (n := i + 4) (by omega), ho, if_neg eb]
    refine Tr_mono ht (fun r2 hr => ?_)
    obtain ⟨a2, h2⟩ := r2
    obtain ⟨e1, c2⟩ := hr
    simp only at e1 c2
    subst e1
    simp only [tl_s, x_259_856, x_259_859, x_259_860, if_true]
    exact lw_foot K c2
set_option maxHeartbeats 1000000 in
theorem blk_17 {i : Nat} (hB : AllB sc) (hL : sc.1 ≤ 3072) (hi : i + 6 ≤ sc.1) (hc : CM h) (K : ∀ h, CM h → Tr sc 20 259 (18, [some (.ref 1004), some (.ref 0), some (.ref 124), some (.int (nI (i + 6)))], [], h) Q) : Tr sc 20 259 (861, [some (.ref 1004), some (.ref 0), some (.ref 124), some (.int (nI i))], [], h) Q := by
  have hw := hc.1
  have hB := hB h hc
  by_cases eb : sc.2 (i + 5) = 0
  · simp only [x_259_861, x_259_862, x_259_863, x_259_864, x_259_865, x_259_866, x_259_867, x_259_868, x_259_869, x_259_870, x_259_871, x_259_872, x_259_873, x_259_874, x_259_875, x_259_876, x_259_877, x_259_878, x_259_879, x_259_880, x_259_881, x_259_882, x_259_883, x_259_884, x_259_885, x_259_886, x_259_887, x_259_890, x_259_891, x_259_894, x_259_895, iOk_sc, iRd_sc, true_and, cl2_r, show (nI i + 1 : Int32) = nI (i + 1) from nI_add i 1, inb_nI (n := sc.1) (i := i + 1) (by omega) (by omega), nI_clamp (n := i + 1) (by omega), show (nI i + 2 : Int32) = nI (i + 2) from nI_add i 2, inb_nI (n := sc.1) (i := i + 2) (by omega) (by omega), nI_clamp (n := i + 2) (by omega), show (nI i + 3 : Int32) = nI (i + 3) from nI_add i 3, inb_nI (n := sc.1) (i := i + 3) (by omega) (by omega), nI_clamp (n := i + 3) (by omega), show (nI i + 4 : Int32) = nI (i + 4) from nI_add i 4, inb_nI (n := sc.1) (i := i + 4) (by omega) (by omega), nI_clamp (n := i + 4) (by omega), show (nI i + 5 : Int32) = nI (i + 5) from nI_add i 5, inb_nI (n := sc.1) (i := i + 5) (by omega) (by omega), nI_clamp (n := i + 5) (by omega), o_0 hw, if_pos eb]
    refine both_I (hB.2.2.2.2.2.2.2.2.2.2.2.2.2.2.2.2.2.2.1 (sc.2 (i + 1)) (sc.2 (i + 2)) (sc.2 (i + 3)) (sc.2 (i + 4)) 0 (Or.inl rfl)) hw.1 (by decide) r_114 (fun x h1 ho ht => ?_)
    simp only [tl_s, x_259_898, x_259_899, x_259_900, x_259_901, x_259_902, x_259_903, x_259_904, x_259_905, x_259_906, x_259_907, x_259_908, x_259_909, x_259_910, x_259_911, x_259_912, x_259_913, x_259_914, x_259_915, x_259_916, x_259_917, x_259_918, x_259_919, x_259_920, x_259_921, x_259_922, x_259_923, x_259_924, x_259_927, x_259_928, x_259_931, x_259_932, iOk_sc, iRd_sc, true_and, cl2_r, show (nI i + 1 : Int32) = nI (i + 1) from nI_add i 1, inb_nI (n := sc.1) (i := i + 1) (by omega) (by omega), nI_clamp (n := i + 1) (by omega), show (nI i + 2 : Int32) = nI (i + 2) from nI_add i 2, inb_nI (n := sc.1) (i := i + 2) (by omega) (by omega), nI_clamp (n := i + 2) (by omega), show (nI i + 3 : Int32) = nI (i + 3) from nI_add i 3, inb_nI (n := sc.1) (i := i + 3) (by omega) (by omega), nI_clamp (n := i + 3) (by omega), show (nI i + 4 : Int32) = nI (i + 4) from nI_add i 4, inb_nI (n := sc.1) (i := i + 4) (by omega) (by omega), nI_clamp (n := i + 4) (by omega), show (nI i + 5 : Int32) = nI (i + 5) from nI_add i 5, inb_nI (n := sc.1) (i := i + 5) (by omega) (by omega), nI_clamp (n := i + 5) (by omega), ho, if_pos eb]
    refine Tr_mono ht (fun r2 hr => ?_)
    obtain ⟨a2, h2⟩ := r2
    obtain ⟨e1, c2⟩ := hr
    simp only at e1 c2
    subst e1
    simp only [tl_s, x_259_935, x_259_938, x_259_939, if_true]
    exact lw_foot K c2
  · simp only [x_259_861, x_259_862, x_259_863, x_259_864, x_259_865, x_259_866, x_259_867, x_259_868, x_259_869, x_259_870, x_259_871, x_259_872, x_259_873, x_259_874, x_259_875, x_259_876, x_259_877, x_259_878, x_259_879, x_259_880, x_259_881, x_259_882, x_259_883, x_259_884, x_259_885, x_259_886, x_259_887, x_259_890, x_259_891, x_259_894, x_259_895, iOk_sc, iRd_sc, true_and, cl2_r, show (nI i + 1 : Int32) = nI (i + 1) from nI_add i 1, inb_nI (n := sc.1) (i := i + 1) (by omega) (by omega), nI_clamp (n := i + 1) (by omega), show (nI i + 2 : Int32) = nI (i + 2) from nI_add i 2, inb_nI (n := sc.1) (i := i + 2) (by omega) (by omega), nI_clamp (n := i + 2) (by omega), show (nI i + 3 : Int32) = nI (i + 3) from nI_add i 3, inb_nI (n := sc.1) (i := i + 3) (by omega) (by omega), nI_clamp (n := i + 3) (by omega), show (nI i + 4 : Int32) = nI (i + 4) from nI_add i 4, inb_nI (n := sc.1) (i := i + 4) (by omega) (by omega), nI_clamp (n := i + 4) (by omega), show (nI i + 5 : Int32) = nI (i + 5) from nI_add i 5, inb_nI (n := sc.1) (i := i + 5) (by omega) (by omega), nI_clamp (n := i + 5) (by omega), o_0 hw, if_neg eb]
    refine both_I (hB.2.2.2.2.2.2.2.2.2.2.2.2.2.2.2.2.2.2.1 (sc.2 (i + 1)) (sc.2 (i + 2)) (sc.2 (i + 3)) (sc.2 (i + 4)) 1 (Or.inr rfl)) hw.1 (by decide) r_114 (fun x h1 ho ht => ?_)
    simp only [tl_s, x_259_898, x_259_899, x_259_900, x_259_901, x_259_902, x_259_903, x_259_904, x_259_905, x_259_906, x_259_907, x_259_908, x_259_909, x_259_910, x_259_911, x_259_912, x_259_913, x_259_914, x_259_915, x_259_916, x_259_917, x_259_918, x_259_919, x_259_920, x_259_921, x_259_922, x_259_923, x_259_924, x_259_927, x_259_928, x_259_931, x_259_932, iOk_sc, iRd_sc, true_and, cl2_r, show (nI i + 1 : Int32) = nI (i + 1) from nI_add i 1, inb_nI (n := sc.1) (i := i + 1) (by omega) (by omega), nI_clamp (n := i + 1) (by omega), show (nI i + 2 : Int32) = nI (i + 2) from nI_add i 2, inb_nI (n := sc.1) (i := i + 2) (by omega) (by omega), nI_clamp (n := i + 2) (by omega), show (nI i + 3 : Int32) = nI (i + 3) from nI_add i 3, inb_nI (n := sc.1) (i := i + 3) (by omega) (by omega), nI_clamp (n := i + 3) (by omega), show (nI i + 4 : Int32) = nI (i + 4) from nI_add i 4, inb_nI (n := sc.1) (i := i + 4) (by omega) (by omega), nI_clamp (n := i + 4) (by omega), show (nI i + 5 : Int32) = nI (i + 5) from nI_add i 5, inb_nI (n := sc.1) (i := i + 5) (by omega) (by omega), nI_clamp (n := i + 5) (by omega), ho, if_neg eb]
    refine Tr_mono ht (fun r2 hr => ?_)
    obtain ⟨a2, h2⟩ := r2
    obtain ⟨e1, c2⟩ := hr
    simp only at e1 c2
    subst e1
    simp only [tl_s, x_259_935, x_259_938, x_259_939, if_true]
    exact lw_foot K c2
set_option maxHeartbeats 1000000 in
theorem blk_18 {i : Nat} (hB : AllB sc) (hL : sc.1 ≤ 3072) (hi : i + 6 ≤ sc.1) (hc : CM h) (K : ∀ h, CM h → Tr sc 20 259 (18, [some (.ref 1004), some (.ref 0), some (.ref 124), some (.int (nI (i + 6)))], [], h) Q) : Tr sc 20 259 (940, [some (.ref 1004), some (.ref 0), some (.ref 124), some (.int (nI i))], [], h) Q := by
  have hw := hc.1
  have hB := hB h hc
  simp only [x_259_940, x_259_941, x_259_942, x_259_943, x_259_944, x_259_945, x_259_946, x_259_947, x_259_948, x_259_949, x_259_950, x_259_951, iOk_sc, iRd_sc, true_and, cl2_r, show (nI i + 1 : Int32) = nI (i + 1) from nI_add i 1, inb_nI (n := sc.1) (i := i + 1) (by omega) (by omega), nI_clamp (n := i + 1) (by omega), show (nI i + 2 : Int32) = nI (i + 2) from nI_add i 2, inb_nI (n := sc.1) (i := i + 2) (by omega) (by omega), nI_clamp (n := i + 2) (by omega), o_0 hw]
  refine both_I (hB.2.2.2.2.2.2.2.2.2.2.2.2.2.2.2.2.2.2.2.1 (sc.2 (i + 1)) (sc.2 (i + 2))) hw.1 (by decide) r_115 (fun x h1 ho ht => ?_)
  simp only [tl_s, x_259_954, x_259_955, x_259_956, x_259_957, x_259_958, x_259_959, x_259_960, x_259_961, x_259_962, x_259_963, x_259_964, x_259_965, iOk_sc, iRd_sc, true_and, cl2_r, show (nI i + 1 : Int32) = nI (i + 1) from nI_add i 1, inb_nI (n := sc.1) (i := i + 1) (by omega) (by omega), nI_clamp (n := i + 1) (by omega), show (nI i + 2 : Int32) = nI (i + 2) from nI_add i 2, inb_nI (n := sc.1) (i := i + 2) (by omega) (by omega), nI_clamp (n := i + 2) (by omega), ho]
  refine Tr_mono ht (fun r2 hr => ?_)
  obtain ⟨a2, h2⟩ := r2
  obtain ⟨e1, c2⟩ := hr
  simp only at e1 c2
  subst e1
  simp only [tl_s, x_259_968, x_259_971, x_259_972, if_true]
  exact lw_foot K c2
set_option maxHeartbeats 1000000 in
theorem blk_19 {i : Nat} (hB : AllB sc) (hL : sc.1 ≤ 3072) (hi : i + 6 ≤ sc.1) (hc : CM h) (K : ∀ h, CM h → Tr sc 20 259 (18, [some (.ref 1004), some (.ref 0), some (.ref 124), some (.int (nI (i + 6)))], [], h) Q) : Tr sc 20 259 (973, [some (.ref 1004), some (.ref 0), some (.ref 124), some (.int (nI i))], [], h) Q := by
  have hw := hc.1
  have hB := hB h hc
  simp only [x_259_973, x_259_974, x_259_975, x_259_976, x_259_977, x_259_978, x_259_979, x_259_980, x_259_981, x_259_982, x_259_983, x_259_984, iOk_sc, iRd_sc, true_and, cl2_r, show (nI i + 1 : Int32) = nI (i + 1) from nI_add i 1, inb_nI (n := sc.1) (i := i + 1) (by omega) (by omega), nI_clamp (n := i + 1) (by omega), show (nI i + 2 : Int32) = nI (i + 2) from nI_add i 2, inb_nI (n := sc.1) (i := i + 2) (by omega) (by omega), nI_clamp (n := i + 2) (by omega), o_0 hw]
  refine both_I (hB.2.2.2.2.2.2.2.2.2.2.2.2.2.2.2.2.2.2.2.2.1 (sc.2 (i + 1)) (sc.2 (i + 2))) hw.1 (by decide) r_116 (fun x h1 ho ht => ?_)
  simp only [tl_s, x_259_987, x_259_988, x_259_989, x_259_990, x_259_991, x_259_992, x_259_993, x_259_994, x_259_995, x_259_996, x_259_997, x_259_998, iOk_sc, iRd_sc, true_and, cl2_r, show (nI i + 1 : Int32) = nI (i + 1) from nI_add i 1, inb_nI (n := sc.1) (i := i + 1) (by omega) (by omega), nI_clamp (n := i + 1) (by omega), show (nI i + 2 : Int32) = nI (i + 2) from nI_add i 2, inb_nI (n := sc.1) (i := i + 2) (by omega) (by omega), nI_clamp (n := i + 2) (by omega), ho]
  refine Tr_mono ht (fun r2 hr => ?_)
  obtain ⟨a2, h2⟩ := r2
  obtain ⟨e1, c2⟩ := hr
  simp only at e1 c2
  subst e1
  simp only [tl_s, x_259_1001, x_259_1004, x_259_1005, if_true]
  exact lw_foot K c2
set_option maxHeartbeats 1000000 in
theorem blk_20 {i : Nat} (hB : AllB sc) (hL : sc.1 ≤ 3072) (hi : i + 6 ≤ sc.1) (hc : CM h) (K : ∀ h, CM h → Tr sc 20 259 (18, [some (.ref 1004), some (.ref 0), some (.ref 124), some (.int (nI (i + 6)))], [], h) Q) : Tr sc 20 259 (1006, [some (.ref 1004), some (.ref 0), some (.ref 124), some (.int (nI i))], [], h) Q := by
  have hw := hc.1
  have hB := hB h hc
  simp only [x_259_1006, x_259_1007, x_259_1008, x_259_1009, x_259_1010, x_259_1011, x_259_1012, x_259_1013, x_259_1014, x_259_1015, x_259_1016, x_259_1017, x_259_1018, x_259_1019, x_259_1020, x_259_1021, x_259_1022, x_259_1023, x_259_1024, x_259_1025, x_259_1026, x_259_1027, iOk_sc, iRd_sc, true_and, cl2_r, show (nI i + 1 : Int32) = nI (i + 1) from nI_add i 1, inb_nI (n := sc.1) (i := i + 1) (by omega) (by omega), nI_clamp (n := i + 1) (by omega), show (nI i + 2 : Int32) = nI (i + 2) from nI_add i 2, inb_nI (n := sc.1) (i := i + 2) (by omega) (by omega), nI_clamp (n := i + 2) (by omega), show (nI i + 3 : Int32) = nI (i + 3) from nI_add i 3, inb_nI (n := sc.1) (i := i + 3) (by omega) (by omega), nI_clamp (n := i + 3) (by omega), show (nI i + 4 : Int32) = nI (i + 4) from nI_add i 4, inb_nI (n := sc.1) (i := i + 4) (by omega) (by omega), nI_clamp (n := i + 4) (by omega), o_0 hw]
  refine both_I (hB.2.2.2.2.2.2.2.2.2.2.2.2.2.2.2.2.2.2.2.2.2.1 (sc.2 (i + 1)) (sc.2 (i + 2)) (sc.2 (i + 3)) (sc.2 (i + 4))) hw.1 (by decide) r_117 (fun x h1 ho ht => ?_)
  simp only [tl_s, x_259_1030, x_259_1031, x_259_1032, x_259_1033, x_259_1034, x_259_1035, x_259_1036, x_259_1037, x_259_1038, x_259_1039, x_259_1040, x_259_1041, x_259_1042, x_259_1043, x_259_1044, x_259_1045, x_259_1046, x_259_1047, x_259_1048, x_259_1049, x_259_1050, x_259_1051, iOk_sc, iRd_sc, true_and, cl2_r, show (nI i + 1 : Int32) = nI (i + 1) from nI_add i 1, inb_nI (n := sc.1) (i := i + 1) (by omega) (by omega), nI_clamp (n := i + 1) (by omega), show (nI i + 2 : Int32) = nI (i + 2) from nI_add i 2, inb_nI (n := sc.1) (i := i + 2) (by omega) (by omega), nI_clamp (n := i + 2) (by omega), show (nI i + 3 : Int32) = nI (i + 3) from nI_add i 3, inb_nI (n := sc.1) (i := i + 3) (by omega) (by omega), nI_clamp (n := i + 3) (by omega), show (nI i + 4 : Int32) = nI (i + 4) from nI_add i 4, inb_nI (n := sc.1) (i := i + 4) (by omega) (by omega), nI_clamp (n := i + 4) (by omega), ho]
  refine Tr_mono ht (fun r2 hr => ?_)
  obtain ⟨a2, h2⟩ := r2
  obtain ⟨e1, c2⟩ := hr
  simp only at e1 c2
  subst e1
  simp only [tl_s, x_259_1054, x_259_1057, x_259_1058, if_true]
  exact lw_foot K c2
set_option maxHeartbeats 1000000 in
theorem blk_21 {i : Nat} (hB : AllB sc) (hL : sc.1 ≤ 3072) (hi : i + 6 ≤ sc.1) (hc : CM h) (K : ∀ h, CM h → Tr sc 20 259 (18, [some (.ref 1004), some (.ref 0), some (.ref 124), some (.int (nI (i + 6)))], [], h) Q) : Tr sc 20 259 (1059, [some (.ref 1004), some (.ref 0), some (.ref 124), some (.int (nI i))], [], h) Q := by
  have hw := hc.1
  have hB := hB h hc
  simp only [x_259_1059, x_259_1060, x_259_1061, x_259_1062, x_259_1063, x_259_1064, x_259_1065, x_259_1066, x_259_1067, x_259_1068, x_259_1069, x_259_1070, x_259_1071, x_259_1072, x_259_1073, x_259_1074, x_259_1075, iOk_sc, iRd_sc, true_and, cl2_r, show (nI i + 1 : Int32) = nI (i + 1) from nI_add i 1, inb_nI (n := sc.1) (i := i + 1) (by omega) (by omega), nI_clamp (n := i + 1) (by omega), show (nI i + 2 : Int32) = nI (i + 2) from nI_add i 2, inb_nI (n := sc.1) (i := i + 2) (by omega) (by omega), nI_clamp (n := i + 2) (by omega), show (nI i + 3 : Int32) = nI (i + 3) from nI_add i 3, inb_nI (n := sc.1) (i := i + 3) (by omega) (by omega), nI_clamp (n := i + 3) (by omega), o_0 hw]
  refine both_I (hB.2.2.2.2.2.2.2.2.2.2.2.2.2.2.2.2.2.2.2.2.2.2.1 (sc.2 (i + 1)) (sc.2 (i + 2)) (sc.2 (i + 3))) hw.1 (by decide) r_118 (fun x h1 ho ht => ?_)
  simp only [tl_s, x_259_1078, x_259_1079, x_259_1080, x_259_1081, x_259_1082, x_259_1083, x_259_1084, x_259_1085, x_259_1086, x_259_1087, x_259_1088, x_259_1089, x_259_1090, x_259_1091, x_259_1092, x_259_1093, x_259_1094, iOk_sc, iRd_sc, true_and, cl2_r, show (nI i + 1 : Int32) = nI (i + 1) from nI_add i 1, inb_nI (n := sc.1) (i := i + 1) (by omega) (by omega), nI_clamp (n := i + 1) (by omega), show (nI i + 2 : Int32) = nI (i + 2) from nI_add i 2, inb_nI (n := sc.1) (i := i + 2) (by omega) (by omega), nI_clamp (n := i + 2) (by omega), show (nI i + 3 : Int32) = nI (i + 3) from nI_add i 3, inb_nI (n := sc.1) (i := i + 3) (by omega) (by omega), nI_clamp (n := i + 3) (by omega), ho]
  refine Tr_mono ht (fun r2 hr => ?_)
  obtain ⟨a2, h2⟩ := r2
  obtain ⟨e1, c2⟩ := hr
  simp only at e1 c2
  subst e1
  simp only [tl_s, x_259_1097, x_259_1100, x_259_1101, if_true]
  exact lw_foot K c2
set_option maxHeartbeats 1000000 in
theorem blk_22 {i : Nat} (hB : AllB sc) (hL : sc.1 ≤ 3072) (hi : i + 6 ≤ sc.1) (hc : CM h) (K : ∀ h, CM h → Tr sc 20 259 (18, [some (.ref 1004), some (.ref 0), some (.ref 124), some (.int (nI (i + 6)))], [], h) Q) : Tr sc 20 259 (1102, [some (.ref 1004), some (.ref 0), some (.ref 124), some (.int (nI i))], [], h) Q := by
  have hw := hc.1
  have hB := hB h hc
  simp only [x_259_1102, x_259_1103, x_259_1104, x_259_1105, x_259_1106, x_259_1107, x_259_1108, iOk_sc, iRd_sc, true_and, cl2_r, show (nI i + 1 : Int32) = nI (i + 1) from nI_add i 1, inb_nI (n := sc.1) (i := i + 1) (by omega) (by omega), nI_clamp (n := i + 1) (by omega), o_0 hw]
  refine both_I (hB.2.2.2.2.2.2.2.2.2.2.2.2.2.2.2.2.2.2.2.2.2.2.2.1 (sc.2 (i + 1))) hw.1 (by decide) r_119 (fun x h1 ho ht => ?_)
  simp only [tl_s, x_259_1111, x_259_1112, x_259_1113, x_259_1114, x_259_1115, x_259_1116, x_259_1117, iOk_sc, iRd_sc, true_and, cl2_r, show (nI i + 1 : Int32) = nI (i + 1) from nI_add i 1, inb_nI (n := sc.1) (i := i + 1) (by omega) (by omega), nI_clamp (n := i + 1) (by omega), ho]
  refine Tr_mono ht (fun r2 hr => ?_)
  obtain ⟨a2, h2⟩ := r2
  obtain ⟨e1, c2⟩ := hr
  simp only at e1 c2
  subst e1
  simp only [tl_s, x_259_1120, x_259_1123, x_259_1124, if_true]
  exact lw_foot K c2
set_option maxHeartbeats 1000000 in
theorem blk_23 {i : Nat} (hB : AllB sc) (hL : sc.1 ≤ 3072) (hi : i + 6 ≤ sc.1) (hc : CM h) (K : ∀ h, CM h → Tr sc 20 259 (18, [some (.ref 1004), some (.ref 0), some (.ref 124), some (.int (nI (i + 6)))], [], h) Q) : Tr sc 20 259 (1125, [some (.ref 1004), some (.ref 0), some (.ref 124), some (.int (nI i))], [], h) Q := by
  have hw := hc.1
  have hB := hB h hc
  simp only [x_259_1125, x_259_1126, x_259_1127, x_259_1128, x_259_1129, x_259_1130, x_259_1131, iOk_sc, iRd_sc, true_and, cl2_r, show (nI i + 1 : Int32) = nI (i + 1) from nI_add i 1, inb_nI (n := sc.1) (i := i + 1) (by omega) (by omega), nI_clamp (n := i + 1) (by omega), o_0 hw]
  refine both_I (hB.2.2.2.2.2.2.2.2.2.2.2.2.2.2.2.2.2.2.2.2.2.2.2.2.1 (sc.2 (i + 1))) hw.1 (by decide) r_120 (fun x h1 ho ht => ?_)
  simp only [tl_s, x_259_1134, x_259_1135, x_259_1136, x_259_1137, x_259_1138, x_259_1139, x_259_1140, iOk_sc, iRd_sc, true_and, cl2_r, show (nI i + 1 : Int32) = nI (i + 1) from nI_add i 1, inb_nI (n := sc.1) (i := i + 1) (by omega) (by omega), nI_clamp (n := i + 1) (by omega), ho]
  refine Tr_mono ht (fun r2 hr => ?_)
  obtain ⟨a2, h2⟩ := r2
  obtain ⟨e1, c2⟩ := hr
  simp only at e1 c2
  subst e1
  simp only [tl_s, x_259_1143, x_259_1146, x_259_1147, if_true]
  exact lw_foot K c2
set_option maxHeartbeats 1000000 in
theorem blk_24 {i : Nat} (hB : AllB sc) (hL : sc.1 ≤ 3072) (hi : i + 6 ≤ sc.1) (hc : CM h) (K : ∀ h, CM h → Tr sc 20 259 (18, [some (.ref 1004), some (.ref 0), some (.ref 124), some (.int (nI (i + 6)))], [], h) Q) : Tr sc 20 259 (1148, [some (.ref 1004), some (.ref 0), some (.ref 124), some (.int (nI i))], [], h) Q := by
  have hw := hc.1
  have hB := hB h hc
  simp only [x_259_1148, x_259_1149, x_259_1150, x_259_1151, x_259_1152, x_259_1153, x_259_1154, x_259_1155, x_259_1156, x_259_1157, x_259_1158, x_259_1159, x_259_1160, x_259_1161, x_259_1162, x_259_1163, x_259_1164, iOk_sc, iRd_sc, true_and, cl2_r, show (nI i + 1 : Int32) = nI (i + 1) from nI_add i 1, inb_nI (n := sc.1) (i := i + 1) (by omega) (by omega), nI_clamp (n := i + 1) (by omega), show (nI i + 2 : Int32) = nI (i + 2) from nI_add i 2, inb_nI (n := sc.1) (i := i + 2) (by omega) (by omega), nI_clamp (n := i + 2) (by omega), show (nI i + 3 : Int32) = nI (i + 3) from nI_add i 3, inb_nI (n := sc.1) (i := i + 3) (by omega) (by omega), nI_clamp (n := i + 3) (by omega), o_0 hw]
  refine both_I (hB.2.2.2.2.2.2.2.2.2.2.2.2.2.2.2.2.2.2.2.2.2.2.2.2.2.1 (sc.2 (i + 1)) (sc.2 (i + 2)) (sc.2 (i + 3))) hw.1 (by decide) r_121 (fun x h1 ho ht => ?_)
  simp only [tl_s, x_259_1167, x_259_1168, x_259_1169, x_259_1170, x_259_1171, x_259_1172, x_259_1173, x_259_1174, x_259_1175, x_259_1176, x_259_1177, x_259_1178, x_259_1179, x_259_1180, x_259_1181, x_259_1182, x_259_1183, iOk_sc, iRd_sc, true_and, cl2_r, show (nI i + 1 : Int32) = nI (i + 1) from nI_add i 1, inb_nI (n := sc.1) (i := i + 1) (by omega) (by omega), nI_clamp (n := i + 1) (by omega), show (nI i + 2 : Int32) = nI (i + 2) from nI_add i 2, inb_nI (n := sc.1) (i := i + 2) (by omega) (by omega), nI_clamp (n := i + 2) (by omega), show (nI i + 3 : Int32) = nI (i + 3) from nI_add i 3, inb_nI (n := sc.1) (i := i + 3) (by omega) (by omega), nI_clamp (n := i + 3) (by omega), ho]
  refine Tr_mono ht (fun r2 hr => ?_)
  obtain ⟨a2, h2⟩ := r2
  obtain ⟨e1, c2⟩ := hr
  simp only at e1 c2
  subst e1
  simp only [tl_s, x_259_1186, x_259_1189, x_259_1190, if_true]
  exact lw_foot K c2
set_option maxHeartbeats 1000000 in
theorem blk_25 {i : Nat} (hB : AllB sc) (hL : sc.1 ≤ 3072) (hi : i + 6 ≤ sc.1) (hc : CM h) (K : ∀ h, CM h → Tr sc 20 259 (18, [some (.ref 1004), some (.ref 0), some (.ref 124), some (.int (nI (i + 6)))], [], h) Q) : Tr sc 20 259 (1191, [some (.ref 1004), some (.ref 0), some (.ref 124), some (.int (nI i))], [], h) Q := by
  have hw := hc.1
  have hB := hB h hc
  simp only [x_259_1191, x_259_1192, x_259_1193, x_259_1194, x_259_1195, x_259_1196, x_259_1197, x_259_1198, x_259_1199, x_259_1200, x_259_1201, x_259_1202, iOk_sc, iRd_sc, true_and, cl2_r, show (nI i + 1 : Int32) = nI (i + 1) from nI_add i 1, inb_nI (n := sc.1) (i := i + 1) (by omega) (by omega), nI_clamp (n := i + 1) (by omega), show (nI i + 2 : Int32) = nI (i + 2) from nI_add i 2, inb_nI (n := sc.1) (i := i + 2) (by omega) (by omega), nI_clamp (n := i + 2) (by omega), o_0 hw]
  refine both_I (hB.2.2.2.2.2.2.2.2.2.2.2.2.2.2.2.2.2.2.2.2.2.2.2.2.2.2.1 (sc.2 (i + 1)) (sc.2 (i + 2))) hw.1 (by decide) r_122 (fun x h1 ho ht => ?_)
  simp only [tl_s, x_259_1205, x_259_1206, x_259_1207, x_259_1208, x_259_1209, x_259_1210, x_259_1211, x_259_1212, x_259_1213, x_259_1214, x_259_1215, x_259_1216, iOk_sc, iRd_sc, true_and, cl2_r, show (nI i + 1 : Int32) = nI (i + 1) from nI_add i 1, inb_nI (n := sc.1) (i := i + 1) (by omega) (by omega), nI_clamp (n := i + 1) (by omega), show (nI i + 2 : Int32) = nI (i + 2) from nI_add i 2, inb_nI (n := sc.1) (i := i + 2) (by omega) (by omega), nI_clamp (n := i + 2) (by omega), ho]
  refine Tr_mono ht (fun r2 hr => ?_)
  obtain ⟨a2, h2⟩ := r2
  obtain ⟨e1, c2⟩ := hr
  simp only at e1 c2
  subst e1
  simp only [tl_s, x_259_1219, x_259_1222, x_259_1223, if_true]
  exact lw_foot K c2
set_option maxHeartbeats 1000000 in
theorem blk_26 {i : Nat} (hB : AllB sc) (hL : sc.1 ≤ 3072) (hi : i + 6 ≤ sc.1) (hc : CM h) (K : ∀ h, CM h → Tr sc 20 259 (18, [some (.ref 1004), some (.ref 0), some (.ref 124), some (.int (nI (i + 6)))], [], h) Q) : Tr sc 20 259 (1224, [some (.ref 1004), some (.ref 0), some (.ref 124), some (.int (nI i))], [], h) Q := by
  have hw := hc.1
  have hB := hB h hc
  simp only [x_259_1224, x_259_1225, x_259_1226, x_259_1227, x_259_1228, x_259_1229, x_259_1230, iOk_sc, iRd_sc, true_and, cl2_r, show (nI i + 1 : Int32) = nI (i + 1) from nI_add i 1, inb_nI (n := sc.1) (i := i + 1) (by omega) (by omega), nI_clamp (n := i + 1) (by omega), o_0 hw]
  refine both_I (hB.2.2.2.2.2.2.2.2.2.2.2.2.2.2.2.2.2.2.2.2.2.2.2.2.2.2.2.1 (sc.2 (i + 1))) hw.1 (by decide) r_123 (fun x h1 ho ht => ?_)
  simp only [tl_s, x_259_1233, x_259_1234, x_259_1235, x_259_1236, x_259_1237, x_259_1238, x_259_1239, iOk_sc, iRd_sc, true_and, cl2_r, show (nI i + 1 : Int32) = nI (i + 1) from nI_add i 1, inb_nI (n := sc.1) (i := i + 1) (by omega) (by omega), nI_clamp (n := i + 1) (by omega), ho]
  refine Tr_mono ht (fun r2 hr => ?_)
  obtain ⟨a2, h2⟩ := r2
  obtain ⟨e1, c2⟩ := hr
  simp only at e1 c2
  subst e1
  simp only [tl_s, x_259_1242, x_259_1245, x_259_1246, if_true]
  exact lw_foot K c2
set_option maxHeartbeats 1000000 in
theorem blk_27 {i : Nat} (hB : AllB sc) (hL : sc.1 ≤ 3072) (hi : i + 6 ≤ sc.1) (hc : CM h) (K : ∀ h, CM h → Tr sc 20 259 (18, [some (.ref 1004), some (.ref 0), some (.ref 124), some (.int (nI (i + 6)))], [], h) Q) : Tr sc 20 259 (1247, [some (.ref 1004), some (.ref 0), some (.ref 124), some (.int (nI i))], [], h) Q := by
  have hw := hc.1
  have hB := hB h hc
  simp only [x_259_1247, x_259_1248, x_259_1249, x_259_1250, x_259_1251, x_259_1252, x_259_1253, x_259_1254, x_259_1255, x_259_1256, x_259_1257, x_259_1258, iOk_sc, iRd_sc, true_and, cl2_r, show (nI i + 1 : Int32) = nI (i + 1) from nI_add i 1, inb_nI (n := sc.1) (i := i + 1) (by omega) (by omega), nI_clamp (n := i + 1) (by omega), show (nI i + 2 : Int32) = nI (i + 2) from nI_add i 2, inb_nI (n := sc.1) (i := i + 2) (by omega) (by omega), nI_clamp (n := i + 2) (by omega), o_0 hw]
  refine both_I (hB.2.2.2.2.2.2.2.2.2.2.2.2.2.2.2.2.2.2.2.2.2.2.2.2.2.2.2.2.1 (sc.2 (i + 1)) (sc.2 (i + 2))) hw.1 (by decide) r_124 (fun x h1 ho ht => ?_)
  simp only [tl_s, x_259_1261, x_259_1262, x_259_1263, x_259_1264, x_259_1265, x_259_1266, x_259_1267, x_259_1268, x_259_1269, x_259_1270, x_259_1271, x_259_1272, iOk_sc, iRd_sc, true_and, cl2_r, show (nI i + 1 : Int32) = nI (i + 1) from nI_add i 1, inb_nI (n := sc.1) (i := i + 1) (by omega) (by omega), nI_clamp (n := i + 1) (by omega), show (nI i + 2 : Int32) = nI (i + 2) from nI_add i 2, inb_nI (n := sc.1) (i := i + 2) (by omega) (by omega), nI_clamp (n := i + 2) (by omega), ho]
  refine Tr_mono ht (fun r2 hr => ?_)
  obtain ⟨a2, h2⟩ := r2
  obtain ⟨e1, c2⟩ := hr
  simp only at e1 c2
  subst e1
  simp only [tl_s, x_259_1275, x_259_1278, x_259_1279, if_true]
  exact lw_foot K c2
set_option maxHeartbeats 1000000 in
theorem blk_28 {i : Nat} (hB : AllB sc) (hL : sc.1 ≤ 3072) (hi : i + 6 ≤ sc.1) (hc : CM h) (K : ∀ h, CM h → Tr sc 20 259 (18, [some (.ref 1004), some (.ref 0), some (.ref 124), some (.int (nI (i + 6)))], [], h) Q) : Tr sc 20 259 (1280, [some (.ref 1004), some (.ref 0), some (.ref 124), some (.int (nI i))], [], h) Q := by
  have hw := hc.1
  have hB := hB h hc
  simp only [x_259_1280, x_259_1281, x_259_1282, x_259_1283, x_259_1284, x_259_1285, x_259_1286, x_259_1287, x_259_1288, x_259_1289, x_259_1290, x_259_1291, iOk_sc, iRd_sc, true_and, cl2_r, show (nI i + 1 : Int32) = nI (i + 1) from nI_add i 1, inb_nI (n := sc.1) (i := i + 1) (by omega) (by omega), nI_clamp (n := i + 1) (by omega), show (nI i + 2 : Int32) = nI (i + 2) from nI_add i 2, inb_nI (n := sc.1) (i := i + 2) (by omega) (by omega), nI_clamp (n := i + 2) (by omega), o_0 hw]
  refine both_I (hB.2.2.2.2.2.2.2.2.2.2.2.2.2.2.2.2.2.2.2.2.2.2.2.2.2.2.2.2.2.1 (sc.2 (i + 1)) (sc.2 (i + 2))) hw.1 (by decide) r_125 (fun x h1 ho ht => ?_)
  simp only [tl_s, x_259_1294, x_259_1295, x_259_1296, x_259_1297, x_259_1298, x_259_1299, x_259_1300, x_259_1301, x_259_1302, x_259_1303, x_259_1304, x_259_1305, iOk_sc, iRd_sc, true_and, cl2_r, show (nI i + 1 : Int32) = nI (i + 1) from nI_add i 1, inb_nI (n := sc.1) (i := i + 1) (by omega) (by omega), nI_clamp (n := i + 1) (by omega), show (nI i + 2 : Int32) = nI (i + 2) from nI_add i 2, inb_nI (n := sc.1) (i := i + 2) (by omega) (by omega), nI_clamp (n := i + 2) (by omega), ho]
  refine Tr_mono ht (fun r2 hr => ?_)
  obtain ⟨a2, h2⟩ := r2
  obtain ⟨e1, c2⟩ := hr
  simp only at e1 c2
  subst e1
  simp only [tl_s, x_259_1308, x_259_1311, x_259_1312, if_true]
  exact lw_foot K c2
set_option maxHeartbeats 1000000 in
theorem blk_29 {i : Nat} (hB : AllB sc) (hL : sc.1 ≤ 3072) (hi : i + 6 ≤ sc.1) (hc : CM h) (K : ∀ h, CM h → Tr sc 20 259 (18, [some (.ref 1004), some (.ref 0), some (.ref 124), some (.int (nI (i + 6)))], [], h) Q) : Tr sc 20 259 (1313, [some (.ref 1004), some (.ref 0), some (.ref 124), some (.int (nI i))], [], h) Q := by
  have hw := hc.1
  have hB := hB h hc
  simp only [x_259_1313, x_259_1314, x_259_1315, x_259_1316, x_259_1317, x_259_1318, x_259_1319, x_259_1320, x_259_1321, x_259_1322, x_259_1323, x_259_1324, x_259_1325, x_259_1326, x_259_1327, x_259_1328, x_259_1329, x_259_1330, x_259_1331, x_259_1332, x_259_1333, x_259_1334, iOk_sc, iRd_sc, true_and, cl2_r, show (nI i + 1 : Int32) = nI (i + 1) from nI_add i 1, inb_nI (n := sc.1) (i := i + 1) (by omega) (by omega), nI_clamp (n := i + 1) (by omega), show (nI i + 2 : Int32) = nI (i + 2) from nI_add i 2, inb_nI (n := sc.1) (i := i + 2) (by omega) (by omega), nI_clamp (n := i + 2) (by omega), show (nI i + 3 : Int32) = nI (i + 3) from nI_add i 3, inb_nI (n := sc.1) (i := i + 3) (by omega) (by omega), nI_clamp (n := i + 3) (by omega), show (nI i + 4 : Int32) = nI (i + 4) from nI_add i 4, inb_nI (n := sc.1) (i := i + 4) (by omega) (by omega), nI_clamp (n := i + 4) (by omega), o_0 hw]
  refine both_I (hB.2.2.2.2.2.2.2.2.2.2.2.2.2.2.2.2.2.2.2.2.2.2.2.2.2.2.2.2.2.2.1 (sc.2 (i + 1)) (sc.2 (i + 2)) (sc.2 (i + 3)) (sc.2 (i + 4))) hw.1 (by decide) r_126 (fun x h1 ho ht => ?_)
  simp only [tl_s, x_259_1337, x_259_1338, x_259_1339, x_259_1340, x_259_1341, x_259_1342, x_259_1343, x_259_1344, x_259_1345, x_259_1346, x_259_1347, x_259_1348, x_259_1349, x_259_1350, x_259_1351, x_259_1352, x_259_1353, x_259_1354, x_259_1355, x_259_1356, x_259_1357, x_259_1358, iOk_sc, iRd_sc, true_and, cl2_r, show (nI i + 1 : Int32) = nI (i + 1) from nI_add i 1, inb_nI (n := sc.1) (i := i + 1) (by omega) (by omega), nI_clamp (n := i + 1) (by omega), show (nI i + 2 : Int32) = nI (i + 2) from nI_add i 2, inb_nI (n := sc.1) (i := i + 2) (by omega) (by omega), nI_clamp (n := i + 2) (by omega), show (nI i + 3 : Int32) = nI (i + 3) from nI_add i 3, inb_nI (n := sc.1) (i := i + 3) (by omega) (by omega), nI_clamp (n := i + 3) (by omega), show (nI i + 4 : Int32) = nI (i + 4) from nI_add i 4, inb_nI (n := sc.1) (i := i + 4) (by omega) (by omega), nI_clamp (n := i + 4) (by omega), ho]
  refine Tr_mono ht (fun r2 hr => ?_)
  obtain ⟨a2, h2⟩ := r2
  obtain ⟨e1, c2⟩ := hr
  simp only at e1 c2
  subst e1
  simp only [tl_s, x_259_1361, x_259_1364, x_259_1365, if_true]
  exact lw_foot K c2
set_option maxHeartbeats 1000000 in
theorem blk_30 {i : Nat} (hB : AllB sc) (hL : sc.1 ≤ 3072) (hi : i + 6 ≤ sc.1) (hc : CM h) (K : ∀ h, CM h → Tr sc 20 259 (18, [some (.ref 1004), some (.ref 0), some (.ref 124), some (.int (nI (i + 6)))], [], h) Q) : Tr sc 20 259 (1366, [some (.ref 1004), some (.ref 0), some (.ref 124), some (.int (nI i))], [], h) Q := by
  have hw := hc.1
  have hB := hB h hc
  simp only [x_259_1366, x_259_1367, x_259_1368, x_259_1369, x_259_1370, x_259_1371, x_259_1372, x_259_1373, x_259_1374, x_259_1375, x_259_1376, x_259_1377, iOk_sc, iRd_sc, true_and, cl2_r, show (nI i + 1 : Int32) = nI (i + 1) from nI_add i 1, inb_nI (n := sc.1) (i := i + 1) (by omega) (by omega), nI_clamp (n := i + 1) (by omega), show (nI i + 2 : Int32) = nI (i + 2) from nI_add i 2, inb_nI (n := sc.1) (i := i + 2) (by omega) (by omega), nI_clamp (n := i + 2) (by omega), o_0 hw]
  refine both_I (hB.2.2.2.2.2.2.2.2.2.2.2.2.2.2.2.2.2.2.2.2.2.2.2.2.2.2.2.2.2.2.2.1 (sc.2 (i + 1)) (sc.2 (i + 2))) hw.1 (by decide) r_127 (fun x h1 ho ht => ?_)
  simp only [tl_s, x_259_1380, x_259_1381, x_259_1382, x_259_1383, x_259_1384, x_259_1385, x_259_1386, x_259_1387, x_259_1388, x_259_1389, x_259_1390, x_259_1391, iOk_sc, iRd_sc, true_and, cl2_r, show (nI i + 1 : Int32) = nI (i + 1) from nI_add i 1, inb_nI (n := sc.1) (i := i + 1) (by omega) (by omega), nI_clamp (n := i + 1) (by omega), show (nI i + 2 : Int32) = nI (i + 2) from nI_add i 2, inb_nI (n := sc.1) (i := i + 2) (by omega) (by omega), nI_clamp (n := i + 2) (by omega), ho]
  refine Tr_mono ht (fun r2 hr => ?_)
  obtain ⟨a2, h2⟩ := r2
  obtain ⟨e1, c2⟩ := hr
  simp only at e1 c2
  subst e1
  simp only [tl_s, x_259_1394, x_259_1397, x_259_1398, if_true]
  exact lw_foot K c2
set_option maxHeartbeats 1000000 in
theorem blk_31 {i : Nat} (hB : AllB sc) (hL : sc.1 ≤ 3072) (hi : i + 6 ≤ sc.1) (hc : CM h) (K : ∀ h, CM h → Tr sc 20 259 (18, [some (.ref 1004), some (.ref 0), some (.ref 124), some (.int (nI (i + 6)))], [], h) Q) : Tr sc 20 259 (1399, [some (.ref 1004), some (.ref 0), some (.ref 124), some (.int (nI i))], [], h) Q := by
  have hw := hc.1
  have hB := hB h hc
  by_cases eb : sc.2 (i + 2) = 0
  · simp only [x_259_1399, x_259_1400, x_259_1401, x_259_1402, x_259_1403, x_259_1404, x_259_1405, x_259_1406, x_259_1407, x_259_1408, x_259_1409, x_259_1410, x_259_1413, x_259_1414, x_259_1417, x_259_1418, iOk_sc, iRd_sc, true_and, cl2_r, show (nI i + 1 : Int32) = nI (i + 1) from nI_add i 1, inb_nI (n := sc.1) (i := i + 1) (by omega) (by omega), nI_clamp (n := i + 1) (by omega), show (nI i + 2 : Int32) = nI (i + 2) from nI_add i 2, inb_nI (n := sc.1) (i := i + 2) (by omega) (by omega), nI_clamp (n := i + 2) (by omega), o_0 hw, if_pos eb]
    refine both_I (hB.2.2.2.2.2.2.2.2.2.2.2.2.2.2.2.2.2.2.2.2.2.2.2.2.2.2.2.2.2.2.2.2.1 (sc.2 (i + 1)) 0 (Or.inl rfl)) hw.1 (by decide) r_128 (fun x h1 ho ht => ?_)
    simp only [tl_s, x_259_1421, x_259_1422, x_259_1423, x_259_1424, x_259_1425, x_259_1426, x_259_1427, x_259_1428, x_259_1429, x_259_1430, x_259_1431, x_259_1432, x_259_1435, x_259_1436, x_259_1439, x_259_1440, iOk_sc, iRd_sc, true_and, cl2_r, show (nI i + 1 : Int32) = nI (i + 1) from nI_add i 1, inb_nI (n := sc.1) (i := i + 1) (by omega) (by omega), nI_clamp (n := i + 1) (by omega), show (nI i + 2 : Int32) = nI (i + 2) from nI_add i 2, inb_nI (n := sc.1) (i := i + 2) (by omega) (by omega), nI_clamp (n := i + 2) (by omega), ho, if_pos eb]
    refine Tr_mono ht (fun r2 hr => ?_)
    obtain ⟨a2, h2⟩ := r2
    obtain ⟨e1, c2⟩ := hr
    simp only at e1 c2
    subst e1
    simp only [tl_s, x_259_1443, x_259_1446, x_259_1447, if_true]
    exact lw_foot K c2
  · simp only [x_259_1399, x_259_1400, x_259_1401, x_259_1402, x_259_1403, x_259_1404, x_259_1405, x_259_1406, x_259_1407, x_259_1408, x_259_1409, x_259_1410, x_259_1413, x_259_1414, x_259_1417, x_259_1418, iOk_sc, iRd_sc, true_and, cl2_r, show (nI i + 1 : Int32) = nI (i + 1) from nI_add i 1, inb_nI (n := sc.1) (i := i + 1) (by omega) (by omega), nI_clamp (n := i + 1) (by omega), show (nI i + 2 : Int32) = nI (i + 2) from nI_add i 2, inb_nI (n := sc.1) (i := i + 2) (by omega) (by omega), nI_clamp (n := i + 2) (by omega), o_0 hw, if_neg eb]
    refine both_I (hB.2.2.2.2.2.2.2.2.2.2.2.2.2.2.2.2.2.2.2.2.2.2.2.2.2.2.2.2.2.2.2.2.1 (sc.2 (i + 1)) 1 (Or.inr rfl)) hw.1 (by decide) r_128 (fun x h1 ho ht => ?_)
    simp only [tl_s, x_259_1421, x_259_1422, x_259_1423, x_259_1424, x_259_1425, x_259_1426, x_259_1427, x_259_1428, x_259_1429, x_259_1430, x_259_1431, x_259_1432, x_259_1435, x_259_1436, x_259_1439, x_259_1440, iOk_sc, iRd_sc, true_and, cl2_r, show (nI i + 1 : Int32) = nI (i + 1) from nI_add i 1, inb_nI (n := sc.1) (i := i + 1) (by omega) (by omega), nI_clamp (n := i + 1) (by omega), show (nI i + 2 : Int32) = nI (i + 2) from nI_add i 2, inb_nI (n := sc.1) (i := i + 2) (by omega) (by omega), nI_clamp (n := i + 2) (by omega), ho, if_neg eb]
    refine Tr_mono ht (fun r2 hr => ?_)
    obtain ⟨a2, h2⟩ := r2
    obtain ⟨e1, c2⟩ := hr
    simp only at e1 c2
    subst e1
    simp only [tl_s, x_259_1443, x_259_1446, x_259_1447, if_true]
    exact lw_foot K c2
set_option maxHeartbeats 1000000 in
theorem blk_32 {i : Nat} (hB : AllB sc) (hL : sc.1 ≤ 3072) (hi : i + 6 ≤ sc.1) (hc : CM h) (K : ∀ h, CM h → Tr sc 20 259 (18, [some (.ref 1004), some (.ref 0), some (.ref 124), some (.int (nI (i + 6)))], [], h) Q) : Tr sc 20 259 (1448, [some (.ref 1004), some (.ref 0), some (.ref 124), some (.int (nI i))], [], h) Q := by
  have hw := hc.1
  have hB := hB h hc
  simp only [x_259_1448, x_259_1449, x_259_1450, x_259_1451, x_259_1452, x_259_1453, x_259_1454, x_259_1455, x_259_1456, x_259_1457, x_259_1458, x_259_1459, x_259_1460, x_259_1461, x_259_1462, x_259_1463, x_259_1464, x_259_1465, x_259_1466, x_259_1467, x_259_1468, x_259_1469, iOk_sc, iRd_sc, true_and, cl2_r, show (nI i + 1 : Int32) = nI (i + 1) from nI_add i 1, inb_nI (n := sc.1) (i := i + 1) (by omega) (by omega), nI_clamp (n := i + 1) (by omega), show (nI i + 2 : Int32) = nI (i + 2) from nI_add i 2, inb_nI (n := sc.1) (i := i + 2) (by omega) (by omega), nI_clamp (n := i + 2) (by omega), show (nI i + 3 : Int32) = nI (i + 3) from nI_add i 3, inb_nI (n := sc.1) (i := i + 3) (by omega) (by omega), nI_clamp (n := i + 3) (by omega), show (nI i + 4 : Int32) = nI (i + 4) from nI_add i 4, inb_nI (n := sc.1) (i := i + 4) (by omega) (by omega), nI_clamp (n := i + 4) (by omega), o_0 hw]
  refine both_I (hB.2.2.2.2.2.2.2.2.2.2.2.2.2.2.2.2.2.2.2.2.2.2.2.2.2.2.2.2.2.2.2.2.2.1 (sc.2 (i + 1)) (sc.2 (i + 2)) (sc.2 (i + 3)) (sc.2 (i + 4))) hw.1 (by decide) r_129 (fun x h1 ho ht => ?_)
  simp only [tl_s, x_259_1472, x_259_1473, x_259_1474, x_259_1475, x_259_1476, x_259_1477, x_259_1478, x_259_1479, x_259_1480, x_259_1481, x_259_1482, x_259_1483, x_259_1484, x_259_1485, x_259_1486, x_259_1487, x_259_1488, x_259_1489, x_259_1490, x_259_1491, x_259_1492, x_259_1493, iOk_sc, iRd_sc, true_and, cl2_r, show (nI i + 1 : Int32) = nI (i + 1) from nI_add i 1, inb_nI (n := sc.1) (i := i + 1) (by omega) (by omega), nI_clamp (n := i + 1) (by omega), show (nI i + 2 : Int32) = nI (i + 2) from nI_add i 2, inb_nI (n := sc.1) (i := i + 2) (by omega) (by omega), nI_clamp (n := i + 2) (by omega), show (nI i + 3 : Int32) = nI (i + 3) from nI_add i 3, inb_nI (n := sc.1) (i := i + 3) (by omega) (by omega), nI_clamp (n := i + 3) (by omega), show (nI i + 4 : Int32) = nI (i + 4) from nI_add i 4, inb_nI (n := sc.1) (i := i + 4) (by omega) (by omega), nI_clamp (n := i + 4) (by omega), ho]
  refine Tr_mono ht (fun r2 hr => ?_)
  obtain ⟨a2, h2⟩ := r2
  obtain ⟨e1, c2⟩ := hr
  simp only at e1 c2
  subst e1
  simp only [tl_s, x_259_1496, x_259_1499, x_259_1500, if_true]
  exact lw_foot K c2
set_option maxHeartbeats 1000000 in
theorem blk_33 {i : Nat} (hB : AllB sc) (hL : sc.1 ≤ 3072) (hi : i + 6 ≤ sc.1) (hc : CM h) (K : ∀ h, CM h → Tr sc 20 259 (18, [some (.ref 1004), some (.ref 0), some (.ref 124), some (.int (nI (i + 6)))], [], h) Q) : Tr sc 20 259 (1501, [some (.ref 1004), some (.ref 0), some (.ref 124), some (.int (nI i))], [], h) Q := by
  have hw := hc.1
  have hB := hB h hc
  simp only [x_259_1501, x_259_1502, x_259_1503, x_259_1504, x_259_1505, x_259_1506, x_259_1507, x_259_1508, x_259_1509, x_259_1510, x_259_1511, x_259_1512, iOk_sc, iRd_sc, true_and, cl2_r, show (nI i + 1 : Int32) = nI (i + 1) from nI_add i 1, inb_nI (n := sc.1) (i := i + 1) (by omega) (by omega), nI_clamp (n := i + 1) (by omega), show (nI i + 2 : Int32) = nI (i + 2) from nI_add i 2, inb_nI (n := sc.1) (i := i + 2) (by omega) (by omega), nI_clamp (n := i + 2) (by omega), o_0 hw]
  refine both_I (hB.2.2.2.2.2.2.2.2.2.2.2.2.2.2.2.2.2.2.2.2.2.2.2.2.2.2.2.2.2.2.2.2.2.2.1 (sc.2 (i + 1)) (sc.2 (i + 2))) hw.1 (by decide) r_130 (fun x h1 ho ht => ?_)
  simp only [tl_s, x_259_1515, x_259_1516, x_259_1517, x_259_1518, x_259_1519, x_259_1520, x_259_1521, x_259_1522, x_259_1523, x_259_1524, x_259_1525, x_259_1526, iOk_sc, iRd_sc, true_and, cl2_r, show (nI i + 1 : Int32) = nI (i + 1) from nI_add i 1, inb_nI (n := sc.1) (i := i + 1) (by omega) (by omega), nI_clamp (n := i + 1) (by omega), show (nI i + 2 : Int32) = nI (i + 2) from nI_add i 2, inb_nI (n := sc.1) (i := i + 2) (by omega) (by omega), nI_clamp (n := i + 2) (by omega), ho]
  refine Tr_mono ht (fun r2 hr => ?_)
  obtain ⟨a2, h2⟩ := r2
  obtain ⟨e1, c2⟩ := hr
  simp only at e1 c2
  subst e1
  simp only [tl_s, x_259_1529, x_259_1532, x_259_1533, if_true]
  exact lw_foot K c2
set_option maxHeartbeats 1000000 in
theorem blk_34 {i : Nat} (hB : AllB sc) (hL : sc.1 ≤ 3072) (hi : i + 6 ≤ sc.1) (hc : CM h) (K : ∀ h, CM h → Tr sc 20 259 (18, [some (.ref 1004), some (.ref 0), some (.ref 124), some (.int (nI (i + 6)))], [], h) Q) : Tr sc 20 259 (1534, [some (.ref 1004), some (.ref 0), some (.ref 124), some (.int (nI i))], [], h) Q := by
  have hw := hc.1
  have hB := hB h hc
  simp only [x_259_1534, x_259_1535, x_259_1536, x_259_1537, x_259_1538, x_259_1539, x_259_1540, x_259_1541, x_259_1542, x_259_1543, x_259_1544, x_259_1545, x_259_1546, x_259_1547, x_259_1548, x_259_1549, x_259_1550, iOk_sc, iRd_sc, true_and, cl2_r, show (nI i + 1 : Int32) = nI (i + 1) from nI_add i 1, inb_nI (n := sc.1) (i := i + 1) (by omega) (by omega), nI_clamp (n := i + 1) (by omega), show (nI i + 2 : Int32) = nI (i + 2) from nI_add i 2, inb_nI (n := sc.1) (i := i + 2) (by omega) (by omega), nI_clamp (n := i + 2) (by omega), show (nI i + 3 : Int32) = nI (i + 3) from nI_add i 3, inb_nI (n := sc.1) (i := i + 3) (by omega) (by omega), nI_clamp (n := i + 3) (by omega), o_0 hw]
  refine both_I (hB.2.2.2.2.2.2.2.2.2.2.2.2.2.2.2.2.2.2.2.2.2.2.2.2.2.2.2.2.2.2.2.2.2.2.2.1 (sc.2 (i + 1)) (sc.2 (i + 2)) (sc.2 (i + 3))) hw.1 (by decide) r_131 (fun x h1 ho ht => ?_)
  simp only [tl_s, x_259_1553, x_259_1554, x_259_1555, x_259_1556, x_259_1557, x_259_1558, x_259_1559, x_259_1560, x_259_1561, x_259_1562, x_259_1563, x_259_1564, x_259_1565, x_259_1566, x_259_1567, x_259_1568, x_259_1569, iOk_sc, iRd_sc, true_and, cl2_r, show (nI i + 1 : Int32) = nI (i + 1) from nI_add i 1, inb_nI (n := sc.1) (i := i + 1) (by omega) (by omega), nI_clamp (n := i + 1) (by omega), show (nI i + 2 : Int32) = nI (i + 2) from nI_add i 2, inb_nI (n := sc.1) (i := i + 2) (by omega) (by omega), nI_clamp (n := i + 2) (by omega), show (nI i + 3 : Int32) = nI (i + 3) from nI_add i 3, inb_nI (n := sc.1) (i := i + 3) (by omega) (by omega), nI_clamp (n := i + 3) (by omega), ho]
  refine Tr_mono ht (fun r2 hr => ?_)
  obtain ⟨a2, h2⟩ := r2
  obtain ⟨e1, c2⟩ := hr
  simp only at e1 c2
  subst e1
  simp only [tl_s, x_259_1572, x_259_1575, x_259_1576, if_true]
  exact lw_foot K c2
set_option maxHeartbeats 1000000 in
theorem blk_35 {i : Nat} (hB : AllB sc) (hL : sc.1 ≤ 3072) (hi : i + 6 ≤ sc.1) (hc : CM h) (K : ∀ h, CM h → Tr sc 20 259 (18, [some (.ref 1004), some (.ref 0), some (.ref 124), some (.int (nI (i + 6)))], [], h) Q) : Tr sc 20 259 (1577, [some (.ref 1004), some (.ref 0), some (.ref 124), some (.int (nI i))], [], h) Q := by
  have hw := hc.1
  have hB := hB h hc
  simp only [x_259_1577, x_259_1578, x_259_1579, x_259_1580, x_259_1581, x_259_1582, x_259_1583, x_259_1584, x_259_1585, x_259_1586, x_259_1587, x_259_1588, x_259_1589, x_259_1590, x_259_1591, x_259_1592, x_259_1593, iOk_sc, iRd_sc, true_and, cl2_r, show (nI i + 1 : Int32) = nI (i + 1) from nI_add i 1, inb_nI (n := sc.1) (i := i + 1) (by omega) (by omega), nI_clamp (n := i + 1) (by omega), show (nI i + 2 : Int32) = nI (i + 2) from nI_add i 2, inb_nI (n := sc.1) (i := i + 2) (by omega) (by omega), nI_clamp (n := i + 2) (by omega), show (nI i + 3 : Int32) = nI (i + 3) from nI_add i 3, inb_nI (n := sc.1) (i := i + 3) (by omega) (by omega), nI_clamp (n := i + 3) (by omega), o_0 hw]
  refine both_I (hB.2.2.2.2.2.2.2.2.2.2.2.2.2.2.2.2.2.2.2.2.2.2.2.2.2.2.2.2.2.2.2.2.2.2.2.2.1 (sc.2 (i + 1)) (sc.2 (i + 2)) (sc.2 (i + 3))) hw.1 (by decide) r_132 (fun x h1 ho ht => ?_)
  simp only [tl_s, x_259_1596, x_259_1597, x_259_1598, x_259_1599, x_259_1600, x_259_1601, x_259_1602, x_259_1603, x_259_1604, x_259_1605, x_259_1606, x_259_1607, x_259_1608, x_259_1609, x_259_1610, x_259_1611, x_259_1612, iOk_sc, iRd_sc, true_and, cl2_r, show (nI i + 1 : Int32) = nI (i + 1) from nI_add i 1, inb_nI (n := sc.1) (i := i + 1) (by omega) (by omega), nI_clamp (n := i + 1) (by omega), show (nI i + 2 : Int32) = nI (i + 2) from nI_add i 2, inb_nI (n := sc.1) (i := i + 2) (by omega) (by omega), nI_clamp (n := i + 2) (by omega), show (nI i + 3 : Int32) = nI (i + 3) from nI_add i 3, inb_nI (n := sc.1) (i := i + 3) (by omega) (by omega), nI_clamp (n := i + 3) (by omega), ho]
  refine Tr_mono ht (fun r2 hr => ?_)
  obtain ⟨a2, h2⟩ := r2
  obtain ⟨e1, c2⟩ := hr
  simp only at e1 c2
  subst e1
  simp only [tl_s, x_259_1615, x_259_1618, x_259_1619, if_true]
  exact lw_foot K c2
set_option maxHeartbeats 1000000 in
theorem blk_36 {i : Nat} (hB : AllB sc) (hL : sc.1 ≤ 3072) (hi : i + 6 ≤ sc.1) (hc : CM h) (K : ∀ h, CM h → Tr sc 20 259 (18, [some (.ref 1004), some (.ref 0), some (.ref 124), some (.int (nI (i + 6)))], [], h) Q) : Tr sc 20 259 (1620, [some (.ref 1004), some (.ref 0), some (.ref 124), some (.int (nI i))], [], h) Q := by
  have hw := hc.1
  have hB := hB h hc
  simp only [x_259_1620, x_259_1621, iOk_sc, iRd_sc, true_and, cl2_r, o_0 hw]
  refine both_L (hB.2.2.2.2.2.2.2.2.2.2.2.2.2.2.2.2.2.2.2.2.2.2.2.2.2.2.2.2.2.2.2.2.2.2.2.2.2.1 ) hw.1 (by decide) r_133 (fun x h1 ho ht => ?_)
  simp only [tl_s, x_259_1624, x_259_1625, iOk_sc, iRd_sc, true_and, cl2_r, ho]
  refine Tr_mono ht (fun r2 hr => ?_)
  obtain ⟨a2, h2⟩ := r2
  obtain ⟨e1, c2⟩ := hr
  simp only at e1 c2
  subst e1
  simp only [tl_s, x_259_1628, x_259_1629, x_259_1632, x_259_1633, lcmp_eq, if_true]
  exact lw_foot K c2
set_option maxHeartbeats 1000000 in
theorem blk_37 {i : Nat} (hB : AllB sc) (hL : sc.1 ≤ 3072) (hi : i + 6 ≤ sc.1) (hc : CM h) (K : ∀ h, CM h → Tr sc 20 259 (18, [some (.ref 1004), some (.ref 0), some (.ref 124), some (.int (nI (i + 6)))], [], h) Q) : Tr sc 20 259 (1634, [some (.ref 1004), some (.ref 0), some (.ref 124), some (.int (nI i))], [], h) Q := by
  have hw := hc.1
  have hB := hB h hc
  simp only [x_259_1634, x_259_1635, iOk_sc, iRd_sc, true_and, cl2_r, o_0 hw]
  refine both_I (hB.2.2.2.2.2.2.2.2.2.2.2.2.2.2.2.2.2.2.2.2.2.2.2.2.2.2.2.2.2.2.2.2.2.2.2.2.2.2.1 ) hw.1 (by decide) r_134 (fun x h1 ho ht => ?_)
  simp only [tl_s, x_259_1638, x_259_1639, iOk_sc, iRd_sc, true_and, cl2_r, ho]
  refine Tr_mono ht (fun r2 hr => ?_)
  obtain ⟨a2, h2⟩ := r2
  obtain ⟨e1, c2⟩ := hr
  simp only at e1 c2
  subst e1
  simp only [tl_s, x_259_1642, x_259_1645, x_259_1646, if_true]
  exact lw_foot K c2
set_option maxHeartbeats 1000000 in
theorem blk_38 {i : Nat} (hB : AllB sc) (hL : sc.1 ≤ 3072) (hi : i + 6 ≤ sc.1) (hc : CM h) (K : ∀ h, CM h → Tr sc 20 259 (18, [some (.ref 1004), some (.ref 0), some (.ref 124), some (.int (nI (i + 6)))], [], h) Q) : Tr sc 20 259 (1647, [some (.ref 1004), some (.ref 0), some (.ref 124), some (.int (nI i))], [], h) Q := by
  have hw := hc.1
  have hB := hB h hc
  simp only [x_259_1647, x_259_1648, iOk_sc, iRd_sc, true_and, cl2_r, o_0 hw]
  refine both_L (hB.2.2.2.2.2.2.2.2.2.2.2.2.2.2.2.2.2.2.2.2.2.2.2.2.2.2.2.2.2.2.2.2.2.2.2.2.2.2.2.1 ) hw.1 (by decide) r_135 (fun x h1 ho ht => ?_)
  simp only [tl_s, x_259_1651, x_259_1652, iOk_sc, iRd_sc, true_and, cl2_r, ho]
  refine Tr_mono ht (fun r2 hr => ?_)
  obtain ⟨a2, h2⟩ := r2
  obtain ⟨e1, c2⟩ := hr
  simp only at e1 c2
  subst e1
  simp only [tl_s, x_259_1655, x_259_1656, x_259_1659, x_259_1660, lcmp_eq, if_true]
  exact lw_foot K c2
set_option maxHeartbeats 1000000 in
theorem blk_39 {i : Nat} (hB : AllB sc) (hL : sc.1 ≤ 3072) (hi : i + 6 ≤ sc.1) (hc : CM h) (K : ∀ h, CM h → Tr sc 20 259 (18, [some (.ref 1004), some (.ref 0), some (.ref 124), some (.int (nI (i + 6)))], [], h) Q) : Tr sc 20 259 (1661, [some (.ref 1004), some (.ref 0), some (.ref 124), some (.int (nI i))], [], h) Q := by
  have hw := hc.1
  have hB := hB h hc
  simp only [x_259_1661, x_259_1662, iOk_sc, iRd_sc, true_and, cl2_r, o_0 hw]
  refine both_L (hB.2.2.2.2.2.2.2.2.2.2.2.2.2.2.2.2.2.2.2.2.2.2.2.2.2.2.2.2.2.2.2.2.2.2.2.2.2.2.2.2.1 ) hw.1 (by decide) r_136 (fun x h1 ho ht => ?_)
  simp only [tl_s, x_259_1665, x_259_1666, iOk_sc, iRd_sc, true_and, cl2_r, ho]
  refine Tr_mono ht (fun r2 hr => ?_)
  obtain ⟨a2, h2⟩ := r2
  obtain ⟨e1, c2⟩ := hr
  simp only at e1 c2
  subst e1
  simp only [tl_s, x_259_1669, x_259_1670, x_259_1673, x_259_1674, lcmp_eq, if_true]
  exact lw_foot K c2
set_option maxHeartbeats 1000000 in
theorem blk_40 {i : Nat} (hB : AllB sc) (hL : sc.1 ≤ 3072) (hi : i + 6 ≤ sc.1) (hc : CM h) (K : ∀ h, CM h → Tr sc 20 259 (18, [some (.ref 1004), some (.ref 0), some (.ref 124), some (.int (nI (i + 6)))], [], h) Q) : Tr sc 20 259 (1675, [some (.ref 1004), some (.ref 0), some (.ref 124), some (.int (nI i))], [], h) Q := by
  have hw := hc.1
  have hB := hB h hc
  simp only [x_259_1675, x_259_1676, x_259_1677, x_259_1678, x_259_1679, x_259_1680, x_259_1681, iOk_sc, iRd_sc, true_and, cl2_r, show (nI i + 1 : Int32) = nI (i + 1) from nI_add i 1, inb_nI (n := sc.1) (i := i + 1) (by omega) (by omega), nI_clamp (n := i + 1) (by omega), o_0 hw]
  refine both_I (hB.2.2.2.2.2.2.2.2.2.2.2.2.2.2.2.2.2.2.2.2.2.2.2.2.2.2.2.2.2.2.2.2.2.2.2.2.2.2.2.2.2.1 (sc.2 (i + 1))) hw.1 (by decide) r_137 (fun x h1 ho ht => ?_)
  simp only [tl_s, x_259_1684, x_259_1685, x_259_1686, x_259_1687, x_259_1688, x_259_1689, x_259_1690, iOk_sc, iRd_sc, true_and, cl2_r, show (nI i + 1 : Int32) = nI (i + 1) from nI_add i 1, inb_nI (n := sc.1) (i := i + 1) (by omega) (by omega), nI_clamp (n := i + 1) (by omega), ho]
  refine Tr_mono ht (fun r2 hr => ?_)
  obtain ⟨a2, h2⟩ := r2
  obtain ⟨e1, c2⟩ := hr
  simp only at e1 c2
  subst e1
  simp only [tl_s, x_259_1693, x_259_1696, x_259_1697, if_true]
  exact lw_foot K c2
set_option maxHeartbeats 1000000 in
theorem blk_41 {i : Nat} (hB : AllB sc) (hL : sc.1 ≤ 3072) (hi : i + 6 ≤ sc.1) (hc : CM h) (K : ∀ h, CM h → Tr sc 20 259 (18, [some (.ref 1004), some (.ref 0), some (.ref 124), some (.int (nI (i + 6)))], [], h) Q) : Tr sc 20 259 (1698, [some (.ref 1004), some (.ref 0), some (.ref 124), some (.int (nI i))], [], h) Q := by
  have hw := hc.1
  have hB := hB h hc
  simp only [x_259_1698, x_259_1699, iOk_sc, iRd_sc, true_and, cl2_r, o_0 hw]
  refine both_I (hB.2.2.2.2.2.2.2.2.2.2.2.2.2.2.2.2.2.2.2.2.2.2.2.2.2.2.2.2.2.2.2.2.2.2.2.2.2.2.2.2.2.2.1 ) hw.1 (by decide) r_138 (fun x h1 ho ht => ?_)
  simp only [tl_s, x_259_1702, x_259_1703, iOk_sc, iRd_sc, true_and, cl2_r, ho]
  refine Tr_mono ht (fun r2 hr => ?_)
  obtain ⟨a2, h2⟩ := r2
  obtain ⟨e1, c2⟩ := hr
  simp only at e1 c2
  subst e1
  simp only [tl_s, x_259_1706, x_259_1709, x_259_1710, if_true]
  exact lw_foot K c2
set_option maxHeartbeats 1000000 in
theorem blk_42 {i : Nat} (hB : AllB sc) (hL : sc.1 ≤ 3072) (hi : i + 6 ≤ sc.1) (hc : CM h) (K : ∀ h, CM h → Tr sc 20 259 (18, [some (.ref 1004), some (.ref 0), some (.ref 124), some (.int (nI (i + 6)))], [], h) Q) : Tr sc 20 259 (1711, [some (.ref 1004), some (.ref 0), some (.ref 124), some (.int (nI i))], [], h) Q := by
  have hw := hc.1
  have hB := hB h hc
  simp only [x_259_1711, x_259_1712, x_259_1713, x_259_1714, x_259_1715, x_259_1716, x_259_1717, iOk_sc, iRd_sc, true_and, cl2_r, show (nI i + 1 : Int32) = nI (i + 1) from nI_add i 1, inb_nI (n := sc.1) (i := i + 1) (by omega) (by omega), nI_clamp (n := i + 1) (by omega), o_0 hw]
  refine both_I (hB.2.2.2.2.2.2.2.2.2.2.2.2.2.2.2.2.2.2.2.2.2.2.2.2.2.2.2.2.2.2.2.2.2.2.2.2.2.2.2.2.2.2.2.1 (sc.2 (i + 1))) hw.1 (by decide) r_139 (fun x h1 ho ht => ?_)
  simp only [tl_s, x_259_1720, x_259_1721, x_259_1722, x_259_1723, x_259_1724, x_259_1725, x_259_1726, iOk_sc, iRd_sc, true_and, cl2_r, show (nI i + 1 : Int32) = nI (i + 1) from nI_add i 1, inb_nI (n := sc.1) (i := i + 1) (by omega) (by omega), nI_clamp (n := i + 1) (by omega), ho]
  refine Tr_mono ht (fun r2 hr => ?_)
  obtain ⟨a2, h2⟩ := r2
  obtain ⟨e1, c2⟩ := hr
  simp only at e1 c2
  subst e1
  simp only [tl_s, x_259_1729, x_259_1732, x_259_1733, if_true]
  exact lw_foot K c2
set_option maxHeartbeats 1000000 in
theorem blk_43 {i : Nat} (hB : AllB sc) (hL : sc.1 ≤ 3072) (hi : i + 6 ≤ sc.1) (hc : CM h) (K : ∀ h, CM h → Tr sc 20 259 (18, [some (.ref 1004), some (.ref 0), some (.ref 124), some (.int (nI (i + 6)))], [], h) Q) : Tr sc 20 259 (1734, [some (.ref 1004), some (.ref 0), some (.ref 124), some (.int (nI i))], [], h) Q := by
  have hw := hc.1
  have hB := hB h hc
  simp only [x_259_1734, x_259_1735, iOk_sc, iRd_sc, true_and, cl2_r, o_0 hw]
  refine both_L (hB.2.2.2.2.2.2.2.2.2.2.2.2.2.2.2.2.2.2.2.2.2.2.2.2.2.2.2.2.2.2.2.2.2.2.2.2.2.2.2.2.2.2.2.2 ) hw.1 (by decide) r_140 (fun x h1 ho ht => ?_)
  simp only [tl_s, x_259_1738, x_259_1739, iOk_sc, iRd_sc, true_and, cl2_r, ho]
  refine Tr_mono ht (fun r2 hr => ?_)
  obtain ⟨a2, h2⟩ := r2
  obtain ⟨e1, c2⟩ := hr
  simp only at e1 c2
  subst e1
  simp only [tl_s, x_259_1742, x_259_1743, x_259_1746, x_259_1747, lcmp_eq, if_true]
  exact lw_foot K c2
theorem law_len (hk : (1004 : Nat) ≥ 1000) {l0 l1 l2 l3 : Option Value} {x : Int32} : Tr sc d 259 (20, [l0, l1, l2, l3], [.ref 1004, .int x], h) Q = Tr sc d 259 (21, [l0, l1, l2, l3], [.int (Int32.ofNat sc.1), .int x], h) Q := t_go k_259_20 rfl
theorem law_cmp {i : Nat} (hL : sc.1 ≤ 3072) (hi : i < 10000) : Int32.ofNat sc.1 - 6 < nI i ↔ ¬ i + 6 ≤ sc.1 := by
  have e : (nI sc.1 - nI 6).toInt = (sc.1 : Int) - (6 : Nat) := pk_sub_toInt (by omega) (by decide)
  rw [show Int32.ofNat sc.1 - 6 = nI sc.1 - nI 6 from rfl, Int32.lt_iff_toInt_lt, e, nI_toInt (by omega)]
  omega
theorem law_end {i : Nat} (hL : sc.1 ≤ 3072) (hb : i < 10000) (hi : ¬ i + 6 ≤ sc.1) (hc : CM h) (hQ : ∀ h, CM h → Q (some (.int 1), h)) : Tr sc 20 259 (18, [some (.ref 1004), some (.ref 0), some (.ref 124), some (.int (nI i))], [], h) Q := by
  rw [x_259_18]
  simp only [x_259_19, law_len (by decide), x_259_21, x_259_23, x_259_24]
  rw [if_pos (law_cmp hL (by omega) |>.mpr hi)]
  simp only [x_259_1754, x_259_1755, vp_b1, true_and]
  exact hQ h hc
theorem law_body {i : Nat} (hB : AllB sc) (hL : sc.1 ≤ 3072) (hi : i + 6 ≤ sc.1) (hc : CM h) (K : ∀ h, CM h → Tr sc 20 259 (18, [some (.ref 1004), some (.ref 0), some (.ref 124), some (.int (nI (i + 6)))], [], h) Q) : Tr sc 20 259 (18, [some (.ref 1004), some (.ref 0), some (.ref 124), some (.int (nI i))], [], h) Q := by
  rw [x_259_18]
  simp only [x_259_19, law_len (by decide), x_259_21, x_259_23, x_259_24]
  rw [if_neg (fun q => (law_cmp hL (by omega)).mp q hi)]
  simp only [x_259_27, x_259_28, x_259_29, x_259_30, x_259_32, iOk_sc, iRd_sc, inb_nI (n := sc.1) (i := i) (by omega) (by omega), nI_clamp (n := i) (by omega), true_and]
  obtain ⟨j, hj, ej⟩ := pk_andE (sc.2 i) (m := 63) 6 (by decide)
  rw [ej]
  match j, hj with
  | 0, _ => rw [sw_0]; exact blk_0 hB hL hi hc K
  | 1, _ => rw [sw_1]; exact blk_1 hB hL hi hc K
  | 2, _ => rw [sw_2]; exact blk_2 hB hL hi hc K
  | 3, _ => rw [sw_3]; exact blk_3 hB hL hi hc K
  | 4, _ => rw [sw_4]; exact blk_4 hB hL hi hc K
  | 5, _ => rw [sw_5]; exact blk_5 hB hL hi hc K
  | 6, _ => rw [sw_6]; exact blk_6 hB hL hi hc K
  | 7, _ => rw [sw_7]; exact blk_7 hB hL hi hc K
  | 8, _ => rw [sw_8]; exact blk_8 hB hL hi hc K
  | 9, _ => rw [sw_9]; exact blk_9 hB hL hi hc K
  | 10, _ => rw [sw_10]; exact blk_10 hB hL hi hc K
  | 11, _ => rw [sw_11]; exact blk_11 hB hL hi hc K
  | 12, _ => rw [sw_12]; exact blk_12 hB hL hi hc K
  | 13, _ => rw [sw_13]; exact blk_13 hB hL hi hc K
  | 14, _ => rw [sw_14]; exact blk_14 hB hL hi hc K
  | 15, _ => rw [sw_15]; exact blk_15 hB hL hi hc K
  | 16, _ => rw [sw_16]; exact blk_16 hB hL hi hc K
  | 17, _ => rw [sw_17]; exact blk_17 hB hL hi hc K
  | 18, _ => rw [sw_18]; exact blk_18 hB hL hi hc K
  | 19, _ => rw [sw_19]; exact blk_19 hB hL hi hc K
  | 20, _ => rw [sw_20]; exact blk_20 hB hL hi hc K
  | 21, _ => rw [sw_21]; exact blk_21 hB hL hi hc K
  | 22, _ => rw [sw_22]; exact blk_22 hB hL hi hc K
  | 23, _ => rw [sw_23]; exact blk_23 hB hL hi hc K
  | 24, _ => rw [sw_24]; exact blk_24 hB hL hi hc K
  | 25, _ => rw [sw_25]; exact blk_25 hB hL hi hc K
  | 26, _ => rw [sw_26]; exact blk_26 hB hL hi hc K
  | 27, _ => rw [sw_27]; exact blk_27 hB hL hi hc K
  | 28, _ => rw [sw_28]; exact blk_28 hB hL hi hc K
  | 29, _ => rw [sw_29]; exact blk_29 hB hL hi hc K
  | 30, _ => rw [sw_30]; exact blk_30 hB hL hi hc K
  | 31, _ => rw [sw_31]; exact blk_31 hB hL hi hc K
  | 32, _ => rw [sw_32]; exact blk_32 hB hL hi hc K
  | 33, _ => rw [sw_33]; exact blk_33 hB hL hi hc K
  | 34, _ => rw [sw_34]; exact blk_34 hB hL hi hc K
  | 35, _ => rw [sw_35]; exact blk_35 hB hL hi hc K
  | 36, _ => rw [sw_36]; exact blk_36 hB hL hi hc K
  | 37, _ => rw [sw_37]; exact blk_37 hB hL hi hc K
  | 38, _ => rw [sw_38]; exact blk_38 hB hL hi hc K
  | 39, _ => rw [sw_39]; exact blk_39 hB hL hi hc K
  | 40, _ => rw [sw_40]; exact blk_40 hB hL hi hc K
  | 41, _ => rw [sw_41]; exact blk_41 hB hL hi hc K
  | 42, _ => rw [sw_42]; exact blk_42 hB hL hi hc K
  | 43, _ => rw [sw_43]; exact blk_43 hB hL hi hc K
  | 44, _ => rw [sw_44]; exact lw_foot K hc
  | 45, _ => rw [sw_45]; exact lw_foot K hc
  | 46, _ => rw [sw_46]; exact lw_foot K hc
  | 47, _ => rw [sw_47]; exact lw_foot K hc
  | 48, _ => rw [sw_48]; exact lw_foot K hc
  | 49, _ => rw [sw_49]; exact lw_foot K hc
  | 50, _ => rw [sw_50]; exact lw_foot K hc
  | 51, _ => rw [sw_51]; exact lw_foot K hc
  | 52, _ => rw [sw_52]; exact lw_foot K hc
  | 53, _ => rw [sw_53]; exact lw_foot K hc
  | 54, _ => rw [sw_54]; exact lw_foot K hc
  | 55, _ => rw [sw_55]; exact lw_foot K hc
  | 56, _ => rw [sw_56]; exact lw_foot K hc
  | 57, _ => rw [sw_57]; exact lw_foot K hc
  | 58, _ => rw [sw_58]; exact lw_foot K hc
  | 59, _ => rw [sw_59]; exact lw_foot K hc
  | 60, _ => rw [sw_60]; exact lw_foot K hc
  | 61, _ => rw [sw_61]; exact lw_foot K hc
  | 62, _ => rw [sw_62]; exact lw_foot K hc
  | 63, _ => rw [sw_63]; exact lw_foot K hc
  | n + 64, hn => omega

theorem law_loop (hB : AllB sc) (hL : sc.1 ≤ 3072) (hQ : ∀ h, CM h → Q (some (.int 1), h)) : ∀ (n i : Nat), sc.1 < i + n → i < 5000 → ∀ h, CM h → Tr sc 20 259 (18, [some (.ref 1004), some (.ref 0), some (.ref 124), some (.int (nI i))], [], h) Q := by
  intro n
  induction n with
  | zero =>
    intro i hi hib h hc
    exact law_end hL (by omega) (by omega) hc hQ
  | succ n ih =>
    intro i hi hib h hc
    by_cases e : i + 6 ≤ sc.1
    · exact law_body hB hL e hc (fun h' hc' => ih (i + 6) (by omega) (by omega) h' hc')
    · exact law_end hL (by omega) (by omega) hc hQ
end LW
