/-! ===== the law: its loop, over what class and model are shown to answer alike (AllB) ===== -/
section LW
variable {sc : Nat × (Nat → Int32)} {d y : Nat} {Q : PRes → Prop} {h : PH}
theorem ex_int : ∀ (f d y : Nat) (g : PC) (v : Option Value) (h' : PH), y < 259 → exec sc f d y g = some (v, h') → (mR y = some .int → ∃ x, v = some (.int x)) ∧ (mR y = some .long → ∃ x, v = some (.long x)) := by
  intro f
  induction f with
  | zero => intro d y g v h' hy he; cases he
  | succ f ih =>
    intro d y g v h' hy he
    obtain ⟨pc, ls, st, h⟩ := g
    unfold exec at he
    split at he
    · cases he
    next r hr =>
      rcases stp_cases hy hr with ⟨g', e1, -⟩ | ⟨v', e1, -, e3⟩ | ⟨_, _, _, e1, -⟩
      · cases e1
      · cases e1
        cases he
        rcases e3 with ⟨x, rfl, -, e5⟩ | ⟨x, rfl, -, e5⟩ | ⟨rfl, -, e5⟩
        · exact ⟨fun _ => ⟨x, rfl⟩, fun q => by rcases e5 with e5 | ⟨e5, -⟩ <;> rw [q] at e5 <;> cases e5⟩
        · exact ⟨fun q => (by rw [q] at e5; cases e5), fun _ => ⟨x, rfl⟩⟩
        · exact ⟨fun q => (by rw [q] at e5; cases e5), fun q => (by rw [q] at e5; cases e5)⟩
      · cases e1
    next g' hr => exact ih _ _ _ _ _ hy he
    next y' as pc' ls' st' h1 hr =>
      split at he
      · cases he
      · split at he
        · cases he
        · exact ih _ _ _ _ _ hy he
theorem okp_up {h1 : PH} (h : 164 ≤ hN h1) : okp h1 124 10 = true := by
  unfold okp
  rw [decide_eq_true (Nat.lt_of_lt_of_le (by decide) h), decide_eq_true (show 124 < 1000 by decide), decide_eq_true (show TG 124 = 10 from rfl)]
  rfl
theorem both_I {yc ym : Nat} {as : List Value} {K : PRes → Prop} (hb : Both sc yc ym as h) (hn : hN h = 164) (hy : yc < 259) (hr : mR yc = some .int) (hK : ∀ (x : Int32) (h1 : PH), okp h1 124 10 = true → Tr sc 19 ym (ent0 ym (.ref 124 :: as) h1) (fun r2 => r2.1 = some (.int x) ∧ CM r2.2) → K (some (.int x), h1)) : Tr sc 19 yc (ent0 yc (.ref 0 :: as) h) K := by
  obtain ⟨f, r1, e1, f2, r2, e2, ⟨v, v1, v2⟩, hc⟩ := hb
  obtain ⟨a1, h1⟩ := r1
  obtain ⟨x, hx⟩ := (ex_int _ _ _ _ _ _ hy e1).1 hr
  refine ⟨f, (a1, h1), e1, ?_⟩
  simp only at v1 hx
  subst hx
  refine hK x h1 (okp_up (Nat.le_trans (Nat.le_of_eq hn.symm) (ex_mono _ _ _ _ _ _ hy e1))) ⟨f2, r2, e2, ?_, hc⟩
  rw [v2, ← v1]
theorem both_L {yc ym : Nat} {as : List Value} {K : PRes → Prop} (hb : Both sc yc ym as h) (hn : hN h = 164) (hy : yc < 259) (hr : mR yc = some .long) (hK : ∀ (x : Int64) (h1 : PH), okp h1 124 10 = true → Tr sc 19 ym (ent0 ym (.ref 124 :: as) h1) (fun r2 => r2.1 = some (.long x) ∧ CM r2.2) → K (some (.long x), h1)) : Tr sc 19 yc (ent0 yc (.ref 0 :: as) h) K := by
  obtain ⟨f, r1, e1, f2, r2, e2, ⟨v, v1, v2⟩, hc⟩ := hb
  obtain ⟨a1, h1⟩ := r1
  obtain ⟨x, hx⟩ := (ex_int _ _ _ _ _ _ hy e1).2 hr
  refine ⟨f, (a1, h1), e1, ?_⟩
  simp only at v1 hx
  subst hx
  refine hK x h1 (okp_up (Nat.le_trans (Nat.le_of_eq hn.symm) (ex_mono _ _ _ _ _ _ hy e1))) ⟨f2, r2, e2, ?_, hc⟩
  rw [v2, ← v1]
theorem iOk_sc {i : Int32} : iOk sc h 1004 i = (inb i sc.1 = true) := rfl
theorem iRd_sc {i : Int32} : iRd sc h 1004 i = sc.2 i.toNatClampNeg := rfl
theorem lcmp_eq (x : Int64) : lg_cmp x x = 0 := by unfold lg_cmp; rw [if_neg (show ¬ x > x from Int64.lt_irrefl), if_pos rfl]

/-- class and model answer alike, whatever the call -/
def AllB (sc : Nat × (Nat → Int32)) : Prop := ∀ h, CM h → True ∧ (∀ a0 a1 : Int32, Both sc 96 164 [.int a0, .int a1] h) ∧ (∀ a0 a1 a2 : Int32, Both sc 97 165 [.int a0, .int a1, .int a2] h) ∧ (∀ a0 : Int32, Both sc 98 166 [.int a0] h) ∧ (∀ a0 a1 a2 a3 a4 : Int32, Both sc 99 167 [.int a0, .int a1, .int a2, .int a3, .int a4] h) ∧ (∀ a0 : Int32, Both sc 100 168 [.int a0] h) ∧ (∀ a0 a1 : Int32, Both sc 101 169 [.int a0, .int a1] h) ∧ (∀ a0 a1 a2 : Int32, Both sc 102 170 [.int a0, .int a1, .int a2] h) ∧ (∀ a0 : Int32, Both sc 103 174 [.int a0] h) ∧ (∀ a0 a1 : Int32, Both sc 104 180 [.int a0, .int a1] h) ∧ (∀ a0 a1 a2 : Int32, Both sc 105 187 [.int a0, .int a1, .int a2] h) ∧ (∀ a0 a1 a2 : Int32, Both sc 106 188 [.int a0, .int a1, .int a2] h) ∧ (∀ a0 a1 : Int32, Both sc 107 189 [.int a0, .int a1] h) ∧ (∀ a0 : Int32, Both sc 108 190 [.int a0] h) ∧ (∀ a0 a1 : Int32, Both sc 109 191 [.int a0, .int a1] h) ∧ (∀ a0 a1 a2 : Int32, Both sc 110 192 [.int a0, .int a1, .int a2] h) ∧ (∀ a0 a1 : Int32, Both sc 111 194 [.int a0, .int a1] h) ∧ (∀ a0 a1 a2 a3 : Int32, (a3 = 0 ∨ a3 = 1) → Both sc 112 198 [.int a0, .int a1, .int a2, .int a3] h) ∧ (∀ a0 a1 a2 a3 a4 : Int32, (a4 = 0 ∨ a4 = 1) → Both sc 113 199 [.int a0, .int a1, .int a2, .int a3, .int a4] h) ∧ (∀ a0 a1 : Int32, Both sc 114 200 [.int a0, .int a1] h) ∧ (∀ a0 a1 : Int32, Both sc 115 206 [.int a0, .int a1] h) ∧ (∀ a0 a1 a2 a3 : Int32, Both sc 116 207 [.int a0, .int a1, .int a2, .int a3] h) ∧ (∀ a0 a1 a2 : Int32, Both sc 117 208 [.int a0, .int a1, .int a2] h) ∧ (∀ a0 : Int32, Both sc 118 209 [.int a0] h) ∧ (∀ a0 : Int32, Both sc 119 218 [.int a0] h) ∧ (∀ a0 a1 a2 : Int32, Both sc 120 219 [.int a0, .int a1, .int a2] h) ∧ (∀ a0 a1 : Int32, Both sc 121 221 [.int a0, .int a1] h) ∧ (∀ a0 : Int32, Both sc 122 222 [.int a0] h) ∧ (∀ a0 a1 : Int32, Both sc 123 227 [.int a0, .int a1] h) ∧ (∀ a0 a1 : Int32, Both sc 124 228 [.int a0, .int a1] h) ∧ (∀ a0 a1 a2 a3 : Int32, Both sc 125 232 [.int a0, .int a1, .int a2, .int a3] h) ∧ (∀ a0 a1 : Int32, Both sc 126 234 [.int a0, .int a1] h) ∧ (∀ a0 a1 : Int32, (a1 = 0 ∨ a1 = 1) → Both sc 127 235 [.int a0, .int a1] h) ∧ (∀ a0 a1 a2 a3 : Int32, Both sc 128 236 [.int a0, .int a1, .int a2, .int a3] h) ∧ (∀ a0 a1 : Int32, Both sc 129 237 [.int a0, .int a1] h) ∧ (∀ a0 a1 a2 : Int32, Both sc 130 239 [.int a0, .int a1, .int a2] h) ∧ (∀ a0 a1 a2 : Int32, Both sc 131 240 [.int a0, .int a1, .int a2] h) ∧ Both sc 132 241 [] h ∧ Both sc 133 242 [] h ∧ Both sc 134 243 [] h ∧ Both sc 135 244 [] h ∧ (∀ a0 : Int32, Both sc 136 245 [.int a0] h) ∧ Both sc 137 246 [] h ∧ (∀ a0 : Int32, Both sc 138 247 [.int a0] h) ∧ Both sc 139 250 [] h
theorem k_258_33 : lk 258 33 = some (.tableswitch 1715 0 43 #[191, 224, 267, 290, 353, 376, 409, 452, 475, 508, 551, 594, 627, 650, 683, 726, 759, 828, 907, 940, 973, 1026, 1069, 1092, 1115, 1158, 1191, 1214, 1247, 1280, 1333, 1366, 1415, 1468, 1501, 1544, 1587, 1601, 1614, 1628, 1642, 1665, 1678, 1701], 224, 0, 0, .null) := by decide +kernel
theorem sw_0 {l0 l1 l2 l3 : Option Value} : Tr sc d 258 (33, [l0, l1, l2, l3], [.int (nI 0)], h) Q = Tr sc d 258 (224, [l0, l1, l2, l3], [], h) Q := t_go k_258_33 rfl
theorem sw_1 {l0 l1 l2 l3 : Option Value} : Tr sc d 258 (33, [l0, l1, l2, l3], [.int (nI 1)], h) Q = Tr sc d 258 (257, [l0, l1, l2, l3], [], h) Q := t_go k_258_33 rfl
theorem sw_2 {l0 l1 l2 l3 : Option Value} : Tr sc d 258 (33, [l0, l1, l2, l3], [.int (nI 2)], h) Q = Tr sc d 258 (300, [l0, l1, l2, l3], [], h) Q := t_go k_258_33 rfl
theorem sw_3 {l0 l1 l2 l3 : Option Value} : Tr sc d 258 (33, [l0, l1, l2, l3], [.int (nI 3)], h) Q = Tr sc d 258 (323, [l0, l1, l2, l3], [], h) Q := t_go k_258_33 rfl
theorem sw_4 {l0 l1 l2 l3 : Option Value} : Tr sc d 258 (33, [l0, l1, l2, l3], [.int (nI 4)], h) Q = Tr sc d 258 (386, [l0, l1, l2, l3], [], h) Q := t_go k_258_33 rfl
theorem sw_5 {l0 l1 l2 l3 : Option Value} : Tr sc d 258 (33, [l0, l1, l2, l3], [.int (nI 5)], h) Q = Tr sc d 258 (409, [l0, l1, l2, l3], [], h) Q := t_go k_258_33 rfl
theorem sw_6 {l0 l1 l2 l3 : Option Value} : Tr sc d 258 (33, [l0, l1, l2, l3], [.int (nI 6)], h) Q = Tr sc d 258 (442, [l0, l1, l2, l3], [], h) Q := t_go k_258_33 rfl
theorem sw_7 {l0 l1 l2 l3 : Option Value} : Tr sc d 258 (33, [l0, l1, l2, l3], [.int (nI 7)], h) Q = Tr sc d 258 (485, [l0, l1, l2, l3], [], h) Q := t_go k_258_33 rfl
theorem sw_8 {l0 l1 l2 l3 : Option Value} : Tr sc d 258 (33, [l0, l1, l2, l3], [.int (nI 8)], h) Q = Tr sc d 258 (508, [l0, l1, l2, l3], [], h) Q := t_go k_258_33 rfl
theorem sw_9 {l0 l1 l2 l3 : Option Value} : Tr sc d 258 (33, [l0, l1, l2, l3], [.int (nI 9)], h) Q = Tr sc d 258 (541, [l0, l1, l2, l3], [], h) Q := t_go k_258_33 rfl
theorem sw_10 {l0 l1 l2 l3 : Option Value} : Tr sc d 258 (33, [l0, l1, l2, l3], [.int (nI 10)], h) Q = Tr sc d 258 (584, [l0, l1, l2, l3], [], h) Q := t_go k_258_33 rfl
theorem sw_11 {l0 l1 l2 l3 : Option Value} : Tr sc d 258 (33, [l0, l1, l2, l3], [.int (nI 11)], h) Q = Tr sc d 258 (627, [l0, l1, l2, l3], [], h) Q := t_go k_258_33 rfl
theorem sw_12 {l0 l1 l2 l3 : Option Value} : Tr sc d 258 (33, [l0, l1, l2, l3], [.int (nI 12)], h) Q = Tr sc d 258 (660, [l0, l1, l2, l3], [], h) Q := t_go k_258_33 rfl
theorem sw_13 {l0 l1 l2 l3 : Option Value} : Tr sc d 258 (33, [l0, l1, l2, l3], [.int (nI 13)], h) Q = Tr sc d 258 (683, [l0, l1, l2, l3], [], h) Q := t_go k_258_33 rfl
theorem sw_14 {l0 l1 l2 l3 : Option Value} : Tr sc d 258 (33, [l0, l1, l2, l3], [.int (nI 14)], h) Q = Tr sc d 258 (716, [l0, l1, l2, l3], [], h) Q := t_go k_258_33 rfl
theorem sw_15 {l0 l1 l2 l3 : Option Value} : Tr sc d 258 (33, [l0, l1, l2, l3], [.int (nI 15)], h) Q = Tr sc d 258 (759, [l0, l1, l2, l3], [], h) Q := t_go k_258_33 rfl
theorem sw_16 {l0 l1 l2 l3 : Option Value} : Tr sc d 258 (33, [l0, l1, l2, l3], [.int (nI 16)], h) Q = Tr sc d 258 (792, [l0, l1, l2, l3], [], h) Q := t_go k_258_33 rfl
theorem sw_17 {l0 l1 l2 l3 : Option Value} : Tr sc d 258 (33, [l0, l1, l2, l3], [.int (nI 17)], h) Q = Tr sc d 258 (861, [l0, l1, l2, l3], [], h) Q := t_go k_258_33 rfl
theorem sw_18 {l0 l1 l2 l3 : Option Value} : Tr sc d 258 (33, [l0, l1, l2, l3], [.int (nI 18)], h) Q = Tr sc d 258 (940, [l0, l1, l2, l3], [], h) Q := t_go k_258_33 rfl
theorem sw_19 {l0 l1 l2 l3 : Option Value} : Tr sc d 258 (33, [l0, l1, l2, l3], [.int (nI 19)], h) Q = Tr sc d 258 (973, [l0, l1, l2, l3], [], h) Q := t_go k_258_33 rfl
theorem sw_20 {l0 l1 l2 l3 : Option Value} : Tr sc d 258 (33, [l0, l1, l2, l3], [.int (nI 20)], h) Q = Tr sc d 258 (1006, [l0, l1, l2, l3], [], h) Q := t_go k_258_33 rfl
theorem sw_21 {l0 l1 l2 l3 : Option Value} : Tr sc d 258 (33, [l0, l1, l2, l3], [.int (nI 21)], h) Q = Tr sc d 258 (1059, [l0, l1, l2, l3], [], h) Q := t_go k_258_33 rfl
theorem sw_22 {l0 l1 l2 l3 : Option Value} : Tr sc d 258 (33, [l0, l1, l2, l3], [.int (nI 22)], h) Q = Tr sc d 258 (1102, [l0, l1, l2, l3], [], h) Q := t_go k_258_33 rfl
theorem sw_23 {l0 l1 l2 l3 : Option Value} : Tr sc d 258 (33, [l0, l1, l2, l3], [.int (nI 23)], h) Q = Tr sc d 258 (1125, [l0, l1, l2, l3], [], h) Q := t_go k_258_33 rfl
theorem sw_24 {l0 l1 l2 l3 : Option Value} : Tr sc d 258 (33, [l0, l1, l2, l3], [.int (nI 24)], h) Q = Tr sc d 258 (1148, [l0, l1, l2, l3], [], h) Q := t_go k_258_33 rfl
theorem sw_25 {l0 l1 l2 l3 : Option Value} : Tr sc d 258 (33, [l0, l1, l2, l3], [.int (nI 25)], h) Q = Tr sc d 258 (1191, [l0, l1, l2, l3], [], h) Q := t_go k_258_33 rfl
theorem sw_26 {l0 l1 l2 l3 : Option Value} : Tr sc d 258 (33, [l0, l1, l2, l3], [.int (nI 26)], h) Q = Tr sc d 258 (1224, [l0, l1, l2, l3], [], h) Q := t_go k_258_33 rfl
theorem sw_27 {l0 l1 l2 l3 : Option Value} : Tr sc d 258 (33, [l0, l1, l2, l3], [.int (nI 27)], h) Q = Tr sc d 258 (1247, [l0, l1, l2, l3], [], h) Q := t_go k_258_33 rfl
theorem sw_28 {l0 l1 l2 l3 : Option Value} : Tr sc d 258 (33, [l0, l1, l2, l3], [.int (nI 28)], h) Q = Tr sc d 258 (1280, [l0, l1, l2, l3], [], h) Q := t_go k_258_33 rfl
theorem sw_29 {l0 l1 l2 l3 : Option Value} : Tr sc d 258 (33, [l0, l1, l2, l3], [.int (nI 29)], h) Q = Tr sc d 258 (1313, [l0, l1, l2, l3], [], h) Q := t_go k_258_33 rfl
theorem sw_30 {l0 l1 l2 l3 : Option Value} : Tr sc d 258 (33, [l0, l1, l2, l3], [.int (nI 30)], h) Q = Tr sc d 258 (1366, [l0, l1, l2, l3], [], h) Q := t_go k_258_33 rfl
theorem sw_31 {l0 l1 l2 l3 : Option Value} : Tr sc d 258 (33, [l0, l1, l2, l3], [.int (nI 31)], h) Q = Tr sc d 258 (1399, [l0, l1, l2, l3], [], h) Q := t_go k_258_33 rfl
theorem sw_32 {l0 l1 l2 l3 : Option Value} : Tr sc d 258 (33, [l0, l1, l2, l3], [.int (nI 32)], h) Q = Tr sc d 258 (1448, [l0, l1, l2, l3], [], h) Q := t_go k_258_33 rfl
theorem sw_33 {l0 l1 l2 l3 : Option Value} : Tr sc d 258 (33, [l0, l1, l2, l3], [.int (nI 33)], h) Q = Tr sc d 258 (1501, [l0, l1, l2, l3], [], h) Q := t_go k_258_33 rfl
theorem sw_34 {l0 l1 l2 l3 : Option Value} : Tr sc d 258 (33, [l0, l1, l2, l3], [.int (nI 34)], h) Q = Tr sc d 258 (1534, [l0, l1, l2, l3], [], h) Q := t_go k_258_33 rfl
theorem sw_35 {l0 l1 l2 l3 : Option Value} : Tr sc d 258 (33, [l0, l1, l2, l3], [.int (nI 35)], h) Q = Tr sc d 258 (1577, [l0, l1, l2, l3], [], h) Q := t_go k_258_33 rfl
theorem sw_36 {l0 l1 l2 l3 : Option Value} : Tr sc d 258 (33, [l0, l1, l2, l3], [.int (nI 36)], h) Q = Tr sc d 258 (1620, [l0, l1, l2, l3], [], h) Q := t_go k_258_33 rfl
theorem sw_37 {l0 l1 l2 l3 : Option Value} : Tr sc d 258 (33, [l0, l1, l2, l3], [.int (nI 37)], h) Q = Tr sc d 258 (1634, [l0, l1, l2, l3], [], h) Q := t_go k_258_33 rfl
theorem sw_38 {l0 l1 l2 l3 : Option Value} : Tr sc d 258 (33, [l0, l1, l2, l3], [.int (nI 38)], h) Q = Tr sc d 258 (1647, [l0, l1, l2, l3], [], h) Q := t_go k_258_33 rfl
theorem sw_39 {l0 l1 l2 l3 : Option Value} : Tr sc d 258 (33, [l0, l1, l2, l3], [.int (nI 39)], h) Q = Tr sc d 258 (1661, [l0, l1, l2, l3], [], h) Q := t_go k_258_33 rfl
theorem sw_40 {l0 l1 l2 l3 : Option Value} : Tr sc d 258 (33, [l0, l1, l2, l3], [.int (nI 40)], h) Q = Tr sc d 258 (1675, [l0, l1, l2, l3], [], h) Q := t_go k_258_33 rfl
theorem sw_41 {l0 l1 l2 l3 : Option Value} : Tr sc d 258 (33, [l0, l1, l2, l3], [.int (nI 41)], h) Q = Tr sc d 258 (1698, [l0, l1, l2, l3], [], h) Q := t_go k_258_33 rfl
theorem sw_42 {l0 l1 l2 l3 : Option Value} : Tr sc d 258 (33, [l0, l1, l2, l3], [.int (nI 42)], h) Q = Tr sc d 258 (1711, [l0, l1, l2, l3], [], h) Q := t_go k_258_33 rfl
theorem sw_43 {l0 l1 l2 l3 : Option Value} : Tr sc d 258 (33, [l0, l1, l2, l3], [.int (nI 43)], h) Q = Tr sc d 258 (1734, [l0, l1, l2, l3], [], h) Q := t_go k_258_33 rfl
theorem sw_44 {l0 l1 l2 l3 : Option Value} : Tr sc d 258 (33, [l0, l1, l2, l3], [.int (nI 44)], h) Q = Tr sc d 258 (1748, [l0, l1, l2, l3], [], h) Q := t_go k_258_33 rfl
theorem sw_45 {l0 l1 l2 l3 : Option Value} : Tr sc d 258 (33, [l0, l1, l2, l3], [.int (nI 45)], h) Q = Tr sc d 258 (1748, [l0, l1, l2, l3], [], h) Q := t_go k_258_33 rfl
theorem sw_46 {l0 l1 l2 l3 : Option Value} : Tr sc d 258 (33, [l0, l1, l2, l3], [.int (nI 46)], h) Q = Tr sc d 258 (1748, [l0, l1, l2, l3], [], h) Q := t_go k_258_33 rfl
theorem sw_47 {l0 l1 l2 l3 : Option Value} : Tr sc d 258 (33, [l0, l1, l2, l3], [.int (nI 47)], h) Q = Tr sc d 258 (1748, [l0, l1, l2, l3], [], h) Q := t_go k_258_33 rfl
theorem sw_48 {l0 l1 l2 l3 : Option Value} : Tr sc d 258 (33, [l0, l1, l2, l3], [.int (nI 48)], h) Q = Tr sc d 258 (1748, [l0, l1, l2, l3], [], h) Q := t_go k_258_33 rfl
theorem sw_49 {l0 l1 l2 l3 : Option Value} : Tr sc d 258 (33, [l0, l1, l2, l3], [.int (nI 49)], h) Q = Tr sc d 258 (1748, [l0, l1, l2, l3], [], h) Q := t_go k_258_33 rfl
theorem sw_50 {l0 l1 l2 l3 : Option Value} : Tr sc d 258 (33, [l0, l1, l2, l3], [.int (nI 50)], h) Q = Tr sc d 258 (1748, [l0, l1, l2, l3], [], h) Q := t_go k_258_33 rfl
theorem sw_51 {l0 l1 l2 l3 : Option Value} : Tr sc d 258 (33, [l0, l1, l2, l3], [.int (nI 51)], h) Q = Tr sc d 258 (1748, [l0, l1, l2, l3], [], h) Q := t_go k_258_33 rfl
theorem sw_52 {l0 l1 l2 l3 : Option Value} : Tr sc d 258 (33, [l0, l1, l2, l3], [.int (nI 52)], h) Q = Tr sc d 258 (1748, [l0, l1, l2, l3], [], h) Q := t_go k_258_33 rfl
theorem sw_53 {l0 l1 l2 l3 : Option Value} : Tr sc d 258 (33, [l0, l1, l2, l3], [.int (nI 53)], h) Q = Tr sc d 258 (1748, [l0, l1, l2, l3], [], h) Q := t_go k_258_33 rfl
theorem sw_54 {l0 l1 l2 l3 : Option Value} : Tr sc d 258 (33, [l0, l1, l2, l3], [.int (nI 54)], h) Q = Tr sc d 258 (1748, [l0, l1, l2, l3], [], h) Q := t_go k_258_33 rfl
theorem sw_55 {l0 l1 l2 l3 : Option Value} : Tr sc d 258 (33, [l0, l1, l2, l3], [.int (nI 55)], h) Q = Tr sc d 258 (1748, [l0, l1, l2, l3], [], h) Q := t_go k_258_33 rfl
theorem sw_56 {l0 l1 l2 l3 : Option Value} : Tr sc d 258 (33, [l0, l1, l2, l3], [.int (nI 56)], h) Q = Tr sc d 258 (1748, [l0, l1, l2, l3], [], h) Q := t_go k_258_33 rfl
theorem sw_57 {l0 l1 l2 l3 : Option Value} : Tr sc d 258 (33, [l0, l1, l2, l3], [.int (nI 57)], h) Q = Tr sc d 258 (1748, [l0, l1, l2, l3], [], h) Q := t_go k_258_33 rfl
theorem sw_58 {l0 l1 l2 l3 : Option Value} : Tr sc d 258 (33, [l0, l1, l2, l3], [.int (nI 58)], h) Q = Tr sc d 258 (1748, [l0, l1, l2, l3], [], h) Q := t_go k_258_33 rfl
theorem sw_59 {l0 l1 l2 l3 : Option Value} : Tr sc d 258 (33, [l0, l1, l2, l3], [.int (nI 59)], h) Q = Tr sc d 258 (1748, [l0, l1, l2, l3], [], h) Q := t_go k_258_33 rfl
theorem sw_60 {l0 l1 l2 l3 : Option Value} : Tr sc d 258 (33, [l0, l1, l2, l3], [.int (nI 60)], h) Q = Tr sc d 258 (1748, [l0, l1, l2, l3], [], h) Q := t_go k_258_33 rfl
theorem sw_61 {l0 l1 l2 l3 : Option Value} : Tr sc d 258 (33, [l0, l1, l2, l3], [.int (nI 61)], h) Q = Tr sc d 258 (1748, [l0, l1, l2, l3], [], h) Q := t_go k_258_33 rfl
theorem sw_62 {l0 l1 l2 l3 : Option Value} : Tr sc d 258 (33, [l0, l1, l2, l3], [.int (nI 62)], h) Q = Tr sc d 258 (1748, [l0, l1, l2, l3], [], h) Q := t_go k_258_33 rfl
theorem sw_63 {l0 l1 l2 l3 : Option Value} : Tr sc d 258 (33, [l0, l1, l2, l3], [.int (nI 63)], h) Q = Tr sc d 258 (1748, [l0, l1, l2, l3], [], h) Q := t_go k_258_33 rfl
/-- the loop's foot -/
theorem lw_foot {i : Nat} (K : ∀ h, CM h → Tr sc 20 258 (18, [some (.ref 1004), some (.ref 0), some (.ref 124), some (.int (nI (i + 6)))], [], h) Q) (hc : CM h) : Tr sc 20 258 (1748, [some (.ref 1004), some (.ref 0), some (.ref 124), some (.int (nI i))], [], h) Q := by
  simp only [x_258_1748, x_258_1751, cl2_r]
  rw [show nI i + 6 = nI (i + 6) from nI_add i 6]
  exact K h hc
set_option maxHeartbeats 1000000 in
theorem blk_0 {i : Nat} (hB : AllB sc) (hL : sc.1 ≤ 3072) (hi : i + 6 ≤ sc.1) (hc : CM h) (K : ∀ h, CM h → Tr sc 20 258 (18, [some (.ref 1004), some (.ref 0), some (.ref 124), some (.int (nI (i + 6)))], [], h) Q) : Tr sc 20 258 (224, [some (.ref 1004), some (.ref 0), some (.ref 124), some (.int (nI i))], [], h) Q := by
  have hw := hc.1
  have hB := hB h hc
  simp only [x_258_224, x_258_225, x_258_226, x_258_227, x_258_228, x_258_229, x_258_230, x_258_231, x_258_232, x_258_233, x_258_234, x_258_235, iOk_sc, iRd_sc, true_and, cl2_r, show (nI i + 1 : Int32) = nI (i + 1) from nI_add i 1, inb_nI (n := sc.1) (i := i + 1) (by omega) (by omega), nI_clamp (n := i + 1) (by omega), show (nI i + 2 : Int32) = nI (i + 2) from nI_add i 2, inb_nI (n := sc.1) (i := i + 2) (by omega) (by omega), nI_clamp (n := i + 2) (by omega), o_0 hw]
  refine both_I (hB.2.1 (sc.2 (i + 1)) (sc.2 (i + 2))) hw.1 (by decide) r_96 (fun x h1 ho ht => ?_)
  simp only [tl_s, x_258_238, x_258_239, x_258_240, x_258_241, x_258_242, x_258_243, x_258_244, x_258_245, x_258_246, x_258_247, x_258_248, x_258_249, iOk_sc, iRd_sc, true_and, cl2_r, show (nI i + 1 : Int32) = nI (i + 1) from nI_add i 1, inb_nI (n := sc.1) (i := i + 1) (by omega) (by omega), nI_clamp (n := i + 1) (by omega), show (nI i + 2 : Int32) = nI (i + 2) from nI_add i 2, inb_nI (n := sc.1) (i := i + 2) (by omega) (by omega), nI_clamp (n := i + 2) (by omega), ho]
  refine Tr_mono ht (fun r2 hr => ?_)
  obtain ⟨a2, h2⟩ := r2
  obtain ⟨e1, c2⟩ := hr
  simp only at e1 c2
  subst e1
  simp only [tl_s, x_258_252, x_258_255, x_258_256, if_true]
  exact lw_foot K c2
set_option maxHeartbeats 1000000 in
theorem blk_1 {i : Nat} (hB : AllB sc) (hL : sc.1 ≤ 3072) (hi : i + 6 ≤ sc.1) (hc : CM h) (K : ∀ h, CM h → Tr sc 20 258 (18, [some (.ref 1004), some (.ref 0), some (.ref 124), some (.int (nI (i + 6)))], [], h) Q) : Tr sc 20 258 (257, [some (.ref 1004), some (.ref 0), some (.ref 124), some (.int (nI i))], [], h) Q := by
  have hw := hc.1
  have hB := hB h hc
  simp only [x_258_257, x_258_258, x_258_259, x_258_260, x_258_261, x_258_262, x_258_263, x_258_264, x_258_265, x_258_266, x_258_267, x_258_268, x_258_269, x_258_270, x_258_271, x_258_272, x_258_273, iOk_sc, iRd_sc, true_and, cl2_r, show (nI i + 1 : Int32) = nI (i + 1) from nI_add i 1, inb_nI (n := sc.1) (i := i + 1) (by omega) (by omega), nI_clamp (n := i + 1) (by omega), show (nI i + 2 : Int32) = nI (i + 2) from nI_add i 2, inb_nI (n := sc.1) (i := i + 2) (by omega) (by omega), nI_clamp (n := i + 2) (by omega), show (nI i + 3 : Int32) = nI (i + 3) from nI_add i 3, inb_nI (n := sc.1) (i := i + 3) (by omega) (by omega), nI_clamp (n := i + 3) (by omega), o_0 hw]
  refine both_I (hB.2.2.1 (sc.2 (i + 1)) (sc.2 (i + 2)) (sc.2 (i + 3))) hw.1 (by decide) r_97 (fun x h1 ho ht => ?_)
  simp only [tl_s, x_258_276, x_258_277, x_258_278, x_258_279, x_258_280, x_258_281, x_258_282, x_258_283, x_258_284, x_258_285, x_258_286, x_258_287, x_258_288, x_258_289, x_258_290, x_258_291, x_258_292, iOk_sc, iRd_sc, true_and, cl2_r, show (nI i + 1 : Int32) = nI (i + 1) from nI_add i 1, inb_nI (n := sc.1) (i := i + 1) (by omega) (by omega), nI_clamp (n := i + 1) (by omega), show (nI i + 2 : Int32) = nI (i + 2) from nI_add i 2, inb_nI (n := sc.1) (i := i + 2) (by omega) (by omega), nI_clamp (n := i + 2) (by omega), show (nI i + 3 : Int32) = nI (i + 3) from nI_add i 3, inb_nI (n := sc.1) (i := i + 3) (by omega) (by omega), nI_clamp (n := i + 3) (by omega), ho]
  refine Tr_mono ht (fun r2 hr => ?_)
  obtain ⟨a2, h2⟩ := r2
  obtain ⟨e1, c2⟩ := hr
  simp only at e1 c2
  subst e1
  simp only [tl_s, x_258_295, x_258_298, x_258_299, if_true]
  exact lw_foot K c2
set_option maxHeartbeats 1000000 in
theorem blk_2 {i : Nat} (hB : AllB sc) (hL : sc.1 ≤ 3072) (hi : i + 6 ≤ sc.1) (hc : CM h) (K : ∀ h, CM h → Tr sc 20 258 (18, [some (.ref 1004), some (.ref 0), some (.ref 124), some (.int (nI (i + 6)))], [], h) Q) : Tr sc 20 258 (300, [some (.ref 1004), some (.ref 0), some (.ref 124), some (.int (nI i))], [], h) Q := by
  have hw := hc.1
  have hB := hB h hc
  simp only [x_258_300, x_258_301, x_258_302, x_258_303, x_258_304, x_258_305, x_258_306, iOk_sc, iRd_sc, true_and, cl2_r, show (nI i + 1 : Int32) = nI (i + 1) from nI_add i 1, inb_nI (n := sc.1) (i := i + 1) (by omega) (by omega), nI_clamp (n := i + 1) (by omega), o_0 hw]
  refine both_I (hB.2.2.2.1 (sc.2 (i + 1))) hw.1 (by decide) r_98 (fun x h1 ho ht => ?_)
  simp only [tl_s, x_258_309, x_258_310, x_258_311, x_258_312, x_258_313, x_258_314, x_258_315, iOk_sc, iRd_sc, true_and, cl2_r, show (nI i + 1 : Int32) = nI (i + 1) from nI_add i 1, inb_nI (n := sc.1) (i := i + 1) (by omega) (by omega), nI_clamp (n := i + 1) (by omega), ho]
  refine Tr_mono ht (fun r2 hr => ?_)
  obtain ⟨a2, h2⟩ := r2
  obtain ⟨e1, c2⟩ := hr
  simp only at e1 c2
  subst e1
  simp only [tl_s, x_258_318, x_258_321, x_258_322, if_true]
  exact lw_foot K c2
set_option maxHeartbeats 1000000 in
theorem blk_3 {i : Nat} (hB : AllB sc) (hL : sc.1 ≤ 3072) (hi : i + 6 ≤ sc.1) (hc : CM h) (K : ∀ h, CM h → Tr sc 20 258 (18, [some (.ref 1004), some (.ref 0), some (.ref 124), some (.int (nI (i + 6)))], [], h) Q) : Tr sc 20 258 (323, [some (.ref 1004), some (.ref 0), some (.ref 124), some (.int (nI i))], [], h) Q := by
  have hw := hc.1
  have hB := hB h hc
  simp only [x_258_323, x_258_324, x_258_325, x_258_326, x_258_327, x_258_328, x_258_329, x_258_330, x_258_331, x_258_332, x_258_333, x_258_334, x_258_335, x_258_336, x_258_337, x_258_338, x_258_339, x_258_340, x_258_341, x_258_342, x_258_343, x_258_344, x_258_345, x_258_346, x_258_347, x_258_348, x_258_349, iOk_sc, iRd_sc, true_and, cl2_r, show (nI i + 1 : Int32) = nI (i + 1) from nI_add i 1, inb_nI (n := sc.1) (i := i + 1) (by omega) (by omega), nI_clamp (n := i + 1) (by omega), show (nI i + 2 : Int32) = nI (i + 2) from nI_add i 2, inb_nI (n := sc.1) (i := i + 2) (by omega) (by omega), nI_clamp (n := i + 2) (by omega), show (nI i + 3 : Int32) = nI (i + 3) from nI_add i 3, inb_nI (n := sc.1) (i := i + 3) (by omega) (by omega), nI_clamp (n := i + 3) (by omega), show (nI i + 4 : Int32) = nI (i + 4) from nI_add i 4, inb_nI (n := sc.1) (i := i + 4) (by omega) (by omega), nI_clamp (n := i + 4) (by omega), show (nI i + 5 : Int32) = nI (i + 5) from nI_add i 5, inb_nI (n := sc.1) (i := i + 5) (by omega) (by omega), nI_clamp (n := i + 5) (by omega), o_0 hw]
  refine both_I (hB.2.2.2.2.1 (sc.2 (i + 1)) (sc.2 (i + 2)) (sc.2 (i + 3)) (sc.2 (i + 4)) (sc.2 (i + 5))) hw.1 (by decide) r_99 (fun x h1 ho ht => ?_)
  simp only [tl_s, x_258_352, x_258_353, x_258_354, x_258_355, x_258_356, x_258_357, x_258_358, x_258_359, x_258_360, x_258_361, x_258_362, x_258_363, x_258_364, x_258_365, x_258_366, x_258_367, x_258_368, x_258_369, x_258_370, x_258_371, x_258_372, x_258_373, x_258_374, x_258_375, x_258_376, x_258_377, x_258_378, iOk_sc, iRd_sc, true_and, cl2_r, show (nI i + 1 : Int32) = nI (i + 1) from nI_add i 1, inb_nI (n := sc.1) (i := i + 1) (by omega) (by omega), nI_clamp (n := i + 1) (by omega), show (nI i + 2 : Int32) = nI (i + 2) from nI_add i 2, inb_nI (n := sc.1) (i := i + 2) (by omega) (by omega), nI_clamp (n := i + 2) (by omega), show (nI i + 3 : Int32) = nI (i + 3) from nI_add i 3, inb_nI (n := sc.1) (i := i + 3) (by omega) (by omega), nI_clamp (n := i + 3) (by omega), show (nI i + 4 : Int32) = nI (i + 4) from nI_add i 4, inb_nI (n := sc.1) (i := i + 4) (by omega) (by omega), nI_clamp (n := i + 4) (by omega), show (nI i + 5 : Int32) = nI (i + 5) from nI_add i 5, inb_nI (n := sc.1) (i := i + 5) (by omega) (by omega), nI_clamp (n := i + 5) (by omega), ho]
  refine Tr_mono ht (fun r2 hr => ?_)
  obtain ⟨a2, h2⟩ := r2
  obtain ⟨e1, c2⟩ := hr
  simp only at e1 c2
  subst e1
  simp only [tl_s, x_258_381, x_258_384, x_258_385, if_true]
  exact lw_foot K c2
set_option maxHeartbeats 1000000 in
theorem blk_4 {i : Nat} (hB : AllB sc) (hL : sc.1 ≤ 3072) (hi : i + 6 ≤ sc.1) (hc : CM h) (K : ∀ h, CM h → Tr sc 20 258 (18, [some (.ref 1004), some (.ref 0), some (.ref 124), some (.int (nI (i + 6)))], [], h) Q) : Tr sc 20 258 (386, [some (.ref 1004), some (.ref 0), some (.ref 124), some (.int (nI i))], [], h) Q := by
  have hw := hc.1
  have hB := hB h hc
  simp only [x_258_386, x_258_387, x_258_388, x_258_389, x_258_390, x_258_391, x_258_392, iOk_sc, iRd_sc, true_and, cl2_r, show (nI i + 1 : Int32) = nI (i + 1) from nI_add i 1, inb_nI (n := sc.1) (i := i + 1) (by omega) (by omega), nI_clamp (n := i + 1) (by omega), o_0 hw]
  refine both_I (hB.2.2.2.2.2.1 (sc.2 (i + 1))) hw.1 (by decide) r_100 (fun x h1 ho ht => ?_)
  simp only [tl_s, x_258_395, x_258_396, x_258_397, x_258_398, x_258_399, x_258_400, x_258_401, iOk_sc, iRd_sc, true_and, cl2_r, show (nI i + 1 : Int32) = nI (i + 1) from nI_add i 1, inb_nI (n := sc.1) (i := i + 1) (by omega) (by omega), nI_clamp (n := i + 1) (by omega), ho]
  refine Tr_mono ht (fun r2 hr => ?_)
  obtain ⟨a2, h2⟩ := r2
  obtain ⟨e1, c2⟩ := hr
  simp only at e1 c2
  subst e1
  simp only [tl_s, x_258_404, x_258_407, x_258_408, if_true]
  exact lw_foot K c2
set_option maxHeartbeats 1000000 in
theorem blk_5 {i : Nat} (hB : AllB sc) (hL : sc.1 ≤ 3072) (hi : i + 6 ≤ sc.1) (hc : CM h) (K : ∀ h, CM h → Tr sc 20 258 (18, [some (.ref 1004), some (.ref 0), some (.ref 124), some (.int (nI (i + 6)))], [], h) Q) : Tr sc 20 258 (409, [some (.ref 1004), some (.ref 0), some (.ref 124), some (.int (nI i))], [], h) Q := by
  have hw := hc.1
  have hB := hB h hc
  simp only [x_258_409, x_258_410, x_258_411, x_258_412, x_258_413, x_258_414, x_258_415, x_258_416, x_258_417, x_258_418, x_258_419, x_258_420, iOk_sc, iRd_sc, true_and, cl2_r, show (nI i + 1 : Int32) = nI (i + 1) from nI_add i 1, inb_nI (n := sc.1) (i := i + 1) (by omega) (by omega), nI_clamp (n := i + 1) (by omega), show (nI i + 2 : Int32) = nI (i + 2) from nI_add i 2, inb_nI (n := sc.1) (i := i + 2) (by omega) (by omega), nI_clamp (n := i + 2) (by omega), o_0 hw]
  refine both_I (hB.2.2.2.2.2.2.1 (sc.2 (i + 1)) (sc.2 (i + 2))) hw.1 (by decide) r_101 (fun x h1 ho ht => ?_)
  simp only [tl_s, x_258_423, x_258_424, x_258_425, x_258_426, x_258_427, x_258_428, x_258_429, x_258_430, x_258_431, x_258_432, x_258_433, x_258_434, iOk_sc, iRd_sc, true_and, cl2_r, show (nI i + 1 : Int32) = nI (i + 1) from nI_add i 1, inb_nI (n := sc.1) (i := i + 1) (by omega) (by omega), nI_clamp (n := i + 1) (by omega), show (nI i + 2 : Int32) = nI (i + 2) from nI_add i 2, inb_nI (n := sc.1) (i := i + 2) (by omega) (by omega), nI_clamp (n := i + 2) (by omega), ho]
  refine Tr_mono ht (fun r2 hr => ?_)
  obtain ⟨a2, h2⟩ := r2
  obtain ⟨e1, c2⟩ := hr
  simp only at e1 c2
  subst e1
  simp only [tl_s, x_258_437, x_258_440, x_258_441, if_true]
  exact lw_foot K c2
set_option maxHeartbeats 1000000 in
theorem blk_6 {i : Nat} (hB : AllB sc) (hL : sc.1 ≤ 3072) (hi : i + 6 ≤ sc.1) (hc : CM h) (K : ∀ h, CM h → Tr sc 20 258 (18, [some (.ref 1004), some (.ref 0), some (.ref 124), some (.int (nI (i + 6)))], [], h) Q) : Tr sc 20 258 (442, [some (.ref 1004), some (.ref 0), some (.ref 124), some (.int (nI i))], [], h) Q := by
  have hw := hc.1
  have hB := hB h hc
  simp only [x_258_442, x_258_443, x_258_444, x_258_445, x_258_446, x_258_447, x_258_448, x_258_449, x_258_450, x_258_451, x_258_452, x_258_453, x_258_454, x_258_455, x_258_456, x_258_457, x_258_458, iOk_sc, iRd_sc, true_and, cl2_r, show (nI i + 1 : Int32) = nI (i + 1) from nI_add i 1, inb_nI (n := sc.1) (i := i + 1) (by omega) (by omega), nI_clamp (n := i + 1) (by omega), show (nI i + 2 : Int32) = nI (i + 2) from nI_add i 2, inb_nI (n := sc.1) (i := i + 2) (by omega) (by omega), nI_clamp (n := i + 2) (by omega), show (nI i + 3 : Int32) = nI (i + 3) from nI_add i 3, inb_nI (n := sc.1) (i := i + 3) (by omega) (by omega), nI_clamp (n := i + 3) (by omega), o_0 hw]
  refine both_I (hB.2.2.2.2.2.2.2.1 (sc.2 (i + 1)) (sc.2 (i + 2)) (sc.2 (i + 3))) hw.1 (by decide) r_102 (fun x h1 ho ht => ?_)
  simp only [tl_s, x_258_461, x_258_462, x_258_463, x_258_464, x_258_465, x_258_466, x_258_467, x_258_468, x_258_469, x_258_470, x_258_471, x_258_472, x_258_473, x_258_474, x_258_475, x_258_476, x_258_477, iOk_sc, iRd_sc, true_and, cl2_r, show (nI i + 1 : Int32) = nI (i + 1) from nI_add i 1, inb_nI (n := sc.1) (i := i + 1) (by omega) (by omega), nI_clamp (n := i + 1) (by omega), show (nI i + 2 : Int32) = nI (i + 2) from nI_add i 2, inb_nI (n := sc.1) (i := i + 2) (by omega) (by omega), nI_clamp (n := i + 2) (by omega), show (nI i + 3 : Int32) = nI (i + 3) from nI_add i 3, inb_nI (n := sc.1) (i := i + 3) (by omega) (by omega), nI_clamp (n := i + 3) (by omega), ho]
  refine Tr_mono ht (fun r2 hr => ?_)
  obtain ⟨a2, h2⟩ := r2
  obtain ⟨e1, c2⟩ := hr
  simp only at e1 c2
  subst e1
  simp only [tl_s, x_258_480, x_258_483, x_258_484, if_true]
  exact lw_foot K c2
set_option maxHeartbeats 1000000 in
theorem blk_7 {i : Nat} (hB : AllB sc) (hL : sc.1 ≤ 3072) (hi : i + 6 ≤ sc.1) (hc : CM h) (K : ∀ h, CM h → Tr sc 20 258 (18, [some (.ref 1004), some (.ref 0), some (.ref 124), some (.int (nI (i + 6)))], [], h) Q) : Tr sc 20 258 (485, [some (.ref 1004), some (.ref 0), some (.ref 124), some (.int (nI i))], [], h) Q := by
  have hw := hc.1
  have hB := hB h hc
  simp only [x_258_485, x_258_486, x_258_487, x_258_488, x_258_489, x_258_490, x_258_491, iOk_sc, iRd_sc, true_and, cl2_r, show (nI i + 1 : Int32) = nI (i + 1) from nI_add i 1, inb_nI (n := sc.1) (i := i + 1) (by omega) (by omega), nI_clamp (n := i + 1) (by omega), o_0 hw]
  refine both_I (hB.2.2.2.2.2.2.2.2.1 (sc.2 (i + 1))) hw.1 (by decide) r_103 (fun x h1 ho ht => ?_)
  simp only [tl_s, x_258_494, x_258_495, x_258_496, x_258_497, x_258_498, x_258_499, x_258_500, iOk_sc, iRd_sc, true_and, cl2_r, show (nI i + 1 : Int32) = nI (i + 1) from nI_add i 1, inb_nI (n := sc.1) (i := i + 1) (by omega) (by omega), nI_clamp (n := i + 1) (by omega), ho]
  refine Tr_mono ht (fun r2 hr => ?_)
  obtain ⟨a2, h2⟩ := r2
  obtain ⟨e1, c2⟩ := hr
  simp only at e1 c2
  subst e1
  simp only [tl_s, x_258_503, x_258_506, x_258_507, if_true]
  exact lw_foot K c2
set_option maxHeartbeats 1000000 in
theorem blk_8 {i : Nat} (hB : AllB sc) (hL : sc.1 ≤ 3072) (hi : i + 6 ≤ sc.1) (hc : CM h) (K : ∀ h, CM h → Tr sc 20 258 (18, [some (.ref 1004), some (.ref 0), some (.ref 124), some (.int (nI (i + 6)))], [], h) Q) : Tr sc 20 258 (508, [some (.ref 1004), some (.ref 0), some (.ref 124), some (.int (nI i))], [], h) Q := by
  have hw := hc.1
  have hB := hB h hc
  simp only [x_258_508, x_258_509, x_258_510, x_258_511, x_258_512, x_258_513, x_258_514, x_258_515, x_258_516, x_258_517, x_258_518, x_258_519, iOk_sc, iRd_sc, true_and, cl2_r, show (nI i + 1 : Int32) = nI (i + 1) from nI_add i 1, inb_nI (n := sc.1) (i := i + 1) (by omega) (by omega), nI_clamp (n := i + 1) (by omega), show (nI i + 2 : Int32) = nI (i + 2) from nI_add i 2, inb_nI (n := sc.1) (i := i + 2) (by omega) (by omega), nI_clamp (n := i + 2) (by omega), o_0 hw]
  refine both_I (hB.2.2.2.2.2.2.2.2.2.1 (sc.2 (i + 1)) (sc.2 (i + 2))) hw.1 (by decide) r_104 (fun x h1 ho ht => ?_)
  simp only [tl_s, x_258_522, x_258_523, x_258_524, x_258_525, x_258_526, x_258_527, x_258_528, x_258_529, x_258_530, x_258_531, x_258_532, x_258_533, iOk_sc, iRd_sc, true_and, cl2_r, show (nI i + 1 : Int32) = nI (i + 1) from nI_add i 1, inb_nI (n := sc.1) (i := i + 1) (by omega) (by omega), nI_clamp (n := i + 1) (by omega), show (nI i + 2 : Int32) = nI (i + 2) from nI_add i 2, inb_nI (n := sc.1) (i := i + 2) (by omega) (by omega), nI_clamp (n := i + 2) (by omega), ho]
  refine Tr_mono ht (fun r2 hr => ?_)
  obtain ⟨a2, h2⟩ := r2
  obtain ⟨e1, c2⟩ := hr
  simp only at e1 c2
  subst e1
  simp only [tl_s, x_258_536, x_258_539, x_258_540, if_true]
  exact lw_foot K c2
set_option maxHeartbeats 1000000 in
theorem blk_9 {i : Nat} (hB : AllB sc) (hL : sc.1 ≤ 3072) (hi : i + 6 ≤ sc.1) (hc : CM h) (K : ∀ h, CM h → Tr sc 20 258 (18, [some (.ref 1004), some (.ref 0), some (.ref 124), some (.int (nI (i + 6)))], [], h) Q) : Tr sc 20 258 (541, [some (.ref 1004), some (.ref 0), some (.ref 124), some (.int (nI i))], [], h) Q := by
  have hw := hc.1
  have hB := hB h hc
  simp only [x_258_541, x_258_542, x_258_543, x_258_544, x_258_545, x_258_546, x_258_547, x_258_548, x_258_549, x_258_550, x_258_551, x_258_552, x_258_553, x_258_554, x_258_555, x_258_556, x_258_557, iOk_sc, iRd_sc, true_and, cl2_r, show (nI i + 1 : Int32) = nI (i + 1) from nI_add i 1, inb_nI (n := sc.1) (i := i + 1) (by omega) (by omega), nI_clamp (n := i + 1) (by omega), show (nI i + 2 : Int32) = nI (i + 2) from nI_add i 2, inb_nI (n := sc.1) (i := i + 2) (by omega) (by omega), nI_clamp (n := i + 2) (by omega), show (nI i + 3 : Int32) = nI (i + 3) from nI_add i 3, inb_nI (n := sc.1) (i := i + 3) (by omega) (by omega), nI_clamp (n := i + 3) (by omega), o_0 hw]
  refine both_I (hB.2.2.2.2.2.2.2.2.2.2.1 (sc.2 (i + 1)) (sc.2 (i + 2)) (sc.2 (i + 3))) hw.1 (by decide) r_105 (fun x h1 ho ht => ?_)
  simp only [tl_s, x_258_560, x_258_561, x_258_562, x_258_563, x_258_564, x_258_565, x_258_566, x_258_567, x_258_568, x_258_569, x_258_570, x_258_571, x_258_572, x_258_573, x_258_574, x_258_575, x_258_576, iOk_sc, iRd_sc, true_and, cl2_r, show (nI i + 1 : Int32) = nI (i + 1) from nI_add i 1, inb_nI (n := sc.1) (i := i + 1) (by omega) (by omega), nI_clamp (n := i + 1) (by omega), show (nI i + 2 : Int32) = nI (i + 2) from nI_add i 2, inb_nI (n := sc.1) (i := i + 2) (by omega) (by omega), nI_clamp (n := i + 2) (by omega), show (nI i + 3 : Int32) = nI (i + 3) from nI_add i 3, inb_nI (n := sc.1) (i := i + 3) (by omega) (by omega), nI_clamp (n := i + 3) (by omega), ho]
  refine Tr_mono ht (fun r2 hr => ?_)
  obtain ⟨a2, h2⟩ := r2
  obtain ⟨e1, c2⟩ := hr
  simp only at e1 c2
  subst e1
  simp only [tl_s, x_258_579, x_258_582, x_258_583, if_true]
  exact lw_foot K c2
set_option maxHeartbeats 1000000 in
theorem blk_10 {i : Nat} (hB : AllB sc) (hL : sc.1 ≤ 3072) (hi : i + 6 ≤ sc.1) (hc : CM h) (K : ∀ h, CM h → Tr sc 20 258 (18, [some (.ref 1004), some (.ref 0), some (.ref 124), some (.int (nI (i + 6)))], [], h) Q) : Tr sc 20 258 (584, [some (.ref 1004), some (.ref 0), some (.ref 124), some (.int (nI i))], [], h) Q := by
  have hw := hc.1
  have hB := hB h hc
  simp only [x_258_584, x_258_585, x_258_586, x_258_587, x_258_588, x_258_589, x_258_590, x_258_591, x_258_592, x_258_593, x_258_594, x_258_595, x_258_596, x_258_597, x_258_598, x_258_599, x_258_600, iOk_sc, iRd_sc, true_and, cl2_r, show (nI i + 1 : Int32) = nI (i + 1) from nI_add i 1, inb_nI (n := sc.1) (i := i + 1) (by omega) (by omega), nI_clamp (n := i + 1) (by omega), show (nI i + 2 : Int32) = nI (i + 2) from nI_add i 2, inb_nI (n := sc.1) (i := i + 2) (by omega) (by omega), nI_clamp (n := i + 2) (by omega), show (nI i + 3 : Int32) = nI (i + 3) from nI_add i 3, inb_nI (n := sc.1) (i := i + 3) (by omega) (by omega), nI_clamp (n := i + 3) (by omega), o_0 hw]
  refine both_I (hB.2.2.2.2.2.2.2.2.2.2.2.1 (sc.2 (i + 1)) (sc.2 (i + 2)) (sc.2 (i + 3))) hw.1 (by decide) r_106 (fun x h1 ho ht => ?_)
  simp only [tl_s, x_258_603, x_258_604, x_258_605, x_258_606, x_258_607, x_258_608, x_258_609, x_258_610, x_258_611, x_258_612, x_258_613, x_258_614, x_258_615, x_258_616, x_258_617, x_258_618, x_258_619, iOk_sc, iRd_sc, true_and, cl2_r, show (nI i + 1 : Int32) = nI (i + 1) from nI_add i 1, inb_nI (n := sc.1) (i := i + 1) (by omega) (by omega), nI_clamp (n := i + 1) (by omega), show (nI i + 2 : Int32) = nI (i + 2) from nI_add i 2, inb_nI (n := sc.1) (i := i + 2) (by omega) (by omega), nI_clamp (n := i + 2) (by omega), show (nI i + 3 : Int32) = nI (i + 3) from nI_add i 3, inb_nI (n := sc.1) (i := i + 3) (by omega) (by omega), nI_clamp (n := i + 3) (by omega), ho]
  refine Tr_mono ht (fun r2 hr => ?_)
  obtain ⟨a2, h2⟩ := r2
  obtain ⟨e1, c2⟩ := hr
  simp only at e1 c2
  subst e1
  simp only [tl_s, x_258_622, x_258_625, x_258_626, if_true]
  exact lw_foot K c2
set_option maxHeartbeats 1000000 in
theorem blk_11 {i : Nat} (hB : AllB sc) (hL : sc.1 ≤ 3072) (hi : i + 6 ≤ sc.1) (hc : CM h) (K : ∀ h, CM h → Tr sc 20 258 (18, [some (.ref 1004), some (.ref 0), some (.ref 124), some (.int (nI (i + 6)))], [], h) Q) : Tr sc 20 258 (627, [some (.ref 1004), some (.ref 0), some (.ref 124), some (.int (nI i))], [], h) Q := by
  have hw := hc.1
  have hB := hB h hc
  simp only [x_258_627, x_258_628, x_258_629, x_258_630, x_258_631, x_258_632, x_258_633, x_258_634, x_258_635, x_258_636, x_258_637, x_258_638, iOk_sc, iRd_sc, true_and, cl2_r, show (nI i + 1 : Int32) = nI (i + 1) from nI_add i 1, inb_nI (n := sc.1) (i := i + 1) (by omega) (by omega), nI_clamp (n := i + 1) (by omega), show (nI i + 2 : Int32) = nI (i + 2) from nI_add i 2, inb_nI (n := sc.1) (i := i + 2) (by omega) (by omega), nI_clamp (n := i + 2) (by omega), o_0 hw]
  refine both_I (hB.2.2.2.2.2.2.2.2.2.2.2.2.1 (sc.2 (i + 1)) (sc.2 (i + 2))) hw.1 (by decide) r_107 (fun x h1 ho ht => ?_)
  simp only [tl_s, x_258_641, x_258_642, x_258_643, x_258_644, x_258_645, x_258_646, x_258_647, x_258_648, x_258_649, x_258_650, x_258_651, x_258_652, iOk_sc, iRd_sc, true_and, cl2_r, show (nI i + 1 : Int32) = nI (i + 1) from nI_add i 1, inb_nI (n := sc.1) (i := i + 1) (by omega) (by omega), nI_clamp (n := i + 1) (by omega), show (nI i + 2 : Int32) = nI (i + 2) from nI_add i 2, inb_nI (n := sc.1) (i := i + 2) (by omega) (by omega), nI_clamp (n := i + 2) (by omega), ho]
  refine Tr_mono ht (fun r2 hr => ?_)
  obtain ⟨a2, h2⟩ := r2
  obtain ⟨e1, c2⟩ := hr
  simp only at e1 c2
  subst e1
  simp only [tl_s, x_258_655, x_258_658, x_258_659, if_true]
  exact lw_foot K c2
set_option maxHeartbeats 1000000 in
theorem blk_12 {i : Nat} (hB : AllB sc) (hL : sc.1 ≤ 3072) (hi : i + 6 ≤ sc.1) (hc : CM h) (K : ∀ h, CM h → Tr sc 20 258 (18, [some (.ref 1004), some (.ref 0), some (.ref 124), some (.int (nI (i + 6)))], [], h) Q) : Tr sc 20 258 (660, [some (.ref 1004), some (.ref 0), some (.ref 124), some (.int (nI i))], [], h) Q := by
  have hw := hc.1
  have hB := hB h hc
  simp only [x_258_660, x_258_661, x_258_662, x_258_663, x_258_664, x_258_665, x_258_666, iOk_sc, iRd_sc, true_and, cl2_r, show (nI i + 1 : Int32) = nI (i + 1) from nI_add i 1, inb_nI (n := sc.1) (i := i + 1) (by omega) (by omega), nI_clamp (n := i + 1) (by omega), o_0 hw]
  refine both_I (hB.2.2.2.2.2.2.2.2.2.2.2.2.2.1 (sc.2 (i + 1))) hw.1 (by decide) r_108 (fun x h1 ho ht => ?_)
  simp only [tl_s, x_258_669, x_258_670, x_258_671, x_258_672, x_258_673, x_258_674, x_258_675, iOk_sc, iRd_sc, true_and, cl2_r, show (nI i + 1 : Int32) = nI (i + 1) from nI_add i 1, inb_nI (n := sc.1) (i := i + 1) (by omega) (by omega), nI_clamp (n := i + 1) (by omega), ho]
  refine Tr_mono ht (fun r2 hr => ?_)
  obtain ⟨a2, h2⟩ := r2
  obtain ⟨e1, c2⟩ := hr
  simp only at e1 c2
  subst e1
  simp only [tl_s, x_258_678, x_258_681, x_258_682, if_true]
  exact lw_foot K c2
set_option maxHeartbeats 1000000 in
theorem blk_13 {i : Nat} (hB : AllB sc) (hL : sc.1 ≤ 3072) (hi : i + 6 ≤ sc.1) (hc : CM h) (K : ∀ h, CM h → Tr sc 20 258 (18, [some (.ref 1004), some (.ref 0), some (.ref 124), some (.int (nI (i + 6)))], [], h) Q) : Tr sc 20 258 (683, [some (.ref 1004), some (.ref 0), some (.ref 124), some (.int (nI i))], [], h) Q := by
  have hw := hc.1
  have hB := hB h hc
  simp only [x_258_683, x_258_684, x_258_685, x_258_686, x_258_687, x_258_688, x_258_689, x_258_690, x_258_691, x_258_692, x_258_693, x_258_694, iOk_sc, iRd_sc, true_and, cl2_r, show (nI i + 1 : Int32) = nI (i + 1) from nI_add i 1, inb_nI (n := sc.1) (i := i + 1) (by omega) (by omega), nI_clamp (n := i + 1) (by omega), show (nI i + 2 : Int32) = nI (i + 2) from nI_add i 2, inb_nI (n := sc.1) (i := i + 2) (by omega) (by omega), nI_clamp (n := i + 2) (by omega), o_0 hw]
  refine both_I (hB.2.2.2.2.2.2.2.2.2.2.2.2.2.2.1 (sc.2 (i + 1)) (sc.2 (i + 2))) hw.1 (by decide) r_109 (fun x h1 ho ht => ?_)
  simp only [tl_s, x_258_697, x_258_698, x_258_699, x_258_700, x_258_701, x_258_702, x_258_703, x_258_704, x_258_705, x_258_706, x_258_707, x_258_708, iOk_sc, iRd_sc, true_and, cl2_r, show (nI i + 1 : Int32) = nI (i + 1) from nI_add i 1, inb_nI (n := sc.1) (i := i + 1) (by omega) (by omega), nI_clamp (n := i + 1) (by omega), show (nI i + 2 : Int32) = nI (i + 2) from nI_add i 2, inb_nI (n := sc.1) (i := i + 2) (by omega) (by omega), nI_clamp (n := i + 2) (by omega), ho]
  refine Tr_mono ht (fun r2 hr => ?_)
  obtain ⟨a2, h2⟩ := r2
  obtain ⟨e1, c2⟩ := hr
  simp only at e1 c2
  subst e1
  simp only [tl_s, x_258_711, x_258_714, x_258_715, if_true]
  exact lw_foot K c2
set_option maxHeartbeats 1000000 in
theorem blk_14 {i : Nat} (hB : AllB sc) (hL : sc.1 ≤ 3072) (hi : i + 6 ≤ sc.1) (hc : CM h) (K : ∀ h, CM h → Tr sc 20 258 (18, [some (.ref 1004), some (.ref 0), some (.ref 124), some (.int (nI (i + 6)))], [], h) Q) : Tr sc 20 258 (716, [some (.ref 1004), some (.ref 0), some (.ref 124), some (.int (nI i))], [], h) Q := by
  have hw := hc.1
  have hB := hB h hc
  simp only [x_258_716, x_258_717, x_258_718, x_258_719, x_258_720, x_258_721, x_258_722, x_258_723, x_258_724, x_258_725, x_258_726, x_258_727, x_258_728, x_258_729, x_258_730, x_258_731, x_258_732, iOk_sc, iRd_sc, true_and, cl2_r, show (nI i + 1 : Int32) = nI (i + 1) from nI_add i 1, inb_nI (n := sc.1) (i := i + 1) (by omega) (by omega), nI_clamp (n := i + 1) (by omega), show (nI i + 2 : Int32) = nI (i + 2) from nI_add i 2, inb_nI (n := sc.1) (i := i + 2) (by omega) (by omega), nI_clamp (n := i + 2) (by omega), show (nI i + 3 : Int32) = nI (i + 3) from nI_add i 3, inb_nI (n := sc.1) (i := i + 3) (by omega) (by omega), nI_clamp (n := i + 3) (by omega), o_0 hw]
  refine both_I (hB.2.2.2.2.2.2.2.2.2.2.2.2.2.2.2.1 (sc.2 (i + 1)) (sc.2 (i + 2)) (sc.2 (i + 3))) hw.1 (by decide) r_110 (fun x h1 ho ht => ?_)
  simp only [tl_s, x_258_735, x_258_736, x_258_737, x_258_738, x_258_739, x_258_740, x_258_741, x_258_742, x_258_743, x_258_744, x_258_745, x_258_746, x_258_747, x_258_748, x_258_749, x_258_750, x_258_751, iOk_sc, iRd_sc, true_and, cl2_r, show (nI i + 1 : Int32) = nI (i + 1) from nI_add i 1, inb_nI (n := sc.1) (i := i + 1) (by omega) (by omega), nI_clamp (n := i + 1) (by omega), show (nI i + 2 : Int32) = nI (i + 2) from nI_add i 2, inb_nI (n := sc.1) (i := i + 2) (by omega) (by omega), nI_clamp (n := i + 2) (by omega), show (nI i + 3 : Int32) = nI (i + 3) from nI_add i 3, inb_nI (n := sc.1) (i := i + 3) (by omega) (by omega), nI_clamp (n := i + 3) (by omega), ho]
  refine Tr_mono ht (fun r2 hr => ?_)
  obtain ⟨a2, h2⟩ := r2
  obtain ⟨e1, c2⟩ := hr
  simp only at e1 c2
  subst e1
  simp only [tl_s, x_258_754, x_258_757, x_258_758, if_true]
  exact lw_foot K c2
set_option maxHeartbeats 1000000 in
theorem blk_15 {i : Nat} (hB : AllB sc) (hL : sc.1 ≤ 3072) (hi : i + 6 ≤ sc.1) (hc : CM h) (K : ∀ h, CM h → Tr sc 20 258 (18, [some (.ref 1004), some (.ref 0), some (.ref 124), some (.int (nI (i + 6)))], [], h) Q) : Tr sc 20 258 (759, [some (.ref 1004), some (.ref 0), some (.ref 124), some (.int (nI i))], [], h) Q := by
  have hw := hc.1
  have hB := hB h hc
  simp only [x_258_759, x_258_760, x_258_761, x_258_762, x_258_763, x_258_764, x_258_765, x_258_766, x_258_767, x_258_768, x_258_769, x_258_770, iOk_sc, iRd_sc, true_and, cl2_r, show (nI i + 1 : Int32) = nI (i + 1) from nI_add i 1, inb_nI (n := sc.1) (i := i + 1) (by omega) (by omega), nI_clamp (n := i + 1) (by omega), show (nI i + 2 : Int32) = nI (i + 2) from nI_add i 2, inb_nI (n := sc.1) (i := i + 2) (by omega) (by omega), nI_clamp (n := i + 2) (by omega), o_0 hw]
  refine both_I (hB.2.2.2.2.2.2.2.2.2.2.2.2.2.2.2.2.1 (sc.2 (i + 1)) (sc.2 (i + 2))) hw.1 (by decide) r_111 (fun x h1 ho ht => ?_)
  simp only [tl_s, x_258_773, x_258_774, x_258_775, x_258_776, x_258_777, x_258_778, x_258_779, x_258_780, x_258_781, x_258_782, x_258_783, x_258_784, iOk_sc, iRd_sc, true_and, cl2_r, show (nI i + 1 : Int32) = nI (i + 1) from nI_add i 1, inb_nI (n := sc.1) (i := i + 1) (by omega) (by omega), nI_clamp (n := i + 1) (by omega), show (nI i + 2 : Int32) = nI (i + 2) from nI_add i 2, inb_nI (n := sc.1) (i := i + 2) (by omega) (by omega), nI_clamp (n := i + 2) (by omega), ho]
  refine Tr_mono ht (fun r2 hr => ?_)
  obtain ⟨a2, h2⟩ := r2
  obtain ⟨e1, c2⟩ := hr
  simp only at e1 c2
  subst e1
  simp only [tl_s, x_258_787, x_258_790, x_258_791, if_true]
  exact lw_foot K c2
set_option maxHeartbeats 1000000 in
theorem blk_16 {i : Nat} (hB : AllB sc) (hL : sc.1 ≤ 3072) (hi : i + 6 ≤ sc.1) (hc : CM h) (K : ∀ h, CM h → Tr sc 20 258 (18, [some (.ref 1004), some (.ref 0), some (.ref 124), some (.int (nI (i + 6)))], [], h) Q) : Tr sc 20 258 (792, [some (.ref 1004), some (.ref 0), some (.ref 124), some (.int (nI i))], [], h) Q := by
  have hw := hc.1
  have hB := hB h hc
  by_cases eb : sc.2 (i + 4) = 0
  · simp only [x_258_792, x_258_793, x_258_794, x_258_795, x_258_796, x_258_797, x_258_798, x_258_799, x_258_800, x_258_801, x_258_802, x_258_803, x_258_804, x_258_805, x_258_806, x_258_807, x_258_808, x_258_809, x_258_810, x_258_811, x_258_812, x_258_813, x_258_816, x_258_817, x_258_820, x_258_821, iOk_sc, iRd_sc, true_and, cl2_r, show (nI i + 1 : Int32) = nI (i + 1) from nI_add i 1, inb_nI (n := sc.1) (i := i + 1) (by omega) (by omega), nI_clamp (n := i + 1) (by omega), show (nI i + 2 : Int32) = nI (i + 2) from nI_add i 2, inb_nI (n := sc.1) (i := i + 2) (by omega) (by omega), nI_clamp (n := i + 2) (by omega), show (nI i + 3 : Int32) = nI (i + 3) from nI_add i 3, inb_nI (n := sc.1) (i := i + 3) (by omega) (by omega), nI_clamp (n := i + 3) (by omega), show (nI i + 4 : Int32) = nI (i + 4) from nI_add i 4, inb_nI (n := sc.1) (i := i + 4) (by omega) (by omega), nI_clamp (n := i + 4) (by omega), o_0 hw, if_pos eb]
    refine both_I (hB.2.2.2.2.2.2.2.2.2.2.2.2.2.2.2.2.2.1 (sc.2 (i + 1)) (sc.2 (i + 2)) (sc.2 (i + 3)) 0 (Or.inl rfl)) hw.1 (by decide) r_112 (fun x h1 ho ht => ?_)
    simp only [tl_s, x_258_824, x_258_825, x_258_826, x_258_827, x_258_828, x_258_829, x_258_830, x_258_831, x_258_832, x_258_833, x_258_834, x_258_835, x_258_836, x_258_837, x_258_838, x_258_839, x_258_840, x_258_841, x_258_842, x_258_843, x_258_844, x_258_845, x_258_848, x_258_849, x_258_852, x_258_853, iOk_sc, iRd_sc, true_and, cl2_r, show (nI i + 1 : Int32) = nI (i + 1) from nI_add i 1, inb_nI (n := sc.1) (i := i + 1) (by omega) (by omega), nI_clamp (n := i + 1) (by omega), show (nI i + 2 : Int32) = nI (i + 2) from nI_add i 2, inb_nI (n := sc.1) (i := i + 2) (by omega) (by omega), nI_clamp (n := i + 2) (by omega), show (nI i + 3 : Int32) = nI (i + 3) from nI_add i 3, inb_nI (n := sc.1) (i := i + 3) (by omega) (by omega), nI_clamp (n := i + 3) (by omega), show (nI i + 4 : Int32) = nI (i + 4) from nI_add i 4, inb_nI (n := sc.1) (i := i + 4) (by omega) (by omega), nI_clamp (n := i + 4) (by omega), ho, if_pos eb]
    refine Tr_mono ht (fun r2 hr => ?_)
    obtain ⟨a2, h2⟩ := r2
    obtain ⟨e1, c2⟩ := hr
    simp only at e1 c2
    subst e1
    simp only [tl_s, x_258_856, x_258_859, x_258_860, if_true]
    exact lw_foot K c2
  · simp only [x_258_792, x_258_793, x_258_794, x_258_795, x_258_796, x_258_797, x_258_798, x_258_799, x_258_800, x_258_801, x_258_802, x_258_803, x_258_804, x_258_805, x_258_806, x_258_807, x_258_808, x_258_809, x_258_810, x_258_811, x_258_812, x_258_813, x_258_816, x_258_817, x_258_820, x_258_821, iOk_sc, iRd_sc, true_and, cl2_r, show (nI i + 1 : Int32) = nI (i + 1) from nI_add i 1, inb_nI (n := sc.1) (i := i + 1) (by omega) (by omega), nI_clamp (n := i + 1) (by omega), show (nI i + 2 : Int32) = nI (i + 2) from nI_add i 2, inb_nI (n := sc.1) (i := i + 2) (by omega) (by omega), nI_clamp (n := i + 2) (by omega), show (nI i + 3 : Int32) = nI (i + 3) from nI_add i 3, inb_nI (n := sc.1) (i := i + 3) (by omega) (by omega), nI_clamp (n := i + 3) (by omega), show (nI i + 4 : Int32) = nI (i + 4) from nI_add i 4, inb_nI (n := sc.1) (i := i + 4) (by omega) (by omega), nI_clamp (n := i + 4) (by omega), o_0 hw, if_neg eb]
    refine both_I (hB.2.2.2.2.2.2.2.2.2.2.2.2.2.2.2.2.2.1 (sc.2 (i + 1)) (sc.2 (i + 2)) (sc.2 (i + 3)) 1 (Or.inr rfl)) hw.1 (by decide) r_112 (fun x h1 ho ht => ?_)
    simp only [tl_s, x_258_824, x_258_825, x_258_826, x_258_827, x_258_828, x_258_829, x_258_830, x_258_831, x_258_832, x_258_833, x_258_834, x_258_835, x_258_836, x_258_837, x_258_838, x_258_839, x_258_840, x_258_841, x_258_842, x_258_843, x_258_844, x_258_845, x_258_848, x_258_849, x_258_852, x_258_853, iOk_sc, iRd_sc, true_and, cl2_r, show (nI i + 1 : Int32) = nI (i + 1) from nI_add i 1, inb_nI (n := sc.1) (i := i + 1) (by omega) (by omega), nI_clamp (n := i + 1) (by omega), show (nI i + 2 : Int32) = nI (i + 2) from nI_add i 2, inb_nI (n := sc.1) (i := i + 2) (by omega) (by omega), nI_clamp (n := i + 2) (by omega), show (nI i + 3 : Int32) = nI (i + 3) from nI_add i 3, inb_nI (n := sc.1) (i := i + 3) (by omega) (by omega), nI_clamp (n := i + 3) (by omega), show (nI i + 4 : Int32) = nI (i + 4) from nI_add i 4, inb_nI (n := sc.1) (i := i + 4) (by omega) (by omega), nI_clamp (n := i + 4) (by omega), ho, if_neg eb]
    refine Tr_mono ht (fun r2 hr => ?_)
    obtain ⟨a2, h2⟩ := r2
    obtain ⟨e1, c2⟩ := hr
    simp only at e1 c2
    subst e1
    simp only [tl_s, x_258_856, x_258_859, x_258_860, if_true]
    exact lw_foot K c2
set_option maxHeartbeats 1000000 in
theorem blk_17 {i : Nat} (hB : AllB sc) (hL : sc.1 ≤ 3072) (hi : i + 6 ≤ sc.1) (hc : CM h) (K : ∀ h, CM h → Tr sc 20 258 (18, [some (.ref 1004), some (.ref 0), some (.ref 124), some (.int (nI (i + 6)))], [], h) Q) : Tr sc 20 258 (861, [some (.ref 1004), some (.ref 0), some (.ref 124), some (.int (nI i))], [], h) Q := by
  have hw := hc.1
  have hB := hB h hc
  by_cases eb : sc.2 (i + 5) = 0
  · simp only [x_258_861, x_258_862, x_258_863, x_258_864, x_258_865, x_258_866, x_258_867, x_258_868, x_258_869, x_258_870, x_258_871, x_258_872, x_258_873, x_258_874, x_258_875, x_258_876, x_258_877, x_258_878, x_258_879, x_258_880, x_258_881, x_258_882, x_258_883, x_258_884, x_258_885, x_258_886, x_258_887, x_258_890, x_258_891, x_258_894, x_258_895, iOk_sc, iRd_sc, true_and, cl2_r, show (nI i + 1 : Int32) = nI (i + 1) from nI_add i 1, inb_nI (n := sc.1) (i := i + 1) (by omega) (by omega), nI_clamp (n := i + 1) (by omega), show (nI i + 2 : Int32) = nI (i + 2) from nI_add i 2, inb_nI (n := sc.1) (i := i + 2) (by omega) (by omega), nI_clamp (n := i + 2) (by omega), show (nI i + 3 : Int32) = nI (i + 3) from nI_add i 3, inb_nI (n := sc.1) (i := i + 3) (by omega) (by omega), nI_clamp (n := i + 3) (by omega), show (nI i + 4 : Int32) = nI (i + 4) from nI_add i 4, inb_nI (n := sc.1) (i := i + 4) (by omega) (by omega), nI_clamp (n := i + 4) (by omega), show (nI i + 5 : Int32) = nI (i + 5) from nI_add i 5, inb_nI (n := sc.1) (i := i + 5) (by omega) (by omega), nI_clamp (n := i + 5) (by omega), o_0 hw, if_pos eb]
    refine both_I (hB.2.2.2.2.2.2.2.2.2.2.2.2.2.2.2.2.2.2.1 (sc.2 (i + 1)) (sc.2 (i + 2)) (sc.2 (i + 3)) (sc.2 (i + 4)) 0 (Or.inl rfl)) hw.1 (by decide) r_113 (fun x h1 ho ht => ?_)
    simp only [tl_s, x_258_898, x_258_899, x_258_900, x_258_901, x_258_902, x_258_903, x_258_904, x_258_905, x_258_906, x_258_907, x_258_908, x_258_909, x_258_910, x_258_911, x_258_912, x_258_913, x_258_914, x_258_915, x_258_916, x_258_917, x_258_918, x_258_919, x_258_920, x_258_921, x_258_922, x_258_923, x_258_924, x_258_927, x_258_928, x_258_931, x_258_932, iOk_sc, iRd_sc, true_and, cl2_r, show (nI i + 1 : Int32) = nI (i + 1) from nI_add i 1, inb_nI (n := sc.1) (i := i + 1) (by omega) (by omega), nI_clamp (n := i + 1) (by omega), show (nI i + 2 : Int32) = nI (i + 2) from nI_add i 2, inb_nI (n := sc.1) (i := i + 2) (by omega) (by omega), nI_clamp (n := i + 2) (by omega), show (nI i + 3 : Int32) = nI (i + 3) from nI_add i 3, inb_nI (n := sc.1) (i := i + 3) (by omega) (by omega), nI_clamp (n := i + 3) (by omega), show (nI i + 4 : Int32) = nI (i + 4) from nI_add i 4, inb_nI (n := sc.1) (i := i + 4) (by omega) (by omega), nI_clamp (n := i + 4) (by omega), show (nI i + 5 : Int32) = nI (i + 5) from nI_add i 5, inb_nI (n := sc.1) (i := i + 5) (by omega) (by omega), nI_clamp (n := i + 5) (by omega), ho, if_pos eb]
    refine Tr_mono ht (fun r2 hr => ?_)
    obtain ⟨a2, h2⟩ := r2
    obtain ⟨e1, c2⟩ := hr
    simp only at e1 c2
    subst e1
    simp only [tl_s, x_258_935, x_258_938, x_258_939, if_true]
    exact lw_foot K c2
  · simp only [x_258_861, x_258_862, x_258_863, x_258_864, x_258_865, x_258_866, x_258_867, x_258_868, x_258_869, x_258_870, x_258_871, x_258_872, x_258_873, x_258_874, x_258_875, x_258_876, x_258_877, x_258_878, x_258_879, x_258_880, x_258_881, x_258_882, x_258_883, x_258_884, x_258_885, x_258_886, x_258_887, x_258_890, x_258_891, x_258_894, x_258_895, iOk_sc, iRd_sc, true_and, cl2_r, show (nI i + 1 : Int32) = nI (i + 1) from nI_add i 1, inb_nI (n := sc.1) (i := i + 1) (by omega) (by omega), nI_clamp (n := i + 1) (by omega), show (nI i + 2 : Int32) = nI (i + 2) from nI_add i 2, inb_nI (n := sc.1) (i := i + 2) (by omega) (by omega), nI_clamp (n := i + 2) (by omega), show (nI i + 3 : Int32) = nI (i + 3) from nI_add i 3, inb_nI (n := sc.1) (i := i + 3) (by omega) (by omega), nI_clamp (n := i + 3) (by omega), show (nI i + 4 : Int32) = nI (i + 4) from nI_add i 4, inb_nI (n := sc.1) (i := i + 4) (by omega) (by omega), nI_clamp (n := i + 4) (by omega), show (nI i + 5 : Int32) = nI (i + 5) from nI_add i 5, inb_nI (n := sc.1) (i := i + 5) (by omega) (by omega), nI_clamp (n := i + 5) (by omega), o_0 hw, if_neg eb]
    refine both_I (hB.2.2.2.2.2.2.2.2.2.2.2.2.2.2.2.2.2.2.1 (sc.2 (i + 1)) (sc.2 (i + 2)) (sc.2 (i + 3)) (sc.2 (i + 4)) 1 (Or.inr rfl)) hw.1 (by decide) r_113 (fun x h1 ho ht => ?_)
    simp only [tl_s, x_258_898, x_258_899, x_258_900, x_258_901, x_258_902, x_258_903, x_258_904, x_258_905, x_258_906, x_258_907, x_258_908, x_258_909, x_258_910, x_258_911, x_258_912, x_258_913, x_258_914, x_258_915, x_258_916, x_258_917, x_258_918, x_258_919, x_258_920, x_258_921, x_258_922, x_258_923, x_258_924, x_258_927, x_258_928, x_258_931, x_258_932, iOk_sc, iRd_sc, true_and, cl2_r, show (nI i + 1 : Int32) = nI (i + 1) from nI_add i 1, inb_nI (n := sc.1) (i := i + 1) (by omega) (by omega), nI_clamp (n := i + 1) (by omega), show (nI i + 2 : Int32) = nI (i + 2) from nI_add i 2, inb_nI (n := sc.1) (i := i + 2) (by omega) (by omega), nI_clamp (n := i + 2) (by omega), show (nI i + 3 : Int32) = nI (i + 3) from nI_add i 3, inb_nI (n := sc.1) (i := i + 3) (by omega) (by omega), nI_clamp (n := i + 3) (by omega), show (nI i + 4 : Int32) = nI (i + 4) from nI_add i 4, inb_nI (n := sc.1) (i := i + 4) (by omega) (by omega), nI_clamp (n := i + 4) (by omega), show (nI i + 5 : Int32) = nI (i + 5) from nI_add i 5, inb_nI (n := sc.1) (i := i + 5) (by omega) (by omega), nI_clamp (n := i + 5) (by omega), ho, if_neg eb]
    refine Tr_mono ht (fun r2 hr => ?_)
    obtain ⟨a2, h2⟩ := r2
    obtain ⟨e1, c2⟩ := hr
    simp only at e1 c2
    subst e1
    simp only [tl_s, x_258_935, x_258_938, x_258_939, if_true]
    exact lw_foot K c2
set_option maxHeartbeats 1000000 in
theorem blk_18 {i : Nat} (hB : AllB sc) (hL : sc.1 ≤ 3072) (hi : i + 6 ≤ sc.1) (hc : CM h) (K : ∀ h, CM h → Tr sc 20 258 (18, [some (.ref 1004), some (.ref 0), some (.ref 124), some (.int (nI (i + 6)))], [], h) Q) : Tr sc 20 258 (940, [some (.ref 1004), some (.ref 0), some (.ref 124), some (.int (nI i))], [], h) Q := by
  have hw := hc.1
  have hB := hB h hc
  simp only [x_258_940, x_258_941, x_258_942, x_258_943, x_258_944, x_258_945, x_258_946, x_258_947, x_258_948, x_258_949, x_258_950, x_258_951, iOk_sc, iRd_sc, true_and, cl2_r, show (nI i + 1 : Int32) = nI (i + 1) from nI_add i 1, inb_nI (n := sc.1) (i := i + 1) (by omega) (by omega), nI_clamp (n := i + 1) (by omega), show (nI i + 2 : Int32) = nI (i + 2) from nI_add i 2, inb_nI (n := sc.1) (i := i + 2) (by omega) (by omega), nI_clamp (n := i + 2) (by omega), o_0 hw]
  refine both_I (hB.2.2.2.2.2.2.2.2.2.2.2.2.2.2.2.2.2.2.2.1 (sc.2 (i + 1)) (sc.2 (i + 2))) hw.1 (by decide) r_114 (fun x h1 ho ht => ?_)
  simp only [tl_s, x_258_954, x_258_955, x_258_956, x_258_957, x_258_958, x_258_959, x_258_960, x_258_961, x_258_962, x_258_963, x_258_964, x_258_965, iOk_sc, iRd_sc, true_and, cl2_r, show (nI i + 1 : Int32) = nI (i + 1) from nI_add i 1, inb_nI (n := sc.1) (i := i + 1) (by omega) (by omega), nI_clamp (n := i + 1) (by omega), show (nI i + 2 : Int32) = nI (i + 2) from nI_add i 2, inb_nI (n := sc.1) (i := i + 2) (by omega) (by omega), nI_clamp (n := i + 2) (by omega), ho]
  refine Tr_mono ht (fun r2 hr => ?_)
  obtain ⟨a2, h2⟩ := r2
  obtain ⟨e1, c2⟩ := hr
  simp only at e1 c2
  subst e1
  simp only [tl_s, x_258_968, x_258_971, x_258_972, if_true]
  exact lw_foot K c2
set_option maxHeartbeats 1000000 in
theorem blk_19 {i : Nat} (hB : AllB sc) (hL : sc.1 ≤ 3072) (hi : i + 6 ≤ sc.1) (hc : CM h) (K : ∀ h, CM h → Tr sc 20 258 (18, [some (.ref 1004), some (.ref 0), some (.ref 124), some (.int (nI (i + 6)))], [], h) Q) : Tr sc 20 258 (973, [some (.ref 1004), some (.ref 0), some (.ref 124), some (.int (nI i))], [], h) Q := by
  have hw := hc.1
  have hB := hB h hc
  simp only [x_258_973, x_258_974, x_258_975, x_258_976, x_258_977, x_258_978, x_258_979, x_258_980, x_258_981, x_258_982, x_258_983, x_258_984, iOk_sc, iRd_sc, true_and, cl2_r, show (nI i + 1 : Int32) = nI (i + 1) from nI_add i 1, inb_nI (n := sc.1) (i := i + 1) (by omega) (by omega), nI_clamp (n := i + 1) (by omega), show (nI i + 2 : Int32) = nI (i + 2) from nI_add i 2, inb_nI (n := sc.1) (i := i + 2) (by omega) (by omega), nI_clamp (n := i + 2) (by omega), o_0 hw]
  refine both_I (hB.2.2.2.2.2.2.2.2.2.2.2.2.2.2.2.2.2.2.2.2.1 (sc.2 (i + 1)) (sc.2 (i + 2))) hw.1 (by decide) r_115 (fun x h1 ho ht => ?_)
  simp only [tl_s, x_258_987, x_258_988, x_258_989, x_258_990, x_258_991, x_258_992, x_258_993, x_258_994, x_258_995, x_258_996, x_258_997, x_258_998, iOk_sc, iRd_sc, true_and, cl2_r, show (nI i + 1 : Int32) = nI (i + 1) from nI_add i 1, inb_nI (n := sc.1) (i := i + 1) (by omega) (by omega), nI_clamp (n := i + 1) (by omega), show (nI i + 2 : Int32) = nI (i + 2) from nI_add i 2, inb_nI (n := sc.1) (i := i + 2) (by omega) (by omega), nI_clamp (n := i + 2) (by omega), ho]
  refine Tr_mono ht (fun r2 hr => ?_)
  obtain ⟨a2, h2⟩ := r2
  obtain ⟨e1, c2⟩ := hr
  simp only at e1 c2
  subst e1
  simp only [tl_s, x_258_1001, x_258_1004, x_258_1005, if_true]
  exact lw_foot K c2
set_option maxHeartbeats 1000000 in
theorem blk_20 {i : Nat} (hB : AllB sc) (hL : sc.1 ≤ 3072) (hi : i + 6 ≤ sc.1) (hc : CM h) (K : ∀ h, CM h → Tr sc 20 258 (18, [some (.ref 1004), some (.ref 0), some (.ref 124), some (.int (nI (i + 6)))], [], h) Q) : Tr sc 20 258 (1006, [some (.ref 1004), some (.ref 0), some (.ref 124), some (.int (nI i))], [], h) Q := by
  have hw := hc.1
  have hB := hB h hc
  simp only [x_258_1006, x_258_1007, x_258_1008, x_258_1009, x_258_1010, x_258_1011, x_258_1012, x_258_1013, x_258_1014, x_258_1015, x_258_1016, x_258_1017, x_258_1018, x_258_1019, x_258_1020, x_258_1021, x_258_1022, x_258_1023, x_258_1024, x_258_1025, x_258_1026, x_258_1027, iOk_sc, iRd_sc, true_and, cl2_r, show (nI i + 1 : Int32) = nI (i + 1) from nI_add i 1, inb_nI (n := sc.1) (i := i + 1) (by omega) (by omega), nI_clamp (n := i + 1) (by omega), show (nI i + 2 : Int32) = nI (i + 2) from nI_add i 2, inb_nI (n := sc.1) (i := i + 2) (by omega) (by omega), nI_clamp (n := i + 2) (by omega), show (nI i + 3 : Int32) = nI (i + 3) from nI_add i 3, inb_nI (n := sc.1) (i := i + 3) (by omega) (by omega), nI_clamp (n := i + 3) (by omega), show (nI i + 4 : Int32) = nI (i + 4) from nI_add i 4, inb_nI (n := sc.1) (i := i + 4) (by omega) (by omega), nI_clamp (n := i + 4) (by omega), o_0 hw]
  refine both_I (hB.2.2.2.2.2.2.2.2.2.2.2.2.2.2.2.2.2.2.2.2.2.1 (sc.2 (i + 1)) (sc.2 (i + 2)) (sc.2 (i + 3)) (sc.2 (i + 4))) hw.1 (by decide) r_116 (fun x h1 ho ht => ?_)
  simp only [tl_s, x_258_1030, x_258_1031, x_258_1032, x_258_1033, x_258_1034, x_258_1035, x_258_1036, x_258_1037, x_258_1038, x_258_1039, x_258_1040, x_258_1041, x_258_1042, x_258_1043, x_258_1044, x_258_1045, x_258_1046, x_258_1047, x_258_1048, x_258_1049, x_258_1050, x_258_1051, iOk_sc, iRd_sc, true_and, cl2_r, show (nI i + 1 : Int32) = nI (i + 1) from nI_add i 1, inb_nI (n := sc.1) (i := i + 1) (by omega) (by omega), nI_clamp (n := i + 1) (by omega), show (nI i + 2 : Int32) = nI (i + 2) from nI_add i 2, inb_nI (n := sc.1) (i := i + 2) (by omega) (by omega), nI_clamp (n := i + 2) (by omega), show (nI i + 3 : Int32) = nI (i + 3) from nI_add i 3, inb_nI (n := sc.1) (i := i + 3) (by omega) (by omega), nI_clamp (n := i + 3) (by omega), show (nI i + 4 : Int32) = nI (i + 4) from nI_add i 4, inb_nI (n := sc.1) (i := i + 4) (by omega) (by omega), nI_clamp (n := i + 4) (by omega), ho]
  refine Tr_mono ht (fun r2 hr => ?_)
  obtain ⟨a2, h2⟩ := r2
  obtain ⟨e1, c2⟩ := hr
  simp only at e1 c2
  subst e1
  simp only [tl_s, x_258_1054, x_258_1057, x_258_1058, if_true]
  exact lw_foot K c2
set_option maxHeartbeats 1000000 in
theorem blk_21 {i : Nat} (hB : AllB sc) (hL : sc.1 ≤ 3072) (hi : i + 6 ≤ sc.1) (hc : CM h) (K : ∀ h, CM h → Tr sc 20 258 (18, [some (.ref 1004), some (.ref 0), some (.ref 124), some (.int (nI (i + 6)))], [], h) Q) : Tr sc 20 258 (1059, [some (.ref 1004), some (.ref 0), some (.ref 124), some (.int (nI i))], [], h) Q := by
  have hw := hc.1
  have hB := hB h hc
  simp only [x_258_1059, x_258_1060, x_258_1061, x_258_1062, x_258_1063, x_258_1064, x_258_1065, x_258_1066, x_258_1067, x_258_1068, x_258_1069, x_258_1070, x_258_1071, x_258_1072, x_258_1073, x_258_1074, x_258_1075, iOk_sc, iRd_sc, true_and, cl2_r, show (nI i + 1 : Int32) = nI (i + 1) from nI_add i 1, inb_nI (n := sc.1) (i := i + 1) (by omega) (by omega), nI_clamp (n := i + 1) (by omega), show (nI i + 2 : Int32) = nI (i + 2) from nI_add i 2, inb_nI (n := sc.1) (i := i + 2) (by omega) (by omega), nI_clamp (n := i + 2) (by omega), show (nI i + 3 : Int32) = nI (i + 3) from nI_add i 3, inb_nI (n := sc.1) (i := i + 3) (by omega) (by omega), nI_clamp (n := i + 3) (by omega), o_0 hw]
  refine both_I (hB.2.2.2.2.2.2.2.2.2.2.2.2.2.2.2.2.2.2.2.2.2.2.1 (sc.2 (i + 1)) (sc.2 (i + 2)) (sc.2 (i + 3))) hw.1 (by decide) r_117 (fun x h1 ho ht => ?_)
  simp only [tl_s, x_258_1078, x_258_1079, x_258_1080, x_258_1081, x_258_1082, x_258_1083, x_258_1084, x_258_1085, x_258_1086, x_258_1087, x_258_1088, x_258_1089, x_258_1090, x_258_1091, x_258_1092, x_258_1093, x_258_1094, iOk_sc, iRd_sc, true_and, cl2_r, show (nI i + 1 : Int32) = nI (i + 1) from nI_add i 1, inb_nI (n := sc.1) (i := i + 1) (by omega) (by omega), nI_clamp (n := i + 1) (by omega), show (nI i + 2 : Int32) = nI (i + 2) from nI_add i 2, inb_nI (n := sc.1) (i := i + 2) (by omega) (by omega), nI_clamp (n := i + 2) (by omega), show (nI i + 3 : Int32) = nI (i + 3) from nI_add i 3, inb_nI (n := sc.1) (i := i + 3) (by omega) (by omega), nI_clamp (n := i + 3) (by omega), ho]
  refine Tr_mono ht (fun r2 hr => ?_)
  obtain ⟨a2, h2⟩ := r2
  obtain ⟨e1, c2⟩ := hr
  simp only at e1 c2
  subst e1
  simp only [tl_s, x_258_1097, x_258_1100, x_258_1101, if_true]
  exact lw_foot K c2
set_option maxHeartbeats 1000000 in
theorem blk_22 {i : Nat} (hB : AllB sc) (hL : sc.1 ≤ 3072) (hi : i + 6 ≤ sc.1) (hc : CM h) (K : ∀ h, CM h → Tr sc 20 258 (18, [some (.ref 1004), some (.ref 0), some (.ref 124), some (.int (nI (i + 6)))], [], h) Q) : Tr sc 20 258 (1102, [some (.ref 1004), some (.ref 0), some (.ref 124), some (.int (nI i))], [], h) Q := by
  have hw := hc.1
  have hB := hB h hc
  simp only [x_258_1102, x_258_1103, x_258_1104, x_258_1105, x_258_1106, x_258_1107, x_258_1108, iOk_sc, iRd_sc, true_and, cl2_r, show (nI i + 1 : Int32) = nI (i + 1) from nI_add i 1, inb_nI (n := sc.1) (i := i + 1) (by omega) (by omega), nI_clamp (n := i + 1) (by omega), o_0 hw]
  refine both_I (hB.2.2.2.2.2.2.2.2.2.2.2.2.2.2.2.2.2.2.2.2.2.2.2.1 (sc.2 (i + 1))) hw.1 (by decide) r_118 (fun x h1 ho ht => ?_)
  simp only [tl_s, x_258_1111, x_258_1112, x_258_1113, x_258_1114, x_258_1115, x_258_1116, x_258_1117, iOk_sc, iRd_sc, true_and, cl2_r, show (nI i + 1 : Int32) = nI (i + 1) from nI_add i 1, inb_nI (n := sc.1) (i := i + 1) (by omega) (by omega), nI_clamp (n := i + 1) (by omega), ho]
  refine Tr_mono ht (fun r2 hr => ?_)
  obtain ⟨a2, h2⟩ := r2
  obtain ⟨e1, c2⟩ := hr
  simp only at e1 c2
  subst e1
  simp only [tl_s, x_258_1120, x_258_1123, x_258_1124, if_true]
  exact lw_foot K c2
set_option maxHeartbeats 1000000 in
theorem blk_23 {i : Nat} (hB : AllB sc) (hL : sc.1 ≤ 3072) (hi : i + 6 ≤ sc.1) (hc : CM h) (K : ∀ h, CM h → Tr sc 20 258 (18, [some (.ref 1004), some (.ref 0), some (.ref 124), some (.int (nI (i + 6)))], [], h) Q) : Tr sc 20 258 (1125, [some (.ref 1004), some (.ref 0), some (.ref 124), some (.int (nI i))], [], h) Q := by
  have hw := hc.1
  have hB := hB h hc
  simp only [x_258_1125, x_258_1126, x_258_1127, x_258_1128, x_258_1129, x_258_1130, x_258_1131, iOk_sc, iRd_sc, true_and, cl2_r, show (nI i + 1 : Int32) = nI (i + 1) from nI_add i 1, inb_nI (n := sc.1) (i := i + 1) (by omega) (by omega), nI_clamp (n := i + 1) (by omega), o_0 hw]
  refine both_I (hB.2.2.2.2.2.2.2.2.2.2.2.2.2.2.2.2.2.2.2.2.2.2.2.2.1 (sc.2 (i + 1))) hw.1 (by decide) r_119 (fun x h1 ho ht => ?_)
  simp only [tl_s, x_258_1134, x_258_1135, x_258_1136, x_258_1137, x_258_1138, x_258_1139, x_258_1140, iOk_sc, iRd_sc, true_and, cl2_r, show (nI i + 1 : Int32) = nI (i + 1) from nI_add i 1, inb_nI (n := sc.1) (i := i + 1) (by omega) (by omega), nI_clamp (n := i + 1) (by omega), ho]
  refine Tr_mono ht (fun r2 hr => ?_)
  obtain ⟨a2, h2⟩ := r2
  obtain ⟨e1, c2⟩ := hr
  simp only at e1 c2
  subst e1
  simp only [tl_s, x_258_1143, x_258_1146, x_258_1147, if_true]
  exact lw_foot K c2
set_option maxHeartbeats 1000000 in
theorem blk_24 {i : Nat} (hB : AllB sc) (hL : sc.1 ≤ 3072) (hi : i + 6 ≤ sc.1) (hc : CM h) (K : ∀ h, CM h → Tr sc 20 258 (18, [some (.ref 1004), some (.ref 0), some (.ref 124), some (.int (nI (i + 6)))], [], h) Q) : Tr sc 20 258 (1148, [some (.ref 1004), some (.ref 0), some (.ref 124), some (.int (nI i))], [], h) Q := by
  have hw := hc.1
  have hB := hB h hc
  simp only [x_258_1148, x_258_1149, x_258_1150, x_258_1151, x_258_1152, x_258_1153, x_258_1154, x_258_1155, x_258_1156, x_258_1157, x_258_1158, x_258_1159, x_258_1160, x_258_1161, x_258_1162, x_258_1163, x_258_1164, iOk_sc, iRd_sc, true_and, cl2_r, show (nI i + 1 : Int32) = nI (i + 1) from nI_add i 1, inb_nI (n := sc.1) (i := i + 1) (by omega) (by omega), nI_clamp (n := i + 1) (by omega), show (nI i + 2 : Int32) = nI (i + 2) from nI_add i 2, inb_nI (n := sc.1) (i := i + 2) (by omega) (by omega), nI_clamp (n := i + 2) (by omega), show (nI i + 3 : Int32) = nI (i + 3) from nI_add i 3, inb_nI (n := sc.1) (i := i + 3) (by omega) (by omega), nI_clamp (n := i + 3) (by omega), o_0 hw]
  refine both_I (hB.2.2.2.2.2.2.2.2.2.2.2.2.2.2.2.2.2.2.2.2.2.2.2.2.2.1 (sc.2 (i + 1)) (sc.2 (i + 2)) (sc.2 (i + 3))) hw.1 (by decide) r_120 (fun x h1 ho ht => ?_)
  simp only [tl_s, x_258_1167, x_258_1168, x_258_1169, x_258_1170, x_258_1171, x_258_1172, x_258_1173, x_258_1174, x_258_1175, x_258_1176, x_258_1177, x_258_1178, x_258_1179, x_258_1180, x_258_1181, x_258_1182, x_258_1183, iOk_sc, iRd_sc, true_and, cl2_r, show (nI i + 1 : Int32) = nI (i + 1) from nI_add i 1, inb_nI (n := sc.1) (i := i + 1) (by omega) (by omega), nI_clamp (n := i + 1) (by omega), show (nI i + 2 : Int32) = nI (i + 2) from nI_add i 2, inb_nI (n := sc.1) (i := i + 2) (by omega) (by omega), nI_clamp (n := i + 2) (by omega), show (nI i + 3 : Int32) = nI (i + 3) from nI_add i 3, inb_nI (n := sc.1) (i := i + 3) (by omega) (by omega), nI_clamp (n := i + 3) (by omega), ho]
  refine Tr_mono ht (fun r2 hr => ?_)
  obtain ⟨a2, h2⟩ := r2
  obtain ⟨e1, c2⟩ := hr
  simp only at e1 c2
  subst e1
  simp only [tl_s, x_258_1186, x_258_1189, x_258_1190, if_true]
  exact lw_foot K c2
set_option maxHeartbeats 1000000 in
theorem blk_25 {i : Nat} (hB : AllB sc) (hL : sc.1 ≤ 3072) (hi : i + 6 ≤ sc.1) (hc : CM h) (K : ∀ h, CM h → Tr sc 20 258 (18, [some (.ref 1004), some (.ref 0), some (.ref 124), some (.int (nI (i + 6)))], [], h) Q) : Tr sc 20 258 (1191, [some (.ref 1004), some (.ref 0), some (.ref 124), some (.int (nI i))], [], h) Q := by
  have hw := hc.1
  have hB := hB h hc
  simp only [x_258_1191, x_258_1192, x_258_1193, x_258_1194, x_258_1195, x_258_1196, x_258_1197, x_258_1198, x_258_1199, x_258_1200, x_258_1201, x_258_1202, iOk_sc, iRd_sc, true_and, cl2_r, show (nI i + 1 : Int32) = nI (i + 1) from nI_add i 1, inb_nI (n := sc.1) (i := i + 1) (by omega) (by omega), nI_clamp (n := i + 1) (by omega), show (nI i + 2 : Int32) = nI (i + 2) from nI_add i 2, inb_nI (n := sc.1) (i := i + 2) (by omega) (by omega), nI_clamp (n := i + 2) (by omega), o_0 hw]
  refine both_I (hB.2.2.2.2.2.2.2.2.2.2.2.2.2.2.2.2.2.2.2.2.2.2.2.2.2.2.1 (sc.2 (i + 1)) (sc.2 (i + 2))) hw.1 (by decide) r_121 (fun x h1 ho ht => ?_)
  simp only [tl_s, x_258_1205, x_258_1206, x_258_1207, x_258_1208, x_258_1209, x_258_1210, x_258_1211, x_258_1212, x_258_1213, x_258_1214, x_258_1215, x_258_1216, iOk_sc, iRd_sc, true_and, cl2_r, show (nI i + 1 : Int32) = nI (i + 1) from nI_add i 1, inb_nI (n := sc.1) (i := i + 1) (by omega) (by omega), nI_clamp (n := i + 1) (by omega), show (nI i + 2 : Int32) = nI (i + 2) from nI_add i 2, inb_nI (n := sc.1) (i := i + 2) (by omega) (by omega), nI_clamp (n := i + 2) (by omega), ho]
  refine Tr_mono ht (fun r2 hr => ?_)
  obtain ⟨a2, h2⟩ := r2
  obtain ⟨e1, c2⟩ := hr
  simp only at e1 c2
  subst e1
  simp only [tl_s, x_258_1219, x_258_1222, x_258_1223, if_true]
  exact lw_foot K c2
set_option maxHeartbeats 1000000 in
theorem blk_26 {i : Nat} (hB : AllB sc) (hL : sc.1 ≤ 3072) (hi : i + 6 ≤ sc.1) (hc : CM h) (K : ∀ h, CM h → Tr sc 20 258 (18, [some (.ref 1004), some (.ref 0), some (.ref 124), some (.int (nI (i + 6)))], [], h) Q) : Tr sc 20 258 (1224, [some (.ref 1004), some (.ref 0), some (.ref 124), some (.int (nI i))], [], h) Q := by
  have hw := hc.1
  have hB := hB h hc
  simp only [x_258_1224, x_258_1225, x_258_1226, x_258_1227, x_258_1228, x_258_1229, x_258_1230, iOk_sc, iRd_sc, true_and, cl2_r, show (nI i + 1 : Int32) = nI (i + 1) from nI_add i 1, inb_nI (n := sc.1) (i := i + 1) (by omega) (by omega), nI_clamp (n := i + 1) (by omega), o_0 hw]
  refine both_I (hB.2.2.2.2.2.2.2.2.2.2.2.2.2.2.2.2.2.2.2.2.2.2.2.2.2.2.2.1 (sc.2 (i + 1))) hw.1 (by decide) r_122 (fun x h1 ho ht => ?_)
  simp only [tl_s, x_258_1233, x_258_1234, x_258_1235, x_258_1236, x_258_1237, x_258_1238, x_258_1239, iOk_sc, iRd_sc, true_and, cl2_r, show (nI i + 1 : Int32) = nI (i + 1) from nI_add i 1, inb_nI (n := sc.1) (i := i + 1) (by omega) (by omega), nI_clamp (n := i + 1) (by omega), ho]
  refine Tr_mono ht (fun r2 hr => ?_)
  obtain ⟨a2, h2⟩ := r2
  obtain ⟨e1, c2⟩ := hr
  simp only at e1 c2
  subst e1
  simp only [tl_s, x_258_1242, x_258_1245, x_258_1246, if_true]
  exact lw_foot K c2
set_option maxHeartbeats 1000000 in
theorem blk_27 {i : Nat} (hB : AllB sc) (hL : sc.1 ≤ 3072) (hi : i + 6 ≤ sc.1) (hc : CM h) (K : ∀ h, CM h → Tr sc 20 258 (18, [some (.ref 1004), some (.ref 0), some (.ref 124), some (.int (nI (i + 6)))], [], h) Q) : Tr sc 20 258 (1247, [some (.ref 1004), some (.ref 0), some (.ref 124), some (.int (nI i))], [], h) Q := by
  have hw := hc.1
  have hB := hB h hc
  simp only [x_258_1247, x_258_1248, x_258_1249, x_258_1250, x_258_1251, x_258_1252, x_258_1253, x_258_1254, x_258_1255, x_258_1256, x_258_1257, x_258_1258, iOk_sc, iRd_sc, true_and, cl2_r, show (nI i + 1 : Int32) = nI (i + 1) from nI_add i 1, inb_nI (n := sc.1) (i := i + 1) (by omega) (by omega), nI_clamp (n := i + 1) (by omega), show (nI i + 2 : Int32) = nI (i + 2) from nI_add i 2, inb_nI (n := sc.1) (i := i + 2) (by omega) (by omega), nI_clamp (n := i + 2) (by omega), o_0 hw]
  refine both_I (hB.2.2.2.2.2.2.2.2.2.2.2.2.2.2.2.2.2.2.2.2.2.2.2.2.2.2.2.2.1 (sc.2 (i + 1)) (sc.2 (i + 2))) hw.1 (by decide) r_123 (fun x h1 ho ht => ?_)
  simp only [tl_s, x_258_1261, x_258_1262, x_258_1263, x_258_1264, x_258_1265, x_258_1266, x_258_1267, x_258_1268, x_258_1269, x_258_1270, x_258_1271, x_258_1272, iOk_sc, iRd_sc, true_and, cl2_r, show (nI i + 1 : Int32) = nI (i + 1) from nI_add i 1, inb_nI (n := sc.1) (i := i + 1) (by omega) (by omega), nI_clamp (n := i + 1) (by omega), show (nI i + 2 : Int32) = nI (i + 2) from nI_add i 2, inb_nI (n := sc.1) (i := i + 2) (by omega) (by omega), nI_clamp (n := i + 2) (by omega), ho]
  refine Tr_mono ht (fun r2 hr => ?_)
  obtain ⟨a2, h2⟩ := r2
  obtain ⟨e1, c2⟩ := hr
  simp only at e1 c2
  subst e1
  simp only [tl_s, x_258_1275, x_258_1278, x_258_1279, if_true]
  exact lw_foot K c2
set_option maxHeartbeats 1000000 in
theorem blk_28 {i : Nat} (hB : AllB sc) (hL : sc.1 ≤ 3072) (hi : i + 6 ≤ sc.1) (hc : CM h) (K : ∀ h, CM h → Tr sc 20 258 (18, [some (.ref 1004), some (.ref 0), some (.ref 124), some (.int (nI (i + 6)))], [], h) Q) : Tr sc 20 258 (1280, [some (.ref 1004), some (.ref 0), some (.ref 124), some (.int (nI i))], [], h) Q := by
  have hw := hc.1
  have hB := hB h hc
  simp only [x_258_1280, x_258_1281, x_258_1282, x_258_1283, x_258_1284, x_258_1285, x_258_1286, x_258_1287, x_258_1288, x_258_1289, x_258_1290, x_258_1291, iOk_sc, iRd_sc, true_and, cl2_r, show (nI i + 1 : Int32) = nI (i + 1) from nI_add i 1, inb_nI (n := sc.1) (i := i + 1) (by omega) (by omega), nI_clamp (n := i + 1) (by omega), show (nI i + 2 : Int32) = nI (i + 2) from nI_add i 2, inb_nI (n := sc.1) (i := i + 2) (by omega) (by omega), nI_clamp (n := i + 2) (by omega), o_0 hw]
  refine both_I (hB.2.2.2.2.2.2.2.2.2.2.2.2.2.2.2.2.2.2.2.2.2.2.2.2.2.2.2.2.2.1 (sc.2 (i + 1)) (sc.2 (i + 2))) hw.1 (by decide) r_124 (fun x h1 ho ht => ?_)
  simp only [tl_s, x_258_1294, x_258_1295, x_258_1296, x_258_1297, x_258_1298, x_258_1299, x_258_1300, x_258_1301, x_258_1302, x_258_1303, x_258_1304, x_258_1305, iOk_sc, iRd_sc, true_and, cl2_r, show (nI i + 1 : Int32) = nI (i + 1) from nI_add i 1, inb_nI (n := sc.1) (i := i + 1) (by omega) (by omega), nI_clamp (n := i + 1) (by omega), show (nI i + 2 : Int32) = nI (i + 2) from nI_add i 2, inb_nI (n := sc.1) (i := i + 2) (by omega) (by omega), nI_clamp (n := i + 2) (by omega), ho]
  refine Tr_mono ht (fun r2 hr => ?_)
  obtain ⟨a2, h2⟩ := r2
  obtain ⟨e1, c2⟩ := hr
  simp only at e1 c2
  subst e1
  simp only [tl_s, x_258_1308, x_258_1311, x_258_1312, if_true]
  exact lw_foot K c2
set_option maxHeartbeats 1000000 in
theorem blk_29 {i : Nat} (hB : AllB sc) (hL : sc.1 ≤ 3072) (hi : i + 6 ≤ sc.1) (hc : CM h) (K : ∀ h, CM h → Tr sc 20 258 (18, [some (.ref 1004), some (.ref 0), some (.ref 124), some (.int (nI (i + 6)))], [], h) Q) : Tr sc 20 258 (1313, [some (.ref 1004), some (.ref 0), some (.ref 124), some (.int (nI i))], [], h) Q := by
  have hw := hc.1
  have hB := hB h hc
  simp only [x_258_1313, x_258_1314, x_258_1315, x_258_1316, x_258_1317, x_258_1318, x_258_1319, x_258_1320, x_258_1321, x_258_1322, x_258_1323, x_258_1324, x_258_1325, x_258_1326, x_258_1327, x_258_1328, x_258_1329, x_258_1330, x_258_1331, x_258_1332, x_258_1333, x_258_1334, iOk_sc, iRd_sc, true_and, cl2_r, show (nI i + 1 : Int32) = nI (i + 1) from nI_add i 1, inb_nI (n := sc.1) (i := i + 1) (by omega) (by omega), nI_clamp (n := i + 1) (by omega), show (nI i + 2 : Int32) = nI (i + 2) from nI_add i 2, inb_nI (n := sc.1) (i := i + 2) (by omega) (by omega), nI_clamp (n := i + 2) (by omega), show (nI i + 3 : Int32) = nI (i + 3) from nI_add i 3, inb_nI (n := sc.1) (i := i + 3) (by omega) (by omega), nI_clamp (n := i + 3) (by omega), show (nI i + 4 : Int32) = nI (i + 4) from nI_add i 4, inb_nI (n := sc.1) (i := i + 4) (by omega) (by omega), nI_clamp (n := i + 4) (by omega), o_0 hw]
  refine both_I (hB.2.2.2.2.2.2.2.2.2.2.2.2.2.2.2.2.2.2.2.2.2.2.2.2.2.2.2.2.2.2.1 (sc.2 (i + 1)) (sc.2 (i + 2)) (sc.2 (i + 3)) (sc.2 (i + 4))) hw.1 (by decide) r_125 (fun x h1 ho ht => ?_)
  simp only [tl_s, x_258_1337, x_258_1338, x_258_1339, x_258_1340, x_258_1341, x_258_1342, x_258_1343, x_258_1344, x_258_1345, x_258_1346, x_258_1347, x_258_1348, x_258_1349, x_258_1350, x_258_1351, x_258_1352, x_258_1353, x_258_1354, x_258_1355, x_258_1356, x_258_1357, x_258_1358, iOk_sc, iRd_sc, true_and, cl2_r, show (nI i + 1 : Int32) = nI (i + 1) from nI_add i 1, inb_nI (n := sc.1) (i := i + 1) (by omega) (by omega), nI_clamp (n := i + 1) (by omega), show (nI i + 2 : Int32) = nI (i + 2) from nI_add i 2, inb_nI (n := sc.1) (i := i + 2) (by omega) (by omega), nI_clamp (n := i + 2) (by omega), show (nI i + 3 : Int32) = nI (i + 3) from nI_add i 3, inb_nI (n := sc.1) (i := i + 3) (by omega) (by omega), nI_clamp (n := i + 3) (by omega), show (nI i + 4 : Int32) = nI (i + 4) from nI_add i 4, inb_nI (n := sc.1) (i := i + 4) (by omega) (by omega), nI_clamp (n := i + 4) (by omega), ho]
  refine Tr_mono ht (fun r2 hr => ?_)
  obtain ⟨a2, h2⟩ := r2
  obtain ⟨e1, c2⟩ := hr
  simp only at e1 c2
  subst e1
  simp only [tl_s, x_258_1361, x_258_1364, x_258_1365, if_true]
  exact lw_foot K c2
set_option maxHeartbeats 1000000 in
theorem blk_30 {i : Nat} (hB : AllB sc) (hL : sc.1 ≤ 3072) (hi : i + 6 ≤ sc.1) (hc : CM h) (K : ∀ h, CM h → Tr sc 20 258 (18, [some (.ref 1004), some (.ref 0), some (.ref 124), some (.int (nI (i + 6)))], [], h) Q) : Tr sc 20 258 (1366, [some (.ref 1004), some (.ref 0), some (.ref 124), some (.int (nI i))], [], h) Q := by
  have hw := hc.1
  have hB := hB h hc
  simp only [x_258_1366, x_258_1367, x_258_1368, x_258_1369, x_258_1370, x_258_1371, x_258_1372, x_258_1373, x_258_1374, x_258_1375, x_258_1376, x_258_1377, iOk_sc, iRd_sc, true_and, cl2_r, show (nI i + 1 : Int32) = nI (i + 1) from nI_add i 1, inb_nI (n := sc.1) (i := i + 1) (by omega) (by omega), nI_clamp (n := i + 1) (by omega), show (nI i + 2 : Int32) = nI (i + 2) from nI_add i 2, inb_nI (n := sc.1) (i := i + 2) (by omega) (by omega), nI_clamp (n := i + 2) (by omega), o_0 hw]
  refine both_I (hB.2.2.2.2.2.2.2.2.2.2.2.2.2.2.2.2.2.2.2.2.2.2.2.2.2.2.2.2.2.2.2.1 (sc.2 (i + 1)) (sc.2 (i + 2))) hw.1 (by decide) r_126 (fun x h1 ho ht => ?_)
  simp only [tl_s, x_258_1380, x_258_1381, x_258_1382, x_258_1383, x_258_1384, x_258_1385, x_258_1386, x_258_1387, x_258_1388, x_258_1389, x_258_1390, x_258_1391, iOk_sc, iRd_sc, true_and, cl2_r, show (nI i + 1 : Int32) = nI (i + 1) from nI_add i 1, inb_nI (n := sc.1) (i := i + 1) (by omega) (by omega), nI_clamp (n := i + 1) (by omega), show (nI i + 2 : Int32) = nI (i + 2) from nI_add i 2, inb_nI (n := sc.1) (i := i + 2) (by omega) (by omega), nI_clamp (n := i + 2) (by omega), ho]
  refine Tr_mono ht (fun r2 hr => ?_)
  obtain ⟨a2, h2⟩ := r2
  obtain ⟨e1, c2⟩ := hr
  simp only at e1 c2
  subst e1
  simp only [tl_s, x_258_1394, x_258_1397, x_258_1398, if_true]
  exact lw_foot K c2
set_option maxHeartbeats 1000000 in
theorem blk_31 {i : Nat} (hB : AllB sc) (hL : sc.1 ≤ 3072) (hi : i + 6 ≤ sc.1) (hc : CM h) (K : ∀ h, CM h → Tr sc 20 258 (18, [some (.ref 1004), some (.ref 0), some (.ref 124), some (.int (nI (i + 6)))], [], h) Q) : Tr sc 20 258 (1399, [some (.ref 1004), some (.ref 0), some (.ref 124), some (.int (nI i))], [], h) Q := by
  have hw := hc.1
  have hB := hB h hc
  by_cases eb : sc.2 (i + 2) = 0
  · simp only [x_258_1399, x_258_1400, x_258_1401, x_258_1402, x_258_1403, x_258_1404, x_258_1405, x_258_1406, x_258_1407, x_258_1408, x_258_1409, x_258_1410, x_258_1413, x_258_1414, x_258_1417, x_258_1418, iOk_sc, iRd_sc, true_and, cl2_r, show (nI i + 1 : Int32) = nI (i + 1) from nI_add i 1, inb_nI (n := sc.1) (i := i + 1) (by omega) (by omega), nI_clamp (n := i + 1) (by omega), show (nI i + 2 : Int32) = nI (i + 2) from nI_add i 2, inb_nI (n := sc.1) (i := i + 2) (by omega) (by omega), nI_clamp (n := i + 2) (by omega), o_0 hw, if_pos eb]
    refine both_I (hB.2.2.2.2.2.2.2.2.2.2.2.2.2.2.2.2.2.2.2.2.2.2.2.2.2.2.2.2.2.2.2.2.1 (sc.2 (i + 1)) 0 (Or.inl rfl)) hw.1 (by decide) r_127 (fun x h1 ho ht => ?_)
    simp only [tl_s, x_258_1421, x_258_1422, x_258_1423, x_258_1424, x_258_1425, x_258_1426, x_258_1427, x_258_1428, x_258_1429, x_258_1430, x_258_1431, x_258_1432, x_258_1435, x_258_1436, x_258_1439, x_258_1440, iOk_sc, iRd_sc, true_and, cl2_r, show (nI i + 1 : Int32) = nI (i + 1) from nI_add i 1, inb_nI (n := sc.1) (i := i + 1) (by omega) (by omega), nI_clamp (n := i + 1) (by omega), show (nI i + 2 : Int32) = nI (i + 2) from nI_add i 2, inb_nI (n := sc.1) (i := i + 2) (by omega) (by omega), nI_clamp (n := i + 2) (by omega), ho, if_pos eb]
    refine Tr_mono ht (fun r2 hr => ?_)
    obtain ⟨a2, h2⟩ := r2
    obtain ⟨e1, c2⟩ := hr
    simp only at e1 c2
    subst e1
    simp only [tl_s, x_258_1443, x_258_1446, x_258_1447, if_true]
    exact lw_foot K c2
  · simp only [x_258_1399, x_258_1400, x_258_1401, x_258_1402, x_258_1403, x_258_1404, x_258_1405, x_258_1406, x_258_1407, x_258_1408, x_258_1409, x_258_1410, x_258_1413, x_258_1414, x_258_1417, x_258_1418, iOk_sc, iRd_sc, true_and, cl2_r, show (nI i + 1 : Int32) = nI (i + 1) from nI_add i 1, inb_nI (n := sc.1) (i := i + 1) (by omega) (by omega), nI_clamp (n := i + 1) (by omega), show (nI i + 2 : Int32) = nI (i + 2) from nI_add i 2, inb_nI (n := sc.1) (i := i + 2) (by omega) (by omega), nI_clamp (n := i + 2) (by omega), o_0 hw, if_neg eb]
    refine both_I (hB.2.2.2.2.2.2.2.2.2.2.2.2.2.2.2.2.2.2.2.2.2.2.2.2.2.2.2.2.2.2.2.2.1 (sc.2 (i + 1)) 1 (Or.inr rfl)) hw.1 (by decide) r_127 (fun x h1 ho ht => ?_)
    simp only [tl_s, x_258_1421, x_258_1422, x_258_1423, x_258_1424, x_258_1425, x_258_1426, x_258_1427, x_258_1428, x_258_1429, x_258_1430, x_258_1431, x_258_1432, x_258_1435, x_258_1436, x_258_1439, x_258_1440, iOk_sc, iRd_sc, true_and, cl2_r, show (nI i + 1 : Int32) = nI (i + 1) from nI_add i 1, inb_nI (n := sc.1) (i := i + 1) (by omega) (by omega), nI_clamp (n := i + 1) (by omega), show (nI i + 2 : Int32) = nI (i + 2) from nI_add i 2, inb_nI (n := sc.1) (i := i + 2) (by omega) (by omega), nI_clamp (n := i + 2) (by omega), ho, if_neg eb]
    refine Tr_mono ht (fun r2 hr => ?_)
    obtain ⟨a2, h2⟩ := r2
    obtain ⟨e1, c2⟩ := hr
    simp only at e1 c2
    subst e1
    simp only [tl_s, x_258_1443, x_258_1446, x_258_1447, if_true]
    exact lw_foot K c2
set_option maxHeartbeats 1000000 in
theorem blk_32 {i : Nat} (hB : AllB sc) (hL : sc.1 ≤ 3072) (hi : i + 6 ≤ sc.1) (hc : CM h) (K : ∀ h, CM h → Tr sc 20 258 (18, [some (.ref 1004), some (.ref 0), some (.ref 124), some (.int (nI (i + 6)))], [], h) Q) : Tr sc 20 258 (1448, [some (.ref 1004), some (.ref 0), some (.ref 124), some (.int (nI i))], [], h) Q := by
  have hw := hc.1
  have hB := hB h hc
  simp only [x_258_1448, x_258_1449, x_258_1450, x_258_1451, x_258_1452, x_258_1453, x_258_1454, x_258_1455, x_258_1456, x_258_1457, x_258_1458, x_258_1459, x_258_1460, x_258_1461, x_258_1462, x_258_1463, x_258_1464, x_258_1465, x_258_1466, x_258_1467, x_258_1468, x_258_1469, iOk_sc, iRd_sc, true_and, cl2_r, show (nI i + 1 : Int32) = nI (i + 1) from nI_add i 1, inb_nI (n := sc.1) (i := i + 1) (by omega) (by omega), nI_clamp (n := i + 1) (by omega), show (nI i + 2 : Int32) = nI (i + 2) from nI_add i 2, inb_nI (n := sc.1) (i := i + 2) (by omega) (by omega), nI_clamp (n := i + 2) (by omega), show (nI i + 3 : Int32) = nI (i + 3) from nI_add i 3, inb_nI (n := sc.1) (i := i + 3) (by omega) (by omega), nI_clamp (n := i + 3) (by omega), show (nI i + 4 : Int32) = nI (i + 4) from nI_add i 4, inb_nI (n := sc.1) (i := i + 4) (by omega) (by omega), nI_clamp (n := i + 4) (by omega), o_0 hw]
  refine both_I (hB.2.2.2.2.2.2.2.2.2.2.2.2.2.2.2.2.2.2.2.2.2.2.2.2.2.2.2.2.2.2.2.2.2.1 (sc.2 (i + 1)) (sc.2 (i + 2)) (sc.2 (i + 3)) (sc.2 (i + 4))) hw.1 (by decide) r_128 (fun x h1 ho ht => ?_)
  simp only [tl_s, x_258_1472, x_258_1473, x_258_1474, x_258_1475, x_258_1476, x_258_1477, x_258_1478, x_258_1479, x_258_1480, x_258_1481, x_258_1482, x_258_1483, x_258_1484, x_258_1485, x_258_1486, x_258_1487, x_258_1488, x_258_1489, x_258_1490, x_258_1491, x_258_1492, x_258_1493, iOk_sc, iRd_sc, true_and, cl2_r, show (nI i + 1 : Int32) = nI (i + 1) from nI_add i 1, inb_nI (n := sc.1) (i := i + 1) (by omega) (by omega), nI_clamp (n := i + 1) (by omega), show (nI i + 2 : Int32) = nI (i + 2) from nI_add i 2, inb_nI (n := sc.1) (i := i + 2) (by omega) (by omega), nI_clamp (n := i + 2) (by omega), show (nI i + 3 : Int32) = nI (i + 3) from nI_add i 3, inb_nI (n := sc.1) (i := i + 3) (by omega) (by omega), nI_clamp (n := i + 3) (by omega), show (nI i + 4 : Int32) = nI (i + 4) from nI_add i 4, inb_nI (n := sc.1) (i := i + 4) (by omega) (by omega), nI_clamp (n := i + 4) (by omega), ho]
  refine Tr_mono ht (fun r2 hr => ?_)
  obtain ⟨a2, h2⟩ := r2
  obtain ⟨e1, c2⟩ := hr
  simp only at e1 c2
  subst e1
  simp only [tl_s, x_258_1496, x_258_1499, x_258_1500, if_true]
  exact lw_foot K c2
set_option maxHeartbeats 1000000 in
theorem blk_33 {i : Nat} (hB : AllB sc) (hL : sc.1 ≤ 3072) (hi : i + 6 ≤ sc.1) (hc : CM h) (K : ∀ h, CM h → Tr sc 20 258 (18, [some (.ref 1004), some (.ref 0), some (.ref 124), some (.int (nI (i + 6)))], [], h) Q) : Tr sc 20 258 (1501, [some (.ref 1004), some (.ref 0), some (.ref 124), some (.int (nI i))], [], h) Q := by
  have hw := hc.1
  have hB := hB h hc
  simp only [x_258_1501, x_258_1502, x_258_1503, x_258_1504, x_258_1505, x_258_1506, x_258_1507, x_258_1508, x_258_1509, x_258_1510, x_258_1511, x_258_1512, iOk_sc, iRd_sc, true_and, cl2_r, show (nI i + 1 : Int32) = nI (i + 1) from nI_add i 1, inb_nI (n := sc.1) (i := i + 1) (by omega) (by omega), nI_clamp (n := i + 1) (by omega), show (nI i + 2 : Int32) = nI (i + 2) from nI_add i 2, inb_nI (n := sc.1) (i := i + 2) (by omega) (by omega), nI_clamp (n := i + 2) (by omega), o_0 hw]
  refine both_I (hB.2.2.2.2.2.2.2.2.2.2.2.2.2.2.2.2.2.2.2.2.2.2.2.2.2.2.2.2.2.2.2.2.2.2.1 (sc.2 (i + 1)) (sc.2 (i + 2))) hw.1 (by decide) r_129 (fun x h1 ho ht => ?_)
  simp only [tl_s, x_258_1515, x_258_1516, x_258_1517, x_258_1518, x_258_1519, x_258_1520, x_258_1521, x_258_1522, x_258_1523, x_258_1524, x_258_1525, x_258_1526, iOk_sc, iRd_sc, true_and, cl2_r, show (nI i + 1 : Int32) = nI (i + 1) from nI_add i 1, inb_nI (n := sc.1) (i := i + 1) (by omega) (by omega), nI_clamp (n := i + 1) (by omega), show (nI i + 2 : Int32) = nI (i + 2) from nI_add i 2, inb_nI (n := sc.1) (i := i + 2) (by omega) (by omega), nI_clamp (n := i + 2) (by omega), ho]
  refine Tr_mono ht (fun r2 hr => ?_)
  obtain ⟨a2, h2⟩ := r2
  obtain ⟨e1, c2⟩ := hr
  simp only at e1 c2
  subst e1
  simp only [tl_s, x_258_1529, x_258_1532, x_258_1533, if_true]
  exact lw_foot K c2
set_option maxHeartbeats 1000000 in
theorem blk_34 {i : Nat} (hB : AllB sc) (hL : sc.1 ≤ 3072) (hi : i + 6 ≤ sc.1) (hc : CM h) (K : ∀ h, CM h → Tr sc 20 258 (18, [some (.ref 1004), some (.ref 0), some (.ref 124), some (.int (nI (i + 6)))], [], h) Q) : Tr sc 20 258 (1534, [some (.ref 1004), some (.ref 0), some (.ref 124), some (.int (nI i))], [], h) Q := by
  have hw := hc.1
  have hB := hB h hc
  simp only [x_258_1534, x_258_1535, x_258_1536, x_258_1537, x_258_1538, x_258_1539, x_258_1540, x_258_1541, x_258_1542, x_258_1543, x_258_1544, x_258_1545, x_258_1546, x_258_1547, x_258_1548, x_258_1549, x_258_1550, iOk_sc, iRd_sc, true_and, cl2_r, show (nI i + 1 : Int32) = nI (i + 1) from nI_add i 1, inb_nI (n := sc.1) (i := i + 1) (by omega) (by omega), nI_clamp (n := i + 1) (by omega), show (nI i + 2 : Int32) = nI (i + 2) from nI_add i 2, inb_nI (n := sc.1) (i := i + 2) (by omega) (by omega), nI_clamp (n := i + 2) (by omega), show (nI i + 3 : Int32) = nI (i + 3) from nI_add i 3, inb_nI (n := sc.1) (i := i + 3) (by omega) (by omega), nI_clamp (n := i + 3) (by omega), o_0 hw]
  refine both_I (hB.2.2.2.2.2.2.2.2.2.2.2.2.2.2.2.2.2.2.2.2.2.2.2.2.2.2.2.2.2.2.2.2.2.2.2.1 (sc.2 (i + 1)) (sc.2 (i + 2)) (sc.2 (i + 3))) hw.1 (by decide) r_130 (fun x h1 ho ht => ?_)
  simp only [tl_s, x_258_1553, x_258_1554, x_258_1555, x_258_1556, x_258_1557, x_258_1558, x_258_1559, x_258_1560, x_258_1561, x_258_1562, x_258_1563, x_258_1564, x_258_1565, x_258_1566, x_258_1567, x_258_1568, x_258_1569, iOk_sc, iRd_sc, true_and, cl2_r, show (nI i + 1 : Int32) = nI (i + 1) from nI_add i 1, inb_nI (n := sc.1) (i := i + 1) (by omega) (by omega), nI_clamp (n := i + 1) (by omega), show (nI i + 2 : Int32) = nI (i + 2) from nI_add i 2, inb_nI (n := sc.1) (i := i + 2) (by omega) (by omega), nI_clamp (n := i + 2) (by omega), show (nI i + 3 : Int32) = nI (i + 3) from nI_add i 3, inb_nI (n := sc.1) (i := i + 3) (by omega) (by omega), nI_clamp (n := i + 3) (by omega), ho]
  refine Tr_mono ht (fun r2 hr => ?_)
  obtain ⟨a2, h2⟩ := r2
  obtain ⟨e1, c2⟩ := hr
  simp only at e1 c2
  subst e1
  simp only [tl_s, x_258_1572, x_258_1575, x_258_1576, if_true]
  exact lw_foot K c2
set_option maxHeartbeats 1000000 in
theorem blk_35 {i : Nat} (hB : AllB sc) (hL : sc.1 ≤ 3072) (hi : i + 6 ≤ sc.1) (hc : CM h) (K : ∀ h, CM h → Tr sc 20 258 (18, [some (.ref 1004), some (.ref 0), some (.ref 124), some (.int (nI (i + 6)))], [], h) Q) : Tr sc 20 258 (1577, [some (.ref 1004), some (.ref 0), some (.ref 124), some (.int (nI i))], [], h) Q := by
  have hw := hc.1
  have hB := hB h hc
  simp only [x_258_1577, x_258_1578, x_258_1579, x_258_1580, x_258_1581, x_258_1582, x_258_1583, x_258_1584, x_258_1585, x_258_1586, x_258_1587, x_258_1588, x_258_1589, x_258_1590, x_258_1591, x_258_1592, x_258_1593, iOk_sc, iRd_sc, true_and, cl2_r, show (nI i + 1 : Int32) = nI (i + 1) from nI_add i 1, inb_nI (n := sc.1) (i := i + 1) (by omega) (by omega), nI_clamp (n := i + 1) (by omega), show (nI i + 2 : Int32) = nI (i + 2) from nI_add i 2, inb_nI (n := sc.1) (i := i + 2) (by omega) (by omega), nI_clamp (n := i + 2) (by omega), show (nI i + 3 : Int32) = nI (i + 3) from nI_add i 3, inb_nI (n := sc.1) (i := i + 3) (by omega) (by omega), nI_clamp (n := i + 3) (by omega), o_0 hw]
  refine both_I (hB.2.2.2.2.2.2.2.2.2.2.2.2.2.2.2.2.2.2.2.2.2.2.2.2.2.2.2.2.2.2.2.2.2.2.2.2.1 (sc.2 (i + 1)) (sc.2 (i + 2)) (sc.2 (i + 3))) hw.1 (by decide) r_131 (fun x h1 ho ht => ?_)
  simp only [tl_s, x_258_1596, x_258_1597, x_258_1598, x_258_1599, x_258_1600, x_258_1601, x_258_1602, x_258_1603, x_258_1604, x_258_1605, x_258_1606, x_258_1607, x_258_1608, x_258_1609, x_258_1610, x_258_1611, x_258_1612, iOk_sc, iRd_sc, true_and, cl2_r, show (nI i + 1 : Int32) = nI (i + 1) from nI_add i 1, inb_nI (n := sc.1) (i := i + 1) (by omega) (by omega), nI_clamp (n := i + 1) (by omega), show (nI i + 2 : Int32) = nI (i + 2) from nI_add i 2, inb_nI (n := sc.1) (i := i + 2) (by omega) (by omega), nI_clamp (n := i + 2) (by omega), show (nI i + 3 : Int32) = nI (i + 3) from nI_add i 3, inb_nI (n := sc.1) (i := i + 3) (by omega) (by omega), nI_clamp (n := i + 3) (by omega), ho]
  refine Tr_mono ht (fun r2 hr => ?_)
  obtain ⟨a2, h2⟩ := r2
  obtain ⟨e1, c2⟩ := hr
  simp only at e1 c2
  subst e1
  simp only [tl_s, x_258_1615, x_258_1618, x_258_1619, if_true]
  exact lw_foot K c2
set_option maxHeartbeats 1000000 in
theorem blk_36 {i : Nat} (hB : AllB sc) (hL : sc.1 ≤ 3072) (hi : i + 6 ≤ sc.1) (hc : CM h) (K : ∀ h, CM h → Tr sc 20 258 (18, [some (.ref 1004), some (.ref 0), some (.ref 124), some (.int (nI (i + 6)))], [], h) Q) : Tr sc 20 258 (1620, [some (.ref 1004), some (.ref 0), some (.ref 124), some (.int (nI i))], [], h) Q := by
  have hw := hc.1
  have hB := hB h hc
  simp only [x_258_1620, x_258_1621, iOk_sc, iRd_sc, true_and, cl2_r, o_0 hw]
  refine both_L (hB.2.2.2.2.2.2.2.2.2.2.2.2.2.2.2.2.2.2.2.2.2.2.2.2.2.2.2.2.2.2.2.2.2.2.2.2.2.1 ) hw.1 (by decide) r_132 (fun x h1 ho ht => ?_)
  simp only [tl_s, x_258_1624, x_258_1625, iOk_sc, iRd_sc, true_and, cl2_r, ho]
  refine Tr_mono ht (fun r2 hr => ?_)
  obtain ⟨a2, h2⟩ := r2
  obtain ⟨e1, c2⟩ := hr
  simp only at e1 c2
  subst e1
  simp only [tl_s, x_258_1628, x_258_1629, x_258_1632, x_258_1633, lcmp_eq, if_true]
  exact lw_foot K c2
set_option maxHeartbeats 1000000 in
theorem blk_37 {i : Nat} (hB : AllB sc) (hL : sc.1 ≤ 3072) (hi : i + 6 ≤ sc.1) (hc : CM h) (K : ∀ h, CM h → Tr sc 20 258 (18, [some (.ref 1004), some (.ref 0), some (.ref 124), some (.int (nI (i + 6)))], [], h) Q) : Tr sc 20 258 (1634, [some (.ref 1004), some (.ref 0), some (.ref 124), some (.int (nI i))], [], h) Q := by
  have hw := hc.1
  have hB := hB h hc
  simp only [x_258_1634, x_258_1635, iOk_sc, iRd_sc, true_and, cl2_r, o_0 hw]
  refine both_I (hB.2.2.2.2.2.2.2.2.2.2.2.2.2.2.2.2.2.2.2.2.2.2.2.2.2.2.2.2.2.2.2.2.2.2.2.2.2.2.1 ) hw.1 (by decide) r_133 (fun x h1 ho ht => ?_)
  simp only [tl_s, x_258_1638, x_258_1639, iOk_sc, iRd_sc, true_and, cl2_r, ho]
  refine Tr_mono ht (fun r2 hr => ?_)
  obtain ⟨a2, h2⟩ := r2
  obtain ⟨e1, c2⟩ := hr
  simp only at e1 c2
  subst e1
  simp only [tl_s, x_258_1642, x_258_1645, x_258_1646, if_true]
  exact lw_foot K c2
set_option maxHeartbeats 1000000 in
theorem blk_38 {i : Nat} (hB : AllB sc) (hL : sc.1 ≤ 3072) (hi : i + 6 ≤ sc.1) (hc : CM h) (K : ∀ h, CM h → Tr sc 20 258 (18, [some (.ref 1004), some (.ref 0), some (.ref 124), some (.int (nI (i + 6)))], [], h) Q) : Tr sc 20 258 (1647, [some (.ref 1004), some (.ref 0), some (.ref 124), some (.int (nI i))], [], h) Q := by
  have hw := hc.1
  have hB := hB h hc
  simp only [x_258_1647, x_258_1648, iOk_sc, iRd_sc, true_and, cl2_r, o_0 hw]
  refine both_L (hB.2.2.2.2.2.2.2.2.2.2.2.2.2.2.2.2.2.2.2.2.2.2.2.2.2.2.2.2.2.2.2.2.2.2.2.2.2.2.2.1 ) hw.1 (by decide) r_134 (fun x h1 ho ht => ?_)
  simp only [tl_s, x_258_1651, x_258_1652, iOk_sc, iRd_sc, true_and, cl2_r, ho]
  refine Tr_mono ht (fun r2 hr => ?_)
  obtain ⟨a2, h2⟩ := r2
  obtain ⟨e1, c2⟩ := hr
  simp only at e1 c2
  subst e1
  simp only [tl_s, x_258_1655, x_258_1656, x_258_1659, x_258_1660, lcmp_eq, if_true]
  exact lw_foot K c2
set_option maxHeartbeats 1000000 in
theorem blk_39 {i : Nat} (hB : AllB sc) (hL : sc.1 ≤ 3072) (hi : i + 6 ≤ sc.1) (hc : CM h) (K : ∀ h, CM h → Tr sc 20 258 (18, [some (.ref 1004), some (.ref 0), some (.ref 124), some (.int (nI (i + 6)))], [], h) Q) : Tr sc 20 258 (1661, [some (.ref 1004), some (.ref 0), some (.ref 124), some (.int (nI i))], [], h) Q := by
  have hw := hc.1
  have hB := hB h hc
  simp only [x_258_1661, x_258_1662, iOk_sc, iRd_sc, true_and, cl2_r, o_0 hw]
  refine both_L (hB.2.2.2.2.2.2.2.2.2.2.2.2.2.2.2.2.2.2.2.2.2.2.2.2.2.2.2.2.2.2.2.2.2.2.2.2.2.2.2.2.1 ) hw.1 (by decide) r_135 (fun x h1 ho ht => ?_)
  simp only [tl_s, x_258_1665, x_258_1666, iOk_sc, iRd_sc, true_and, cl2_r, ho]
  refine Tr_mono ht (fun r2 hr => ?_)
  obtain ⟨a2, h2⟩ := r2
  obtain ⟨e1, c2⟩ := hr
  simp only at e1 c2
  subst e1
  simp only [tl_s, x_258_1669, x_258_1670, x_258_1673, x_258_1674, lcmp_eq, if_true]
  exact lw_foot K c2
set_option maxHeartbeats 1000000 in
theorem blk_40 {i : Nat} (hB : AllB sc) (hL : sc.1 ≤ 3072) (hi : i + 6 ≤ sc.1) (hc : CM h) (K : ∀ h, CM h → Tr sc 20 258 (18, [some (.ref 1004), some (.ref 0), some (.ref 124), some (.int (nI (i + 6)))], [], h) Q) : Tr sc 20 258 (1675, [some (.ref 1004), some (.ref 0), some (.ref 124), some (.int (nI i))], [], h) Q := by
  have hw := hc.1
  have hB := hB h hc
  simp only [x_258_1675, x_258_1676, x_258_1677, x_258_1678, x_258_1679, x_258_1680, x_258_1681, iOk_sc, iRd_sc, true_and, cl2_r, show (nI i + 1 : Int32) = nI (i + 1) from nI_add i 1, inb_nI (n := sc.1) (i := i + 1) (by omega) (by omega), nI_clamp (n := i + 1) (by omega), o_0 hw]
  refine both_I (hB.2.2.2.2.2.2.2.2.2.2.2.2.2.2.2.2.2.2.2.2.2.2.2.2.2.2.2.2.2.2.2.2.2.2.2.2.2.2.2.2.2.1 (sc.2 (i + 1))) hw.1 (by decide) r_136 (fun x h1 ho ht => ?_)
  simp only [tl_s, x_258_1684, x_258_1685, x_258_1686, x_258_1687, x_258_1688, x_258_1689, x_258_1690, iOk_sc, iRd_sc, true_and, cl2_r, show (nI i + 1 : Int32) = nI (i + 1) from nI_add i 1, inb_nI (n := sc.1) (i := i + 1) (by omega) (by omega), nI_clamp (n := i + 1) (by omega), ho]
  refine Tr_mono ht (fun r2 hr => ?_)
  obtain ⟨a2, h2⟩ := r2
  obtain ⟨e1, c2⟩ := hr
  simp only at e1 c2
  subst e1
  simp only [tl_s, x_258_1693, x_258_1696, x_258_1697, if_true]
  exact lw_foot K c2
set_option maxHeartbeats 1000000 in
theorem blk_41 {i : Nat} (hB : AllB sc) (hL : sc.1 ≤ 3072) (hi : i + 6 ≤ sc.1) (hc : CM h) (K : ∀ h, CM h → Tr sc 20 258 (18, [some (.ref 1004), some (.ref 0), some (.ref 124), some (.int (nI (i + 6)))], [], h) Q) : Tr sc 20 258 (1698, [some (.ref 1004), some (.ref 0), some (.ref 124), some (.int (nI i))], [], h) Q := by
  have hw := hc.1
  have hB := hB h hc
  simp only [x_258_1698, x_258_1699, iOk_sc, iRd_sc, true_and, cl2_r, o_0 hw]
  refine both_I (hB.2.2.2.2.2.2.2.2.2.2.2.2.2.2.2.2.2.2.2.2.2.2.2.2.2.2.2.2.2.2.2.2.2.2.2.2.2.2.2.2.2.2.1 ) hw.1 (by decide) r_137 (fun x h1 ho ht => ?_)
  simp only [tl_s, x_258_1702, x_258_1703, iOk_sc, iRd_sc, true_and, cl2_r, ho]
  refine Tr_mono ht (fun r2 hr => ?_)
  obtain ⟨a2, h2⟩ := r2
  obtain ⟨e1, c2⟩ := hr
  simp only at e1 c2
  subst e1
  simp only [tl_s, x_258_1706, x_258_1709, x_258_1710, if_true]
  exact lw_foot K c2
set_option maxHeartbeats 1000000 in
theorem blk_42 {i : Nat} (hB : AllB sc) (hL : sc.1 ≤ 3072) (hi : i + 6 ≤ sc.1) (hc : CM h) (K : ∀ h, CM h → Tr sc 20 258 (18, [some (.ref 1004), some (.ref 0), some (.ref 124), some (.int (nI (i + 6)))], [], h) Q) : Tr sc 20 258 (1711, [some (.ref 1004), some (.ref 0), some (.ref 124), some (.int (nI i))], [], h) Q := by
  have hw := hc.1
  have hB := hB h hc
  simp only [x_258_1711, x_258_1712, x_258_1713, x_258_1714, x_258_1715, x_258_1716, x_258_1717, iOk_sc, iRd_sc, true_and, cl2_r, show (nI i + 1 : Int32) = nI (i + 1) from nI_add i 1, inb_nI (n := sc.1) (i := i + 1) (by omega) (by omega), nI_clamp (n := i + 1) (by omega), o_0 hw]
  refine both_I (hB.2.2.2.2.2.2.2.2.2.2.2.2.2.2.2.2.2.2.2.2.2.2.2.2.2.2.2.2.2.2.2.2.2.2.2.2.2.2.2.2.2.2.2.1 (sc.2 (i + 1))) hw.1 (by decide) r_138 (fun x h1 ho ht => ?_)
  simp only [tl_s, x_258_1720, x_258_1721, x_258_1722, x_258_1723, x_258_1724, x_258_1725, x_258_1726, iOk_sc, iRd_sc, true_and, cl2_r, show (nI i + 1 : Int32) = nI (i + 1) from nI_add i 1, inb_nI (n := sc.1) (i := i + 1) (by omega) (by omega), nI_clamp (n := i + 1) (by omega), ho]
  refine Tr_mono ht (fun r2 hr => ?_)
  obtain ⟨a2, h2⟩ := r2
  obtain ⟨e1, c2⟩ := hr
  simp only at e1 c2
  subst e1
  simp only [tl_s, x_258_1729, x_258_1732, x_258_1733, if_true]
  exact lw_foot K c2
set_option maxHeartbeats 1000000 in
theorem blk_43 {i : Nat} (hB : AllB sc) (hL : sc.1 ≤ 3072) (hi : i + 6 ≤ sc.1) (hc : CM h) (K : ∀ h, CM h → Tr sc 20 258 (18, [some (.ref 1004), some (.ref 0), some (.ref 124), some (.int (nI (i + 6)))], [], h) Q) : Tr sc 20 258 (1734, [some (.ref 1004), some (.ref 0), some (.ref 124), some (.int (nI i))], [], h) Q := by
  have hw := hc.1
  have hB := hB h hc
  simp only [x_258_1734, x_258_1735, iOk_sc, iRd_sc, true_and, cl2_r, o_0 hw]
  refine both_L (hB.2.2.2.2.2.2.2.2.2.2.2.2.2.2.2.2.2.2.2.2.2.2.2.2.2.2.2.2.2.2.2.2.2.2.2.2.2.2.2.2.2.2.2.2 ) hw.1 (by decide) r_139 (fun x h1 ho ht => ?_)
  simp only [tl_s, x_258_1738, x_258_1739, iOk_sc, iRd_sc, true_and, cl2_r, ho]
  refine Tr_mono ht (fun r2 hr => ?_)
  obtain ⟨a2, h2⟩ := r2
  obtain ⟨e1, c2⟩ := hr
  simp only at e1 c2
  subst e1
  simp only [tl_s, x_258_1742, x_258_1743, x_258_1746, x_258_1747, lcmp_eq, if_true]
  exact lw_foot K c2
theorem law_len (hk : (1004 : Nat) ≥ 1000) {l0 l1 l2 l3 : Option Value} {x : Int32} : Tr sc d 258 (20, [l0, l1, l2, l3], [.ref 1004, .int x], h) Q = Tr sc d 258 (21, [l0, l1, l2, l3], [.int (Int32.ofNat sc.1), .int x], h) Q := t_go k_258_20 rfl
theorem law_cmp {i : Nat} (hL : sc.1 ≤ 3072) (hi : i < 10000) : Int32.ofNat sc.1 - 6 < nI i ↔ ¬ i + 6 ≤ sc.1 := by
  have e : (nI sc.1 - nI 6).toInt = (sc.1 : Int) - (6 : Nat) := pk_sub_toInt (by omega) (by decide)
  rw [show Int32.ofNat sc.1 - 6 = nI sc.1 - nI 6 from rfl, Int32.lt_iff_toInt_lt, e, nI_toInt (by omega)]
  omega
theorem law_end {i : Nat} (hL : sc.1 ≤ 3072) (hb : i < 10000) (hi : ¬ i + 6 ≤ sc.1) (hc : CM h) (hQ : ∀ h, CM h → Q (some (.int 1), h)) : Tr sc 20 258 (18, [some (.ref 1004), some (.ref 0), some (.ref 124), some (.int (nI i))], [], h) Q := by
  rw [x_258_18]
  simp only [x_258_19, law_len (by decide), x_258_21, x_258_23, x_258_24]
  rw [if_pos (law_cmp hL (by omega) |>.mpr hi)]
  simp only [x_258_1754, x_258_1755, vp_b1, true_and]
  exact hQ h hc
theorem law_body {i : Nat} (hB : AllB sc) (hL : sc.1 ≤ 3072) (hi : i + 6 ≤ sc.1) (hc : CM h) (K : ∀ h, CM h → Tr sc 20 258 (18, [some (.ref 1004), some (.ref 0), some (.ref 124), some (.int (nI (i + 6)))], [], h) Q) : Tr sc 20 258 (18, [some (.ref 1004), some (.ref 0), some (.ref 124), some (.int (nI i))], [], h) Q := by
  rw [x_258_18]
  simp only [x_258_19, law_len (by decide), x_258_21, x_258_23, x_258_24]
  rw [if_neg (fun q => (law_cmp hL (by omega)).mp q hi)]
  simp only [x_258_27, x_258_28, x_258_29, x_258_30, x_258_32, iOk_sc, iRd_sc, inb_nI (n := sc.1) (i := i) (by omega) (by omega), nI_clamp (n := i) (by omega), true_and]
  obtain ⟨j, hj, ej⟩ := pk_andE (sc.2 i) (m := 63) 6 (by decide)
  rw [ej]
  match j, hj with
  | 0, _ => rw [sw_0]; exact blk_0 hB hL hi hc K
  | 1, _ => rw [sw_1]; exact blk_1 hB hL hi hc K
  | 2, _ => rw [sw_2]; exact blk_2 hB hL hi hc K
  | 3, _ => rw [sw_3]; exact blk_3 hB hL hi hc K
  | 4, _ => rw [sw_4]; exact blk_4 hB hL hi hc K
  | 5, _ => rw [sw_5]; exact blk_5 hB hL hi hc K
  | 6, _ => rw [sw_6]; exact blk_6 hB hL hi hc K
  | 7, _ => rw [sw_7]; exact blk_7 hB hL hi hc K
  | 8, _ => rw [sw_8]; exact blk_8 hB hL hi hc K
  | 9, _ => rw [sw_9]; exact blk_9 hB hL hi hc K
  | 10, _ => rw [sw_10]; exact blk_10 hB hL hi hc K
  | 11, _ => rw [sw_11]; exact blk_11 hB hL hi hc K
  | 12, _ => rw [sw_12]; exact blk_12 hB hL hi hc K
  | 13, _ => rw [sw_13]; exact blk_13 hB hL hi hc K
  | 14, _ => rw [sw_14]; exact blk_14 hB hL hi hc K
  | 15, _ => rw [sw_15]; exact blk_15 hB hL hi hc K
  | 16, _ => rw [sw_16]; exact blk_16 hB hL hi hc K
  | 17, _ => rw [sw_17]; exact blk_17 hB hL hi hc K
  | 18, _ => rw [sw_18]; exact blk_18 hB hL hi hc K
  | 19, _ => rw [sw_19]; exact blk_19 hB hL hi hc K
  | 20, _ => rw [sw_20]; exact blk_20 hB hL hi hc K
  | 21, _ => rw [sw_21]; exact blk_21 hB hL hi hc K
  | 22, _ => rw [sw_22]; exact blk_22 hB hL hi hc K
  | 23, _ => rw [sw_23]; exact blk_23 hB hL hi hc K
  | 24, _ => rw [sw_24]; exact blk_24 hB hL hi hc K
  | 25, _ => rw [sw_25]; exact blk_25 hB hL hi hc K
  | 26, _ => rw [sw_26]; exact blk_26 hB hL hi hc K
  | 27, _ => rw [sw_27]; exact blk_27 hB hL hi hc K
  | 28, _ => rw [sw_28]; exact blk_28 hB hL hi hc K
  | 29, _ => rw [sw_29]; exact blk_29 hB hL hi hc K
  | 30, _ => rw [sw_30]; exact blk_30 hB hL hi hc K
  | 31, _ => rw [sw_31]; exact blk_31 hB hL hi hc K
  | 32, _ => rw [sw_32]; exact blk_32 hB hL hi hc K
  | 33, _ => rw [sw_33]; exact blk_33 hB hL hi hc K
  | 34, _ => rw [sw_34]; exact blk_34 hB hL hi hc K
  | 35, _ => rw [sw_35]; exact blk_35 hB hL hi hc K
  | 36, _ => rw [sw_36]; exact blk_36 hB hL hi hc K
  | 37, _ => rw [sw_37]; exact blk_37 hB hL hi hc K
  | 38, _ => rw [sw_38]; exact blk_38 hB hL hi hc K
  | 39, _ => rw [sw_39]; exact blk_39 hB hL hi hc K
  | 40, _ => rw [sw_40]; exact blk_40 hB hL hi hc K
  | 41, _ => rw [sw_41]; exact blk_41 hB hL hi hc K
  | 42, _ => rw [sw_42]; exact blk_42 hB hL hi hc K
  | 43, _ => rw [sw_43]; exact blk_43 hB hL hi hc K
  | 44, _ => rw [sw_44]; exact lw_foot K hc
  | 45, _ => rw [sw_45]; exact lw_foot K hc
  | 46, _ => rw [sw_46]; exact lw_foot K hc
  | 47, _ => rw [sw_47]; exact lw_foot K hc
  | 48, _ => rw [sw_48]; exact lw_foot K hc
  | 49, _ => rw [sw_49]; exact lw_foot K hc
  | 50, _ => rw [sw_50]; exact lw_foot K hc
  | 51, _ => rw [sw_51]; exact lw_foot K hc
  | 52, _ => rw [sw_52]; exact lw_foot K hc
  | 53, _ => rw [sw_53]; exact lw_foot K hc
  | 54, _ => rw [sw_54]; exact lw_foot K hc
  | 55, _ => rw [sw_55]; exact lw_foot K hc
  | 56, _ => rw [sw_56]; exact lw_foot K hc
  | 57, _ => rw [sw_57]; exact lw_foot K hc
  | 58, _ => rw [sw_58]; exact lw_foot K hc
  | 59, _ => rw [sw_59]; exact lw_foot K hc
  | 60, _ => rw [sw_60]; exact lw_foot K hc
  | 61, _ => rw [sw_61]; exact lw_foot K hc
  | 62, _ => rw [sw_62]; exact lw_foot K hc
  | 63, _ => rw [sw_63]; exact lw_foot K hc
  | n + 64, hn => omega

theorem law_loop (hB : AllB sc) (hL : sc.1 ≤ 3072) (hQ : ∀ h, CM h → Q (some (.int 1), h)) : ∀ (n i : Nat), sc.1 < i + n → i < 5000 → ∀ h, CM h → Tr sc 20 258 (18, [some (.ref 1004), some (.ref 0), some (.ref 124), some (.int (nI i))], [], h) Q := by
  intro n
  induction n with
  | zero =>
    intro i hi hib h hc
    exact law_end hL (by omega) (by omega) hc hQ
  | succ n ih =>
    intro i hi hib h hc
    by_cases e : i + 6 ≤ sc.1
    · exact law_body hB hL e hc (fun h' hc' => ih (i + 6) (by omega) (by omega) h' hc')
    · exact law_end hL (by omega) (by omega) hc hQ
end LW
