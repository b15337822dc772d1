/-! ===== whose land a place is ===== -/
abbrev landC (g4 g8 g9 : Nat → Int) (W : Nat → Nat → Int) (p i : Nat) (s : Int × Int) : Prop := g8 i < 0 ∧ 0 < g9 i ∧ W p (g4 i).toNat < 1000000 ∧ W p (g4 i).toNat ≤ g9 i ∧ (s.1 < 0 ∨ W p (g4 i).toNat < s.2)
def landF (g4 g8 g9 : Nat → Int) (W : Nat → Nat → Int) (p : Nat) : Nat → Int × Int
  | 0 => (-1, 0)
  | i + 1 => if landC g4 g8 g9 W p i (landF g4 g8 g9 W p i) then ((i : Int), W p (g4 i).toNat) else landF g4 g8 g9 W p i
theorem landF_bd (g4 g8 g9 : Nat → Int) (W : Nat → Nat → Int) (p : Nat) : ∀ i, -1 ≤ (landF g4 g8 g9 W p i).1 ∧ (landF g4 g8 g9 W p i).1 < (i : Int) ∧ (0 ≤ (landF g4 g8 g9 W p i).1 → g8 (landF g4 g8 g9 W p i).1.toNat < 0)
  | 0 => by simp [landF]
  | i + 1 => by
    have := landF_bd g4 g8 g9 W p i
    rw [landF]
    split
    · rename_i h
      have := h.1
      simp [this]
      omega
    · exact ⟨this.1, by have := this.2.1; omega, this.2.2⟩
section LND
variable {k x N FU : Nat} {c : Nat → Key} {V : Key → Nat → Int} {R : Key → Nat → Option Nat} {K : Key → Option (Nat × Nat)} {g W : Nat → Nat → Int}
theorem land_loop (hc : CX x c) (h : IH k c V R K g) (t : IT V g W) {p : Nat} (hp : (p : Int) < g 0 2) : ∀ (d i n : Nat) (s : Int × Int), i + d = (g 0 15).toNat → d < n → s = landF (g 4) (g 8) (g 9) W p i → FChain_landHolder_L7 FU n (x + 66) (p : Int) s.1 s.2 (i : Int) (zX x c N V R K) = some (landF (g 4) (g 8) (g 9) W p (g 0 15).toNat).1 := by
  have n0 := h.many0
  have P0 := t.many0
  intro d
  induction d with
  | zero =>
    intro i n s hi hn hs
    obtain ⟨n, rfl⟩ : ∃ n', n = n' + 1 := ⟨n - 1, by omega⟩
    have : i = (g 0 15).toNat := by omega
    subst this
    subst hs
    rw [FChain_landHolder_L7]
    simp (disch := omega) only [Option.bind_some, zb_some, zrz0, zrz1, zck_of, xI0 hc, xP0 hc, xD0 hc, xI1 hc, xP1 hc, xD1 hc, xI66 hc, xP66 hc, xD66 hc, xI68 hc, xP68 hc, xD68 hc, xI115 hc, xP115 hc, xD115 hc, xI120 hc, xP120 hc, xD120 hc, xI121 hc, xP121 hc, xD121 hc, xI125 hc, xP125 hc, xD125 hc, xI127 hc, xP127 hc, xD127 hc, xQ0_0 hc, xQ0_1 hc, xQ0_2 hc, xQ0_3 hc, xQ0_4 hc, xQ0_5 hc, xQ0_6 hc, xQ1_0 hc, xQ1_1 hc, xQ1_2 hc, xQ1_3 hc, xQ66_0 hc, xQ66_1 hc, xQ68_0 hc, xQ68_1 hc, xQ68_2 hc, xQ68_3 hc, xQ115_0 hc, xQ115_1 hc, xQ115_2 hc, xQ115_3 hc, xQ115_4 hc, xQ115_5 hc, xQ115_6 hc, xQ120_0 hc, xQ120_1 hc, xQ120_2 hc, xQ120_3 hc, xQ125_0 hc, xQ125_1 hc, xQ127_0 hc, xQ127_1 hc, xQ127_2 hc, xQ127_3 hc, xQ127_4 hc, xQ127_5 hc, xRo2 hc, xWo2 hc, xN2 hc, xRo65 hc, xWo65 hc, xN65 hc, xRo113 hc, xWo113 hc, xN113 hc, xRo114 hc, xWo114 hc, xN114 hc, xRo116 hc, xWo116 hc, xN116 hc, xRo117 hc, xWo117 hc, xN117 hc, xRo118 hc, xWo118 hc, xN118 hc, xRo119 hc, xWo119 hc, xN119 hc, xRo122 hc, xWo122 hc, xN122 hc, xRo124 hc, xWo124 hc, xN124 hc, xRo126 hc, xWo126 hc, xN126 hc, xRo128 hc, xWo128 hc, xN128 hc, xRo129 hc, xWo129 hc, xN129 hc, xRo130 hc, xWo130 hc, xN130 hc, xRo131 hc, xWo131 hc, xN131 hc, xRo132 hc, xWo132 hc, xN132 hc, xRo133 hc, xWo133 hc, xN133 hc, xN67 hc, xAo67 hc, xN123 hc, xAo123 hc, xN3 hc, xAo3 hc, xN34 hc, xAo34 hc, xN69 hc, xAo69 hc, if_neg, h.many]
  | succ d ih =>
    intro i n s hi hn hs
    obtain ⟨n, rfl⟩ : ∃ n', n = n' + 1 := ⟨n - 1, by omega⟩
    obtain ⟨a, ha⟩ := h.sa (i := i) (by omega)
    have hi1 : ((i : Int) + 1) = ((i + 1 : Nat) : Int) := by omega
    have q := h.num i (by omega)
    have qp := q.place0; have qr := q.reach0
    have ti : (i : Int).toNat = i := by omega
    have tp : (p : Int).toNat = p := by omega
    have bd := landF_bd (g 4) (g 8) (g 9) W p i
    rw [← hs] at bd
    have hw := t.ways p (g 4 i).toNat (by omega) (by omega)
    have w0 := t.tg.W0 p (g 4 i).toNat
    have ih1 := ih (i + 1) n (if landC (g 4) (g 8) (g 9) W p i s then ((i : Int), W p (g 4 i).toNat) else s) (by omega) (by omega) (by rw [hs]; rfl)
    have iht : landC (g 4) (g 8) (g 9) W p i s → FChain_landHolder_L7 FU n (x + 66) (p : Int) (i : Int) (W p (g 4 i).toNat) ((i + 1 : Nat) : Int) (zX x c N V R K) = some (landF (g 4) (g 8) (g 9) W p (g 0 15).toNat).1 := fun z => by
      rw [if_pos z] at ih1; exact ih1
    have ihf : ¬ landC (g 4) (g 8) (g 9) W p i s → FChain_landHolder_L7 FU n (x + 66) (p : Int) s.1 s.2 ((i + 1 : Nat) : Int) (zX x c N V R K) = some (landF (g 4) (g 8) (g 9) W p (g 0 15).toNat).1 := fun z => by
      rw [if_neg z] at ih1; exact ih1
    clear ih1 ih
    rw [FChain_landHolder_L7]
    unfold FChain_landHolder_B92
    by_cases c1 : g 8 i < 0
    · by_cases c2 : g 9 i = 0
      · simp (disch := omega) only [↓zcs, ↓zcn, ↓Option.bind_some, ↓zb_some, ↓zrz0b, ↓zrz1b, ↓zckb, zrz0, zrz1, ↓reduceIte, ↓xI0b hc, ↓xP0b hc, ↓xI1b hc, ↓xP1b hc, ↓xI66b hc, ↓xP66b hc, ↓xI68b hc, ↓xP68b hc, ↓xI115b hc, ↓xP115b hc, ↓xI120b hc, ↓xP120b hc, ↓xI121b hc, ↓xP121b hc, ↓xI125b hc, ↓xP125b hc, ↓xI127b hc, ↓xP127b hc, ↓xN2b hc, ↓xRo2b hc, ↓xWo2b hc, ↓xN65b hc, ↓xRo65b hc, ↓xWo65b hc, ↓xN113b hc, ↓xRo113b hc, ↓xWo113b hc, ↓xN114b hc, ↓xRo114b hc, ↓xWo114b hc, ↓xN116b hc, ↓xRo116b hc, ↓xWo116b hc, ↓xN117b hc, ↓xRo117b hc, ↓xWo117b hc, ↓xN118b hc, ↓xRo118b hc, ↓xWo118b hc, ↓xN119b hc, ↓xRo119b hc, ↓xWo119b hc, ↓xN122b hc, ↓xRo122b hc, ↓xWo122b hc, ↓xN124b hc, ↓xRo124b hc, ↓xWo124b hc, ↓xN126b hc, ↓xRo126b hc, ↓xWo126b hc, ↓xN128b hc, ↓xRo128b hc, ↓xWo128b hc, ↓xN129b hc, ↓xRo129b hc, ↓xWo129b hc, ↓xN130b hc, ↓xRo130b hc, ↓xWo130b hc, ↓xN131b hc, ↓xRo131b hc, ↓xWo131b hc, ↓xN132b hc, ↓xRo132b hc, ↓xWo132b hc, ↓xN133b hc, ↓xRo133b hc, ↓xWo133b hc, ↓xN67b hc, ↓xAo67b hc, ↓xN123b hc, ↓xAo123b hc, ↓xN3b hc, ↓xAo3b hc, ↓xN34b hc, ↓xAo34b hc, ↓xN69b hc, ↓xAo69b hc, ↓xQ0_0b hc, ↓xQ0_1b hc, ↓xQ0_2b hc, ↓xQ0_3b hc, ↓xQ0_4b hc, ↓xQ0_5b hc, ↓xQ0_6b hc, ↓xQ1_0b hc, ↓xQ1_1b hc, ↓xQ1_2b hc, ↓xQ1_3b hc, ↓xQ66_0b hc, ↓xQ66_1b hc, ↓xQ68_0b hc, ↓xQ68_1b hc, ↓xQ68_2b hc, ↓xQ68_3b hc, ↓xQ115_0b hc, ↓xQ115_1b hc, ↓xQ115_2b hc, ↓xQ115_3b hc, ↓xQ115_4b hc, ↓xQ115_5b hc, ↓xQ115_6b hc, ↓xQ120_0b hc, ↓xQ120_1b hc, ↓xQ120_2b hc, ↓xQ120_3b hc, ↓xQ125_0b hc, ↓xQ125_1b hc, ↓xQ127_0b hc, ↓xQ127_1b hc, ↓xQ127_2b hc, ↓xQ127_3b hc, ↓xQ127_4b hc, ↓xQ127_5b hc, ↓xD0 hc, ↓xD1 hc, ↓xD66 hc, ↓xD68 hc, ↓xD115 hc, ↓xD120 hc, ↓xD121 hc, ↓xD125 hc, ↓xD127 hc, ↓if_pos, ↓if_neg, h.many, ↓bde (h.shopAt hc _), ti, ha.ref, ↓bde (eS_isOpen ha), q.open_, c1, ↓sIb ha, q.reach, c2, hi1]
        exact ihf (fun z => by have := z.2.1; omega)
      · by_cases c3 : W p (g 4 i).toNat < 1000000
        · have hw2 : V (0, 35 + p, 0) (g 4 i).toNat = W p (g 4 i).toNat := by rw [hw]; exact if_pos c3
          simp (disch := omega) only [↓zcs, ↓zcn, ↓Option.bind_some, ↓zb_some, ↓zrz0b, ↓zrz1b, ↓zckb, zrz0, zrz1, ↓reduceIte, ↓xI0b hc, ↓xP0b hc, ↓xI1b hc, ↓xP1b hc, ↓xI66b hc, ↓xP66b hc, ↓xI68b hc, ↓xP68b hc, ↓xI115b hc, ↓xP115b hc, ↓xI120b hc, ↓xP120b hc, ↓xI121b hc, ↓xP121b hc, ↓xI125b hc, ↓xP125b hc, ↓xI127b hc, ↓xP127b hc, ↓xN2b hc, ↓xRo2b hc, ↓xWo2b hc, ↓xN65b hc, ↓xRo65b hc, ↓xWo65b hc, ↓xN113b hc, ↓xRo113b hc, ↓xWo113b hc, ↓xN114b hc, ↓xRo114b hc, ↓xWo114b hc, ↓xN116b hc, ↓xRo116b hc, ↓xWo116b hc, ↓xN117b hc, ↓xRo117b hc, ↓xWo117b hc, ↓xN118b hc, ↓xRo118b hc, ↓xWo118b hc, ↓xN119b hc, ↓xRo119b hc, ↓xWo119b hc, ↓xN122b hc, ↓xRo122b hc, ↓xWo122b hc, ↓xN124b hc, ↓xRo124b hc, ↓xWo124b hc, ↓xN126b hc, ↓xRo126b hc, ↓xWo126b hc, ↓xN128b hc, ↓xRo128b hc, ↓xWo128b hc, ↓xN129b hc, ↓xRo129b hc, ↓xWo129b hc, ↓xN130b hc, ↓xRo130b hc, ↓xWo130b hc, ↓xN131b hc, ↓xRo131b hc, ↓xWo131b hc, ↓xN132b hc, ↓xRo132b hc, ↓xWo132b hc, ↓xN133b hc, ↓xRo133b hc, ↓xWo133b hc, ↓xN67b hc, ↓xAo67b hc, ↓xN123b hc, ↓xAo123b hc, ↓xN3b hc, ↓xAo3b hc, ↓xN34b hc, ↓xAo34b hc, ↓xN69b hc, ↓xAo69b hc, ↓xQ0_0b hc, ↓xQ0_1b hc, ↓xQ0_2b hc, ↓xQ0_3b hc, ↓xQ0_4b hc, ↓xQ0_5b hc, ↓xQ0_6b hc, ↓xQ1_0b hc, ↓xQ1_1b hc, ↓xQ1_2b hc, ↓xQ1_3b hc, ↓xQ66_0b hc, ↓xQ66_1b hc, ↓xQ68_0b hc, ↓xQ68_1b hc, ↓xQ68_2b hc, ↓xQ68_3b hc, ↓xQ115_0b hc, ↓xQ115_1b hc, ↓xQ115_2b hc, ↓xQ115_3b hc, ↓xQ115_4b hc, ↓xQ115_5b hc, ↓xQ115_6b hc, ↓xQ120_0b hc, ↓xQ120_1b hc, ↓xQ120_2b hc, ↓xQ120_3b hc, ↓xQ125_0b hc, ↓xQ125_1b hc, ↓xQ127_0b hc, ↓xQ127_1b hc, ↓xQ127_2b hc, ↓xQ127_3b hc, ↓xQ127_4b hc, ↓xQ127_5b hc, ↓xD0 hc, ↓xD1 hc, ↓xD66 hc, ↓xD68 hc, ↓xD115 hc, ↓xD120 hc, ↓xD121 hc, ↓xD125 hc, ↓xD127 hc, ↓if_pos, ↓if_neg, h.many, ↓bde (h.shopAt hc _), ti, ha.ref, ↓bde (eS_isOpen ha), q.open_, c1, ↓sIb ha, q.reach, q.place, c2, hi1, ↓bde (eT_way hc (a := (p : Int)) (b := g 4 i) (by omega) (by omega)), tp, hw2]
          by_cases c4 : W p (g 4 i).toNat ≤ g 9 i
          · rw [if_pos c4]
            by_cases c5 : s.1 = -1
            · rw [if_pos c5]
              exact iht ⟨c1, by omega, c3, c4, .inl (by omega)⟩
            · rw [if_neg c5]
              by_cases c6 : W p (g 4 i).toNat < s.2
              · rw [if_pos c6]
                exact iht ⟨c1, by omega, c3, c4, .inr c6⟩
              · rw [if_neg c6]
                exact ihf (fun z => by have := z.2.2.2.2; omega)
          · rw [if_neg c4]
            exact ihf (fun z => c4 z.2.2.2.1)
        · have hw2 : V (0, 35 + p, 0) (g 4 i).toNat = -1 := by rw [hw]; exact if_neg c3
          simp (disch := omega) only [↓zcs, ↓zcn, ↓Option.bind_some, ↓zb_some, ↓zrz0b, ↓zrz1b, ↓zckb, zrz0, zrz1, ↓reduceIte, ↓xI0b hc, ↓xP0b hc, ↓xI1b hc, ↓xP1b hc, ↓xI66b hc, ↓xP66b hc, ↓xI68b hc, ↓xP68b hc, ↓xI115b hc, ↓xP115b hc, ↓xI120b hc, ↓xP120b hc, ↓xI121b hc, ↓xP121b hc, ↓xI125b hc, ↓xP125b hc, ↓xI127b hc, ↓xP127b hc, ↓xN2b hc, ↓xRo2b hc, ↓xWo2b hc, ↓xN65b hc, ↓xRo65b hc, ↓xWo65b hc, ↓xN113b hc, ↓xRo113b hc, ↓xWo113b hc, ↓xN114b hc, ↓xRo114b hc, ↓xWo114b hc, ↓xN116b hc, ↓xRo116b hc, ↓xWo116b hc, ↓xN117b hc, ↓xRo117b hc, ↓xWo117b hc, ↓xN118b hc, ↓xRo118b hc, ↓xWo118b hc, ↓xN119b hc, ↓xRo119b hc, ↓xWo119b hc, ↓xN122b hc, ↓xRo122b hc, ↓xWo122b hc, ↓xN124b hc, ↓xRo124b hc, ↓xWo124b hc, ↓xN126b hc, ↓xRo126b hc, ↓xWo126b hc, ↓xN128b hc, ↓xRo128b hc, ↓xWo128b hc, ↓xN129b hc, ↓xRo129b hc, ↓xWo129b hc, ↓xN130b hc, ↓xRo130b hc, ↓xWo130b hc, ↓xN131b hc, ↓xRo131b hc, ↓xWo131b hc, ↓xN132b hc, ↓xRo132b hc, ↓xWo132b hc, ↓xN133b hc, ↓xRo133b hc, ↓xWo133b hc, ↓xN67b hc, ↓xAo67b hc, ↓xN123b hc, ↓xAo123b hc, ↓xN3b hc, ↓xAo3b hc, ↓xN34b hc, ↓xAo34b hc, ↓xN69b hc, ↓xAo69b hc, ↓xQ0_0b hc, ↓xQ0_1b hc, ↓xQ0_2b hc, ↓xQ0_3b hc, ↓xQ0_4b hc, ↓xQ0_5b hc, ↓xQ0_6b hc, ↓xQ1_0b hc, ↓xQ1_1b hc, ↓xQ1_2b hc, ↓xQ1_3b hc, ↓xQ66_0b hc, ↓xQ66_1b hc, ↓xQ68_0b hc, ↓xQ68_1b hc, ↓xQ68_2b hc, ↓xQ68_3b hc, ↓xQ115_0b hc, ↓xQ115_1b hc, ↓xQ115_2b hc, ↓xQ115_3b hc, ↓xQ115_4b hc, ↓xQ115_5b hc, ↓xQ115_6b hc, ↓xQ120_0b hc, ↓xQ120_1b hc, ↓xQ120_2b hc, ↓xQ120_3b hc, ↓xQ125_0b hc, ↓xQ125_1b hc, ↓xQ127_0b hc, ↓xQ127_1b hc, ↓xQ127_2b hc, ↓xQ127_3b hc, ↓xQ127_4b hc, ↓xQ127_5b hc, ↓xD0 hc, ↓xD1 hc, ↓xD66 hc, ↓xD68 hc, ↓xD115 hc, ↓xD120 hc, ↓xD121 hc, ↓xD125 hc, ↓xD127 hc, ↓if_pos, ↓if_neg, h.many, ↓bde (h.shopAt hc _), ti, ha.ref, ↓bde (eS_isOpen ha), q.open_, c1, ↓sIb ha, q.reach, q.place, c2, hi1, ↓bde (eT_way hc (a := (p : Int)) (b := g 4 i) (by omega) (by omega)), tp, hw2]
          exact ihf (fun z => c3 z.2.2.1)
    · simp (disch := omega) only [↓zcs, ↓zcn, ↓Option.bind_some, ↓zb_some, ↓zrz0b, ↓zrz1b, ↓zckb, zrz0, zrz1, ↓reduceIte, ↓xI0b hc, ↓xP0b hc, ↓xI1b hc, ↓xP1b hc, ↓xI66b hc, ↓xP66b hc, ↓xI68b hc, ↓xP68b hc, ↓xI115b hc, ↓xP115b hc, ↓xI120b hc, ↓xP120b hc, ↓xI121b hc, ↓xP121b hc, ↓xI125b hc, ↓xP125b hc, ↓xI127b hc, ↓xP127b hc, ↓xN2b hc, ↓xRo2b hc, ↓xWo2b hc, ↓xN65b hc, ↓xRo65b hc, ↓xWo65b hc, ↓xN113b hc, ↓xRo113b hc, ↓xWo113b hc, ↓xN114b hc, ↓xRo114b hc, ↓xWo114b hc, ↓xN116b hc, ↓xRo116b hc, ↓xWo116b hc, ↓xN117b hc, ↓xRo117b hc, ↓xWo117b hc, ↓xN118b hc, ↓xRo118b hc, ↓xWo118b hc, ↓xN119b hc, ↓xRo119b hc, ↓xWo119b hc, ↓xN122b hc, ↓xRo122b hc, ↓xWo122b hc, ↓xN124b hc, ↓xRo124b hc, ↓xWo124b hc, ↓xN126b hc, ↓xRo126b hc, ↓xWo126b hc, ↓xN128b hc, ↓xRo128b hc, ↓xWo128b hc, ↓xN129b hc, ↓xRo129b hc, ↓xWo129b hc, ↓xN130b hc, ↓xRo130b hc, ↓xWo130b hc, ↓xN131b hc, ↓xRo131b hc, ↓xWo131b hc, ↓xN132b hc, ↓xRo132b hc, ↓xWo132b hc, ↓xN133b hc, ↓xRo133b hc, ↓xWo133b hc, ↓xN67b hc, ↓xAo67b hc, ↓xN123b hc, ↓xAo123b hc, ↓xN3b hc, ↓xAo3b hc, ↓xN34b hc, ↓xAo34b hc, ↓xN69b hc, ↓xAo69b hc, ↓xQ0_0b hc, ↓xQ0_1b hc, ↓xQ0_2b hc, ↓xQ0_3b hc, ↓xQ0_4b hc, ↓xQ0_5b hc, ↓xQ0_6b hc, ↓xQ1_0b hc, ↓xQ1_1b hc, ↓xQ1_2b hc, ↓xQ1_3b hc, ↓xQ66_0b hc, ↓xQ66_1b hc, ↓xQ68_0b hc, ↓xQ68_1b hc, ↓xQ68_2b hc, ↓xQ68_3b hc, ↓xQ115_0b hc, ↓xQ115_1b hc, ↓xQ115_2b hc, ↓xQ115_3b hc, ↓xQ115_4b hc, ↓xQ115_5b hc, ↓xQ115_6b hc, ↓xQ120_0b hc, ↓xQ120_1b hc, ↓xQ120_2b hc, ↓xQ120_3b hc, ↓xQ125_0b hc, ↓xQ125_1b hc, ↓xQ127_0b hc, ↓xQ127_1b hc, ↓xQ127_2b hc, ↓xQ127_3b hc, ↓xQ127_4b hc, ↓xQ127_5b hc, ↓xD0 hc, ↓xD1 hc, ↓xD66 hc, ↓xD68 hc, ↓xD115 hc, ↓xD120 hc, ↓xD121 hc, ↓xD125 hc, ↓xD127 hc, ↓if_pos, ↓if_neg, h.many, ↓bde (h.shopAt hc _), ti, ha.ref, ↓bde (eS_isOpen ha), q.open_, c1, hi1]
      exact ihf (fun z => c1 z.1)
theorem eC_land (hc : CX x c) (h : IH k c V R K g) (t : IT V g W) (hFU : 41 ≤ FU) {p : Int} (hp : 0 ≤ p ∧ p < g 0 2) : FChain_landHolder FU (x + 66) p (zX x c N V R K) = some (landF (g 4) (g 8) (g 9) W p.toNat (g 0 15).toNat).1 := by
  have n0 := h.many0
  obtain ⟨p, rfl⟩ : ∃ q : Nat, p = (q : Int) := ⟨p.toNat, by omega⟩
  unfold FChain_landHolder FChain_landHolder_b
  simp (disch := omega) only [Option.bind_some, zb_some, zrz0, zrz1, zck_of, xI0 hc, xP0 hc, xD0 hc, xI1 hc, xP1 hc, xD1 hc, xI66 hc, xP66 hc, xD66 hc, xI68 hc, xP68 hc, xD68 hc, xI115 hc, xP115 hc, xD115 hc, xI120 hc, xP120 hc, xD120 hc, xI121 hc, xP121 hc, xD121 hc, xI125 hc, xP125 hc, xD125 hc, xI127 hc, xP127 hc, xD127 hc, xQ0_0 hc, xQ0_1 hc, xQ0_2 hc, xQ0_3 hc, xQ0_4 hc, xQ0_5 hc, xQ0_6 hc, xQ1_0 hc, xQ1_1 hc, xQ1_2 hc, xQ1_3 hc, xQ66_0 hc, xQ66_1 hc, xQ68_0 hc, xQ68_1 hc, xQ68_2 hc, xQ68_3 hc, xQ115_0 hc, xQ115_1 hc, xQ115_2 hc, xQ115_3 hc, xQ115_4 hc, xQ115_5 hc, xQ115_6 hc, xQ120_0 hc, xQ120_1 hc, xQ120_2 hc, xQ120_3 hc, xQ125_0 hc, xQ125_1 hc, xQ127_0 hc, xQ127_1 hc, xQ127_2 hc, xQ127_3 hc, xQ127_4 hc, xQ127_5 hc, xRo2 hc, xWo2 hc, xN2 hc, xRo65 hc, xWo65 hc, xN65 hc, xRo113 hc, xWo113 hc, xN113 hc, xRo114 hc, xWo114 hc, xN114 hc, xRo116 hc, xWo116 hc, xN116 hc, xRo117 hc, xWo117 hc, xN117 hc, xRo118 hc, xWo118 hc, xN118 hc, xRo119 hc, xWo119 hc, xN119 hc, xRo122 hc, xWo122 hc, xN122 hc, xRo124 hc, xWo124 hc, xN124 hc, xRo126 hc, xWo126 hc, xN126 hc, xRo128 hc, xWo128 hc, xN128 hc, xRo129 hc, xWo129 hc, xN129 hc, xRo130 hc, xWo130 hc, xN130 hc, xRo131 hc, xWo131 hc, xN131 hc, xRo132 hc, xWo132 hc, xN132 hc, xRo133 hc, xWo133 hc, xN133 hc, xN67 hc, xAo67 hc, xN123 hc, xAo123 hc, xN3 hc, xAo3 hc, xN34 hc, xAo34 hc, xN69 hc, xAo69 hc]
  exact land_loop (N := N) hc h t (by omega) (g 0 15).toNat 0 FU (-1, 0) (by omega) (by omega) rfl
end LND
/-- what the reference knows of the shops -/
def HG (g : Nat → Nat → Int) : Prop := (0 ≤ g 0 15 ∧ g 0 15 ≤ 40) ∧ (∀ i, i < (g 0 15).toNat → 0 ≤ g 4 i ∧ g 4 i < g 0 2)
theorem HG.many0 {g : Nat → Nat → Int} (h : HG g) : 0 ≤ g 0 15 ∧ g 0 15 ≤ 40 := h.1
theorem HG.place {g : Nat → Nat → Int} (h : HG g) : ∀ i, i < (g 0 15).toNat → 0 ≤ g 4 i ∧ g 4 i < g 0 2 := h.2
theorem IH.hg {k : Nat} {c : Nat → Key} {V : Key → Nat → Int} {R : Key → Nat → Option Nat} {K : Key → Option (Nat × Nat)} {g : Nat → Nat → Int} (h : IH k c V R K g) : HG g := ⟨h.many0, fun i hi => (h.num i hi).place0⟩
theorem gW.hg {g g' : Nat → Nat → Int} (w : gW g g') (h : HG g) : HG g' := by
  unfold HG
  rw [w.num 15 (by decide), w.num 2 (by decide), w.row 4 (by decide) (by decide)]
  exact h
theorem mland_loop {m N FU : Nat} {W : Nat → Nat → Int} (hFU : 41 ≤ FU) : ∀ (d i n : Nat) (s : Int × Int) (g : Nat → Nat → Int) (p : Nat), HG g → TG g W → (p : Int) < g 0 2 → i + d = (g 0 15).toNat → d < n → s = landF (g 4) (g 8) (g 9) W p i → ∃ g', FM_landOf_L7 FU n m (p : Int) s.1 s.2 (i : Int) (zG m N g) = some ((landF (g 4) (g 8) (g 9) W p (g 0 15).toNat).1, zG m N g') ∧ gW g g' ∧ TG g' W := by
  intro d
  induction d with
  | zero =>
    intro i n s g p h t hp hi hn hs
    have n0 := h.many0
    obtain ⟨n, rfl⟩ : ∃ n', n = n' + 1 := ⟨n - 1, by omega⟩
    have : i = (g 0 15).toNat := by omega
    subst this
    subst hs
    refine ⟨g, ?_, gW.rfl', t⟩
    rw [FM_landOf_L7]
    simp (disch := omega) only [mI, mP, mPo, mD, Option.bind_some, zb_some, zrz0, zrz1, zck_of, mQ1, mRo1, mWo1, mQ3, mRo2, mWo2, mQ4, mRo3, mWo3, mQ8, mRo4, mWo4, mQ9, mRo5, mWo5, mQ10, mRo6, mWo6, mQ11, mRo7, mWo7, mQ12, mRo8, mWo8, mQ13, mRo9, mWo9, mQ14, mRo10, mWo10, mQ17, mRo11, mWo11, mQ19, mRo12, mWo12, mQ20, mRo13, mWo13, mQ23, mRo14, mWo14, mQ24, mRo15, mWo15, mQ26, mRo16, mWo16, mQ27, mRo17, mWo17, mQ28, mRo18, mWo18, mQ29, mRo19, mWo19, mQ30, mRo20, mWo20, mQ32, mRo21, mWo21, mQ33, mRo22, mWo22, mQ34, mRo23, mWo23, mQ35, mRo24, mWo24, mQ36, mRo25, mWo25, mQ37, mRo26, mWo26, mQ38, mRo27, mWo27, mQ39, mRo28, mWo28, mQ40, mRo29, mWo29, mQ41, mRo30, mWo30, mQ43, mRo31, mWo31, mQ44, mRo32, mWo32, mQ45, mRo33, mWo33, mQ46, mRo34, mWo34, mQ47, mRo35, mWo35, mQ48, mRo36, mWo36, mQ50, mRo37, mWo37, mQ51, mRo38, mWo38, mQ52, mRo39, mWo39, if_neg]
  | succ d ih =>
    intro i n s g p h t hp hi hn hs
    have n0 := h.many0
    have P0 := t.many0
    obtain ⟨n, rfl⟩ : ∃ n', n = n' + 1 := ⟨n - 1, by omega⟩
    have hi1 : ((i : Int) + 1) = ((i + 1 : Nat) : Int) := by omega
    have qp := h.place i (by omega)
    have ti : (i : Int).toNat = i := by omega
    have tp : (p : Int).toNat = p := by omega
    have bd := landF_bd (g 4) (g 8) (g 9) W p i
    rw [← hs] at bd
    have w0 := t.W0 p (g 4 i).toNat
    have w1 := t.sym p (g 4 i).toNat
    -- what is left, after the ways may have been found
    have rest : ∀ g1, gW g g1 → TG g1 W → ∀ s', s' = landF (g 4) (g 8) (g 9) W p (i + 1) → ∃ g', FM_landOf_L7 FU n m (p : Int) s'.1 s'.2 ((i + 1 : Nat) : Int) (zG m N g1) = some ((landF (g 4) (g 8) (g 9) W p (g 0 15).toNat).1, zG m N g') ∧ gW g g' ∧ TG g' W := by
      intro g1 w tg s' hs'
      have r4 := w.row 4 (by decide) (by decide); have r8 := w.row 8 (by decide) (by decide); have r9 := w.row 9 (by decide) (by decide); have r15 := w.num 15 (by decide)
      obtain ⟨g', e1, e2, e3⟩ := ih (i + 1) n s' g1 p (w.hg h) tg (by rw [w.num 2 (by decide)]; exact hp) (by rw [r15]; omega) (by omega) (by rw [r4, r8, r9]; exact hs')
      rw [r4, r8, r9, r15] at e1
      exact ⟨g', e1, w.trans e2, e3⟩
    have nx : landF (g 4) (g 8) (g 9) W p (i + 1) = if landC (g 4) (g 8) (g 9) W p i s then ((i : Int), W p (g 4 i).toNat) else s := by rw [hs]; rfl
    have eO := eM_isOpen (FU := FU) (m := m) (N := N) (g := g) (i := (i : Int)) (by omega)
    rw [ti] at eO
    rw [FM_landOf_L7]
    unfold FM_landOf_B50 FM_landOf_B52 FM_landOf_B83
    by_cases c1 : g 8 i < 0
    · rw [if_pos c1] at eO
      by_cases c2 : g 9 i ≤ 0
      · obtain ⟨g', e1, e2⟩ := rest g gW.rfl' t s (by rw [nx, if_neg (fun z => by have := z.2.1; omega)])
        refine ⟨g', ?_, e2⟩
        simp (disch := omega) only [↓zcs, ↓zcn, ↓mD, ↓Option.bind_some, ↓zb_some, ↓zrz0b, ↓zrz1b, ↓zckb, zrz0, zrz1, ↓reduceIte, ↓mIb, ↓mPb, ↓zck_ofb, ↓mPob, ↓mQ1b, ↓mRo1b, ↓mWo1b, ↓mQ3b, ↓mRo2b, ↓mWo2b, ↓mQ4b, ↓mRo3b, ↓mWo3b, ↓mQ8b, ↓mRo4b, ↓mWo4b, ↓mQ9b, ↓mRo5b, ↓mWo5b, ↓mQ10b, ↓mRo6b, ↓mWo6b, ↓mQ11b, ↓mRo7b, ↓mWo7b, ↓mQ12b, ↓mRo8b, ↓mWo8b, ↓mQ13b, ↓mRo9b, ↓mWo9b, ↓mQ14b, ↓mRo10b, ↓mWo10b, ↓mQ17b, ↓mRo11b, ↓mWo11b, ↓mQ19b, ↓mRo12b, ↓mWo12b, ↓mQ20b, ↓mRo13b, ↓mWo13b, ↓mQ23b, ↓mRo14b, ↓mWo14b, ↓mQ24b, ↓mRo15b, ↓mWo15b, ↓mQ26b, ↓mRo16b, ↓mWo16b, ↓mQ27b, ↓mRo17b, ↓mWo17b, ↓mQ28b, ↓mRo18b, ↓mWo18b, ↓mQ29b, ↓mRo19b, ↓mWo19b, ↓mQ30b, ↓mRo20b, ↓mWo20b, ↓mQ32b, ↓mRo21b, ↓mWo21b, ↓mQ33b, ↓mRo22b, ↓mWo22b, ↓mQ34b, ↓mRo23b, ↓mWo23b, ↓mQ35b, ↓mRo24b, ↓mWo24b, ↓mQ36b, ↓mRo25b, ↓mWo25b, ↓mQ37b, ↓mRo26b, ↓mWo26b, ↓mQ38b, ↓mRo27b, ↓mWo27b, ↓mQ39b, ↓mRo28b, ↓mWo28b, ↓mQ40b, ↓mRo29b, ↓mWo29b, ↓mQ41b, ↓mRo30b, ↓mWo30b, ↓mQ43b, ↓mRo31b, ↓mWo31b, ↓mQ44b, ↓mRo32b, ↓mWo32b, ↓mQ45b, ↓mRo33b, ↓mWo33b, ↓mQ46b, ↓mRo34b, ↓mWo34b, ↓mQ47b, ↓mRo35b, ↓mWo35b, ↓mQ48b, ↓mRo36b, ↓mWo36b, ↓mQ50b, ↓mRo37b, ↓mWo37b, ↓mQ51b, ↓mRo38b, ↓mWo38b, ↓mQ52b, ↓mRo39b, ↓mWo39b, ↓if_pos, ↓if_neg, ↓bde eO, ti, c2, hi1]
        exact e1
      · obtain ⟨g1, f1, f2, f3⟩ := t.wayOf (m := m) (N := N) (FU := FU) (by omega) (a := g 4 i) (b := (p : Int)) qp (by omega)
        have r9 := f2.row 9 (by decide) (by decide)
        rw [tp, ← w1] at f1
        by_cases c3 : W p (g 4 i).toNat < 1000000
        · by_cases c4 : W p (g 4 i).toNat ≤ g 9 i
          · by_cases c5 : s.1 < 0 ∨ W p (g 4 i).toNat < s.2
            · obtain ⟨g', e1, e2⟩ := rest g1 f2 f3 ((i : Int), W p (g 4 i).toNat) (by rw [nx, if_pos ⟨c1, by omega, c3, c4, c5⟩])
              refine ⟨g', ?_, e2⟩
              by_cases c6 : s.1 < 0
              · simp (disch := omega) only [↓zcs, ↓zcn, ↓mD, ↓Option.bind_some, ↓zb_some, ↓zrz0b, ↓zrz1b, ↓zckb, zrz0, zrz1, ↓reduceIte, ↓mIb, ↓mPb, ↓zck_ofb, ↓mPob, ↓mQ1b, ↓mRo1b, ↓mWo1b, ↓mQ3b, ↓mRo2b, ↓mWo2b, ↓mQ4b, ↓mRo3b, ↓mWo3b, ↓mQ8b, ↓mRo4b, ↓mWo4b, ↓mQ9b, ↓mRo5b, ↓mWo5b, ↓mQ10b, ↓mRo6b, ↓mWo6b, ↓mQ11b, ↓mRo7b, ↓mWo7b, ↓mQ12b, ↓mRo8b, ↓mWo8b, ↓mQ13b, ↓mRo9b, ↓mWo9b, ↓mQ14b, ↓mRo10b, ↓mWo10b, ↓mQ17b, ↓mRo11b, ↓mWo11b, ↓mQ19b, ↓mRo12b, ↓mWo12b, ↓mQ20b, ↓mRo13b, ↓mWo13b, ↓mQ23b, ↓mRo14b, ↓mWo14b, ↓mQ24b, ↓mRo15b, ↓mWo15b, ↓mQ26b, ↓mRo16b, ↓mWo16b, ↓mQ27b, ↓mRo17b, ↓mWo17b, ↓mQ28b, ↓mRo18b, ↓mWo18b, ↓mQ29b, ↓mRo19b, ↓mWo19b, ↓mQ30b, ↓mRo20b, ↓mWo20b, ↓mQ32b, ↓mRo21b, ↓mWo21b, ↓mQ33b, ↓mRo22b, ↓mWo22b, ↓mQ34b, ↓mRo23b, ↓mWo23b, ↓mQ35b, ↓mRo24b, ↓mWo24b, ↓mQ36b, ↓mRo25b, ↓mWo25b, ↓mQ37b, ↓mRo26b, ↓mWo26b, ↓mQ38b, ↓mRo27b, ↓mWo27b, ↓mQ39b, ↓mRo28b, ↓mWo28b, ↓mQ40b, ↓mRo29b, ↓mWo29b, ↓mQ41b, ↓mRo30b, ↓mWo30b, ↓mQ43b, ↓mRo31b, ↓mWo31b, ↓mQ44b, ↓mRo32b, ↓mWo32b, ↓mQ45b, ↓mRo33b, ↓mWo33b, ↓mQ46b, ↓mRo34b, ↓mWo34b, ↓mQ47b, ↓mRo35b, ↓mWo35b, ↓mQ48b, ↓mRo36b, ↓mWo36b, ↓mQ50b, ↓mRo37b, ↓mWo37b, ↓mQ51b, ↓mRo38b, ↓mWo38b, ↓mQ52b, ↓mRo39b, ↓mWo39b, ↓if_pos, ↓if_neg, ↓bde eO, ti, c2, hi1, ↓zbe f1, c3, r9, c4, c6]
                exact e1
              · have c7 : W p (g 4 i).toNat < s.2 := by omega
                simp (disch := omega) only [↓zcs, ↓zcn, ↓mD, ↓Option.bind_some, ↓zb_some, ↓zrz0b, ↓zrz1b, ↓zckb, zrz0, zrz1, ↓reduceIte, ↓mIb, ↓mPb, ↓zck_ofb, ↓mPob, ↓mQ1b, ↓mRo1b, ↓mWo1b, ↓mQ3b, ↓mRo2b, ↓mWo2b, ↓mQ4b, ↓mRo3b, ↓mWo3b, ↓mQ8b, ↓mRo4b, ↓mWo4b, ↓mQ9b, ↓mRo5b, ↓mWo5b, ↓mQ10b, ↓mRo6b, ↓mWo6b, ↓mQ11b, ↓mRo7b, ↓mWo7b, ↓mQ12b, ↓mRo8b, ↓mWo8b, ↓mQ13b, ↓mRo9b, ↓mWo9b, ↓mQ14b, ↓mRo10b, ↓mWo10b, ↓mQ17b, ↓mRo11b, ↓mWo11b, ↓mQ19b, ↓mRo12b, ↓mWo12b, ↓mQ20b, ↓mRo13b, ↓mWo13b, ↓mQ23b, ↓mRo14b, ↓mWo14b, ↓mQ24b, ↓mRo15b, ↓mWo15b, ↓mQ26b, ↓mRo16b, ↓mWo16b, ↓mQ27b, ↓mRo17b, ↓mWo17b, ↓mQ28b, ↓mRo18b, ↓mWo18b, ↓mQ29b, ↓mRo19b, ↓mWo19b, ↓mQ30b, ↓mRo20b, ↓mWo20b, ↓mQ32b, ↓mRo21b, ↓mWo21b, ↓mQ33b, ↓mRo22b, ↓mWo22b, ↓mQ34b, ↓mRo23b, ↓mWo23b, ↓mQ35b, ↓mRo24b, ↓mWo24b, ↓mQ36b, ↓mRo25b, ↓mWo25b, ↓mQ37b, ↓mRo26b, ↓mWo26b, ↓mQ38b, ↓mRo27b, ↓mWo27b, ↓mQ39b, ↓mRo28b, ↓mWo28b, ↓mQ40b, ↓mRo29b, ↓mWo29b, ↓mQ41b, ↓mRo30b, ↓mWo30b, ↓mQ43b, ↓mRo31b, ↓mWo31b, ↓mQ44b, ↓mRo32b, ↓mWo32b, ↓mQ45b, ↓mRo33b, ↓mWo33b, ↓mQ46b, ↓mRo34b, ↓mWo34b, ↓mQ47b, ↓mRo35b, ↓mWo35b, ↓mQ48b, ↓mRo36b, ↓mWo36b, ↓mQ50b, ↓mRo37b, ↓mWo37b, ↓mQ51b, ↓mRo38b, ↓mWo38b, ↓mQ52b, ↓mRo39b, ↓mWo39b, ↓if_pos, ↓if_neg, ↓bde eO, ti, c2, hi1, ↓zbe f1, c3, r9, c4, c6, c7]
                exact e1
            · obtain ⟨g', e1, e2⟩ := rest g1 f2 f3 s (by rw [nx, if_neg (fun z => c5 z.2.2.2.2)])
              refine ⟨g', ?_, e2⟩
              have c6 : ¬ s.1 < 0 := by omega
              have c7 : ¬ W p (g 4 i).toNat < s.2 := by omega
              simp (disch := omega) only [↓zcs, ↓zcn, ↓mD, ↓Option.bind_some, ↓zb_some, ↓zrz0b, ↓zrz1b, ↓zckb, zrz0, zrz1, ↓reduceIte, ↓mIb, ↓mPb, ↓zck_ofb, ↓mPob, ↓mQ1b, ↓mRo1b, ↓mWo1b, ↓mQ3b, ↓mRo2b, ↓mWo2b, ↓mQ4b, ↓mRo3b, ↓mWo3b, ↓mQ8b, ↓mRo4b, ↓mWo4b, ↓mQ9b, ↓mRo5b, ↓mWo5b, ↓mQ10b, ↓mRo6b, ↓mWo6b, ↓mQ11b, ↓mRo7b, ↓mWo7b, ↓mQ12b, ↓mRo8b, ↓mWo8b, ↓mQ13b, ↓mRo9b, ↓mWo9b, ↓mQ14b, ↓mRo10b, ↓mWo10b, ↓mQ17b, ↓mRo11b, ↓mWo11b, ↓mQ19b, ↓mRo12b, ↓mWo12b, ↓mQ20b, ↓mRo13b, ↓mWo13b, ↓mQ23b, ↓mRo14b, ↓mWo14b, ↓mQ24b, ↓mRo15b, ↓mWo15b, ↓mQ26b, ↓mRo16b, ↓mWo16b, ↓mQ27b, ↓mRo17b, ↓mWo17b, ↓mQ28b, ↓mRo18b, ↓mWo18b, ↓mQ29b, ↓mRo19b, ↓mWo19b, ↓mQ30b, ↓mRo20b, ↓mWo20b, ↓mQ32b, ↓mRo21b, ↓mWo21b, ↓mQ33b, ↓mRo22b, ↓mWo22b, ↓mQ34b, ↓mRo23b, ↓mWo23b, ↓mQ35b, ↓mRo24b, ↓mWo24b, ↓mQ36b, ↓mRo25b, ↓mWo25b, ↓mQ37b, ↓mRo26b, ↓mWo26b, ↓mQ38b, ↓mRo27b, ↓mWo27b, ↓mQ39b, ↓mRo28b, ↓mWo28b, ↓mQ40b, ↓mRo29b, ↓mWo29b, ↓mQ41b, ↓mRo30b, ↓mWo30b, ↓mQ43b, ↓mRo31b, ↓mWo31b, ↓mQ44b, ↓mRo32b, ↓mWo32b, ↓mQ45b, ↓mRo33b, ↓mWo33b, ↓mQ46b, ↓mRo34b, ↓mWo34b, ↓mQ47b, ↓mRo35b, ↓mWo35b, ↓mQ48b, ↓mRo36b, ↓mWo36b, ↓mQ50b, ↓mRo37b, ↓mWo37b, ↓mQ51b, ↓mRo38b, ↓mWo38b, ↓mQ52b, ↓mRo39b, ↓mWo39b, ↓if_pos, ↓if_neg, ↓bde eO, ti, c2, hi1, ↓zbe f1, c3, r9, c4, c6, c7]
              exact e1
          · obtain ⟨g', e1, e2⟩ := rest g1 f2 f3 s (by rw [nx, if_neg (fun z => c4 z.2.2.2.1)])
            refine ⟨g', ?_, e2⟩
            simp (disch := omega) only [↓zcs, ↓zcn, ↓mD, ↓Option.bind_some, ↓zb_some, ↓zrz0b, ↓zrz1b, ↓zckb, zrz0, zrz1, ↓reduceIte, ↓mIb, ↓mPb, ↓zck_ofb, ↓mPob, ↓mQ1b, ↓mRo1b, ↓mWo1b, ↓mQ3b, ↓mRo2b, ↓mWo2b, ↓mQ4b, ↓mRo3b, ↓mWo3b, ↓mQ8b, ↓mRo4b, ↓mWo4b, ↓mQ9b, ↓mRo5b, ↓mWo5b, ↓mQ10b, ↓mRo6b, ↓mWo6b, ↓mQ11b, ↓mRo7b, ↓mWo7b, ↓mQ12b, ↓mRo8b, ↓mWo8b, ↓mQ13b, ↓mRo9b, ↓mWo9b, ↓mQ14b, ↓mRo10b, ↓mWo10b, ↓mQ17b, ↓mRo11b, ↓mWo11b, ↓mQ19b, ↓mRo12b, ↓mWo12b, ↓mQ20b, ↓mRo13b, ↓mWo13b, ↓mQ23b, ↓mRo14b, ↓mWo14b, ↓mQ24b, ↓mRo15b, ↓mWo15b, ↓mQ26b, ↓mRo16b, ↓mWo16b, ↓mQ27b, ↓mRo17b, ↓mWo17b, ↓mQ28b, ↓mRo18b, ↓mWo18b, ↓mQ29b, ↓mRo19b, ↓mWo19b, ↓mQ30b, ↓mRo20b, ↓mWo20b, ↓mQ32b, ↓mRo21b, ↓mWo21b, ↓mQ33b, ↓mRo22b, ↓mWo22b, ↓mQ34b, ↓mRo23b, ↓mWo23b, ↓mQ35b, ↓mRo24b, ↓mWo24b, ↓mQ36b, ↓mRo25b, ↓mWo25b, ↓mQ37b, ↓mRo26b, ↓mWo26b, ↓mQ38b, ↓mRo27b, ↓mWo27b, ↓mQ39b, ↓mRo28b, ↓mWo28b, ↓mQ40b, ↓mRo29b, ↓mWo29b, ↓mQ41b, ↓mRo30b, ↓mWo30b, ↓mQ43b, ↓mRo31b, ↓mWo31b, ↓mQ44b, ↓mRo32b, ↓mWo32b, ↓mQ45b, ↓mRo33b, ↓mWo33b, ↓mQ46b, ↓mRo34b, ↓mWo34b, ↓mQ47b, ↓mRo35b, ↓mWo35b, ↓mQ48b, ↓mRo36b, ↓mWo36b, ↓mQ50b, ↓mRo37b, ↓mWo37b, ↓mQ51b, ↓mRo38b, ↓mWo38b, ↓mQ52b, ↓mRo39b, ↓mWo39b, ↓if_pos, ↓if_neg, ↓bde eO, ti, c2, hi1, ↓zbe f1, c3, r9, c4]
            exact e1
        · obtain ⟨g', e1, e2⟩ := rest g1 f2 f3 s (by rw [nx, if_neg (fun z => c3 z.2.2.1)])
          refine ⟨g', ?_, e2⟩
          simp (disch := omega) only [↓zcs, ↓zcn, ↓mD, ↓Option.bind_some, ↓zb_some, ↓zrz0b, ↓zrz1b, ↓zckb, zrz0, zrz1, ↓reduceIte, ↓mIb, ↓mPb, ↓zck_ofb, ↓mPob, ↓mQ1b, ↓mRo1b, ↓mWo1b, ↓mQ3b, ↓mRo2b, ↓mWo2b, ↓mQ4b, ↓mRo3b, ↓mWo3b, ↓mQ8b, ↓mRo4b, ↓mWo4b, ↓mQ9b, ↓mRo5b, ↓mWo5b, ↓mQ10b, ↓mRo6b, ↓mWo6b, ↓mQ11b, ↓mRo7b, ↓mWo7b, ↓mQ12b, ↓mRo8b, ↓mWo8b, ↓mQ13b, ↓mRo9b, ↓mWo9b, ↓mQ14b, ↓mRo10b, ↓mWo10b, ↓mQ17b, ↓mRo11b, ↓mWo11b, ↓mQ19b, ↓mRo12b, ↓mWo12b, ↓mQ20b, ↓mRo13b, ↓mWo13b, ↓mQ23b, ↓mRo14b, ↓mWo14b, ↓mQ24b, ↓mRo15b, ↓mWo15b, ↓mQ26b, ↓mRo16b, ↓mWo16b, ↓mQ27b, ↓mRo17b, ↓mWo17b, ↓mQ28b, ↓mRo18b, ↓mWo18b, ↓mQ29b, ↓mRo19b, ↓mWo19b, ↓mQ30b, ↓mRo20b, ↓mWo20b, ↓mQ32b, ↓mRo21b, ↓mWo21b, ↓mQ33b, ↓mRo22b, ↓mWo22b, ↓mQ34b, ↓mRo23b, ↓mWo23b, ↓mQ35b, ↓mRo24b, ↓mWo24b, ↓mQ36b, ↓mRo25b, ↓mWo25b, ↓mQ37b, ↓mRo26b, ↓mWo26b, ↓mQ38b, ↓mRo27b, ↓mWo27b, ↓mQ39b, ↓mRo28b, ↓mWo28b, ↓mQ40b, ↓mRo29b, ↓mWo29b, ↓mQ41b, ↓mRo30b, ↓mWo30b, ↓mQ43b, ↓mRo31b, ↓mWo31b, ↓mQ44b, ↓mRo32b, ↓mWo32b, ↓mQ45b, ↓mRo33b, ↓mWo33b, ↓mQ46b, ↓mRo34b, ↓mWo34b, ↓mQ47b, ↓mRo35b, ↓mWo35b, ↓mQ48b, ↓mRo36b, ↓mWo36b, ↓mQ50b, ↓mRo37b, ↓mWo37b, ↓mQ51b, ↓mRo38b, ↓mWo38b, ↓mQ52b, ↓mRo39b, ↓mWo39b, ↓if_pos, ↓if_neg, ↓bde eO, ti, c2, hi1, ↓zbe f1, c3]
          exact e1
    · rw [if_neg c1] at eO
      obtain ⟨g', e1, e2⟩ := rest g gW.rfl' t s (by rw [nx, if_neg (fun z => c1 z.1)])
      refine ⟨g', ?_, e2⟩
      simp (disch := omega) only [↓zcs, ↓zcn, ↓mD, ↓Option.bind_some, ↓zb_some, ↓zrz0b, ↓zrz1b, ↓zckb, zrz0, zrz1, ↓reduceIte, ↓mIb, ↓mPb, ↓zck_ofb, ↓mPob, ↓mQ1b, ↓mRo1b, ↓mWo1b, ↓mQ3b, ↓mRo2b, ↓mWo2b, ↓mQ4b, ↓mRo3b, ↓mWo3b, ↓mQ8b, ↓mRo4b, ↓mWo4b, ↓mQ9b, ↓mRo5b, ↓mWo5b, ↓mQ10b, ↓mRo6b, ↓mWo6b, ↓mQ11b, ↓mRo7b, ↓mWo7b, ↓mQ12b, ↓mRo8b, ↓mWo8b, ↓mQ13b, ↓mRo9b, ↓mWo9b, ↓mQ14b, ↓mRo10b, ↓mWo10b, ↓mQ17b, ↓mRo11b, ↓mWo11b, ↓mQ19b, ↓mRo12b, ↓mWo12b, ↓mQ20b, ↓mRo13b, ↓mWo13b, ↓mQ23b, ↓mRo14b, ↓mWo14b, ↓mQ24b, ↓mRo15b, ↓mWo15b, ↓mQ26b, ↓mRo16b, ↓mWo16b, ↓mQ27b, ↓mRo17b, ↓mWo17b, ↓mQ28b, ↓mRo18b, ↓mWo18b, ↓mQ29b, ↓mRo19b, ↓mWo19b, ↓mQ30b, ↓mRo20b, ↓mWo20b, ↓mQ32b, ↓mRo21b, ↓mWo21b, ↓mQ33b, ↓mRo22b, ↓mWo22b, ↓mQ34b, ↓mRo23b, ↓mWo23b, ↓mQ35b, ↓mRo24b, ↓mWo24b, ↓mQ36b, ↓mRo25b, ↓mWo25b, ↓mQ37b, ↓mRo26b, ↓mWo26b, ↓mQ38b, ↓mRo27b, ↓mWo27b, ↓mQ39b, ↓mRo28b, ↓mWo28b, ↓mQ40b, ↓mRo29b, ↓mWo29b, ↓mQ41b, ↓mRo30b, ↓mWo30b, ↓mQ43b, ↓mRo31b, ↓mWo31b, ↓mQ44b, ↓mRo32b, ↓mWo32b, ↓mQ45b, ↓mRo33b, ↓mWo33b, ↓mQ46b, ↓mRo34b, ↓mWo34b, ↓mQ47b, ↓mRo35b, ↓mWo35b, ↓mQ48b, ↓mRo36b, ↓mWo36b, ↓mQ50b, ↓mRo37b, ↓mWo37b, ↓mQ51b, ↓mRo38b, ↓mWo38b, ↓mQ52b, ↓mRo39b, ↓mWo39b, ↓if_pos, ↓if_neg, ↓bde eO, ti, hi1]
      exact e1
theorem eM_land {m N FU : Nat} {g W : Nat → Nat → Int} (h : HG g) (t : TG g W) (hFU : 41 ≤ FU) {p : Int} (hp : 0 ≤ p ∧ p < g 0 2) : ∃ g', FM_landOf FU m p (zG m N g) = some ((landF (g 4) (g 8) (g 9) W p.toNat (g 0 15).toNat).1, zG m N g') ∧ gW g g' ∧ TG g' W := by
  have n0 := h.many0
  obtain ⟨p, rfl⟩ : ∃ q : Nat, p = (q : Int) := ⟨p.toNat, by omega⟩
  obtain ⟨g', e1, e2, e3⟩ := mland_loop (m := m) (N := N) (W := W) hFU (g 0 15).toNat 0 FU (-1, 0) g p h t (by omega) (by omega) (by omega) rfl
  refine ⟨g', ?_, e2, e3⟩
  unfold FM_landOf FM_landOf_b
  simp (disch := omega) only [mI, mP, mPo, mD, Option.bind_some, zb_some, zrz0, zrz1, zck_of, mQ1, mRo1, mWo1, mQ3, mRo2, mWo2, mQ4, mRo3, mWo3, mQ8, mRo4, mWo4, mQ9, mRo5, mWo5, mQ10, mRo6, mWo6, mQ11, mRo7, mWo7, mQ12, mRo8, mWo8, mQ13, mRo9, mWo9, mQ14, mRo10, mWo10, mQ17, mRo11, mWo11, mQ19, mRo12, mWo12, mQ20, mRo13, mWo13, mQ23, mRo14, mWo14, mQ24, mRo15, mWo15, mQ26, mRo16, mWo16, mQ27, mRo17, mWo17, mQ28, mRo18, mWo18, mQ29, mRo19, mWo19, mQ30, mRo20, mWo20, mQ32, mRo21, mWo21, mQ33, mRo22, mWo22, mQ34, mRo23, mWo23, mQ35, mRo24, mWo24, mQ36, mRo25, mWo25, mQ37, mRo26, mWo26, mQ38, mRo27, mWo27, mQ39, mRo28, mWo28, mQ40, mRo29, mWo29, mQ41, mRo30, mWo30, mQ43, mRo31, mWo31, mQ44, mRo32, mWo32, mQ45, mRo33, mWo33, mQ46, mRo34, mWo34, mQ47, mRo35, mWo35, mQ48, mRo36, mWo36, mQ50, mRo37, mWo37, mQ51, mRo38, mWo38, mQ52, mRo39, mWo39]
  exact e1
