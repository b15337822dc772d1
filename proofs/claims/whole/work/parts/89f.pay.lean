/-! ===== pay, the call ===== -/
theorem eS_B113 {x N FU : Nat} {c : Nat → Key} {V : Key → Nat → Int} {R : Key → Nat → Option Nat} {K : Key → Option (Nat × Nat)} {i a : Nat} (hc : CX x c) (ha : SA c R K i a) (day f : Int) : FShop_settle_B113 FU a day f (zX x c N V R K) = some (f, zX x c N (if V (1, i, 0) 9 = 0 ∧ V (1, i, 0) 11 ≠ -1 ∧ V (1, i, 0) 13 = 0 then ku (ku V (1, i, 0) 13 1) (1, i, 0) 14 day else V) R K) := by
  unfold FShop_settle_B113
  rw [sIb ha]
  by_cases c1 : V (1, i, 0) 9 = 0
  · rw [if_pos c1, eS_end hc ha, zb_some]
    unfold vEnd
    by_cases c2 : V (1, i, 0) 11 = -1
    · rw [if_pos c2, if_neg (fun z => z.2.1 c2)]
    · rw [if_neg c2]
      by_cases c3 : V (1, i, 0) 13 = 0
      · rw [if_pos c3, if_pos ⟨c1, c2, c3⟩]
      · rw [if_neg c3, if_neg (fun z => c3 z.2.2)]
  · rw [if_neg c1, if_neg (fun z => c1 z.1)]
section OPK
variable {k x m : Nat} {X M : Hp}
theorem pot_one {g : Nat → Nat → Int} (hd : dueOk g) {i : Nat} (hi : i < 40) {p : Int} (hp : 0 ≤ p) (h30 : 0 ≤ g 30 i) (h1 : 0 < g 30 i → zsum (fun j => mDue g (333 * i + j)) 333 = 0) : setG g i p 333 = setG g i (g 30 i + p) 333 ∧ g 30 i + potF g i p 333 = potF g i (g 30 i + p) 333 := by
  by_cases z : g 30 i = 0
  · rw [z, Int.zero_add, Int.zero_add]
    exact ⟨rfl, rfl⟩
  · have a := none_due hd hi (h1 (by omega)) hp
    have b := none_due hd hi (h1 (by omega)) (C := g 30 i + p) (by omega)
    exact ⟨by rw [a.2.1, b.2.1], by rw [a.1, b.1]⟩
theorem OP_pay (h : INV k x m X M) (hk : k < 512) (a1 a2 : Int) (h1 : zInI a1) (h2 : zInI a2) : ∃ (r : Int) (X' M' : Hp), FB_pay zFU x a1 a2 X = some (r, X') ∧ FM_pay zFU m a1 a2 M = some (r, M') ∧ INV (k + 1) x m X' M' := by
  obtain ⟨c, N, V, R, K, N', g, W, rfl, rfl, h⟩ := h
  have hc := h.c.cx
  have n0 := h.h.many0
  have d0 := h.s.day
  have f0 := h.f.coins0
  unfold FB_pay FB_pay_b FM_pay FM_pay_b
  rcases h.h.ask a1 with q1 | ⟨i, a, rfl, hi, hi2, q1, ha, hR, hn⟩
  · refine ⟨-2000000000, zX x c N V R K, zG m N' g, ?_, ?_, INV.intro h.skip⟩
    · simp (disch := omega) only [↓zcs, ↓zcn, ↓Option.bind_some, ↓zb_some, ↓zrz0b, ↓zrz1b, ↓zckb, zrz0, zrz1, ↓reduceIte, ↓xI0b hc, ↓xP0b hc, ↓xI1b hc, ↓xP1b hc, ↓xI66b hc, ↓xP66b hc, ↓xI68b hc, ↓xP68b hc, ↓xI115b hc, ↓xP115b hc, ↓xI120b hc, ↓xP120b hc, ↓xI121b hc, ↓xP121b hc, ↓xI125b hc, ↓xP125b hc, ↓xI127b hc, ↓xP127b hc, ↓xN2b hc, ↓xRo2b hc, ↓xWo2b hc, ↓xN65b hc, ↓xRo65b hc, ↓xWo65b hc, ↓xN113b hc, ↓xRo113b hc, ↓xWo113b hc, ↓xN114b hc, ↓xRo114b hc, ↓xWo114b hc, ↓xN116b hc, ↓xRo116b hc, ↓xWo116b hc, ↓xN117b hc, ↓xRo117b hc, ↓xWo117b hc, ↓xN118b hc, ↓xRo118b hc, ↓xWo118b hc, ↓xN119b hc, ↓xRo119b hc, ↓xWo119b hc, ↓xN122b hc, ↓xRo122b hc, ↓xWo122b hc, ↓xN124b hc, ↓xRo124b hc, ↓xWo124b hc, ↓xN126b hc, ↓xRo126b hc, ↓xWo126b hc, ↓xN128b hc, ↓xRo128b hc, ↓xWo128b hc, ↓xN129b hc, ↓xRo129b hc, ↓xWo129b hc, ↓xN130b hc, ↓xRo130b hc, ↓xWo130b hc, ↓xN131b hc, ↓xRo131b hc, ↓xWo131b hc, ↓xN132b hc, ↓xRo132b hc, ↓xWo132b hc, ↓xN133b hc, ↓xRo133b hc, ↓xWo133b hc, ↓xN67b hc, ↓xAo67b hc, ↓xN123b hc, ↓xAo123b hc, ↓xN3b hc, ↓xAo3b hc, ↓xN34b hc, ↓xAo34b hc, ↓xN69b hc, ↓xAo69b hc, ↓xQ0_0b hc, ↓xQ0_1b hc, ↓xQ0_2b hc, ↓xQ0_3b hc, ↓xQ0_4b hc, ↓xQ0_5b hc, ↓xQ0_6b hc, ↓xQ1_0b hc, ↓xQ1_1b hc, ↓xQ1_2b hc, ↓xQ1_3b hc, ↓xQ66_0b hc, ↓xQ66_1b hc, ↓xQ68_0b hc, ↓xQ68_1b hc, ↓xQ68_2b hc, ↓xQ68_3b hc, ↓xQ115_0b hc, ↓xQ115_1b hc, ↓xQ115_2b hc, ↓xQ115_3b hc, ↓xQ115_4b hc, ↓xQ115_5b hc, ↓xQ115_6b hc, ↓xQ120_0b hc, ↓xQ120_1b hc, ↓xQ120_2b hc, ↓xQ120_3b hc, ↓xQ125_0b hc, ↓xQ125_1b hc, ↓xQ127_0b hc, ↓xQ127_1b hc, ↓xQ127_2b hc, ↓xQ127_3b hc, ↓xQ127_4b hc, ↓xQ127_5b hc, ↓xD0 hc, ↓xD1 hc, ↓xD66 hc, ↓xD68 hc, ↓xD115 hc, ↓xD120 hc, ↓xD121 hc, ↓xD125 hc, ↓xD127 hc, ↓bde (h.h.shopAt hc _), q1]
    · simp (disch := omega) only [↓zcs, ↓zcn, ↓mD, ↓Option.bind_some, ↓zb_some, ↓zrz0b, ↓zrz1b, ↓zckb, zrz0, zrz1, ↓reduceIte, ↓mIb, ↓mPb, ↓zck_ofb, ↓mPob, ↓mQ1b, ↓mRo1b, ↓mWo1b, ↓mQ3b, ↓mRo2b, ↓mWo2b, ↓mQ4b, ↓mRo3b, ↓mWo3b, ↓mQ8b, ↓mRo4b, ↓mWo4b, ↓mQ9b, ↓mRo5b, ↓mWo5b, ↓mQ10b, ↓mRo6b, ↓mWo6b, ↓mQ11b, ↓mRo7b, ↓mWo7b, ↓mQ12b, ↓mRo8b, ↓mWo8b, ↓mQ13b, ↓mRo9b, ↓mWo9b, ↓mQ14b, ↓mRo10b, ↓mWo10b, ↓mQ17b, ↓mRo11b, ↓mWo11b, ↓mQ19b, ↓mRo12b, ↓mWo12b, ↓mQ20b, ↓mRo13b, ↓mWo13b, ↓mQ23b, ↓mRo14b, ↓mWo14b, ↓mQ24b, ↓mRo15b, ↓mWo15b, ↓mQ26b, ↓mRo16b, ↓mWo16b, ↓mQ27b, ↓mRo17b, ↓mWo17b, ↓mQ28b, ↓mRo18b, ↓mWo18b, ↓mQ29b, ↓mRo19b, ↓mWo19b, ↓mQ30b, ↓mRo20b, ↓mWo20b, ↓mQ32b, ↓mRo21b, ↓mWo21b, ↓mQ33b, ↓mRo22b, ↓mWo22b, ↓mQ34b, ↓mRo23b, ↓mWo23b, ↓mQ35b, ↓mRo24b, ↓mWo24b, ↓mQ36b, ↓mRo25b, ↓mWo25b, ↓mQ37b, ↓mRo26b, ↓mWo26b, ↓mQ38b, ↓mRo27b, ↓mWo27b, ↓mQ39b, ↓mRo28b, ↓mWo28b, ↓mQ40b, ↓mRo29b, ↓mWo29b, ↓mQ41b, ↓mRo30b, ↓mWo30b, ↓mQ43b, ↓mRo31b, ↓mWo31b, ↓mQ44b, ↓mRo32b, ↓mWo32b, ↓mQ45b, ↓mRo33b, ↓mWo33b, ↓mQ46b, ↓mRo34b, ↓mWo34b, ↓mQ47b, ↓mRo35b, ↓mWo35b, ↓mQ48b, ↓mRo36b, ↓mWo36b, ↓mQ50b, ↓mRo37b, ↓mWo37b, ↓mQ51b, ↓mRo38b, ↓mWo38b, ↓mQ52b, ↓mRo39b, ↓mWo39b, ↓if_pos, ↓if_neg, ↓bde (eM_isShop _), q1]
  · obtain ⟨b, hb⟩ := h.h.ma hi
    have ti : (i : Int).toNat = i := by omega
    by_cases q2 : 1 ≤ a2 ∧ a2 ≤ 1000000
    · have hd : dueOk g := h.m.due0
      have cr := h.u.credit i hi
      have ui := h.u.unpaid i hi
      have one := h.u.one i hi
      have mon := h.money (by omega) hi
      have po := pot_one hd hi2 (p := a2) (by omega) cr.2.1 (fun z => by rw [← ui.1]; exact one z)
      have eM := eM_settle (m := m) (N := N') (FU := zFU) (by decide) hd hi2 (p := a2) (by omega) (by omega) (by omega)
      have eX := eS_settle (N := N) (FU := zFU) hc h.m n0 (by decide) hi ha hb (coins := a2) (day := g 0 0) (by omega) (by omega)
      rw [eS_B113 hc ha] at eX
      rw [po.1, po.2, ← ui.1] at eM
      rw [cr.1] at eX
      generalize hC : g 30 i + a2 = C at eM eX po
      have hC0 : 0 ≤ C := by omega
      have pp := potF_nn hd hi2 hC0 333 (by omega)
      have dl := due_left (g := g) i C 333 (by omega)
      have da := due_all hd hi2 hC0
      have fl := fund_le hd hi2 hC0 333 (by omega)
      have nn : 0 ≤ V (1, i, 0) 9 - (C - potF g i C 333) := by
        rw [ui.1, ← dl]
        exact zsum_nn (fun t ht => by
          have b := part_bd hd hi2 hC0 (j := t) ht
          show 0 ≤ mDue (setG g i C 333) (333 * i + t)
          unfold mDue
          rw [setG_28 ht, setG_29 ht, setG_o (a := 26) (by decide) (by decide) (by simp), setG_o (a := 27) (by decide) (by decide) (by simp)]
          omega)
      have hfu : zsum (fF g i C) 333 ≤ 1000000 := by
        by_cases z : 0 < g 30 i
        · have nd := none_due hd hi2 (by rw [← ui.1]; exact one z) hC0
          have := zsum_0 (f := fF g i C) (n := 0) 333 (fun j _ h2 => (nd.2.2 j (by omega)).2)
          rw [show 0 + 333 = 333 by omega] at this
          have e0 : zsum (fF g i C) 0 = 0 := rfl
          omega
        · omega
      have iff : (V (1, i, 0) 9 - (C - potF g i C 333) = 0) ↔ V (1, i, 0) 9 - C ≤ 0 := by
        constructor
        · intro z; omega
        · intro z
          by_cases w : 0 < potF g i C 333
          · have := da w 333 (by omega)
            rw [ui.1]; omega
          · omega
      -- the class's cells after the pot is led out
      generalize hV1 : setV (ku V (1, i, 0) 10 C) g i C 333 = V1 at eX
      have w9 : V1 (1, i, 0) 9 = V (1, i, 0) 9 - (C - potF g i C 333) := by rw [← hV1, setV_shop, if_neg (by decide), if_pos rfl, ku_at, if_neg (by decide)]
      have w10 : V1 (1, i, 0) 10 = potF g i C 333 := by rw [← hV1, setV_shop, if_pos rfl]
      have wq : ∀ q, q ≠ 9 → q ≠ 10 → V1 (1, i, 0) q = V (1, i, 0) q := fun q z1 z2 => by rw [← hV1, setV_shop, if_neg z2, if_neg z1, ku_at, if_neg z2]
      have wm : ∀ j q, j < 333 → V1 (2, i, j) q = if q = 5 then V (2, i, j) 5 + rF g i C j else if q = 6 then V (2, i, j) 6 + fF g i C j else V (2, i, j) q := fun j q hj => by rw [← hV1, setV_month, if_pos hj, ku_row (by simp)]
      have wo : ∀ key q, key ≠ (1, i, 0) → (∀ j, j < 333 → key ≠ (2, i, j)) → V1 key q = V key q := fun key q z1 z2 => by
        rw [← hV1]
        unfold setV
        by_cases z3 : key.1 = 2 ∧ key.2.1 = i ∧ key.2.2 < 333
        · exact absurd (by obtain ⟨ka, kb, kd⟩ := key; simp only at z3; rw [z3.1, z3.2.1]) (z2 key.2.2 z3.2.2)
        · rw [if_neg z3, if_neg z1, ku_row z1]
      clear hV1
      have wc : V1 (0, 125, 0) 2 = g 0 42 := by rw [wo _ _ (by simp) (fun j _ => by simp)]; exact h.f.coins
      rw [w9, wq 11 (by decide) (by decide), wq 13 (by decide) (by decide), hn.nday, hn.nstate] at eX
      unfold endG at eM
      have r31 : gu (setG g i C 333) 30 i (potF g i C 333) 31 i = g 31 i := by rw [gu_row (by decide)]; exact setG_o (by decide) (by decide) (by simp)
      have r33 : gu (setG g i C 333) 30 i (potF g i C 333) 33 i = g 33 i := by rw [gu_row (by decide)]; exact setG_o (by decide) (by decide) (by simp)
      have r00 : gu (setG g i C 333) 30 i (potF g i C 333) 0 0 = g 0 0 := by rw [gu_row (by decide)]; exact setG_o (by decide) (by decide) (by simp)
      rw [r31, r33, r00, show V (1, i, 0) 9 - a2 - g 30 i = V (1, i, 0) 9 - C by omega] at eM
      have so : ∀ a s, a ≠ 28 → a ≠ 29 → (a = 0 → s ≠ 42) → setG g i C 333 a s = g a s := fun a s z1 z2 z3 => setG_o z1 z2 z3
      have s42 : setG g i C 333 0 42 = g 0 42 + zsum (fF g i C) 333 := by
        unfold setG; rw [if_neg (by omega), if_neg (by omega), if_pos ⟨rfl, rfl⟩]
      have b31 := hn.nday0
      -- both ends
      have fin : ∀ (V' : Key → Nat → Int) (g' : Nat → Nat → Int), FShop_settle zFU a a2 (g 0 0) (zX x c N V R K) = some (zsum (fF g i C) 333, zX x c N V' R K) → FM_settle zFU m (i : Int) a2 (zG m N' g) = some ((), zG m N' g') → g' 0 15 = g 0 15 → ST (k + 1) x c N (ku V' (0, 125, 0) 2 (g 0 42 + zsum (fF g i C) 333)) R K g' W → ∃ (r : Int) (X' M' : Hp), FB_pay zFU x (i : Int) a2 (zX x c N V R K) = some (r, X') ∧ FM_pay zFU m (i : Int) a2 (zG m N' g) = some (r, M') ∧ INV (k + 1) x m X' M' := by
        intro V' g' e1 e3 g15 hs
        have hi' : i < (g' 0 15).toNat := by rw [g15]; exact hi
        have mo' := hs.money (by omega) hi'
        have cr' := hs.u.credit i hi'
        have u' := hs.u.unpaid i hi'
        have eB := eS_balance (FU := zFU) (x := x) (N := N) ha (by omega) mo'.2
        have eO := eM_owed (m := m) (N := N') (FU := zFU) (g := g') (by decide) hs.m.due0 hi2 (by omega)
        refine ⟨ku V' (0, 125, 0) 2 (g 0 42 + zsum (fF g i C) 333) (1, i, 0) 9 - ku V' (0, 125, 0) 2 (g 0 42 + zsum (fF g i C) 333) (1, i, 0) 10, zX x c N (ku V' (0, 125, 0) 2 (g 0 42 + zsum (fF g i C) 333)) R K, zG m N' g', ?_, ?_, INV.intro hs⟩
        · unfold FB_pay FB_pay_b
          simp (disch := omega) only [↓zcs, ↓zcn, ↓Option.bind_some, ↓zb_some, ↓zrz0b, ↓zrz1b, ↓zckb, zrz0, zrz1, ↓reduceIte, ↓xI0b hc, ↓xP0b hc, ↓xI1b hc, ↓xP1b hc, ↓xI66b hc, ↓xP66b hc, ↓xI68b hc, ↓xP68b hc, ↓xI115b hc, ↓xP115b hc, ↓xI120b hc, ↓xP120b hc, ↓xI121b hc, ↓xP121b hc, ↓xI125b hc, ↓xP125b hc, ↓xI127b hc, ↓xP127b hc, ↓xN2b hc, ↓xRo2b hc, ↓xWo2b hc, ↓xN65b hc, ↓xRo65b hc, ↓xWo65b hc, ↓xN113b hc, ↓xRo113b hc, ↓xWo113b hc, ↓xN114b hc, ↓xRo114b hc, ↓xWo114b hc, ↓xN116b hc, ↓xRo116b hc, ↓xWo116b hc, ↓xN117b hc, ↓xRo117b hc, ↓xWo117b hc, ↓xN118b hc, ↓xRo118b hc, ↓xWo118b hc, ↓xN119b hc, ↓xRo119b hc, ↓xWo119b hc, ↓xN122b hc, ↓xRo122b hc, ↓xWo122b hc, ↓xN124b hc, ↓xRo124b hc, ↓xWo124b hc, ↓xN126b hc, ↓xRo126b hc, ↓xWo126b hc, ↓xN128b hc, ↓xRo128b hc, ↓xWo128b hc, ↓xN129b hc, ↓xRo129b hc, ↓xWo129b hc, ↓xN130b hc, ↓xRo130b hc, ↓xWo130b hc, ↓xN131b hc, ↓xRo131b hc, ↓xWo131b hc, ↓xN132b hc, ↓xRo132b hc, ↓xWo132b hc, ↓xN133b hc, ↓xRo133b hc, ↓xWo133b hc, ↓xN67b hc, ↓xAo67b hc, ↓xN123b hc, ↓xAo123b hc, ↓xN3b hc, ↓xAo3b hc, ↓xN34b hc, ↓xAo34b hc, ↓xN69b hc, ↓xAo69b hc, ↓xQ0_0b hc, ↓xQ0_1b hc, ↓xQ0_2b hc, ↓xQ0_3b hc, ↓xQ0_4b hc, ↓xQ0_5b hc, ↓xQ0_6b hc, ↓xQ1_0b hc, ↓xQ1_1b hc, ↓xQ1_2b hc, ↓xQ1_3b hc, ↓xQ66_0b hc, ↓xQ66_1b hc, ↓xQ68_0b hc, ↓xQ68_1b hc, ↓xQ68_2b hc, ↓xQ68_3b hc, ↓xQ115_0b hc, ↓xQ115_1b hc, ↓xQ115_2b hc, ↓xQ115_3b hc, ↓xQ115_4b hc, ↓xQ115_5b hc, ↓xQ115_6b hc, ↓xQ120_0b hc, ↓xQ120_1b hc, ↓xQ120_2b hc, ↓xQ120_3b hc, ↓xQ125_0b hc, ↓xQ125_1b hc, ↓xQ127_0b hc, ↓xQ127_1b hc, ↓xQ127_2b hc, ↓xQ127_3b hc, ↓xQ127_4b hc, ↓xQ127_5b hc, ↓xD0 hc, ↓xD1 hc, ↓xD66 hc, ↓xD68 hc, ↓xD115 hc, ↓xD120 hc, ↓xD121 hc, ↓xD125 hc, ↓xD127 hc, ↓if_neg, ↓if_pos, ↓bde (h.h.shopAt hc _), q1, hR, ↓bde (eB_isWithin _ _ _ _), q2, h.f.coins, d0, ↓zbe e1, ↓bde eB]
        · unfold FM_pay FM_pay_b
          simp (disch := omega) only [↓zcs, ↓zcn, ↓mD, ↓Option.bind_some, ↓zb_some, ↓zrz0b, ↓zrz1b, ↓zckb, zrz0, zrz1, ↓reduceIte, ↓mIb, ↓mPb, ↓zck_ofb, ↓mPob, ↓mQ1b, ↓mRo1b, ↓mWo1b, ↓mQ3b, ↓mRo2b, ↓mWo2b, ↓mQ4b, ↓mRo3b, ↓mWo3b, ↓mQ8b, ↓mRo4b, ↓mWo4b, ↓mQ9b, ↓mRo5b, ↓mWo5b, ↓mQ10b, ↓mRo6b, ↓mWo6b, ↓mQ11b, ↓mRo7b, ↓mWo7b, ↓mQ12b, ↓mRo8b, ↓mWo8b, ↓mQ13b, ↓mRo9b, ↓mWo9b, ↓mQ14b, ↓mRo10b, ↓mWo10b, ↓mQ17b, ↓mRo11b, ↓mWo11b, ↓mQ19b, ↓mRo12b, ↓mWo12b, ↓mQ20b, ↓mRo13b, ↓mWo13b, ↓mQ23b, ↓mRo14b, ↓mWo14b, ↓mQ24b, ↓mRo15b, ↓mWo15b, ↓mQ26b, ↓mRo16b, ↓mWo16b, ↓mQ27b, ↓mRo17b, ↓mWo17b, ↓mQ28b, ↓mRo18b, ↓mWo18b, ↓mQ29b, ↓mRo19b, ↓mWo19b, ↓mQ30b, ↓mRo20b, ↓mWo20b, ↓mQ32b, ↓mRo21b, ↓mWo21b, ↓mQ33b, ↓mRo22b, ↓mWo22b, ↓mQ34b, ↓mRo23b, ↓mWo23b, ↓mQ35b, ↓mRo24b, ↓mWo24b, ↓mQ36b, ↓mRo25b, ↓mWo25b, ↓mQ37b, ↓mRo26b, ↓mWo26b, ↓mQ38b, ↓mRo27b, ↓mWo27b, ↓mQ39b, ↓mRo28b, ↓mWo28b, ↓mQ40b, ↓mRo29b, ↓mWo29b, ↓mQ41b, ↓mRo30b, ↓mWo30b, ↓mQ43b, ↓mRo31b, ↓mWo31b, ↓mQ44b, ↓mRo32b, ↓mWo32b, ↓mQ45b, ↓mRo33b, ↓mWo33b, ↓mQ46b, ↓mRo34b, ↓mWo34b, ↓mQ47b, ↓mRo35b, ↓mWo35b, ↓mQ48b, ↓mRo36b, ↓mWo36b, ↓mQ50b, ↓mRo37b, ↓mWo37b, ↓mQ51b, ↓mRo38b, ↓mWo38b, ↓mQ52b, ↓mRo39b, ↓mWo39b, ↓if_pos, ↓if_neg, ↓bde (eM_isShop _), q1, ↓bde (eM_within _ _ _ _), q2, ↓zbe e3, ↓bde eO]
          rw [u'.1, cr'.1]
      have fin2 : ∀ (r : Int) (X' M' : Hp), FB_pay zFU x (i : Int) a2 (zX x c N V R K) = some (r, X') ∧ FM_pay zFU m (i : Int) a2 (zG m N' g) = some (r, M') ∧ INV (k + 1) x m X' M' → True := fun _ _ _ _ => trivial
      clear fin2
      refine (?_ : ∃ (r : Int) (X' M' : Hp), FB_pay zFU x (i : Int) a2 (zX x c N V R K) = some (r, X') ∧ FM_pay zFU m (i : Int) a2 (zG m N' g) = some (r, M') ∧ INV (k + 1) x m X' M')
      have hk1 : potF g i C 333 ≤ 1000000 * ((k + 1 : Nat) : Int) := by omega
      have hF1 : 0 ≤ g 0 42 + zsum (fF g i C) 333 ∧ g 0 42 + zsum (fF g i C) 333 ≤ 1000000 * ((k + 1 : Nat) : Int) := by omega
      by_cases run : (0 ≤ g 31 i ∧ g 33 i = 0) ∧ V (1, i, 0) 9 - C ≤ 0
      · rw [if_pos ⟨iff.mpr run.2, by omega, run.1.2⟩] at eX
        rw [if_pos ⟨run.1.1, run.1.2, run.2⟩] at eM
        refine fin _ _ eX eM (by rw [gu_row (by decide), gu_row (by decide), gu_row (by decide)]; exact so 0 15 (by decide) (by decide) (by simp)) ?_
        refine h.skip.led hi hC0 hk1 hF1 ?_ ?_ ?_ ?_ (fun q z1 z2 z3 z4 => ?_) (fun j q hj => ?_) ?_ (fun key q z1 z2 z3 => ?_) (fun s => ?_) ?_ (fun s => ?_) (fun s hs => ?_) (fun a' s z1 z2 z3 z4 z5 z6 => ?_) ?_
        · rw [ku_row (by simp), ku_at, if_neg (by decide), ku_at, if_neg (by decide), w9]
        · rw [ku_row (by simp), ku_at, if_neg (by decide), ku_at, if_neg (by decide), w10]
        · simp [zku, zgu]
        · simp [zku, zgu]
        · rw [ku_row (by simp), ku_at, if_neg z4, ku_at, if_neg z3, wq q z1 z2]
        · rw [ku_row (by simp), ku_row (by simp), ku_row (by simp), wm j q hj]
        · rw [ku_at, if_pos rfl]
        · simp only [zku]
          rw [if_neg (fun z => z3 z.1 z.2), if_neg (fun z => z1 z.1), if_neg (fun z => z1 z.1), wo key q z1 z2]
        · rw [gu_row (by decide), gu_row (by decide), gu_row (by decide), gu_row (by decide), gu_row (by decide), gu_row (by decide)]
          exact ⟨rfl, rfl⟩
        · rw [gu_row (by decide), gu_row (by decide), gu_row (by decide), s42]
        · rw [gu_row (by decide), gu_row (by decide), gu_at, so 30 s (by decide) (by decide) (by simp)]
        · rw [gu_row (by decide), gu_at, if_neg hs, gu_row (by decide), gu_at, if_neg hs, gu_row (by decide), gu_row (by decide)]
          exact ⟨so 33 s (by decide) (by decide) (by simp), so 34 s (by decide) (by decide) (by simp)⟩
        · rw [gu_row z5, gu_row z4, gu_row z3, so a' s z1 z2 z6]
        · intro _ z
          simp [zgu] at z
      · have e1 : ¬ (V (1, i, 0) 9 - (C - potF g i C 333) = 0 ∧ g 31 i ≠ -1 ∧ g 33 i = 0) := fun z => run ⟨⟨by have := z.2.1; omega, z.2.2⟩, iff.mp z.1⟩
        rw [if_neg e1] at eX
        rw [if_neg (fun z => run ⟨⟨z.1, z.2.1⟩, z.2.2⟩)] at eM
        refine fin _ _ eX eM (by rw [gu_row (by decide)]; exact so 0 15 (by decide) (by decide) (by simp)) ?_
        refine h.skip.led hi hC0 hk1 hF1 ?_ ?_ ?_ ?_ (fun q z1 z2 z3 z4 => ?_) (fun j q hj => ?_) ?_ (fun key q z1 z2 z3 => ?_) (fun s => ?_) ?_ (fun s => ?_) (fun s hs => ?_) (fun a' s z1 z2 z3 z4 z5 z6 => ?_) ?_
        · rw [ku_row (by simp), w9]
        · rw [ku_row (by simp), w10]
        · rw [ku_row (by simp), wq 13 (by decide) (by decide), hn.nstate, r33]
        · rw [ku_row (by simp), wq 14 (by decide) (by decide), hn.nend, gu_row (by decide), so 34 i (by decide) (by decide) (by simp)]
        · rw [ku_row (by simp), wq q z1 z2]
        · rw [ku_row (by simp), wm j q hj]
        · rw [ku_at, if_pos rfl]
        · simp only [zku]
          rw [if_neg (fun z => z3 z.1 z.2), wo key q z1 z2]
        · rw [gu_row (by decide), gu_row (by decide)]
          exact ⟨rfl, rfl⟩
        · rw [gu_row (by decide), s42]
        · rw [gu_at, so 30 s (by decide) (by decide) (by simp)]
        · rw [gu_row (by decide), gu_row (by decide)]
          exact ⟨so 33 s (by decide) (by decide) (by simp), so 34 s (by decide) (by decide) (by simp)⟩
        · rw [gu_row z3, so a' s z1 z2 z6]
        · intro z1 z2
          rw [r33] at z2
          have : ¬ (V (1, i, 0) 9 - (C - potF g i C 333) = 0) := fun z => run ⟨⟨z1, z2⟩, iff.mp z⟩
          omega
    · refine ⟨-2000000000, zX x c N V R K, zG m N' g, ?_, ?_, INV.intro h.skip⟩
      · simp (disch := omega) only [↓zcs, ↓zcn, ↓Option.bind_some, ↓zb_some, ↓zrz0b, ↓zrz1b, ↓zckb, zrz0, zrz1, ↓reduceIte, ↓xI0b hc, ↓xP0b hc, ↓xI1b hc, ↓xP1b hc, ↓xI66b hc, ↓xP66b hc, ↓xI68b hc, ↓xP68b hc, ↓xI115b hc, ↓xP115b hc, ↓xI120b hc, ↓xP120b hc, ↓xI121b hc, ↓xP121b hc, ↓xI125b hc, ↓xP125b hc, ↓xI127b hc, ↓xP127b hc, ↓xN2b hc, ↓xRo2b hc, ↓xWo2b hc, ↓xN65b hc, ↓xRo65b hc, ↓xWo65b hc, ↓xN113b hc, ↓xRo113b hc, ↓xWo113b hc, ↓xN114b hc, ↓xRo114b hc, ↓xWo114b hc, ↓xN116b hc, ↓xRo116b hc, ↓xWo116b hc, ↓xN117b hc, ↓xRo117b hc, ↓xWo117b hc, ↓xN118b hc, ↓xRo118b hc, ↓xWo118b hc, ↓xN119b hc, ↓xRo119b hc, ↓xWo119b hc, ↓xN122b hc, ↓xRo122b hc, ↓xWo122b hc, ↓xN124b hc, ↓xRo124b hc, ↓xWo124b hc, ↓xN126b hc, ↓xRo126b hc, ↓xWo126b hc, ↓xN128b hc, ↓xRo128b hc, ↓xWo128b hc, ↓xN129b hc, ↓xRo129b hc, ↓xWo129b hc, ↓xN130b hc, ↓xRo130b hc, ↓xWo130b hc, ↓xN131b hc, ↓xRo131b hc, ↓xWo131b hc, ↓xN132b hc, ↓xRo132b hc, ↓xWo132b hc, ↓xN133b hc, ↓xRo133b hc, ↓xWo133b hc, ↓xN67b hc, ↓xAo67b hc, ↓xN123b hc, ↓xAo123b hc, ↓xN3b hc, ↓xAo3b hc, ↓xN34b hc, ↓xAo34b hc, ↓xN69b hc, ↓xAo69b hc, ↓xQ0_0b hc, ↓xQ0_1b hc, ↓xQ0_2b hc, ↓xQ0_3b hc, ↓xQ0_4b hc, ↓xQ0_5b hc, ↓xQ0_6b hc, ↓xQ1_0b hc, ↓xQ1_1b hc, ↓xQ1_2b hc, ↓xQ1_3b hc, ↓xQ66_0b hc, ↓xQ66_1b hc, ↓xQ68_0b hc, ↓xQ68_1b hc, ↓xQ68_2b hc, ↓xQ68_3b hc, ↓xQ115_0b hc, ↓xQ115_1b hc, ↓xQ115_2b hc, ↓xQ115_3b hc, ↓xQ115_4b hc, ↓xQ115_5b hc, ↓xQ115_6b hc, ↓xQ120_0b hc, ↓xQ120_1b hc, ↓xQ120_2b hc, ↓xQ120_3b hc, ↓xQ125_0b hc, ↓xQ125_1b hc, ↓xQ127_0b hc, ↓xQ127_1b hc, ↓xQ127_2b hc, ↓xQ127_3b hc, ↓xQ127_4b hc, ↓xQ127_5b hc, ↓xD0 hc, ↓xD1 hc, ↓xD66 hc, ↓xD68 hc, ↓xD115 hc, ↓xD120 hc, ↓xD121 hc, ↓xD125 hc, ↓xD127 hc, ↓if_neg, ↓if_pos, ↓bde (h.h.shopAt hc _), q1, hR, ↓bde (eB_isWithin _ _ _ _), q2]
      · simp (disch := omega) only [↓zcs, ↓zcn, ↓mD, ↓Option.bind_some, ↓zb_some, ↓zrz0b, ↓zrz1b, ↓zckb, zrz0, zrz1, ↓reduceIte, ↓mIb, ↓mPb, ↓zck_ofb, ↓mPob, ↓mQ1b, ↓mRo1b, ↓mWo1b, ↓mQ3b, ↓mRo2b, ↓mWo2b, ↓mQ4b, ↓mRo3b, ↓mWo3b, ↓mQ8b, ↓mRo4b, ↓mWo4b, ↓mQ9b, ↓mRo5b, ↓mWo5b, ↓mQ10b, ↓mRo6b, ↓mWo6b, ↓mQ11b, ↓mRo7b, ↓mWo7b, ↓mQ12b, ↓mRo8b, ↓mWo8b, ↓mQ13b, ↓mRo9b, ↓mWo9b, ↓mQ14b, ↓mRo10b, ↓mWo10b, ↓mQ17b, ↓mRo11b, ↓mWo11b, ↓mQ19b, ↓mRo12b, ↓mWo12b, ↓mQ20b, ↓mRo13b, ↓mWo13b, ↓mQ23b, ↓mRo14b, ↓mWo14b, ↓mQ24b, ↓mRo15b, ↓mWo15b, ↓mQ26b, ↓mRo16b, ↓mWo16b, ↓mQ27b, ↓mRo17b, ↓mWo17b, ↓mQ28b, ↓mRo18b, ↓mWo18b, ↓mQ29b, ↓mRo19b, ↓mWo19b, ↓mQ30b, ↓mRo20b, ↓mWo20b, ↓mQ32b, ↓mRo21b, ↓mWo21b, ↓mQ33b, ↓mRo22b, ↓mWo22b, ↓mQ34b, ↓mRo23b, ↓mWo23b, ↓mQ35b, ↓mRo24b, ↓mWo24b, ↓mQ36b, ↓mRo25b, ↓mWo25b, ↓mQ37b, ↓mRo26b, ↓mWo26b, ↓mQ38b, ↓mRo27b, ↓mWo27b, ↓mQ39b, ↓mRo28b, ↓mWo28b, ↓mQ40b, ↓mRo29b, ↓mWo29b, ↓mQ41b, ↓mRo30b, ↓mWo30b, ↓mQ43b, ↓mRo31b, ↓mWo31b, ↓mQ44b, ↓mRo32b, ↓mWo32b, ↓mQ45b, ↓mRo33b, ↓mWo33b, ↓mQ46b, ↓mRo34b, ↓mWo34b, ↓mQ47b, ↓mRo35b, ↓mWo35b, ↓mQ48b, ↓mRo36b, ↓mWo36b, ↓mQ50b, ↓mRo37b, ↓mWo37b, ↓mQ51b, ↓mRo38b, ↓mWo38b, ↓mQ52b, ↓mRo39b, ↓mWo39b, ↓if_pos, ↓if_neg, ↓bde (eM_isShop _), q1, ↓bde (eM_within _ _ _ _), q2]
end OPK
