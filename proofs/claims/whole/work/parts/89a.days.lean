/-! ===== the days pass, notices lapse ===== -/
def lapP (g : Nat → Nat → Int) (day : Int) (i : Nat) : Bool := decide (0 ≤ g 31 i) && decide (g 33 i = 0) && decide (g 32 i < day)
def lapV (V : Key → Nat → Int) (day : Int) (P : Nat → Bool) (n : Nat) (key : Key) (j : Nat) : Int :=
  if key.1 = 1 ∧ key.2.1 < n ∧ key.2.2 = 0 ∧ P key.2.1 = true then (if j = 5 ∨ j = 14 then day else if j = 13 then 2 else V key j) else V key j
def lapG (g : Nat → Nat → Int) (day : Int) (P : Nat → Bool) (n : Nat) (a i : Nat) : Int :=
  if i < n ∧ P i = true then (if a = 8 ∨ a = 34 then day else if a = 33 then 2 else g a i) else g a i
theorem lapV_0 (V : Key → Nat → Int) (day : Int) (P : Nat → Bool) : lapV V day P 0 = V := by
  funext key j
  unfold lapV
  rw [if_neg (by omega)]
theorem lapG_0 (g : Nat → Nat → Int) (day : Int) (P : Nat → Bool) : lapG g day P 0 = g := by
  funext a i
  unfold lapG
  rw [if_neg (by omega)]
theorem lapV_no (V : Key → Nat → Int) (day : Int) (P : Nat → Bool) {n : Nat} (h : P n = false) : lapV V day P (n + 1) = lapV V day P n := by
  funext key j
  unfold lapV
  by_cases e : key.1 = 1 ∧ key.2.1 < n ∧ key.2.2 = 0 ∧ P key.2.1 = true
  · rw [if_pos e, if_pos ⟨e.1, by omega, e.2.2⟩]
  · rw [if_neg e, if_neg (fun z => e ⟨z.1, by
      by_cases w : key.2.1 = n
      · have := z.2.2.2; rw [w, h] at this; exact absurd this (by decide)
      · omega, z.2.2⟩)]
theorem lapG_no (g : Nat → Nat → Int) (day : Int) (P : Nat → Bool) {n : Nat} (h : P n = false) : lapG g day P (n + 1) = lapG g day P n := by
  funext a i
  unfold lapG
  by_cases e : i < n ∧ P i = true
  · rw [if_pos e, if_pos ⟨by omega, e.2⟩]
  · rw [if_neg e, if_neg (fun z => e ⟨by
      by_cases w : i = n
      · have := z.2; rw [w, h] at this; exact absurd this (by decide)
      · omega, z.2⟩)]
theorem lapV_yes (V : Key → Nat → Int) (day : Int) (P : Nat → Bool) {n : Nat} (h : P n = true) : ku (ku (ku (lapV V day P n) (1, n, 0) 5 day) (1, n, 0) 13 2) (1, n, 0) 14 day = lapV V day P (n + 1) := by
  funext key j
  simp only [zku]
  unfold lapV
  by_cases e : key = (1, n, 0)
  · subst e
    simp [h]
    (repeat' split) <;> simp_all
  · have e2 : (key.1 = 1 ∧ key.2.1 < n + 1 ∧ key.2.2 = 0 ∧ P key.2.1 = true) ↔ (key.1 = 1 ∧ key.2.1 < n ∧ key.2.2 = 0 ∧ P key.2.1 = true) := by
      constructor
      · intro z
        refine ⟨z.1, ?_, z.2.2⟩
        by_cases w : key.2.1 = n
        · exact absurd (by obtain ⟨a, b, d⟩ := key; simp only at z w; rw [z.1, w, z.2.2.1]) e
        · omega
      · intro z
        exact ⟨z.1, by omega, z.2.2⟩
    simp only [e, false_and, if_false, e2]
theorem lapG_yes (g : Nat → Nat → Int) (day : Int) (P : Nat → Bool) {n : Nat} (h : P n = true) : gu (gu (gu (lapG g day P n) 33 n 2) 34 n day) 8 n day = lapG g day P (n + 1) := by
  funext a i
  simp only [zgu]
  unfold lapG
  by_cases e : i = n
  · subst e
    simp [h]
    (repeat' split) <;> simp_all
  · have e2 : (i < n + 1 ∧ P i = true) ↔ (i < n ∧ P i = true) := ⟨fun z => ⟨by omega, z.2⟩, fun z => ⟨by omega, z.2⟩⟩
    simp only [e, and_false, if_false, e2]
section DY
variable {k x N FU : Nat} {c : Nat → Key} {V : Key → Nat → Int} {R : Key → Nat → Option Nat} {K : Key → Option (Nat × Nat)} {g W : Nat → Nat → Int}
theorem lapV_at {day : Int} {P : Nat → Bool} (i j : Nat) : lapV V day P i (1, i, 0) j = V (1, i, 0) j := by
  unfold lapV
  rw [if_neg (fun z => absurd z.2.1 (Nat.lt_irrefl i))]
theorem lapV_out {day : Int} {P : Nat → Bool} {n : Nat} {key : Key} (hk : key.1 ≠ 1) : lapV V day P n key = V key := by
  funext j
  unfold lapV
  rw [if_neg (fun z => hk z.1)]
theorem lapse_loop (hc : CX x c) (h : IH k c V R K g) (day : Int) : ∀ (d i n : Nat), i + d = (g 0 15).toNat → d < n → FChain_lapseNotices_L2 FU n (x + 66) day (i : Int) (zX x c N (lapV V day (lapP g day) i) R K) = some ((), zX x c N (lapV V day (lapP g day) (g 0 15).toNat) R K) := by
  have n0 := h.many0
  intro d
  induction d with
  | zero =>
    intro i n hi hn
    obtain ⟨n, rfl⟩ : ∃ n', n = n' + 1 := ⟨n - 1, by omega⟩
    have : i = (g 0 15).toNat := by omega
    subst this
    have e : lapV V day (lapP g day) (g 0 15).toNat (0, 66, 0) 2 = g 0 15 := by rw [lapV_out (by simp)]; exact h.many
    rw [FChain_lapseNotices_L2]
    simp (disch := omega) only [↓zcs, ↓zcn, ↓Option.bind_some, ↓zb_some, ↓zrz0b, ↓zrz1b, ↓zckb, zrz0, zrz1, ↓reduceIte, ↓xI0b hc, ↓xP0b hc, ↓xI1b hc, ↓xP1b hc, ↓xI66b hc, ↓xP66b hc, ↓xI68b hc, ↓xP68b hc, ↓xI115b hc, ↓xP115b hc, ↓xI120b hc, ↓xP120b hc, ↓xI121b hc, ↓xP121b hc, ↓xI125b hc, ↓xP125b hc, ↓xI127b hc, ↓xP127b hc, ↓xN2b hc, ↓xRo2b hc, ↓xWo2b hc, ↓xN65b hc, ↓xRo65b hc, ↓xWo65b hc, ↓xN113b hc, ↓xRo113b hc, ↓xWo113b hc, ↓xN114b hc, ↓xRo114b hc, ↓xWo114b hc, ↓xN116b hc, ↓xRo116b hc, ↓xWo116b hc, ↓xN117b hc, ↓xRo117b hc, ↓xWo117b hc, ↓xN118b hc, ↓xRo118b hc, ↓xWo118b hc, ↓xN119b hc, ↓xRo119b hc, ↓xWo119b hc, ↓xN122b hc, ↓xRo122b hc, ↓xWo122b hc, ↓xN124b hc, ↓xRo124b hc, ↓xWo124b hc, ↓xN126b hc, ↓xRo126b hc, ↓xWo126b hc, ↓xN128b hc, ↓xRo128b hc, ↓xWo128b hc, ↓xN129b hc, ↓xRo129b hc, ↓xWo129b hc, ↓xN130b hc, ↓xRo130b hc, ↓xWo130b hc, ↓xN131b hc, ↓xRo131b hc, ↓xWo131b hc, ↓xN132b hc, ↓xRo132b hc, ↓xWo132b hc, ↓xN133b hc, ↓xRo133b hc, ↓xWo133b hc, ↓xN67b hc, ↓xAo67b hc, ↓xN123b hc, ↓xAo123b hc, ↓xN3b hc, ↓xAo3b hc, ↓xN34b hc, ↓xAo34b hc, ↓xN69b hc, ↓xAo69b hc, ↓xQ0_0b hc, ↓xQ0_1b hc, ↓xQ0_2b hc, ↓xQ0_3b hc, ↓xQ0_4b hc, ↓xQ0_5b hc, ↓xQ0_6b hc, ↓xQ1_0b hc, ↓xQ1_1b hc, ↓xQ1_2b hc, ↓xQ1_3b hc, ↓xQ66_0b hc, ↓xQ66_1b hc, ↓xQ68_0b hc, ↓xQ68_1b hc, ↓xQ68_2b hc, ↓xQ68_3b hc, ↓xQ115_0b hc, ↓xQ115_1b hc, ↓xQ115_2b hc, ↓xQ115_3b hc, ↓xQ115_4b hc, ↓xQ115_5b hc, ↓xQ115_6b hc, ↓xQ120_0b hc, ↓xQ120_1b hc, ↓xQ120_2b hc, ↓xQ120_3b hc, ↓xQ125_0b hc, ↓xQ125_1b hc, ↓xQ127_0b hc, ↓xQ127_1b hc, ↓xQ127_2b hc, ↓xQ127_3b hc, ↓xQ127_4b hc, ↓xQ127_5b hc, ↓xD0 hc, ↓xD1 hc, ↓xD66 hc, ↓xD68 hc, ↓xD115 hc, ↓xD120 hc, ↓xD121 hc, ↓xD125 hc, ↓xD127 hc, ↓if_neg, e]
  | succ d ih =>
    intro i n hi hn
    obtain ⟨n, rfl⟩ : ∃ n', n = n' + 1 := ⟨n - 1, by omega⟩
    obtain ⟨a, ha⟩ := h.sa (i := i) (by omega)
    have hi1 : ((i : Int) + 1) = ((i + 1 : Nat) : Int) := by omega
    have q := h.num i (by omega)
    have ti : (i : Int).toNat = i := by omega
    have e : lapV V day (lapP g day) i (0, 66, 0) 2 = g 0 15 := by rw [lapV_out (by simp)]; exact h.many
    have eS := eC_shopAt (FU := FU) (N := N) (V := lapV V day (lapP g day) i) (R := R) (K := K) hc e n0 (i : Int)
    have eR := eS_runs (FU := FU) (x := x) (N := N) (V := lapV V day (lapP g day) i) ha
    rw [lapV_at, lapV_at, q.nday, q.nstate] at eR
    have ih1 := ih (i + 1) n (by omega) (by omega)
    have b := q.nday0
    rw [FChain_lapseNotices_L2]
    by_cases c1 : 0 ≤ g 31 i ∧ g 33 i = 0
    · rw [if_neg (by omega), if_pos c1.2] at eR
      by_cases c2 : day ≤ g 32 i
      · have p : lapP g day i = false := by unfold lapP; simp; omega
        rw [lapV_no V day _ p] at ih1
        simp (disch := omega) only [↓zcs, ↓zcn, ↓Option.bind_some, ↓zb_some, ↓zrz0b, ↓zrz1b, ↓zckb, zrz0, zrz1, ↓reduceIte, ↓xI0b hc, ↓xP0b hc, ↓xI1b hc, ↓xP1b hc, ↓xI66b hc, ↓xP66b hc, ↓xI68b hc, ↓xP68b hc, ↓xI115b hc, ↓xP115b hc, ↓xI120b hc, ↓xP120b hc, ↓xI121b hc, ↓xP121b hc, ↓xI125b hc, ↓xP125b hc, ↓xI127b hc, ↓xP127b hc, ↓xN2b hc, ↓xRo2b hc, ↓xWo2b hc, ↓xN65b hc, ↓xRo65b hc, ↓xWo65b hc, ↓xN113b hc, ↓xRo113b hc, ↓xWo113b hc, ↓xN114b hc, ↓xRo114b hc, ↓xWo114b hc, ↓xN116b hc, ↓xRo116b hc, ↓xWo116b hc, ↓xN117b hc, ↓xRo117b hc, ↓xWo117b hc, ↓xN118b hc, ↓xRo118b hc, ↓xWo118b hc, ↓xN119b hc, ↓xRo119b hc, ↓xWo119b hc, ↓xN122b hc, ↓xRo122b hc, ↓xWo122b hc, ↓xN124b hc, ↓xRo124b hc, ↓xWo124b hc, ↓xN126b hc, ↓xRo126b hc, ↓xWo126b hc, ↓xN128b hc, ↓xRo128b hc, ↓xWo128b hc, ↓xN129b hc, ↓xRo129b hc, ↓xWo129b hc, ↓xN130b hc, ↓xRo130b hc, ↓xWo130b hc, ↓xN131b hc, ↓xRo131b hc, ↓xWo131b hc, ↓xN132b hc, ↓xRo132b hc, ↓xWo132b hc, ↓xN133b hc, ↓xRo133b hc, ↓xWo133b hc, ↓xN67b hc, ↓xAo67b hc, ↓xN123b hc, ↓xAo123b hc, ↓xN3b hc, ↓xAo3b hc, ↓xN34b hc, ↓xAo34b hc, ↓xN69b hc, ↓xAo69b hc, ↓xQ0_0b hc, ↓xQ0_1b hc, ↓xQ0_2b hc, ↓xQ0_3b hc, ↓xQ0_4b hc, ↓xQ0_5b hc, ↓xQ0_6b hc, ↓xQ1_0b hc, ↓xQ1_1b hc, ↓xQ1_2b hc, ↓xQ1_3b hc, ↓xQ66_0b hc, ↓xQ66_1b hc, ↓xQ68_0b hc, ↓xQ68_1b hc, ↓xQ68_2b hc, ↓xQ68_3b hc, ↓xQ115_0b hc, ↓xQ115_1b hc, ↓xQ115_2b hc, ↓xQ115_3b hc, ↓xQ115_4b hc, ↓xQ115_5b hc, ↓xQ115_6b hc, ↓xQ120_0b hc, ↓xQ120_1b hc, ↓xQ120_2b hc, ↓xQ120_3b hc, ↓xQ125_0b hc, ↓xQ125_1b hc, ↓xQ127_0b hc, ↓xQ127_1b hc, ↓xQ127_2b hc, ↓xQ127_3b hc, ↓xQ127_4b hc, ↓xQ127_5b hc, ↓xD0 hc, ↓xD1 hc, ↓xD66 hc, ↓xD68 hc, ↓xD115 hc, ↓xD120 hc, ↓xD121 hc, ↓xD125 hc, ↓xD127 hc, ↓if_pos, ↓if_neg, e, ↓bde eS, ti, ha.ref, ↓bde eR, ↓sIb ha, lapV_at, q.nlast, c2, hi1]
        exact ih1
      · have p : lapP g day i = true := by unfold lapP; simp; omega
        have eE := eS_shut (FU := FU) (N := N) (V := lapV V day (lapP g day) i) hc ha 2 day
        have e3 : vEnd (ku (lapV V day (lapP g day) i) (1, i, 0) 5 day) i 2 day = lapV V day (lapP g day) (i + 1) := by
          rw [← lapV_yes V day _ p]
          unfold vEnd
          have w1 : ku (lapV V day (lapP g day) i) (1, i, 0) 5 day (1, i, 0) 11 = g 31 i := by rw [ku_at, if_neg (by decide), lapV_at, q.nday]
          have w2 : ku (lapV V day (lapP g day) i) (1, i, 0) 5 day (1, i, 0) 13 = 0 := by rw [ku_at, if_neg (by decide), lapV_at, q.nstate, c1.2]
          rw [w1, w2, if_neg (by omega), if_pos rfl]
        rw [e3] at eE
        simp (disch := omega) only [↓zcs, ↓zcn, ↓Option.bind_some, ↓zb_some, ↓zrz0b, ↓zrz1b, ↓zckb, zrz0, zrz1, ↓reduceIte, ↓xI0b hc, ↓xP0b hc, ↓xI1b hc, ↓xP1b hc, ↓xI66b hc, ↓xP66b hc, ↓xI68b hc, ↓xP68b hc, ↓xI115b hc, ↓xP115b hc, ↓xI120b hc, ↓xP120b hc, ↓xI121b hc, ↓xP121b hc, ↓xI125b hc, ↓xP125b hc, ↓xI127b hc, ↓xP127b hc, ↓xN2b hc, ↓xRo2b hc, ↓xWo2b hc, ↓xN65b hc, ↓xRo65b hc, ↓xWo65b hc, ↓xN113b hc, ↓xRo113b hc, ↓xWo113b hc, ↓xN114b hc, ↓xRo114b hc, ↓xWo114b hc, ↓xN116b hc, ↓xRo116b hc, ↓xWo116b hc, ↓xN117b hc, ↓xRo117b hc, ↓xWo117b hc, ↓xN118b hc, ↓xRo118b hc, ↓xWo118b hc, ↓xN119b hc, ↓xRo119b hc, ↓xWo119b hc, ↓xN122b hc, ↓xRo122b hc, ↓xWo122b hc, ↓xN124b hc, ↓xRo124b hc, ↓xWo124b hc, ↓xN126b hc, ↓xRo126b hc, ↓xWo126b hc, ↓xN128b hc, ↓xRo128b hc, ↓xWo128b hc, ↓xN129b hc, ↓xRo129b hc, ↓xWo129b hc, ↓xN130b hc, ↓xRo130b hc, ↓xWo130b hc, ↓xN131b hc, ↓xRo131b hc, ↓xWo131b hc, ↓xN132b hc, ↓xRo132b hc, ↓xWo132b hc, ↓xN133b hc, ↓xRo133b hc, ↓xWo133b hc, ↓xN67b hc, ↓xAo67b hc, ↓xN123b hc, ↓xAo123b hc, ↓xN3b hc, ↓xAo3b hc, ↓xN34b hc, ↓xAo34b hc, ↓xN69b hc, ↓xAo69b hc, ↓xQ0_0b hc, ↓xQ0_1b hc, ↓xQ0_2b hc, ↓xQ0_3b hc, ↓xQ0_4b hc, ↓xQ0_5b hc, ↓xQ0_6b hc, ↓xQ1_0b hc, ↓xQ1_1b hc, ↓xQ1_2b hc, ↓xQ1_3b hc, ↓xQ66_0b hc, ↓xQ66_1b hc, ↓xQ68_0b hc, ↓xQ68_1b hc, ↓xQ68_2b hc, ↓xQ68_3b hc, ↓xQ115_0b hc, ↓xQ115_1b hc, ↓xQ115_2b hc, ↓xQ115_3b hc, ↓xQ115_4b hc, ↓xQ115_5b hc, ↓xQ115_6b hc, ↓xQ120_0b hc, ↓xQ120_1b hc, ↓xQ120_2b hc, ↓xQ120_3b hc, ↓xQ125_0b hc, ↓xQ125_1b hc, ↓xQ127_0b hc, ↓xQ127_1b hc, ↓xQ127_2b hc, ↓xQ127_3b hc, ↓xQ127_4b hc, ↓xQ127_5b hc, ↓xD0 hc, ↓xD1 hc, ↓xD66 hc, ↓xD68 hc, ↓xD115 hc, ↓xD120 hc, ↓xD121 hc, ↓xD125 hc, ↓xD127 hc, ↓if_pos, ↓if_neg, e, ↓bde eS, ti, ha.ref, ↓bde eR, ↓sIb ha, lapV_at, q.nlast, c2, hi1, ↓zbe eE]
        exact ih1
    · have p : lapP g day i = false := by unfold lapP; simp; omega
      rw [lapV_no V day _ p] at ih1
      have eR2 : (if g 31 i = -1 then (0 : Int) else if g 33 i = 0 then 1 else 0) = 0 := by
        by_cases w : g 31 i = -1
        · rw [if_pos w]
        · rw [if_neg w, if_neg (fun z => c1 ⟨by omega, z⟩)]
      rw [eR2] at eR
      clear eR2
      simp (disch := omega) only [↓zcs, ↓zcn, ↓Option.bind_some, ↓zb_some, ↓zrz0b, ↓zrz1b, ↓zckb, zrz0, zrz1, ↓reduceIte, ↓xI0b hc, ↓xP0b hc, ↓xI1b hc, ↓xP1b hc, ↓xI66b hc, ↓xP66b hc, ↓xI68b hc, ↓xP68b hc, ↓xI115b hc, ↓xP115b hc, ↓xI120b hc, ↓xP120b hc, ↓xI121b hc, ↓xP121b hc, ↓xI125b hc, ↓xP125b hc, ↓xI127b hc, ↓xP127b hc, ↓xN2b hc, ↓xRo2b hc, ↓xWo2b hc, ↓xN65b hc, ↓xRo65b hc, ↓xWo65b hc, ↓xN113b hc, ↓xRo113b hc, ↓xWo113b hc, ↓xN114b hc, ↓xRo114b hc, ↓xWo114b hc, ↓xN116b hc, ↓xRo116b hc, ↓xWo116b hc, ↓xN117b hc, ↓xRo117b hc, ↓xWo117b hc, ↓xN118b hc, ↓xRo118b hc, ↓xWo118b hc, ↓xN119b hc, ↓xRo119b hc, ↓xWo119b hc, ↓xN122b hc, ↓xRo122b hc, ↓xWo122b hc, ↓xN124b hc, ↓xRo124b hc, ↓xWo124b hc, ↓xN126b hc, ↓xRo126b hc, ↓xWo126b hc, ↓xN128b hc, ↓xRo128b hc, ↓xWo128b hc, ↓xN129b hc, ↓xRo129b hc, ↓xWo129b hc, ↓xN130b hc, ↓xRo130b hc, ↓xWo130b hc, ↓xN131b hc, ↓xRo131b hc, ↓xWo131b hc, ↓xN132b hc, ↓xRo132b hc, ↓xWo132b hc, ↓xN133b hc, ↓xRo133b hc, ↓xWo133b hc, ↓xN67b hc, ↓xAo67b hc, ↓xN123b hc, ↓xAo123b hc, ↓xN3b hc, ↓xAo3b hc, ↓xN34b hc, ↓xAo34b hc, ↓xN69b hc, ↓xAo69b hc, ↓xQ0_0b hc, ↓xQ0_1b hc, ↓xQ0_2b hc, ↓xQ0_3b hc, ↓xQ0_4b hc, ↓xQ0_5b hc, ↓xQ0_6b hc, ↓xQ1_0b hc, ↓xQ1_1b hc, ↓xQ1_2b hc, ↓xQ1_3b hc, ↓xQ66_0b hc, ↓xQ66_1b hc, ↓xQ68_0b hc, ↓xQ68_1b hc, ↓xQ68_2b hc, ↓xQ68_3b hc, ↓xQ115_0b hc, ↓xQ115_1b hc, ↓xQ115_2b hc, ↓xQ115_3b hc, ↓xQ115_4b hc, ↓xQ115_5b hc, ↓xQ115_6b hc, ↓xQ120_0b hc, ↓xQ120_1b hc, ↓xQ120_2b hc, ↓xQ120_3b hc, ↓xQ125_0b hc, ↓xQ125_1b hc, ↓xQ127_0b hc, ↓xQ127_1b hc, ↓xQ127_2b hc, ↓xQ127_3b hc, ↓xQ127_4b hc, ↓xQ127_5b hc, ↓xD0 hc, ↓xD1 hc, ↓xD66 hc, ↓xD68 hc, ↓xD115 hc, ↓xD120 hc, ↓xD121 hc, ↓xD125 hc, ↓xD127 hc, ↓if_pos, ↓if_neg, e, ↓bde eS, ti, ha.ref, ↓bde eR, hi1]
      exact ih1
theorem lapG_num {day : Int} {P : Nat → Bool} {n a i : Nat} (h8 : a ≠ 8) (h34 : a ≠ 34) (h33 : a ≠ 33) : lapG g day P n a i = g a i := by
  unfold lapG
  split
  · rw [if_neg (by omega), if_neg h33]
  · rfl
theorem lapG_at {day : Int} {P : Nat → Bool} (i a : Nat) : lapG g day P i a i = g a i := by
  unfold lapG
  rw [if_neg (fun z => absurd z.1 (Nat.lt_irrefl i))]
theorem mlapse_loop {m : Nat} {kL27 : Nat → Int → Int → Hp → Option (Int × Hp)} (p t : Int) (ht : 0 ≤ t ∧ t ≤ 400) (hFU : 400 ≤ FU) (n0 : 0 ≤ g 0 15 ∧ g 0 15 ≤ 40) (hdue : ∀ s, s < 13320 → 0 ≤ g 28 s ∧ g 28 s ≤ g 26 s ∧ g 26 s ≤ 1000000 ∧ 0 ≤ g 29 s ∧ g 29 s ≤ g 27 s ∧ g 27 s ≤ 1000000) (hcr : ∀ i, i < 40 → 0 ≤ g 30 i ∧ g 30 i ≤ 600000000) (hr : ∀ i, i < (g 0 15).toNat → 0 ≤ g 31 i → g 33 i = 0 → 0 < zsum (fun j => mDue g (333 * i + j)) 333 - g 30 i) : ∀ (d i n : Nat), i + d = (g 0 15).toNat → d < n → FM_days_L44 FU kL27 n m p t (i : Int) (zG m N (lapG g (g 0 0) (lapP g (g 0 0)) i)) = kL27 m p (t + 1) (zG m N (lapG g (g 0 0) (lapP g (g 0 0)) (g 0 15).toNat)) := by
  intro d
  induction d with
  | zero =>
    intro i n hi hn
    obtain ⟨n, rfl⟩ : ∃ n', n = n' + 1 := ⟨n - 1, by omega⟩
    have : i = (g 0 15).toNat := by omega
    subst this
    have e : lapG g (g 0 0) (lapP g (g 0 0)) (g 0 15).toNat 0 15 = g 0 15 := lapG_num (by decide) (by decide) (by decide)
    rw [FM_days_L44]
    simp (disch := omega) only [↓zcs, ↓zcn, ↓mD, ↓Option.bind_some, ↓zb_some, ↓zrz0b, ↓zrz1b, ↓zckb, zrz0, zrz1, ↓reduceIte, ↓mIb, ↓mPb, ↓zck_ofb, ↓mPob, ↓mQ1b, ↓mRo1b, ↓mWo1b, ↓mQ3b, ↓mRo2b, ↓mWo2b, ↓mQ4b, ↓mRo3b, ↓mWo3b, ↓mQ8b, ↓mRo4b, ↓mWo4b, ↓mQ9b, ↓mRo5b, ↓mWo5b, ↓mQ10b, ↓mRo6b, ↓mWo6b, ↓mQ11b, ↓mRo7b, ↓mWo7b, ↓mQ12b, ↓mRo8b, ↓mWo8b, ↓mQ13b, ↓mRo9b, ↓mWo9b, ↓mQ14b, ↓mRo10b, ↓mWo10b, ↓mQ17b, ↓mRo11b, ↓mWo11b, ↓mQ19b, ↓mRo12b, ↓mWo12b, ↓mQ20b, ↓mRo13b, ↓mWo13b, ↓mQ23b, ↓mRo14b, ↓mWo14b, ↓mQ24b, ↓mRo15b, ↓mWo15b, ↓mQ26b, ↓mRo16b, ↓mWo16b, ↓mQ27b, ↓mRo17b, ↓mWo17b, ↓mQ28b, ↓mRo18b, ↓mWo18b, ↓mQ29b, ↓mRo19b, ↓mWo19b, ↓mQ30b, ↓mRo20b, ↓mWo20b, ↓mQ32b, ↓mRo21b, ↓mWo21b, ↓mQ33b, ↓mRo22b, ↓mWo22b, ↓mQ34b, ↓mRo23b, ↓mWo23b, ↓mQ35b, ↓mRo24b, ↓mWo24b, ↓mQ36b, ↓mRo25b, ↓mWo25b, ↓mQ37b, ↓mRo26b, ↓mWo26b, ↓mQ38b, ↓mRo27b, ↓mWo27b, ↓mQ39b, ↓mRo28b, ↓mWo28b, ↓mQ40b, ↓mRo29b, ↓mWo29b, ↓mQ41b, ↓mRo30b, ↓mWo30b, ↓mQ43b, ↓mRo31b, ↓mWo31b, ↓mQ44b, ↓mRo32b, ↓mWo32b, ↓mQ45b, ↓mRo33b, ↓mWo33b, ↓mQ46b, ↓mRo34b, ↓mWo34b, ↓mQ47b, ↓mRo35b, ↓mWo35b, ↓mQ48b, ↓mRo36b, ↓mWo36b, ↓mQ50b, ↓mRo37b, ↓mWo37b, ↓mQ51b, ↓mRo38b, ↓mWo38b, ↓mQ52b, ↓mRo39b, ↓mWo39b, ↓if_neg, e]
  | succ d ih =>
    intro i n hi hn
    obtain ⟨n, rfl⟩ : ∃ n', n = n' + 1 := ⟨n - 1, by omega⟩
    have hi1 : ((i : Int) + 1) = ((i + 1 : Nat) : Int) := by omega
    have ti : (i : Int).toNat = i := by omega
    have e : lapG g (g 0 0) (lapP g (g 0 0)) i 0 15 = g 0 15 := lapG_num (by decide) (by decide) (by decide)
    have e0 : lapG g (g 0 0) (lapP g (g 0 0)) i 0 0 = g 0 0 := lapG_num (by decide) (by decide) (by decide)
    have e32 : lapG g (g 0 0) (lapP g (g 0 0)) i 32 i = g 32 i := lapG_at i 32
    have eR := eM_runs (FU := FU) (m := m) (N := N) (g := lapG g (g 0 0) (lapP g (g 0 0)) i) (i := (i : Int)) (by omega)
    rw [ti, lapG_at, lapG_at] at eR
    have ih1 := ih (i + 1) n (by omega) (by omega)
    rw [FM_days_L44]
    by_cases c1 : 0 ≤ g 31 i ∧ g 33 i = 0
    · rw [if_neg (by omega), if_pos c1.2] at eR
      by_cases c2 : g 0 0 ≤ g 32 i
      · have p' : lapP g (g 0 0) i = false := by unfold lapP; simp; omega
        rw [lapG_no g _ _ p'] at ih1
        simp (disch := omega) only [↓zcs, ↓zcn, ↓mD, ↓Option.bind_some, ↓zb_some, ↓zrz0b, ↓zrz1b, ↓zckb, zrz0, zrz1, ↓reduceIte, ↓mIb, ↓mPb, ↓zck_ofb, ↓mPob, ↓mQ1b, ↓mRo1b, ↓mWo1b, ↓mQ3b, ↓mRo2b, ↓mWo2b, ↓mQ4b, ↓mRo3b, ↓mWo3b, ↓mQ8b, ↓mRo4b, ↓mWo4b, ↓mQ9b, ↓mRo5b, ↓mWo5b, ↓mQ10b, ↓mRo6b, ↓mWo6b, ↓mQ11b, ↓mRo7b, ↓mWo7b, ↓mQ12b, ↓mRo8b, ↓mWo8b, ↓mQ13b, ↓mRo9b, ↓mWo9b, ↓mQ14b, ↓mRo10b, ↓mWo10b, ↓mQ17b, ↓mRo11b, ↓mWo11b, ↓mQ19b, ↓mRo12b, ↓mWo12b, ↓mQ20b, ↓mRo13b, ↓mWo13b, ↓mQ23b, ↓mRo14b, ↓mWo14b, ↓mQ24b, ↓mRo15b, ↓mWo15b, ↓mQ26b, ↓mRo16b, ↓mWo16b, ↓mQ27b, ↓mRo17b, ↓mWo17b, ↓mQ28b, ↓mRo18b, ↓mWo18b, ↓mQ29b, ↓mRo19b, ↓mWo19b, ↓mQ30b, ↓mRo20b, ↓mWo20b, ↓mQ32b, ↓mRo21b, ↓mWo21b, ↓mQ33b, ↓mRo22b, ↓mWo22b, ↓mQ34b, ↓mRo23b, ↓mWo23b, ↓mQ35b, ↓mRo24b, ↓mWo24b, ↓mQ36b, ↓mRo25b, ↓mWo25b, ↓mQ37b, ↓mRo26b, ↓mWo26b, ↓mQ38b, ↓mRo27b, ↓mWo27b, ↓mQ39b, ↓mRo28b, ↓mWo28b, ↓mQ40b, ↓mRo29b, ↓mWo29b, ↓mQ41b, ↓mRo30b, ↓mWo30b, ↓mQ43b, ↓mRo31b, ↓mWo31b, ↓mQ44b, ↓mRo32b, ↓mWo32b, ↓mQ45b, ↓mRo33b, ↓mWo33b, ↓mQ46b, ↓mRo34b, ↓mWo34b, ↓mQ47b, ↓mRo35b, ↓mWo35b, ↓mQ48b, ↓mRo36b, ↓mWo36b, ↓mQ50b, ↓mRo37b, ↓mWo37b, ↓mQ51b, ↓mRo38b, ↓mWo38b, ↓mQ52b, ↓mRo39b, ↓mWo39b, ↓if_pos, ↓if_neg, e, e0, ti, ↓bde eR, e32, c2, hi1]
        exact ih1
      · have p' : lapP g (g 0 0) i = true := by unfold lapP; simp; omega
        have rr : ∀ a s, a ≠ 8 → a ≠ 34 → a ≠ 33 → lapG g (g 0 0) (lapP g (g 0 0)) i a s = g a s := fun a s h1 h2 h3 => lapG_num h1 h2 h3
        have hO := eM_owed (FU := FU) (m := m) (N := N) (g := lapG g (g 0 0) (lapP g (g 0 0)) i) hFU (fun s hs => by
          rw [rr 28 s (by decide) (by decide) (by decide), rr 26 s (by decide) (by decide) (by decide), rr 29 s (by decide) (by decide) (by decide), rr 27 s (by decide) (by decide) (by decide)]
          exact hdue s hs) (i := i) (by omega) (by rw [rr 30 i (by decide) (by decide) (by decide)]; exact hcr i (by omega))
        have hz : zsum (fun j => mDue (lapG g (g 0 0) (lapP g (g 0 0)) i) (333 * i + j)) 333 = zsum (fun j => mDue g (333 * i + j)) 333 := zsum_eq (fun j _ => by
          unfold mDue
          rw [rr 28 _ (by decide) (by decide) (by decide), rr 26 _ (by decide) (by decide) (by decide), rr 29 _ (by decide) (by decide) (by decide), rr 27 _ (by decide) (by decide) (by decide)])
        rw [hz, rr 30 i (by decide) (by decide) (by decide)] at hO
        have hr1 := hr i (by omega) c1.1 c1.2
        have eE := eM_end (FU := FU) (m := m) (N := N) (g := lapG g (g 0 0) (lapP g (g 0 0)) i) (i := (i : Int)) (by omega) 2
        rw [ti, e0] at eE
        have e5 : gu (gu (lapG g (g 0 0) (lapP g (g 0 0)) i) 33 i 2) 34 i (g 0 0) 0 0 = g 0 0 := by rw [gu_row (by decide), gu_row (by decide)]; exact e0
        rw [← lapG_yes g _ _ p'] at ih1
        simp (disch := omega) only [↓zcs, ↓zcn, ↓mD, ↓Option.bind_some, ↓zb_some, ↓zrz0b, ↓zrz1b, ↓zckb, zrz0, zrz1, ↓reduceIte, ↓mIb, ↓mPb, ↓zck_ofb, ↓mPob, ↓mQ1b, ↓mRo1b, ↓mWo1b, ↓mQ3b, ↓mRo2b, ↓mWo2b, ↓mQ4b, ↓mRo3b, ↓mWo3b, ↓mQ8b, ↓mRo4b, ↓mWo4b, ↓mQ9b, ↓mRo5b, ↓mWo5b, ↓mQ10b, ↓mRo6b, ↓mWo6b, ↓mQ11b, ↓mRo7b, ↓mWo7b, ↓mQ12b, ↓mRo8b, ↓mWo8b, ↓mQ13b, ↓mRo9b, ↓mWo9b, ↓mQ14b, ↓mRo10b, ↓mWo10b, ↓mQ17b, ↓mRo11b, ↓mWo11b, ↓mQ19b, ↓mRo12b, ↓mWo12b, ↓mQ20b, ↓mRo13b, ↓mWo13b, ↓mQ23b, ↓mRo14b, ↓mWo14b, ↓mQ24b, ↓mRo15b, ↓mWo15b, ↓mQ26b, ↓mRo16b, ↓mWo16b, ↓mQ27b, ↓mRo17b, ↓mWo17b, ↓mQ28b, ↓mRo18b, ↓mWo18b, ↓mQ29b, ↓mRo19b, ↓mWo19b, ↓mQ30b, ↓mRo20b, ↓mWo20b, ↓mQ32b, ↓mRo21b, ↓mWo21b, ↓mQ33b, ↓mRo22b, ↓mWo22b, ↓mQ34b, ↓mRo23b, ↓mWo23b, ↓mQ35b, ↓mRo24b, ↓mWo24b, ↓mQ36b, ↓mRo25b, ↓mWo25b, ↓mQ37b, ↓mRo26b, ↓mWo26b, ↓mQ38b, ↓mRo27b, ↓mWo27b, ↓mQ39b, ↓mRo28b, ↓mWo28b, ↓mQ40b, ↓mRo29b, ↓mWo29b, ↓mQ41b, ↓mRo30b, ↓mWo30b, ↓mQ43b, ↓mRo31b, ↓mWo31b, ↓mQ44b, ↓mRo32b, ↓mWo32b, ↓mQ45b, ↓mRo33b, ↓mWo33b, ↓mQ46b, ↓mRo34b, ↓mWo34b, ↓mQ47b, ↓mRo35b, ↓mWo35b, ↓mQ48b, ↓mRo36b, ↓mWo36b, ↓mQ50b, ↓mRo37b, ↓mWo37b, ↓mQ51b, ↓mRo38b, ↓mWo38b, ↓mQ52b, ↓mRo39b, ↓mWo39b, ↓if_pos, ↓if_neg, e, e0, ti, ↓bde eR, e32, c2, hi1, ↓bde hO, ↓zbe eE, e5]
        exact ih1
    · have p' : lapP g (g 0 0) i = false := by unfold lapP; simp; omega
      rw [lapG_no g _ _ p'] at ih1
      have eR2 : (if g 31 i < 0 then (0 : Int) else if g 33 i = 0 then 1 else 0) = 0 := by
        by_cases w : g 31 i < 0
        · rw [if_pos w]
        · rw [if_neg w, if_neg (fun z => c1 ⟨by omega, z⟩)]
      rw [eR2] at eR
      clear eR2
      simp (disch := omega) only [↓zcs, ↓zcn, ↓mD, ↓Option.bind_some, ↓zb_some, ↓zrz0b, ↓zrz1b, ↓zckb, zrz0, zrz1, ↓reduceIte, ↓mIb, ↓mPb, ↓zck_ofb, ↓mPob, ↓mQ1b, ↓mRo1b, ↓mWo1b, ↓mQ3b, ↓mRo2b, ↓mWo2b, ↓mQ4b, ↓mRo3b, ↓mWo3b, ↓mQ8b, ↓mRo4b, ↓mWo4b, ↓mQ9b, ↓mRo5b, ↓mWo5b, ↓mQ10b, ↓mRo6b, ↓mWo6b, ↓mQ11b, ↓mRo7b, ↓mWo7b, ↓mQ12b, ↓mRo8b, ↓mWo8b, ↓mQ13b, ↓mRo9b, ↓mWo9b, ↓mQ14b, ↓mRo10b, ↓mWo10b, ↓mQ17b, ↓mRo11b, ↓mWo11b, ↓mQ19b, ↓mRo12b, ↓mWo12b, ↓mQ20b, ↓mRo13b, ↓mWo13b, ↓mQ23b, ↓mRo14b, ↓mWo14b, ↓mQ24b, ↓mRo15b, ↓mWo15b, ↓mQ26b, ↓mRo16b, ↓mWo16b, ↓mQ27b, ↓mRo17b, ↓mWo17b, ↓mQ28b, ↓mRo18b, ↓mWo18b, ↓mQ29b, ↓mRo19b, ↓mWo19b, ↓mQ30b, ↓mRo20b, ↓mWo20b, ↓mQ32b, ↓mRo21b, ↓mWo21b, ↓mQ33b, ↓mRo22b, ↓mWo22b, ↓mQ34b, ↓mRo23b, ↓mWo23b, ↓mQ35b, ↓mRo24b, ↓mWo24b, ↓mQ36b, ↓mRo25b, ↓mWo25b, ↓mQ37b, ↓mRo26b, ↓mWo26b, ↓mQ38b, ↓mRo27b, ↓mWo27b, ↓mQ39b, ↓mRo28b, ↓mWo28b, ↓mQ40b, ↓mRo29b, ↓mWo29b, ↓mQ41b, ↓mRo30b, ↓mWo30b, ↓mQ43b, ↓mRo31b, ↓mWo31b, ↓mQ44b, ↓mRo32b, ↓mWo32b, ↓mQ45b, ↓mRo33b, ↓mWo33b, ↓mQ46b, ↓mRo34b, ↓mWo34b, ↓mQ47b, ↓mRo35b, ↓mWo35b, ↓mQ48b, ↓mRo36b, ↓mWo36b, ↓mQ50b, ↓mRo37b, ↓mWo37b, ↓mQ51b, ↓mRo38b, ↓mWo38b, ↓mQ52b, ↓mRo39b, ↓mWo39b, ↓if_pos, ↓if_neg, e, ti, ↓bde eR, hi1]
      exact ih1
end DY
