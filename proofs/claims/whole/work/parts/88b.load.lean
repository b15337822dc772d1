/-! ===== the list of loads ===== -/
section LD
variable {k x N FU : Nat} {c : Nat → Key} {V : Key → Nat → Int} {R : Key → Nat → Option Nat} {K : Key → Option (Nat × Nat)} {g W : Nat → Nat → Int}
theorem atF (hc : CX x c) {o n : Nat} (ho : o ≤ 133) (hk : zk (zX x c N V R K) (x + o) = some (20, n)) {j : Nat} (hj : j < n) : FB_at FU (x + o) (j : Int) (zX x c N V R K) = some (V (0, o, 0) j) := by
  have := eB_at (FU := FU) (hc.2 o ho) hk (i := (j : Int)) (by omega)
  rw [show (j : Int).toNat = j by omega] at this
  exact this
theorem putF (hc : CX x c) {o n : Nat} (ho : o ≤ 133) (hk : zk (zX x c N V R K) (x + o) = some (20, n)) {j : Nat} (hj : j < n) (v : Int) : FB_put FU (x + o) (j : Int) v (zX x c N V R K) = some ((), zX x c N (ku V (0, o, 0) j v) R K) := by
  have := eB_put (FU := FU) hc (hc.2 o ho) hk (i := (j : Int)) (v := v) (by omega)
  rw [show (j : Int).toNat = j by omega] at this
  exact this
theorem listed_loop (hc : CX x c) (h : IP V g) {p : Nat} (hp : p < 40) : ∀ (d t n : Nat), t + d = (g 0 49).toNat → d < n → (∀ s, s < t → V (0, 128, 0) s ≠ (p : Int)) → FPacker_isListed_L2 FU n (x + 127) (p : Int) (t : Int) (zX x c N V R K) = some (if 0 < g 36 p then 1 else 0) := by
  have n0 := h.many0
  intro d
  induction d with
  | zero =>
    intro t n ht hn hs
    obtain ⟨n, rfl⟩ : ∃ n', n = n' + 1 := ⟨n - 1, by omega⟩
    have : t = (g 0 49).toNat := by omega
    subst this
    rw [FPacker_isListed_L2]
    simp (disch := omega) only [↓zcs, ↓zcn, ↓Option.bind_some, ↓zb_some, ↓zrz0b, ↓zrz1b, ↓zckb, zrz0, zrz1, ↓reduceIte, ↓xI0b hc, ↓xP0b hc, ↓xI1b hc, ↓xP1b hc, ↓xI66b hc, ↓xP66b hc, ↓xI68b hc, ↓xP68b hc, ↓xI115b hc, ↓xP115b hc, ↓xI120b hc, ↓xP120b hc, ↓xI121b hc, ↓xP121b hc, ↓xI125b hc, ↓xP125b hc, ↓xI127b hc, ↓xP127b hc, ↓xN2b hc, ↓xRo2b hc, ↓xWo2b hc, ↓xN65b hc, ↓xRo65b hc, ↓xWo65b hc, ↓xN113b hc, ↓xRo113b hc, ↓xWo113b hc, ↓xN114b hc, ↓xRo114b hc, ↓xWo114b hc, ↓xN116b hc, ↓xRo116b hc, ↓xWo116b hc, ↓xN117b hc, ↓xRo117b hc, ↓xWo117b hc, ↓xN118b hc, ↓xRo118b hc, ↓xWo118b hc, ↓xN119b hc, ↓xRo119b hc, ↓xWo119b hc, ↓xN122b hc, ↓xRo122b hc, ↓xWo122b hc, ↓xN124b hc, ↓xRo124b hc, ↓xWo124b hc, ↓xN126b hc, ↓xRo126b hc, ↓xWo126b hc, ↓xN128b hc, ↓xRo128b hc, ↓xWo128b hc, ↓xN129b hc, ↓xRo129b hc, ↓xWo129b hc, ↓xN130b hc, ↓xRo130b hc, ↓xWo130b hc, ↓xN131b hc, ↓xRo131b hc, ↓xWo131b hc, ↓xN132b hc, ↓xRo132b hc, ↓xWo132b hc, ↓xN133b hc, ↓xRo133b hc, ↓xWo133b hc, ↓xN67b hc, ↓xAo67b hc, ↓xN123b hc, ↓xAo123b hc, ↓xN3b hc, ↓xAo3b hc, ↓xN34b hc, ↓xAo34b hc, ↓xN69b hc, ↓xAo69b hc, ↓xQ0_0b hc, ↓xQ0_1b hc, ↓xQ0_2b hc, ↓xQ0_3b hc, ↓xQ0_4b hc, ↓xQ0_5b hc, ↓xQ0_6b hc, ↓xQ1_0b hc, ↓xQ1_1b hc, ↓xQ1_2b hc, ↓xQ1_3b hc, ↓xQ66_0b hc, ↓xQ66_1b hc, ↓xQ68_0b hc, ↓xQ68_1b hc, ↓xQ68_2b hc, ↓xQ68_3b hc, ↓xQ115_0b hc, ↓xQ115_1b hc, ↓xQ115_2b hc, ↓xQ115_3b hc, ↓xQ115_4b hc, ↓xQ115_5b hc, ↓xQ115_6b hc, ↓xQ120_0b hc, ↓xQ120_1b hc, ↓xQ120_2b hc, ↓xQ120_3b hc, ↓xQ125_0b hc, ↓xQ125_1b hc, ↓xQ127_0b hc, ↓xQ127_1b hc, ↓xQ127_2b hc, ↓xQ127_3b hc, ↓xQ127_4b hc, ↓xQ127_5b hc, ↓xD0 hc, ↓xD1 hc, ↓xD66 hc, ↓xD68 hc, ↓xD115 hc, ↓xD120 hc, ↓xD121 hc, ↓xD125 hc, ↓xD127 hc, ↓if_neg, h.many, h.rest p hp hs]
  | succ d ih =>
    intro t n ht hn hs
    obtain ⟨n, rfl⟩ : ∃ n', n = n' + 1 := ⟨n - 1, by omega⟩
    have t1 : ((t : Int) + 1) = ((t + 1 : Nat) : Int) := by omega
    have e := atF (FU := FU) (N := N) (V := V) (R := R) (K := K) hc (o := 128) (by omega) (xK128 hc) (j := t) (by omega)
    rw [FPacker_isListed_L2]
    by_cases c1 : V (0, 128, 0) t = (p : Int)
    · have l := h.load t (by omega)
      rw [c1, show (p : Int).toNat = p by omega] at l
      simp (disch := omega) only [↓zcs, ↓zcn, ↓Option.bind_some, ↓zb_some, ↓zrz0b, ↓zrz1b, ↓zckb, zrz0, zrz1, ↓reduceIte, ↓xI0b hc, ↓xP0b hc, ↓xI1b hc, ↓xP1b hc, ↓xI66b hc, ↓xP66b hc, ↓xI68b hc, ↓xP68b hc, ↓xI115b hc, ↓xP115b hc, ↓xI120b hc, ↓xP120b hc, ↓xI121b hc, ↓xP121b hc, ↓xI125b hc, ↓xP125b hc, ↓xI127b hc, ↓xP127b hc, ↓xN2b hc, ↓xRo2b hc, ↓xWo2b hc, ↓xN65b hc, ↓xRo65b hc, ↓xWo65b hc, ↓xN113b hc, ↓xRo113b hc, ↓xWo113b hc, ↓xN114b hc, ↓xRo114b hc, ↓xWo114b hc, ↓xN116b hc, ↓xRo116b hc, ↓xWo116b hc, ↓xN117b hc, ↓xRo117b hc, ↓xWo117b hc, ↓xN118b hc, ↓xRo118b hc, ↓xWo118b hc, ↓xN119b hc, ↓xRo119b hc, ↓xWo119b hc, ↓xN122b hc, ↓xRo122b hc, ↓xWo122b hc, ↓xN124b hc, ↓xRo124b hc, ↓xWo124b hc, ↓xN126b hc, ↓xRo126b hc, ↓xWo126b hc, ↓xN128b hc, ↓xRo128b hc, ↓xWo128b hc, ↓xN129b hc, ↓xRo129b hc, ↓xWo129b hc, ↓xN130b hc, ↓xRo130b hc, ↓xWo130b hc, ↓xN131b hc, ↓xRo131b hc, ↓xWo131b hc, ↓xN132b hc, ↓xRo132b hc, ↓xWo132b hc, ↓xN133b hc, ↓xRo133b hc, ↓xWo133b hc, ↓xN67b hc, ↓xAo67b hc, ↓xN123b hc, ↓xAo123b hc, ↓xN3b hc, ↓xAo3b hc, ↓xN34b hc, ↓xAo34b hc, ↓xN69b hc, ↓xAo69b hc, ↓xQ0_0b hc, ↓xQ0_1b hc, ↓xQ0_2b hc, ↓xQ0_3b hc, ↓xQ0_4b hc, ↓xQ0_5b hc, ↓xQ0_6b hc, ↓xQ1_0b hc, ↓xQ1_1b hc, ↓xQ1_2b hc, ↓xQ1_3b hc, ↓xQ66_0b hc, ↓xQ66_1b hc, ↓xQ68_0b hc, ↓xQ68_1b hc, ↓xQ68_2b hc, ↓xQ68_3b hc, ↓xQ115_0b hc, ↓xQ115_1b hc, ↓xQ115_2b hc, ↓xQ115_3b hc, ↓xQ115_4b hc, ↓xQ115_5b hc, ↓xQ115_6b hc, ↓xQ120_0b hc, ↓xQ120_1b hc, ↓xQ120_2b hc, ↓xQ120_3b hc, ↓xQ125_0b hc, ↓xQ125_1b hc, ↓xQ127_0b hc, ↓xQ127_1b hc, ↓xQ127_2b hc, ↓xQ127_3b hc, ↓xQ127_4b hc, ↓xQ127_5b hc, ↓xD0 hc, ↓xD1 hc, ↓xD66 hc, ↓xD68 hc, ↓xD115 hc, ↓xD120 hc, ↓xD121 hc, ↓xD125 hc, ↓xD127 hc, ↓if_neg, ↓if_pos, h.many, ↓bde e, c1]
    · have ih1 := ih (t + 1) n (by omega) (by omega) (fun s hs2 => by
        by_cases z : s = t
        · rw [z]; exact c1
        · exact hs s (by omega))
      rw [← ih1]
      simp (disch := omega) only [↓zcs, ↓zcn, ↓Option.bind_some, ↓zb_some, ↓zrz0b, ↓zrz1b, ↓zckb, zrz0, zrz1, ↓reduceIte, ↓xI0b hc, ↓xP0b hc, ↓xI1b hc, ↓xP1b hc, ↓xI66b hc, ↓xP66b hc, ↓xI68b hc, ↓xP68b hc, ↓xI115b hc, ↓xP115b hc, ↓xI120b hc, ↓xP120b hc, ↓xI121b hc, ↓xP121b hc, ↓xI125b hc, ↓xP125b hc, ↓xI127b hc, ↓xP127b hc, ↓xN2b hc, ↓xRo2b hc, ↓xWo2b hc, ↓xN65b hc, ↓xRo65b hc, ↓xWo65b hc, ↓xN113b hc, ↓xRo113b hc, ↓xWo113b hc, ↓xN114b hc, ↓xRo114b hc, ↓xWo114b hc, ↓xN116b hc, ↓xRo116b hc, ↓xWo116b hc, ↓xN117b hc, ↓xRo117b hc, ↓xWo117b hc, ↓xN118b hc, ↓xRo118b hc, ↓xWo118b hc, ↓xN119b hc, ↓xRo119b hc, ↓xWo119b hc, ↓xN122b hc, ↓xRo122b hc, ↓xWo122b hc, ↓xN124b hc, ↓xRo124b hc, ↓xWo124b hc, ↓xN126b hc, ↓xRo126b hc, ↓xWo126b hc, ↓xN128b hc, ↓xRo128b hc, ↓xWo128b hc, ↓xN129b hc, ↓xRo129b hc, ↓xWo129b hc, ↓xN130b hc, ↓xRo130b hc, ↓xWo130b hc, ↓xN131b hc, ↓xRo131b hc, ↓xWo131b hc, ↓xN132b hc, ↓xRo132b hc, ↓xWo132b hc, ↓xN133b hc, ↓xRo133b hc, ↓xWo133b hc, ↓xN67b hc, ↓xAo67b hc, ↓xN123b hc, ↓xAo123b hc, ↓xN3b hc, ↓xAo3b hc, ↓xN34b hc, ↓xAo34b hc, ↓xN69b hc, ↓xAo69b hc, ↓xQ0_0b hc, ↓xQ0_1b hc, ↓xQ0_2b hc, ↓xQ0_3b hc, ↓xQ0_4b hc, ↓xQ0_5b hc, ↓xQ0_6b hc, ↓xQ1_0b hc, ↓xQ1_1b hc, ↓xQ1_2b hc, ↓xQ1_3b hc, ↓xQ66_0b hc, ↓xQ66_1b hc, ↓xQ68_0b hc, ↓xQ68_1b hc, ↓xQ68_2b hc, ↓xQ68_3b hc, ↓xQ115_0b hc, ↓xQ115_1b hc, ↓xQ115_2b hc, ↓xQ115_3b hc, ↓xQ115_4b hc, ↓xQ115_5b hc, ↓xQ115_6b hc, ↓xQ120_0b hc, ↓xQ120_1b hc, ↓xQ120_2b hc, ↓xQ120_3b hc, ↓xQ125_0b hc, ↓xQ125_1b hc, ↓xQ127_0b hc, ↓xQ127_1b hc, ↓xQ127_2b hc, ↓xQ127_3b hc, ↓xQ127_4b hc, ↓xQ127_5b hc, ↓xD0 hc, ↓xD1 hc, ↓xD66 hc, ↓xD68 hc, ↓xD115 hc, ↓xD120 hc, ↓xD121 hc, ↓xD125 hc, ↓xD127 hc, ↓if_pos, h.many, ↓bde e, c1, t1]
theorem add_loop (hc : CX x c) {L p : Nat} {w : Int} (hL : L < 10) (V0 : Key → Nat → Int) (hr : ∀ s t, s < t → t < L → V0 (0, 128, 0) s < V0 (0, 128, 0) t) : ∀ (s n : Nat) (V : Key → Nat → Int), s ≤ L → s < n → V (0, 127, 0) 6 = (L : Int) → (∀ key, key ≠ (0, 128, 0) → key ≠ (0, 129, 0) → V key = V0 key) → (∀ j, V (0, 128, 0) j = if s < j ∧ j ≤ L then V0 (0, 128, 0) (j - 1) else V0 (0, 128, 0) j) → (∀ j, V (0, 129, 0) j = if s < j ∧ j ≤ L then V0 (0, 129, 0) (j - 1) else V0 (0, 129, 0) j) → (∀ t, s ≤ t → t < L → (p : Int) < V0 (0, 128, 0) t) → ∃ s' V', FPacker_addLoad_L17 FU n (x + 127) (p : Int) w (s : Int) (zX x c N V R K) = some ((L : Int) + 1, zX x c N V' R K) ∧ s' ≤ L ∧ (∀ key, key ≠ (0, 128, 0) → key ≠ (0, 129, 0) → key ≠ (0, 127, 0) → V' key = V0 key) ∧ (∀ j, V' (0, 127, 0) j = if j = 6 then (L : Int) + 1 else V0 (0, 127, 0) j) ∧ (∀ j, V' (0, 128, 0) j = if j = s' then (p : Int) else if s' < j ∧ j ≤ L then V0 (0, 128, 0) (j - 1) else V0 (0, 128, 0) j) ∧ (∀ j, V' (0, 129, 0) j = if j = s' then w else if s' < j ∧ j ≤ L then V0 (0, 129, 0) (j - 1) else V0 (0, 129, 0) j) ∧ (∀ t, s' ≤ t → t < L → (p : Int) < V0 (0, 128, 0) t) ∧ ∀ t, t < s' → V0 (0, 128, 0) t ≤ (p : Int) := by
  have fin : ∀ (s : Nat) (V : Key → Nat → Int), s ≤ L → V (0, 127, 0) 6 = (L : Int) → (∀ key, key ≠ (0, 128, 0) → key ≠ (0, 129, 0) → V key = V0 key) → (∀ j, V (0, 128, 0) j = if s < j ∧ j ≤ L then V0 (0, 128, 0) (j - 1) else V0 (0, 128, 0) j) → (∀ j, V (0, 129, 0) j = if s < j ∧ j ≤ L then V0 (0, 129, 0) (j - 1) else V0 (0, 129, 0) j) → (∀ t, s ≤ t → t < L → (p : Int) < V0 (0, 128, 0) t) → (∀ t, t < s → V0 (0, 128, 0) t ≤ (p : Int)) → ∃ s' V', FPacker_addLoad_B77 FU (x + 127) (p : Int) w (s : Int) (zX x c N V R K) = some ((L : Int) + 1, zX x c N V' R K) ∧ s' ≤ L ∧ (∀ key, key ≠ (0, 128, 0) → key ≠ (0, 129, 0) → key ≠ (0, 127, 0) → V' key = V0 key) ∧ (∀ j, V' (0, 127, 0) j = if j = 6 then (L : Int) + 1 else V0 (0, 127, 0) j) ∧ (∀ j, V' (0, 128, 0) j = if j = s' then (p : Int) else if s' < j ∧ j ≤ L then V0 (0, 128, 0) (j - 1) else V0 (0, 128, 0) j) ∧ (∀ j, V' (0, 129, 0) j = if j = s' then w else if s' < j ∧ j ≤ L then V0 (0, 129, 0) (j - 1) else V0 (0, 129, 0) j) ∧ (∀ t, s' ≤ t → t < L → (p : Int) < V0 (0, 128, 0) t) ∧ ∀ t, t < s' → V0 (0, 128, 0) t ≤ (p : Int) := by
    intro s V hs h6 hk h8 h9 hgt hle
    have e1 := putF (FU := FU) (N := N) (V := V) (R := R) (K := K) hc (o := 128) (by omega) (xK128 hc) (j := s) (by omega) (p : Int)
    have e2 := putF (FU := FU) (N := N) (V := ku V (0, 128, 0) s (p : Int)) (R := R) (K := K) hc (o := 129) (by omega) (xK129 hc) (j := s) (by omega) w
    refine ⟨s, ku (ku (ku V (0, 128, 0) s (p : Int)) (0, 129, 0) s w) (0, 127, 0) 6 ((L : Int) + 1), ?_, hs, fun key k1 k2 k3 => ?_, fun j => ?_, fun j => ?_, fun j => ?_, hgt, hle⟩
    · have z : ku (ku V (0, 128, 0) s (p : Int)) (0, 129, 0) s w (0, 127, 0) 6 = (L : Int) := by rw [ku_row (by simp), ku_row (by simp)]; exact h6
      unfold FPacker_addLoad_B77
      simp (disch := omega) only [↓zcs, ↓zcn, ↓Option.bind_some, ↓zb_some, ↓zrz0b, ↓zrz1b, ↓zckb, zrz0, zrz1, ↓reduceIte, ↓xI0b hc, ↓xP0b hc, ↓xI1b hc, ↓xP1b hc, ↓xI66b hc, ↓xP66b hc, ↓xI68b hc, ↓xP68b hc, ↓xI115b hc, ↓xP115b hc, ↓xI120b hc, ↓xP120b hc, ↓xI121b hc, ↓xP121b hc, ↓xI125b hc, ↓xP125b hc, ↓xI127b hc, ↓xP127b hc, ↓xN2b hc, ↓xRo2b hc, ↓xWo2b hc, ↓xN65b hc, ↓xRo65b hc, ↓xWo65b hc, ↓xN113b hc, ↓xRo113b hc, ↓xWo113b hc, ↓xN114b hc, ↓xRo114b hc, ↓xWo114b hc, ↓xN116b hc, ↓xRo116b hc, ↓xWo116b hc, ↓xN117b hc, ↓xRo117b hc, ↓xWo117b hc, ↓xN118b hc, ↓xRo118b hc, ↓xWo118b hc, ↓xN119b hc, ↓xRo119b hc, ↓xWo119b hc, ↓xN122b hc, ↓xRo122b hc, ↓xWo122b hc, ↓xN124b hc, ↓xRo124b hc, ↓xWo124b hc, ↓xN126b hc, ↓xRo126b hc, ↓xWo126b hc, ↓xN128b hc, ↓xRo128b hc, ↓xWo128b hc, ↓xN129b hc, ↓xRo129b hc, ↓xWo129b hc, ↓xN130b hc, ↓xRo130b hc, ↓xWo130b hc, ↓xN131b hc, ↓xRo131b hc, ↓xWo131b hc, ↓xN132b hc, ↓xRo132b hc, ↓xWo132b hc, ↓xN133b hc, ↓xRo133b hc, ↓xWo133b hc, ↓xN67b hc, ↓xAo67b hc, ↓xN123b hc, ↓xAo123b hc, ↓xN3b hc, ↓xAo3b hc, ↓xN34b hc, ↓xAo34b hc, ↓xN69b hc, ↓xAo69b hc, ↓xQ0_0b hc, ↓xQ0_1b hc, ↓xQ0_2b hc, ↓xQ0_3b hc, ↓xQ0_4b hc, ↓xQ0_5b hc, ↓xQ0_6b hc, ↓xQ1_0b hc, ↓xQ1_1b hc, ↓xQ1_2b hc, ↓xQ1_3b hc, ↓xQ66_0b hc, ↓xQ66_1b hc, ↓xQ68_0b hc, ↓xQ68_1b hc, ↓xQ68_2b hc, ↓xQ68_3b hc, ↓xQ115_0b hc, ↓xQ115_1b hc, ↓xQ115_2b hc, ↓xQ115_3b hc, ↓xQ115_4b hc, ↓xQ115_5b hc, ↓xQ115_6b hc, ↓xQ120_0b hc, ↓xQ120_1b hc, ↓xQ120_2b hc, ↓xQ120_3b hc, ↓xQ125_0b hc, ↓xQ125_1b hc, ↓xQ127_0b hc, ↓xQ127_1b hc, ↓xQ127_2b hc, ↓xQ127_3b hc, ↓xQ127_4b hc, ↓xQ127_5b hc, ↓xD0 hc, ↓xD1 hc, ↓xD66 hc, ↓xD68 hc, ↓xD115 hc, ↓xD120 hc, ↓xD121 hc, ↓xD125 hc, ↓xD127 hc, ↓zbe e1, ↓zbe e2, z]
      simp [ku_at]
    · rw [ku_row k3, ku_row k2, ku_row k1, hk key k1 k2]
    · rw [ku_at, ku_row (by simp), ku_row (by simp), hk _ (by simp) (by simp)]
    · rw [ku_row (by simp), ku_row (by simp), ku_at]
      split
      · rfl
      · exact h8 j
    · rw [ku_row (by simp), ku_at, ku_row (by simp)]
      split
      · rfl
      · exact h9 j
  intro s
  induction s with
  | zero =>
    intro n V hs hn h6 hk h8 h9 hgt
    obtain ⟨n, rfl⟩ : ∃ n', n = n' + 1 := ⟨n - 1, by omega⟩
    rw [FPacker_addLoad_L17, if_pos (by omega)]
    exact fin 0 V hs h6 hk h8 h9 hgt (fun t ht => absurd ht (Nat.not_lt_zero t))
  | succ s ih =>
    intro n V hs hn h6 hk h8 h9 hgt
    obtain ⟨n, rfl⟩ : ∃ n', n = n' + 1 := ⟨n - 1, by omega⟩
    have s1 : ((s + 1 : Nat) : Int) - 1 = (s : Int) := by omega
    have s2 : ((s + 1 : Nat) : Int) + (-1) = (s : Int) := by omega
    have v8 : V (0, 128, 0) s = V0 (0, 128, 0) s := by rw [h8, if_neg (by omega)]
    have v9 : V (0, 129, 0) s = V0 (0, 129, 0) s := by rw [h9, if_neg (by omega)]
    have e1 := atF (FU := FU) (N := N) (V := V) (R := R) (K := K) hc (o := 128) (by omega) (xK128 hc) (j := s) (by omega)
    have e2 := putF (FU := FU) (N := N) (V := V) (R := R) (K := K) hc (o := 128) (by omega) (xK128 hc) (j := s + 1) (by omega) (V0 (0, 128, 0) s)
    have e3 := atF (FU := FU) (N := N) (V := ku V (0, 128, 0) (s + 1) (V0 (0, 128, 0) s)) (R := R) (K := K) hc (o := 129) (by omega) (xK129 hc) (j := s) (by omega)
    have e4 := putF (FU := FU) (N := N) (V := ku V (0, 128, 0) (s + 1) (V0 (0, 128, 0) s)) (R := R) (K := K) hc (o := 129) (by omega) (xK129 hc) (j := s + 1) (by omega) (V0 (0, 129, 0) s)
    rw [v8] at e1
    rw [ku_row (by simp), v9] at e3
    rw [FPacker_addLoad_L17, if_neg (by omega)]
    by_cases c1 : V0 (0, 128, 0) s ≤ (p : Int)
    · obtain ⟨s', V', f1, f2⟩ := fin (s + 1) V hs h6 hk h8 h9 hgt (fun t ht => by
        by_cases z : t = s
        · rw [z]; exact c1
        · have := hr t s (by omega) (by omega)
          omega)
      refine ⟨s', V', ?_, f2⟩
      simp (disch := omega) only [↓zcs, ↓zcn, ↓Option.bind_some, ↓zb_some, ↓zrz0b, ↓zrz1b, ↓zckb, zrz0, zrz1, ↓reduceIte, ↓xI0b hc, ↓xP0b hc, ↓xI1b hc, ↓xP1b hc, ↓xI66b hc, ↓xP66b hc, ↓xI68b hc, ↓xP68b hc, ↓xI115b hc, ↓xP115b hc, ↓xI120b hc, ↓xP120b hc, ↓xI121b hc, ↓xP121b hc, ↓xI125b hc, ↓xP125b hc, ↓xI127b hc, ↓xP127b hc, ↓xN2b hc, ↓xRo2b hc, ↓xWo2b hc, ↓xN65b hc, ↓xRo65b hc, ↓xWo65b hc, ↓xN113b hc, ↓xRo113b hc, ↓xWo113b hc, ↓xN114b hc, ↓xRo114b hc, ↓xWo114b hc, ↓xN116b hc, ↓xRo116b hc, ↓xWo116b hc, ↓xN117b hc, ↓xRo117b hc, ↓xWo117b hc, ↓xN118b hc, ↓xRo118b hc, ↓xWo118b hc, ↓xN119b hc, ↓xRo119b hc, ↓xWo119b hc, ↓xN122b hc, ↓xRo122b hc, ↓xWo122b hc, ↓xN124b hc, ↓xRo124b hc, ↓xWo124b hc, ↓xN126b hc, ↓xRo126b hc, ↓xWo126b hc, ↓xN128b hc, ↓xRo128b hc, ↓xWo128b hc, ↓xN129b hc, ↓xRo129b hc, ↓xWo129b hc, ↓xN130b hc, ↓xRo130b hc, ↓xWo130b hc, ↓xN131b hc, ↓xRo131b hc, ↓xWo131b hc, ↓xN132b hc, ↓xRo132b hc, ↓xWo132b hc, ↓xN133b hc, ↓xRo133b hc, ↓xWo133b hc, ↓xN67b hc, ↓xAo67b hc, ↓xN123b hc, ↓xAo123b hc, ↓xN3b hc, ↓xAo3b hc, ↓xN34b hc, ↓xAo34b hc, ↓xN69b hc, ↓xAo69b hc, ↓xQ0_0b hc, ↓xQ0_1b hc, ↓xQ0_2b hc, ↓xQ0_3b hc, ↓xQ0_4b hc, ↓xQ0_5b hc, ↓xQ0_6b hc, ↓xQ1_0b hc, ↓xQ1_1b hc, ↓xQ1_2b hc, ↓xQ1_3b hc, ↓xQ66_0b hc, ↓xQ66_1b hc, ↓xQ68_0b hc, ↓xQ68_1b hc, ↓xQ68_2b hc, ↓xQ68_3b hc, ↓xQ115_0b hc, ↓xQ115_1b hc, ↓xQ115_2b hc, ↓xQ115_3b hc, ↓xQ115_4b hc, ↓xQ115_5b hc, ↓xQ115_6b hc, ↓xQ120_0b hc, ↓xQ120_1b hc, ↓xQ120_2b hc, ↓xQ120_3b hc, ↓xQ125_0b hc, ↓xQ125_1b hc, ↓xQ127_0b hc, ↓xQ127_1b hc, ↓xQ127_2b hc, ↓xQ127_3b hc, ↓xQ127_4b hc, ↓xQ127_5b hc, ↓xD0 hc, ↓xD1 hc, ↓xD66 hc, ↓xD68 hc, ↓xD115 hc, ↓xD120 hc, ↓xD121 hc, ↓xD125 hc, ↓xD127 hc, ↓if_pos, s1, ↓bde e1, c1]
      exact f1
    · obtain ⟨s', V', f1, f2⟩ := ih n (ku (ku V (0, 128, 0) (s + 1) (V0 (0, 128, 0) s)) (0, 129, 0) (s + 1) (V0 (0, 129, 0) s)) (by omega) (by omega) (by rw [ku_row (by simp), ku_row (by simp)]; exact h6) (fun key k1 k2 => by rw [ku_row k2, ku_row k1, hk key k1 k2]) (fun j => by
        rw [ku_row (by simp), ku_at, h8 j]
        by_cases z : j = s + 1
        · subst z
          rw [if_pos rfl, if_pos (by omega)]
          rfl
        · rw [if_neg z]
          by_cases z2 : s + 1 < j ∧ j ≤ L
          · rw [if_pos z2, if_pos (by omega)]
          · rw [if_neg z2, if_neg (by omega)]) (fun j => by
        rw [ku_at, ku_row (by simp), h9 j]
        by_cases z : j = s + 1
        · subst z
          rw [if_pos rfl, if_pos (by omega)]
          rfl
        · rw [if_neg z]
          by_cases z2 : s + 1 < j ∧ j ≤ L
          · rw [if_pos z2, if_pos (by omega)]
          · rw [if_neg z2, if_neg (by omega)]) (fun t h1 h2 => by
        by_cases z : t = s
        · rw [z]; omega
        · exact hgt t (by omega) h2)
      refine ⟨s', V', ?_, f2⟩
      simp (disch := omega) only [↓zcs, ↓zcn, ↓Option.bind_some, ↓zb_some, ↓zrz0b, ↓zrz1b, ↓zckb, zrz0, zrz1, ↓reduceIte, ↓xI0b hc, ↓xP0b hc, ↓xI1b hc, ↓xP1b hc, ↓xI66b hc, ↓xP66b hc, ↓xI68b hc, ↓xP68b hc, ↓xI115b hc, ↓xP115b hc, ↓xI120b hc, ↓xP120b hc, ↓xI121b hc, ↓xP121b hc, ↓xI125b hc, ↓xP125b hc, ↓xI127b hc, ↓xP127b hc, ↓xN2b hc, ↓xRo2b hc, ↓xWo2b hc, ↓xN65b hc, ↓xRo65b hc, ↓xWo65b hc, ↓xN113b hc, ↓xRo113b hc, ↓xWo113b hc, ↓xN114b hc, ↓xRo114b hc, ↓xWo114b hc, ↓xN116b hc, ↓xRo116b hc, ↓xWo116b hc, ↓xN117b hc, ↓xRo117b hc, ↓xWo117b hc, ↓xN118b hc, ↓xRo118b hc, ↓xWo118b hc, ↓xN119b hc, ↓xRo119b hc, ↓xWo119b hc, ↓xN122b hc, ↓xRo122b hc, ↓xWo122b hc, ↓xN124b hc, ↓xRo124b hc, ↓xWo124b hc, ↓xN126b hc, ↓xRo126b hc, ↓xWo126b hc, ↓xN128b hc, ↓xRo128b hc, ↓xWo128b hc, ↓xN129b hc, ↓xRo129b hc, ↓xWo129b hc, ↓xN130b hc, ↓xRo130b hc, ↓xWo130b hc, ↓xN131b hc, ↓xRo131b hc, ↓xWo131b hc, ↓xN132b hc, ↓xRo132b hc, ↓xWo132b hc, ↓xN133b hc, ↓xRo133b hc, ↓xWo133b hc, ↓xN67b hc, ↓xAo67b hc, ↓xN123b hc, ↓xAo123b hc, ↓xN3b hc, ↓xAo3b hc, ↓xN34b hc, ↓xAo34b hc, ↓xN69b hc, ↓xAo69b hc, ↓xQ0_0b hc, ↓xQ0_1b hc, ↓xQ0_2b hc, ↓xQ0_3b hc, ↓xQ0_4b hc, ↓xQ0_5b hc, ↓xQ0_6b hc, ↓xQ1_0b hc, ↓xQ1_1b hc, ↓xQ1_2b hc, ↓xQ1_3b hc, ↓xQ66_0b hc, ↓xQ66_1b hc, ↓xQ68_0b hc, ↓xQ68_1b hc, ↓xQ68_2b hc, ↓xQ68_3b hc, ↓xQ115_0b hc, ↓xQ115_1b hc, ↓xQ115_2b hc, ↓xQ115_3b hc, ↓xQ115_4b hc, ↓xQ115_5b hc, ↓xQ115_6b hc, ↓xQ120_0b hc, ↓xQ120_1b hc, ↓xQ120_2b hc, ↓xQ120_3b hc, ↓xQ125_0b hc, ↓xQ125_1b hc, ↓xQ127_0b hc, ↓xQ127_1b hc, ↓xQ127_2b hc, ↓xQ127_3b hc, ↓xQ127_4b hc, ↓xQ127_5b hc, ↓xD0 hc, ↓xD1 hc, ↓xD66 hc, ↓xD68 hc, ↓xD115 hc, ↓xD120 hc, ↓xD121 hc, ↓xD125 hc, ↓xD127 hc, ↓if_neg, s1, s2, ↓bde e1, c1, ↓zbe e2, ↓bde e3, ↓zbe e4]
      exact f1
theorem cart_loop (hc : CX x c) (h : IP V g) {p : Nat} (hp : p < 40) : ∀ (d t n : Nat), t + d = (V (0, 127, 0) 7).toNat → d < n → (∀ s, s < t → V (0, 132, 0) s ≠ (p : Int)) → FPacker_cartOf_L2 FU n (x + 127) (p : Int) (t : Int) (zX x c N V R K) = some (g 38 p) := by
  have n0 := h.packed0
  intro d
  induction d with
  | zero =>
    intro t n ht hn hs
    obtain ⟨n, rfl⟩ : ∃ n', n = n' + 1 := ⟨n - 1, by omega⟩
    have : t = (V (0, 127, 0) 7).toNat := by omega
    subst this
    rw [FPacker_cartOf_L2, h.none_ p hp hs]
    simp (disch := omega) only [↓zcs, ↓zcn, ↓Option.bind_some, ↓zb_some, ↓zrz0b, ↓zrz1b, ↓zckb, zrz0, zrz1, ↓reduceIte, ↓xI0b hc, ↓xP0b hc, ↓xI1b hc, ↓xP1b hc, ↓xI66b hc, ↓xP66b hc, ↓xI68b hc, ↓xP68b hc, ↓xI115b hc, ↓xP115b hc, ↓xI120b hc, ↓xP120b hc, ↓xI121b hc, ↓xP121b hc, ↓xI125b hc, ↓xP125b hc, ↓xI127b hc, ↓xP127b hc, ↓xN2b hc, ↓xRo2b hc, ↓xWo2b hc, ↓xN65b hc, ↓xRo65b hc, ↓xWo65b hc, ↓xN113b hc, ↓xRo113b hc, ↓xWo113b hc, ↓xN114b hc, ↓xRo114b hc, ↓xWo114b hc, ↓xN116b hc, ↓xRo116b hc, ↓xWo116b hc, ↓xN117b hc, ↓xRo117b hc, ↓xWo117b hc, ↓xN118b hc, ↓xRo118b hc, ↓xWo118b hc, ↓xN119b hc, ↓xRo119b hc, ↓xWo119b hc, ↓xN122b hc, ↓xRo122b hc, ↓xWo122b hc, ↓xN124b hc, ↓xRo124b hc, ↓xWo124b hc, ↓xN126b hc, ↓xRo126b hc, ↓xWo126b hc, ↓xN128b hc, ↓xRo128b hc, ↓xWo128b hc, ↓xN129b hc, ↓xRo129b hc, ↓xWo129b hc, ↓xN130b hc, ↓xRo130b hc, ↓xWo130b hc, ↓xN131b hc, ↓xRo131b hc, ↓xWo131b hc, ↓xN132b hc, ↓xRo132b hc, ↓xWo132b hc, ↓xN133b hc, ↓xRo133b hc, ↓xWo133b hc, ↓xN67b hc, ↓xAo67b hc, ↓xN123b hc, ↓xAo123b hc, ↓xN3b hc, ↓xAo3b hc, ↓xN34b hc, ↓xAo34b hc, ↓xN69b hc, ↓xAo69b hc, ↓xQ0_0b hc, ↓xQ0_1b hc, ↓xQ0_2b hc, ↓xQ0_3b hc, ↓xQ0_4b hc, ↓xQ0_5b hc, ↓xQ0_6b hc, ↓xQ1_0b hc, ↓xQ1_1b hc, ↓xQ1_2b hc, ↓xQ1_3b hc, ↓xQ66_0b hc, ↓xQ66_1b hc, ↓xQ68_0b hc, ↓xQ68_1b hc, ↓xQ68_2b hc, ↓xQ68_3b hc, ↓xQ115_0b hc, ↓xQ115_1b hc, ↓xQ115_2b hc, ↓xQ115_3b hc, ↓xQ115_4b hc, ↓xQ115_5b hc, ↓xQ115_6b hc, ↓xQ120_0b hc, ↓xQ120_1b hc, ↓xQ120_2b hc, ↓xQ120_3b hc, ↓xQ125_0b hc, ↓xQ125_1b hc, ↓xQ127_0b hc, ↓xQ127_1b hc, ↓xQ127_2b hc, ↓xQ127_3b hc, ↓xQ127_4b hc, ↓xQ127_5b hc, ↓xD0 hc, ↓xD1 hc, ↓xD66 hc, ↓xD68 hc, ↓xD115 hc, ↓xD120 hc, ↓xD121 hc, ↓xD125 hc, ↓xD127 hc, ↓if_neg]
  | succ d ih =>
    intro t n ht hn hs
    obtain ⟨n, rfl⟩ : ∃ n', n = n' + 1 := ⟨n - 1, by omega⟩
    have t1 : ((t : Int) + 1) = ((t + 1 : Nat) : Int) := by omega
    have e := atF (FU := FU) (N := N) (V := V) (R := R) (K := K) hc (o := 132) (by omega) (xK132 hc) (j := t) (by omega)
    have e2 := atF (FU := FU) (N := N) (V := V) (R := R) (K := K) hc (o := 133) (by omega) (xK133 hc) (j := t) (by omega)
    rw [FPacker_cartOf_L2]
    by_cases c1 : V (0, 132, 0) t = (p : Int)
    · have l := h.cart t (by omega)
      rw [c1, show (p : Int).toNat = p by omega] at l
      simp (disch := omega) only [↓zcs, ↓zcn, ↓Option.bind_some, ↓zb_some, ↓zrz0b, ↓zrz1b, ↓zckb, zrz0, zrz1, ↓reduceIte, ↓xI0b hc, ↓xP0b hc, ↓xI1b hc, ↓xP1b hc, ↓xI66b hc, ↓xP66b hc, ↓xI68b hc, ↓xP68b hc, ↓xI115b hc, ↓xP115b hc, ↓xI120b hc, ↓xP120b hc, ↓xI121b hc, ↓xP121b hc, ↓xI125b hc, ↓xP125b hc, ↓xI127b hc, ↓xP127b hc, ↓xN2b hc, ↓xRo2b hc, ↓xWo2b hc, ↓xN65b hc, ↓xRo65b hc, ↓xWo65b hc, ↓xN113b hc, ↓xRo113b hc, ↓xWo113b hc, ↓xN114b hc, ↓xRo114b hc, ↓xWo114b hc, ↓xN116b hc, ↓xRo116b hc, ↓xWo116b hc, ↓xN117b hc, ↓xRo117b hc, ↓xWo117b hc, ↓xN118b hc, ↓xRo118b hc, ↓xWo118b hc, ↓xN119b hc, ↓xRo119b hc, ↓xWo119b hc, ↓xN122b hc, ↓xRo122b hc, ↓xWo122b hc, ↓xN124b hc, ↓xRo124b hc, ↓xWo124b hc, ↓xN126b hc, ↓xRo126b hc, ↓xWo126b hc, ↓xN128b hc, ↓xRo128b hc, ↓xWo128b hc, ↓xN129b hc, ↓xRo129b hc, ↓xWo129b hc, ↓xN130b hc, ↓xRo130b hc, ↓xWo130b hc, ↓xN131b hc, ↓xRo131b hc, ↓xWo131b hc, ↓xN132b hc, ↓xRo132b hc, ↓xWo132b hc, ↓xN133b hc, ↓xRo133b hc, ↓xWo133b hc, ↓xN67b hc, ↓xAo67b hc, ↓xN123b hc, ↓xAo123b hc, ↓xN3b hc, ↓xAo3b hc, ↓xN34b hc, ↓xAo34b hc, ↓xN69b hc, ↓xAo69b hc, ↓xQ0_0b hc, ↓xQ0_1b hc, ↓xQ0_2b hc, ↓xQ0_3b hc, ↓xQ0_4b hc, ↓xQ0_5b hc, ↓xQ0_6b hc, ↓xQ1_0b hc, ↓xQ1_1b hc, ↓xQ1_2b hc, ↓xQ1_3b hc, ↓xQ66_0b hc, ↓xQ66_1b hc, ↓xQ68_0b hc, ↓xQ68_1b hc, ↓xQ68_2b hc, ↓xQ68_3b hc, ↓xQ115_0b hc, ↓xQ115_1b hc, ↓xQ115_2b hc, ↓xQ115_3b hc, ↓xQ115_4b hc, ↓xQ115_5b hc, ↓xQ115_6b hc, ↓xQ120_0b hc, ↓xQ120_1b hc, ↓xQ120_2b hc, ↓xQ120_3b hc, ↓xQ125_0b hc, ↓xQ125_1b hc, ↓xQ127_0b hc, ↓xQ127_1b hc, ↓xQ127_2b hc, ↓xQ127_3b hc, ↓xQ127_4b hc, ↓xQ127_5b hc, ↓xD0 hc, ↓xD1 hc, ↓xD66 hc, ↓xD68 hc, ↓xD115 hc, ↓xD120 hc, ↓xD121 hc, ↓xD125 hc, ↓xD127 hc, ↓if_pos, ↓bde e, ↓bde e2, c1, l.2.2]
    · have ih1 := ih (t + 1) n (by omega) (by omega) (fun s hs2 => by
        by_cases z : s = t
        · rw [z]; exact c1
        · exact hs s (by omega))
      rw [← ih1]
      simp (disch := omega) only [↓zcs, ↓zcn, ↓Option.bind_some, ↓zb_some, ↓zrz0b, ↓zrz1b, ↓zckb, zrz0, zrz1, ↓reduceIte, ↓xI0b hc, ↓xP0b hc, ↓xI1b hc, ↓xP1b hc, ↓xI66b hc, ↓xP66b hc, ↓xI68b hc, ↓xP68b hc, ↓xI115b hc, ↓xP115b hc, ↓xI120b hc, ↓xP120b hc, ↓xI121b hc, ↓xP121b hc, ↓xI125b hc, ↓xP125b hc, ↓xI127b hc, ↓xP127b hc, ↓xN2b hc, ↓xRo2b hc, ↓xWo2b hc, ↓xN65b hc, ↓xRo65b hc, ↓xWo65b hc, ↓xN113b hc, ↓xRo113b hc, ↓xWo113b hc, ↓xN114b hc, ↓xRo114b hc, ↓xWo114b hc, ↓xN116b hc, ↓xRo116b hc, ↓xWo116b hc, ↓xN117b hc, ↓xRo117b hc, ↓xWo117b hc, ↓xN118b hc, ↓xRo118b hc, ↓xWo118b hc, ↓xN119b hc, ↓xRo119b hc, ↓xWo119b hc, ↓xN122b hc, ↓xRo122b hc, ↓xWo122b hc, ↓xN124b hc, ↓xRo124b hc, ↓xWo124b hc, ↓xN126b hc, ↓xRo126b hc, ↓xWo126b hc, ↓xN128b hc, ↓xRo128b hc, ↓xWo128b hc, ↓xN129b hc, ↓xRo129b hc, ↓xWo129b hc, ↓xN130b hc, ↓xRo130b hc, ↓xWo130b hc, ↓xN131b hc, ↓xRo131b hc, ↓xWo131b hc, ↓xN132b hc, ↓xRo132b hc, ↓xWo132b hc, ↓xN133b hc, ↓xRo133b hc, ↓xWo133b hc, ↓xN67b hc, ↓xAo67b hc, ↓xN123b hc, ↓xAo123b hc, ↓xN3b hc, ↓xAo3b hc, ↓xN34b hc, ↓xAo34b hc, ↓xN69b hc, ↓xAo69b hc, ↓xQ0_0b hc, ↓xQ0_1b hc, ↓xQ0_2b hc, ↓xQ0_3b hc, ↓xQ0_4b hc, ↓xQ0_5b hc, ↓xQ0_6b hc, ↓xQ1_0b hc, ↓xQ1_1b hc, ↓xQ1_2b hc, ↓xQ1_3b hc, ↓xQ66_0b hc, ↓xQ66_1b hc, ↓xQ68_0b hc, ↓xQ68_1b hc, ↓xQ68_2b hc, ↓xQ68_3b hc, ↓xQ115_0b hc, ↓xQ115_1b hc, ↓xQ115_2b hc, ↓xQ115_3b hc, ↓xQ115_4b hc, ↓xQ115_5b hc, ↓xQ115_6b hc, ↓xQ120_0b hc, ↓xQ120_1b hc, ↓xQ120_2b hc, ↓xQ120_3b hc, ↓xQ125_0b hc, ↓xQ125_1b hc, ↓xQ127_0b hc, ↓xQ127_1b hc, ↓xQ127_2b hc, ↓xQ127_3b hc, ↓xQ127_4b hc, ↓xQ127_5b hc, ↓xD0 hc, ↓xD1 hc, ↓xD66 hc, ↓xD68 hc, ↓xD115 hc, ↓xD120 hc, ↓xD121 hc, ↓xD125 hc, ↓xD127 hc, ↓if_pos, ↓bde e, c1, t1]
theorem cart_no (hc : CX x c) (h : IP V g) {p : Int} (hp : ¬ (0 ≤ p ∧ p < g 0 15)) : ∀ (d t n : Nat), t + d = (V (0, 127, 0) 7).toNat → d < n → FPacker_cartOf_L2 FU n (x + 127) p (t : Int) (zX x c N V R K) = some (-1) := by
  have n0 := h.packed0
  intro d
  induction d with
  | zero =>
    intro t n ht hn
    obtain ⟨n, rfl⟩ : ∃ n', n = n' + 1 := ⟨n - 1, by omega⟩
    have : t = (V (0, 127, 0) 7).toNat := by omega
    subst this
    rw [FPacker_cartOf_L2]
    simp (disch := omega) only [↓zcs, ↓zcn, ↓Option.bind_some, ↓zb_some, ↓zrz0b, ↓zrz1b, ↓zckb, zrz0, zrz1, ↓reduceIte, ↓xI0b hc, ↓xP0b hc, ↓xI1b hc, ↓xP1b hc, ↓xI66b hc, ↓xP66b hc, ↓xI68b hc, ↓xP68b hc, ↓xI115b hc, ↓xP115b hc, ↓xI120b hc, ↓xP120b hc, ↓xI121b hc, ↓xP121b hc, ↓xI125b hc, ↓xP125b hc, ↓xI127b hc, ↓xP127b hc, ↓xN2b hc, ↓xRo2b hc, ↓xWo2b hc, ↓xN65b hc, ↓xRo65b hc, ↓xWo65b hc, ↓xN113b hc, ↓xRo113b hc, ↓xWo113b hc, ↓xN114b hc, ↓xRo114b hc, ↓xWo114b hc, ↓xN116b hc, ↓xRo116b hc, ↓xWo116b hc, ↓xN117b hc, ↓xRo117b hc, ↓xWo117b hc, ↓xN118b hc, ↓xRo118b hc, ↓xWo118b hc, ↓xN119b hc, ↓xRo119b hc, ↓xWo119b hc, ↓xN122b hc, ↓xRo122b hc, ↓xWo122b hc, ↓xN124b hc, ↓xRo124b hc, ↓xWo124b hc, ↓xN126b hc, ↓xRo126b hc, ↓xWo126b hc, ↓xN128b hc, ↓xRo128b hc, ↓xWo128b hc, ↓xN129b hc, ↓xRo129b hc, ↓xWo129b hc, ↓xN130b hc, ↓xRo130b hc, ↓xWo130b hc, ↓xN131b hc, ↓xRo131b hc, ↓xWo131b hc, ↓xN132b hc, ↓xRo132b hc, ↓xWo132b hc, ↓xN133b hc, ↓xRo133b hc, ↓xWo133b hc, ↓xN67b hc, ↓xAo67b hc, ↓xN123b hc, ↓xAo123b hc, ↓xN3b hc, ↓xAo3b hc, ↓xN34b hc, ↓xAo34b hc, ↓xN69b hc, ↓xAo69b hc, ↓xQ0_0b hc, ↓xQ0_1b hc, ↓xQ0_2b hc, ↓xQ0_3b hc, ↓xQ0_4b hc, ↓xQ0_5b hc, ↓xQ0_6b hc, ↓xQ1_0b hc, ↓xQ1_1b hc, ↓xQ1_2b hc, ↓xQ1_3b hc, ↓xQ66_0b hc, ↓xQ66_1b hc, ↓xQ68_0b hc, ↓xQ68_1b hc, ↓xQ68_2b hc, ↓xQ68_3b hc, ↓xQ115_0b hc, ↓xQ115_1b hc, ↓xQ115_2b hc, ↓xQ115_3b hc, ↓xQ115_4b hc, ↓xQ115_5b hc, ↓xQ115_6b hc, ↓xQ120_0b hc, ↓xQ120_1b hc, ↓xQ120_2b hc, ↓xQ120_3b hc, ↓xQ125_0b hc, ↓xQ125_1b hc, ↓xQ127_0b hc, ↓xQ127_1b hc, ↓xQ127_2b hc, ↓xQ127_3b hc, ↓xQ127_4b hc, ↓xQ127_5b hc, ↓xD0 hc, ↓xD1 hc, ↓xD66 hc, ↓xD68 hc, ↓xD115 hc, ↓xD120 hc, ↓xD121 hc, ↓xD125 hc, ↓xD127 hc, ↓if_neg]
  | succ d ih =>
    intro t n ht hn
    obtain ⟨n, rfl⟩ : ∃ n', n = n' + 1 := ⟨n - 1, by omega⟩
    have t1 : ((t : Int) + 1) = ((t + 1 : Nat) : Int) := by omega
    have e := atF (FU := FU) (N := N) (V := V) (R := R) (K := K) hc (o := 132) (by omega) (xK132 hc) (j := t) (by omega)
    have l := h.cart t (by omega)
    have c1 : ¬ V (0, 132, 0) t = p := fun z => hp (by omega)
    rw [FPacker_cartOf_L2, ← ih (t + 1) n (by omega) (by omega)]
    simp (disch := omega) only [↓zcs, ↓zcn, ↓Option.bind_some, ↓zb_some, ↓zrz0b, ↓zrz1b, ↓zckb, zrz0, zrz1, ↓reduceIte, ↓xI0b hc, ↓xP0b hc, ↓xI1b hc, ↓xP1b hc, ↓xI66b hc, ↓xP66b hc, ↓xI68b hc, ↓xP68b hc, ↓xI115b hc, ↓xP115b hc, ↓xI120b hc, ↓xP120b hc, ↓xI121b hc, ↓xP121b hc, ↓xI125b hc, ↓xP125b hc, ↓xI127b hc, ↓xP127b hc, ↓xN2b hc, ↓xRo2b hc, ↓xWo2b hc, ↓xN65b hc, ↓xRo65b hc, ↓xWo65b hc, ↓xN113b hc, ↓xRo113b hc, ↓xWo113b hc, ↓xN114b hc, ↓xRo114b hc, ↓xWo114b hc, ↓xN116b hc, ↓xRo116b hc, ↓xWo116b hc, ↓xN117b hc, ↓xRo117b hc, ↓xWo117b hc, ↓xN118b hc, ↓xRo118b hc, ↓xWo118b hc, ↓xN119b hc, ↓xRo119b hc, ↓xWo119b hc, ↓xN122b hc, ↓xRo122b hc, ↓xWo122b hc, ↓xN124b hc, ↓xRo124b hc, ↓xWo124b hc, ↓xN126b hc, ↓xRo126b hc, ↓xWo126b hc, ↓xN128b hc, ↓xRo128b hc, ↓xWo128b hc, ↓xN129b hc, ↓xRo129b hc, ↓xWo129b hc, ↓xN130b hc, ↓xRo130b hc, ↓xWo130b hc, ↓xN131b hc, ↓xRo131b hc, ↓xWo131b hc, ↓xN132b hc, ↓xRo132b hc, ↓xWo132b hc, ↓xN133b hc, ↓xRo133b hc, ↓xWo133b hc, ↓xN67b hc, ↓xAo67b hc, ↓xN123b hc, ↓xAo123b hc, ↓xN3b hc, ↓xAo3b hc, ↓xN34b hc, ↓xAo34b hc, ↓xN69b hc, ↓xAo69b hc, ↓xQ0_0b hc, ↓xQ0_1b hc, ↓xQ0_2b hc, ↓xQ0_3b hc, ↓xQ0_4b hc, ↓xQ0_5b hc, ↓xQ0_6b hc, ↓xQ1_0b hc, ↓xQ1_1b hc, ↓xQ1_2b hc, ↓xQ1_3b hc, ↓xQ66_0b hc, ↓xQ66_1b hc, ↓xQ68_0b hc, ↓xQ68_1b hc, ↓xQ68_2b hc, ↓xQ68_3b hc, ↓xQ115_0b hc, ↓xQ115_1b hc, ↓xQ115_2b hc, ↓xQ115_3b hc, ↓xQ115_4b hc, ↓xQ115_5b hc, ↓xQ115_6b hc, ↓xQ120_0b hc, ↓xQ120_1b hc, ↓xQ120_2b hc, ↓xQ120_3b hc, ↓xQ125_0b hc, ↓xQ125_1b hc, ↓xQ127_0b hc, ↓xQ127_1b hc, ↓xQ127_2b hc, ↓xQ127_3b hc, ↓xQ127_4b hc, ↓xQ127_5b hc, ↓xD0 hc, ↓xD1 hc, ↓xD66 hc, ↓xD68 hc, ↓xD115 hc, ↓xD120 hc, ↓xD121 hc, ↓xD125 hc, ↓xD127 hc, ↓if_pos, ↓bde e, c1, t1]
end LD
section OPI
variable {k x m : Nat} {X M : Hp}
theorem OP_cart (h : INV k x m X M) (hk : k < 512) (a1 : Int) (h1 : zInI a1) : ∃ (r : Int) (X' M' : Hp), FB_cart zFU x a1 X = some r ∧ X' = X ∧ FM_cart zFU m a1 M = some r ∧ M' = M ∧ INV (k + 1) x m X' M' := by
  obtain ⟨c, N, V, R, K, N', g, W, rfl, rfl, h⟩ := h
  have hc := h.c.cx
  have n0 := h.h.many0
  have p0 := h.p.packed0
  unfold FB_cart FB_cart_b FM_cart FM_cart_b FPacker_cartOf FPacker_cartOf_b
  by_cases q1 : 0 ≤ a1 ∧ a1 < g 0 15
  · obtain ⟨p, rfl⟩ : ∃ p : Nat, a1 = (p : Int) := ⟨a1.toNat, by omega⟩
    have tp : (p : Int).toNat = p := by omega
    have e : FPacker_cartOf_L2 zFU zFU (x + 127) (p : Int) 0 (zX x c N V R K) = _ := cart_loop (FU := zFU) (N := N) (R := R) (K := K) hc h.p (p := p) (by omega) (V (0, 127, 0) 7).toNat 0 zFU (by omega) (by unfold zFU; omega) (fun s hs => absurd hs (Nat.not_lt_zero s))
    refine ⟨g 38 p, zX x c N V R K, zG m N' g, ?_, rfl, ?_, rfl, INV.intro h.skip⟩
    · simp (disch := omega) only [↓zcs, ↓zcn, ↓Option.bind_some, ↓zb_some, ↓zrz0b, ↓zrz1b, ↓zckb, zrz0, zrz1, ↓reduceIte, ↓xI0b hc, ↓xP0b hc, ↓xI1b hc, ↓xP1b hc, ↓xI66b hc, ↓xP66b hc, ↓xI68b hc, ↓xP68b hc, ↓xI115b hc, ↓xP115b hc, ↓xI120b hc, ↓xP120b hc, ↓xI121b hc, ↓xP121b hc, ↓xI125b hc, ↓xP125b hc, ↓xI127b hc, ↓xP127b hc, ↓xN2b hc, ↓xRo2b hc, ↓xWo2b hc, ↓xN65b hc, ↓xRo65b hc, ↓xWo65b hc, ↓xN113b hc, ↓xRo113b hc, ↓xWo113b hc, ↓xN114b hc, ↓xRo114b hc, ↓xWo114b hc, ↓xN116b hc, ↓xRo116b hc, ↓xWo116b hc, ↓xN117b hc, ↓xRo117b hc, ↓xWo117b hc, ↓xN118b hc, ↓xRo118b hc, ↓xWo118b hc, ↓xN119b hc, ↓xRo119b hc, ↓xWo119b hc, ↓xN122b hc, ↓xRo122b hc, ↓xWo122b hc, ↓xN124b hc, ↓xRo124b hc, ↓xWo124b hc, ↓xN126b hc, ↓xRo126b hc, ↓xWo126b hc, ↓xN128b hc, ↓xRo128b hc, ↓xWo128b hc, ↓xN129b hc, ↓xRo129b hc, ↓xWo129b hc, ↓xN130b hc, ↓xRo130b hc, ↓xWo130b hc, ↓xN131b hc, ↓xRo131b hc, ↓xWo131b hc, ↓xN132b hc, ↓xRo132b hc, ↓xWo132b hc, ↓xN133b hc, ↓xRo133b hc, ↓xWo133b hc, ↓xN67b hc, ↓xAo67b hc, ↓xN123b hc, ↓xAo123b hc, ↓xN3b hc, ↓xAo3b hc, ↓xN34b hc, ↓xAo34b hc, ↓xN69b hc, ↓xAo69b hc, ↓xQ0_0b hc, ↓xQ0_1b hc, ↓xQ0_2b hc, ↓xQ0_3b hc, ↓xQ0_4b hc, ↓xQ0_5b hc, ↓xQ0_6b hc, ↓xQ1_0b hc, ↓xQ1_1b hc, ↓xQ1_2b hc, ↓xQ1_3b hc, ↓xQ66_0b hc, ↓xQ66_1b hc, ↓xQ68_0b hc, ↓xQ68_1b hc, ↓xQ68_2b hc, ↓xQ68_3b hc, ↓xQ115_0b hc, ↓xQ115_1b hc, ↓xQ115_2b hc, ↓xQ115_3b hc, ↓xQ115_4b hc, ↓xQ115_5b hc, ↓xQ115_6b hc, ↓xQ120_0b hc, ↓xQ120_1b hc, ↓xQ120_2b hc, ↓xQ120_3b hc, ↓xQ125_0b hc, ↓xQ125_1b hc, ↓xQ127_0b hc, ↓xQ127_1b hc, ↓xQ127_2b hc, ↓xQ127_3b hc, ↓xQ127_4b hc, ↓xQ127_5b hc, ↓xD0 hc, ↓xD1 hc, ↓xD66 hc, ↓xD68 hc, ↓xD115 hc, ↓xD120 hc, ↓xD121 hc, ↓xD125 hc, ↓xD127 hc, ↓bde e]
    · simp (disch := omega) only [↓zcs, ↓zcn, ↓mD, ↓Option.bind_some, ↓zb_some, ↓zrz0b, ↓zrz1b, ↓zckb, zrz0, zrz1, ↓reduceIte, ↓mIb, ↓mPb, ↓zck_ofb, ↓mPob, ↓mQ1b, ↓mRo1b, ↓mWo1b, ↓mQ3b, ↓mRo2b, ↓mWo2b, ↓mQ4b, ↓mRo3b, ↓mWo3b, ↓mQ8b, ↓mRo4b, ↓mWo4b, ↓mQ9b, ↓mRo5b, ↓mWo5b, ↓mQ10b, ↓mRo6b, ↓mWo6b, ↓mQ11b, ↓mRo7b, ↓mWo7b, ↓mQ12b, ↓mRo8b, ↓mWo8b, ↓mQ13b, ↓mRo9b, ↓mWo9b, ↓mQ14b, ↓mRo10b, ↓mWo10b, ↓mQ17b, ↓mRo11b, ↓mWo11b, ↓mQ19b, ↓mRo12b, ↓mWo12b, ↓mQ20b, ↓mRo13b, ↓mWo13b, ↓mQ23b, ↓mRo14b, ↓mWo14b, ↓mQ24b, ↓mRo15b, ↓mWo15b, ↓mQ26b, ↓mRo16b, ↓mWo16b, ↓mQ27b, ↓mRo17b, ↓mWo17b, ↓mQ28b, ↓mRo18b, ↓mWo18b, ↓mQ29b, ↓mRo19b, ↓mWo19b, ↓mQ30b, ↓mRo20b, ↓mWo20b, ↓mQ32b, ↓mRo21b, ↓mWo21b, ↓mQ33b, ↓mRo22b, ↓mWo22b, ↓mQ34b, ↓mRo23b, ↓mWo23b, ↓mQ35b, ↓mRo24b, ↓mWo24b, ↓mQ36b, ↓mRo25b, ↓mWo25b, ↓mQ37b, ↓mRo26b, ↓mWo26b, ↓mQ38b, ↓mRo27b, ↓mWo27b, ↓mQ39b, ↓mRo28b, ↓mWo28b, ↓mQ40b, ↓mRo29b, ↓mWo29b, ↓mQ41b, ↓mRo30b, ↓mWo30b, ↓mQ43b, ↓mRo31b, ↓mWo31b, ↓mQ44b, ↓mRo32b, ↓mWo32b, ↓mQ45b, ↓mRo33b, ↓mWo33b, ↓mQ46b, ↓mRo34b, ↓mWo34b, ↓mQ47b, ↓mRo35b, ↓mWo35b, ↓mQ48b, ↓mRo36b, ↓mWo36b, ↓mQ50b, ↓mRo37b, ↓mWo37b, ↓mQ51b, ↓mRo38b, ↓mWo38b, ↓mQ52b, ↓mRo39b, ↓mWo39b, ↓if_neg, ↓if_pos, ↓bde (eM_isShop _), q1, tp]
  · have e : FPacker_cartOf_L2 zFU zFU (x + 127) a1 0 (zX x c N V R K) = _ := cart_no (FU := zFU) (N := N) (R := R) (K := K) hc h.p q1 (V (0, 127, 0) 7).toNat 0 zFU (by omega) (by unfold zFU; omega)
    refine ⟨-1, zX x c N V R K, zG m N' g, ?_, rfl, ?_, rfl, INV.intro h.skip⟩
    · simp (disch := omega) only [↓zcs, ↓zcn, ↓Option.bind_some, ↓zb_some, ↓zrz0b, ↓zrz1b, ↓zckb, zrz0, zrz1, ↓reduceIte, ↓xI0b hc, ↓xP0b hc, ↓xI1b hc, ↓xP1b hc, ↓xI66b hc, ↓xP66b hc, ↓xI68b hc, ↓xP68b hc, ↓xI115b hc, ↓xP115b hc, ↓xI120b hc, ↓xP120b hc, ↓xI121b hc, ↓xP121b hc, ↓xI125b hc, ↓xP125b hc, ↓xI127b hc, ↓xP127b hc, ↓xN2b hc, ↓xRo2b hc, ↓xWo2b hc, ↓xN65b hc, ↓xRo65b hc, ↓xWo65b hc, ↓xN113b hc, ↓xRo113b hc, ↓xWo113b hc, ↓xN114b hc, ↓xRo114b hc, ↓xWo114b hc, ↓xN116b hc, ↓xRo116b hc, ↓xWo116b hc, ↓xN117b hc, ↓xRo117b hc, ↓xWo117b hc, ↓xN118b hc, ↓xRo118b hc, ↓xWo118b hc, ↓xN119b hc, ↓xRo119b hc, ↓xWo119b hc, ↓xN122b hc, ↓xRo122b hc, ↓xWo122b hc, ↓xN124b hc, ↓xRo124b hc, ↓xWo124b hc, ↓xN126b hc, ↓xRo126b hc, ↓xWo126b hc, ↓xN128b hc, ↓xRo128b hc, ↓xWo128b hc, ↓xN129b hc, ↓xRo129b hc, ↓xWo129b hc, ↓xN130b hc, ↓xRo130b hc, ↓xWo130b hc, ↓xN131b hc, ↓xRo131b hc, ↓xWo131b hc, ↓xN132b hc, ↓xRo132b hc, ↓xWo132b hc, ↓xN133b hc, ↓xRo133b hc, ↓xWo133b hc, ↓xN67b hc, ↓xAo67b hc, ↓xN123b hc, ↓xAo123b hc, ↓xN3b hc, ↓xAo3b hc, ↓xN34b hc, ↓xAo34b hc, ↓xN69b hc, ↓xAo69b hc, ↓xQ0_0b hc, ↓xQ0_1b hc, ↓xQ0_2b hc, ↓xQ0_3b hc, ↓xQ0_4b hc, ↓xQ0_5b hc, ↓xQ0_6b hc, ↓xQ1_0b hc, ↓xQ1_1b hc, ↓xQ1_2b hc, ↓xQ1_3b hc, ↓xQ66_0b hc, ↓xQ66_1b hc, ↓xQ68_0b hc, ↓xQ68_1b hc, ↓xQ68_2b hc, ↓xQ68_3b hc, ↓xQ115_0b hc, ↓xQ115_1b hc, ↓xQ115_2b hc, ↓xQ115_3b hc, ↓xQ115_4b hc, ↓xQ115_5b hc, ↓xQ115_6b hc, ↓xQ120_0b hc, ↓xQ120_1b hc, ↓xQ120_2b hc, ↓xQ120_3b hc, ↓xQ125_0b hc, ↓xQ125_1b hc, ↓xQ127_0b hc, ↓xQ127_1b hc, ↓xQ127_2b hc, ↓xQ127_3b hc, ↓xQ127_4b hc, ↓xQ127_5b hc, ↓xD0 hc, ↓xD1 hc, ↓xD66 hc, ↓xD68 hc, ↓xD115 hc, ↓xD120 hc, ↓xD121 hc, ↓xD125 hc, ↓xD127 hc, ↓bde e]
    · simp (disch := omega) only [↓zcs, ↓zcn, ↓mD, ↓Option.bind_some, ↓zb_some, ↓zrz0b, ↓zrz1b, ↓zckb, zrz0, zrz1, ↓reduceIte, ↓mIb, ↓mPb, ↓zck_ofb, ↓mPob, ↓mQ1b, ↓mRo1b, ↓mWo1b, ↓mQ3b, ↓mRo2b, ↓mWo2b, ↓mQ4b, ↓mRo3b, ↓mWo3b, ↓mQ8b, ↓mRo4b, ↓mWo4b, ↓mQ9b, ↓mRo5b, ↓mWo5b, ↓mQ10b, ↓mRo6b, ↓mWo6b, ↓mQ11b, ↓mRo7b, ↓mWo7b, ↓mQ12b, ↓mRo8b, ↓mWo8b, ↓mQ13b, ↓mRo9b, ↓mWo9b, ↓mQ14b, ↓mRo10b, ↓mWo10b, ↓mQ17b, ↓mRo11b, ↓mWo11b, ↓mQ19b, ↓mRo12b, ↓mWo12b, ↓mQ20b, ↓mRo13b, ↓mWo13b, ↓mQ23b, ↓mRo14b, ↓mWo14b, ↓mQ24b, ↓mRo15b, ↓mWo15b, ↓mQ26b, ↓mRo16b, ↓mWo16b, ↓mQ27b, ↓mRo17b, ↓mWo17b, ↓mQ28b, ↓mRo18b, ↓mWo18b, ↓mQ29b, ↓mRo19b, ↓mWo19b, ↓mQ30b, ↓mRo20b, ↓mWo20b, ↓mQ32b, ↓mRo21b, ↓mWo21b, ↓mQ33b, ↓mRo22b, ↓mWo22b, ↓mQ34b, ↓mRo23b, ↓mWo23b, ↓mQ35b, ↓mRo24b, ↓mWo24b, ↓mQ36b, ↓mRo25b, ↓mWo25b, ↓mQ37b, ↓mRo26b, ↓mWo26b, ↓mQ38b, ↓mRo27b, ↓mWo27b, ↓mQ39b, ↓mRo28b, ↓mWo28b, ↓mQ40b, ↓mRo29b, ↓mWo29b, ↓mQ41b, ↓mRo30b, ↓mWo30b, ↓mQ43b, ↓mRo31b, ↓mWo31b, ↓mQ44b, ↓mRo32b, ↓mWo32b, ↓mQ45b, ↓mRo33b, ↓mWo33b, ↓mQ46b, ↓mRo34b, ↓mWo34b, ↓mQ47b, ↓mRo35b, ↓mWo35b, ↓mQ48b, ↓mRo36b, ↓mWo36b, ↓mQ50b, ↓mRo37b, ↓mWo37b, ↓mQ51b, ↓mRo38b, ↓mWo38b, ↓mQ52b, ↓mRo39b, ↓mWo39b, ↓if_neg, ↓if_pos, ↓bde (eM_isShop _), q1]
theorem OP_load (h : INV k x m X M) (hk : k < 512) (a1 a2 : Int) (h1 : zInI a1) (h2 : zInI a2) : ∃ (r : Int) (X' M' : Hp), FB_load zFU x a1 a2 X = some (r, X') ∧ FM_load zFU m a1 a2 M = some (r, M') ∧ INV (k + 1) x m X' M' := by
  obtain ⟨c, N, V, R, K, N', g, W, rfl, rfl, h⟩ := h
  have hc := h.c.cx
  have n0 := h.h.many0
  have p0 := h.p.many0
  unfold FB_load FB_load_b FM_load FM_load_b FPacker_isListed FPacker_isListed_b FPacker_addLoad FPacker_addLoad_b
  rcases h.h.ask a1 with q1 | ⟨i, a, rfl, hi, hi2, q1, ha, hR, hn⟩
  · refine ⟨-1, zX x c N V R K, zG m N' g, ?_, ?_, INV.intro h.skip⟩
    · simp (disch := omega) only [↓zcs, ↓zcn, ↓Option.bind_some, ↓zb_some, ↓zrz0b, ↓zrz1b, ↓zckb, zrz0, zrz1, ↓reduceIte, ↓xI0b hc, ↓xP0b hc, ↓xI1b hc, ↓xP1b hc, ↓xI66b hc, ↓xP66b hc, ↓xI68b hc, ↓xP68b hc, ↓xI115b hc, ↓xP115b hc, ↓xI120b hc, ↓xP120b hc, ↓xI121b hc, ↓xP121b hc, ↓xI125b hc, ↓xP125b hc, ↓xI127b hc, ↓xP127b hc, ↓xN2b hc, ↓xRo2b hc, ↓xWo2b hc, ↓xN65b hc, ↓xRo65b hc, ↓xWo65b hc, ↓xN113b hc, ↓xRo113b hc, ↓xWo113b hc, ↓xN114b hc, ↓xRo114b hc, ↓xWo114b hc, ↓xN116b hc, ↓xRo116b hc, ↓xWo116b hc, ↓xN117b hc, ↓xRo117b hc, ↓xWo117b hc, ↓xN118b hc, ↓xRo118b hc, ↓xWo118b hc, ↓xN119b hc, ↓xRo119b hc, ↓xWo119b hc, ↓xN122b hc, ↓xRo122b hc, ↓xWo122b hc, ↓xN124b hc, ↓xRo124b hc, ↓xWo124b hc, ↓xN126b hc, ↓xRo126b hc, ↓xWo126b hc, ↓xN128b hc, ↓xRo128b hc, ↓xWo128b hc, ↓xN129b hc, ↓xRo129b hc, ↓xWo129b hc, ↓xN130b hc, ↓xRo130b hc, ↓xWo130b hc, ↓xN131b hc, ↓xRo131b hc, ↓xWo131b hc, ↓xN132b hc, ↓xRo132b hc, ↓xWo132b hc, ↓xN133b hc, ↓xRo133b hc, ↓xWo133b hc, ↓xN67b hc, ↓xAo67b hc, ↓xN123b hc, ↓xAo123b hc, ↓xN3b hc, ↓xAo3b hc, ↓xN34b hc, ↓xAo34b hc, ↓xN69b hc, ↓xAo69b hc, ↓xQ0_0b hc, ↓xQ0_1b hc, ↓xQ0_2b hc, ↓xQ0_3b hc, ↓xQ0_4b hc, ↓xQ0_5b hc, ↓xQ0_6b hc, ↓xQ1_0b hc, ↓xQ1_1b hc, ↓xQ1_2b hc, ↓xQ1_3b hc, ↓xQ66_0b hc, ↓xQ66_1b hc, ↓xQ68_0b hc, ↓xQ68_1b hc, ↓xQ68_2b hc, ↓xQ68_3b hc, ↓xQ115_0b hc, ↓xQ115_1b hc, ↓xQ115_2b hc, ↓xQ115_3b hc, ↓xQ115_4b hc, ↓xQ115_5b hc, ↓xQ115_6b hc, ↓xQ120_0b hc, ↓xQ120_1b hc, ↓xQ120_2b hc, ↓xQ120_3b hc, ↓xQ125_0b hc, ↓xQ125_1b hc, ↓xQ127_0b hc, ↓xQ127_1b hc, ↓xQ127_2b hc, ↓xQ127_3b hc, ↓xQ127_4b hc, ↓xQ127_5b hc, ↓xD0 hc, ↓xD1 hc, ↓xD66 hc, ↓xD68 hc, ↓xD115 hc, ↓xD120 hc, ↓xD121 hc, ↓xD125 hc, ↓xD127 hc, ↓bde (h.h.shopAt hc _), q1]
    · simp (disch := omega) only [↓zcs, ↓zcn, ↓mD, ↓Option.bind_some, ↓zb_some, ↓zrz0b, ↓zrz1b, ↓zckb, zrz0, zrz1, ↓reduceIte, ↓mIb, ↓mPb, ↓zck_ofb, ↓mPob, ↓mQ1b, ↓mRo1b, ↓mWo1b, ↓mQ3b, ↓mRo2b, ↓mWo2b, ↓mQ4b, ↓mRo3b, ↓mWo3b, ↓mQ8b, ↓mRo4b, ↓mWo4b, ↓mQ9b, ↓mRo5b, ↓mWo5b, ↓mQ10b, ↓mRo6b, ↓mWo6b, ↓mQ11b, ↓mRo7b, ↓mWo7b, ↓mQ12b, ↓mRo8b, ↓mWo8b, ↓mQ13b, ↓mRo9b, ↓mWo9b, ↓mQ14b, ↓mRo10b, ↓mWo10b, ↓mQ17b, ↓mRo11b, ↓mWo11b, ↓mQ19b, ↓mRo12b, ↓mWo12b, ↓mQ20b, ↓mRo13b, ↓mWo13b, ↓mQ23b, ↓mRo14b, ↓mWo14b, ↓mQ24b, ↓mRo15b, ↓mWo15b, ↓mQ26b, ↓mRo16b, ↓mWo16b, ↓mQ27b, ↓mRo17b, ↓mWo17b, ↓mQ28b, ↓mRo18b, ↓mWo18b, ↓mQ29b, ↓mRo19b, ↓mWo19b, ↓mQ30b, ↓mRo20b, ↓mWo20b, ↓mQ32b, ↓mRo21b, ↓mWo21b, ↓mQ33b, ↓mRo22b, ↓mWo22b, ↓mQ34b, ↓mRo23b, ↓mWo23b, ↓mQ35b, ↓mRo24b, ↓mWo24b, ↓mQ36b, ↓mRo25b, ↓mWo25b, ↓mQ37b, ↓mRo26b, ↓mWo26b, ↓mQ38b, ↓mRo27b, ↓mWo27b, ↓mQ39b, ↓mRo28b, ↓mWo28b, ↓mQ40b, ↓mRo29b, ↓mWo29b, ↓mQ41b, ↓mRo30b, ↓mWo30b, ↓mQ43b, ↓mRo31b, ↓mWo31b, ↓mQ44b, ↓mRo32b, ↓mWo32b, ↓mQ45b, ↓mRo33b, ↓mWo33b, ↓mQ46b, ↓mRo34b, ↓mWo34b, ↓mQ47b, ↓mRo35b, ↓mWo35b, ↓mQ48b, ↓mRo36b, ↓mWo36b, ↓mQ50b, ↓mRo37b, ↓mWo37b, ↓mQ51b, ↓mRo38b, ↓mWo38b, ↓mQ52b, ↓mRo39b, ↓mWo39b, ↓if_pos, ↓if_neg, ↓bde (eM_isShop _), q1]
  · have ti : (i : Int).toNat = i := by omega
    by_cases q2 : 1 ≤ a2 ∧ a2 ≤ 99
    · have e1 : FPacker_isListed_L2 zFU zFU (x + 127) (i : Int) 0 (zX x c N V R K) = _ := listed_loop (FU := zFU) (N := N) (R := R) (K := K) hc h.p (p := i) hi2 (g 0 49).toNat 0 zFU (by omega) (by unfold zFU; omega) (fun s hs => absurd hs (Nat.not_lt_zero s))
      by_cases q3 : 0 < g 36 i
      · rw [if_pos q3] at e1
        refine ⟨-1, zX x c N V R K, zG m N' g, ?_, ?_, INV.intro h.skip⟩
        · simp (disch := omega) only [↓zcs, ↓zcn, ↓Option.bind_some, ↓zb_some, ↓zrz0b, ↓zrz1b, ↓zckb, zrz0, zrz1, ↓reduceIte, ↓xI0b hc, ↓xP0b hc, ↓xI1b hc, ↓xP1b hc, ↓xI66b hc, ↓xP66b hc, ↓xI68b hc, ↓xP68b hc, ↓xI115b hc, ↓xP115b hc, ↓xI120b hc, ↓xP120b hc, ↓xI121b hc, ↓xP121b hc, ↓xI125b hc, ↓xP125b hc, ↓xI127b hc, ↓xP127b hc, ↓xN2b hc, ↓xRo2b hc, ↓xWo2b hc, ↓xN65b hc, ↓xRo65b hc, ↓xWo65b hc, ↓xN113b hc, ↓xRo113b hc, ↓xWo113b hc, ↓xN114b hc, ↓xRo114b hc, ↓xWo114b hc, ↓xN116b hc, ↓xRo116b hc, ↓xWo116b hc, ↓xN117b hc, ↓xRo117b hc, ↓xWo117b hc, ↓xN118b hc, ↓xRo118b hc, ↓xWo118b hc, ↓xN119b hc, ↓xRo119b hc, ↓xWo119b hc, ↓xN122b hc, ↓xRo122b hc, ↓xWo122b hc, ↓xN124b hc, ↓xRo124b hc, ↓xWo124b hc, ↓xN126b hc, ↓xRo126b hc, ↓xWo126b hc, ↓xN128b hc, ↓xRo128b hc, ↓xWo128b hc, ↓xN129b hc, ↓xRo129b hc, ↓xWo129b hc, ↓xN130b hc, ↓xRo130b hc, ↓xWo130b hc, ↓xN131b hc, ↓xRo131b hc, ↓xWo131b hc, ↓xN132b hc, ↓xRo132b hc, ↓xWo132b hc, ↓xN133b hc, ↓xRo133b hc, ↓xWo133b hc, ↓xN67b hc, ↓xAo67b hc, ↓xN123b hc, ↓xAo123b hc, ↓xN3b hc, ↓xAo3b hc, ↓xN34b hc, ↓xAo34b hc, ↓xN69b hc, ↓xAo69b hc, ↓xQ0_0b hc, ↓xQ0_1b hc, ↓xQ0_2b hc, ↓xQ0_3b hc, ↓xQ0_4b hc, ↓xQ0_5b hc, ↓xQ0_6b hc, ↓xQ1_0b hc, ↓xQ1_1b hc, ↓xQ1_2b hc, ↓xQ1_3b hc, ↓xQ66_0b hc, ↓xQ66_1b hc, ↓xQ68_0b hc, ↓xQ68_1b hc, ↓xQ68_2b hc, ↓xQ68_3b hc, ↓xQ115_0b hc, ↓xQ115_1b hc, ↓xQ115_2b hc, ↓xQ115_3b hc, ↓xQ115_4b hc, ↓xQ115_5b hc, ↓xQ115_6b hc, ↓xQ120_0b hc, ↓xQ120_1b hc, ↓xQ120_2b hc, ↓xQ120_3b hc, ↓xQ125_0b hc, ↓xQ125_1b hc, ↓xQ127_0b hc, ↓xQ127_1b hc, ↓xQ127_2b hc, ↓xQ127_3b hc, ↓xQ127_4b hc, ↓xQ127_5b hc, ↓xD0 hc, ↓xD1 hc, ↓xD66 hc, ↓xD68 hc, ↓xD115 hc, ↓xD120 hc, ↓xD121 hc, ↓xD125 hc, ↓xD127 hc, ↓if_neg, ↓if_pos, ↓bde (h.h.shopAt hc _), q1, hR, ↓bde (eB_isWithin _ _ _ _), q2, ↓bde e1]
        · simp (disch := omega) only [↓zcs, ↓zcn, ↓mD, ↓Option.bind_some, ↓zb_some, ↓zrz0b, ↓zrz1b, ↓zckb, zrz0, zrz1, ↓reduceIte, ↓mIb, ↓mPb, ↓zck_ofb, ↓mPob, ↓mQ1b, ↓mRo1b, ↓mWo1b, ↓mQ3b, ↓mRo2b, ↓mWo2b, ↓mQ4b, ↓mRo3b, ↓mWo3b, ↓mQ8b, ↓mRo4b, ↓mWo4b, ↓mQ9b, ↓mRo5b, ↓mWo5b, ↓mQ10b, ↓mRo6b, ↓mWo6b, ↓mQ11b, ↓mRo7b, ↓mWo7b, ↓mQ12b, ↓mRo8b, ↓mWo8b, ↓mQ13b, ↓mRo9b, ↓mWo9b, ↓mQ14b, ↓mRo10b, ↓mWo10b, ↓mQ17b, ↓mRo11b, ↓mWo11b, ↓mQ19b, ↓mRo12b, ↓mWo12b, ↓mQ20b, ↓mRo13b, ↓mWo13b, ↓mQ23b, ↓mRo14b, ↓mWo14b, ↓mQ24b, ↓mRo15b, ↓mWo15b, ↓mQ26b, ↓mRo16b, ↓mWo16b, ↓mQ27b, ↓mRo17b, ↓mWo17b, ↓mQ28b, ↓mRo18b, ↓mWo18b, ↓mQ29b, ↓mRo19b, ↓mWo19b, ↓mQ30b, ↓mRo20b, ↓mWo20b, ↓mQ32b, ↓mRo21b, ↓mWo21b, ↓mQ33b, ↓mRo22b, ↓mWo22b, ↓mQ34b, ↓mRo23b, ↓mWo23b, ↓mQ35b, ↓mRo24b, ↓mWo24b, ↓mQ36b, ↓mRo25b, ↓mWo25b, ↓mQ37b, ↓mRo26b, ↓mWo26b, ↓mQ38b, ↓mRo27b, ↓mWo27b, ↓mQ39b, ↓mRo28b, ↓mWo28b, ↓mQ40b, ↓mRo29b, ↓mWo29b, ↓mQ41b, ↓mRo30b, ↓mWo30b, ↓mQ43b, ↓mRo31b, ↓mWo31b, ↓mQ44b, ↓mRo32b, ↓mWo32b, ↓mQ45b, ↓mRo33b, ↓mWo33b, ↓mQ46b, ↓mRo34b, ↓mWo34b, ↓mQ47b, ↓mRo35b, ↓mWo35b, ↓mQ48b, ↓mRo36b, ↓mWo36b, ↓mQ50b, ↓mRo37b, ↓mWo37b, ↓mQ51b, ↓mRo38b, ↓mWo38b, ↓mQ52b, ↓mRo39b, ↓mWo39b, ↓if_pos, ↓if_neg, ↓bde (eM_isShop _), q1, ↓bde (eM_within _ _ _ _), q2, ti]
      · rw [if_neg q3] at e1
        by_cases q4 : g 0 49 = 10
        · refine ⟨-2, zX x c N V R K, zG m N' g, ?_, ?_, INV.intro h.skip⟩
          · simp (disch := omega) only [↓zcs, ↓zcn, ↓Option.bind_some, ↓zb_some, ↓zrz0b, ↓zrz1b, ↓zckb, zrz0, zrz1, ↓reduceIte, ↓xI0b hc, ↓xP0b hc, ↓xI1b hc, ↓xP1b hc, ↓xI66b hc, ↓xP66b hc, ↓xI68b hc, ↓xP68b hc, ↓xI115b hc, ↓xP115b hc, ↓xI120b hc, ↓xP120b hc, ↓xI121b hc, ↓xP121b hc, ↓xI125b hc, ↓xP125b hc, ↓xI127b hc, ↓xP127b hc, ↓xN2b hc, ↓xRo2b hc, ↓xWo2b hc, ↓xN65b hc, ↓xRo65b hc, ↓xWo65b hc, ↓xN113b hc, ↓xRo113b hc, ↓xWo113b hc, ↓xN114b hc, ↓xRo114b hc, ↓xWo114b hc, ↓xN116b hc, ↓xRo116b hc, ↓xWo116b hc, ↓xN117b hc, ↓xRo117b hc, ↓xWo117b hc, ↓xN118b hc, ↓xRo118b hc, ↓xWo118b hc, ↓xN119b hc, ↓xRo119b hc, ↓xWo119b hc, ↓xN122b hc, ↓xRo122b hc, ↓xWo122b hc, ↓xN124b hc, ↓xRo124b hc, ↓xWo124b hc, ↓xN126b hc, ↓xRo126b hc, ↓xWo126b hc, ↓xN128b hc, ↓xRo128b hc, ↓xWo128b hc, ↓xN129b hc, ↓xRo129b hc, ↓xWo129b hc, ↓xN130b hc, ↓xRo130b hc, ↓xWo130b hc, ↓xN131b hc, ↓xRo131b hc, ↓xWo131b hc, ↓xN132b hc, ↓xRo132b hc, ↓xWo132b hc, ↓xN133b hc, ↓xRo133b hc, ↓xWo133b hc, ↓xN67b hc, ↓xAo67b hc, ↓xN123b hc, ↓xAo123b hc, ↓xN3b hc, ↓xAo3b hc, ↓xN34b hc, ↓xAo34b hc, ↓xN69b hc, ↓xAo69b hc, ↓xQ0_0b hc, ↓xQ0_1b hc, ↓xQ0_2b hc, ↓xQ0_3b hc, ↓xQ0_4b hc, ↓xQ0_5b hc, ↓xQ0_6b hc, ↓xQ1_0b hc, ↓xQ1_1b hc, ↓xQ1_2b hc, ↓xQ1_3b hc, ↓xQ66_0b hc, ↓xQ66_1b hc, ↓xQ68_0b hc, ↓xQ68_1b hc, ↓xQ68_2b hc, ↓xQ68_3b hc, ↓xQ115_0b hc, ↓xQ115_1b hc, ↓xQ115_2b hc, ↓xQ115_3b hc, ↓xQ115_4b hc, ↓xQ115_5b hc, ↓xQ115_6b hc, ↓xQ120_0b hc, ↓xQ120_1b hc, ↓xQ120_2b hc, ↓xQ120_3b hc, ↓xQ125_0b hc, ↓xQ125_1b hc, ↓xQ127_0b hc, ↓xQ127_1b hc, ↓xQ127_2b hc, ↓xQ127_3b hc, ↓xQ127_4b hc, ↓xQ127_5b hc, ↓xD0 hc, ↓xD1 hc, ↓xD66 hc, ↓xD68 hc, ↓xD115 hc, ↓xD120 hc, ↓xD121 hc, ↓xD125 hc, ↓xD127 hc, ↓if_neg, ↓if_pos, ↓bde (h.h.shopAt hc _), q1, hR, ↓bde (eB_isWithin _ _ _ _), q2, ↓bde e1, h.p.many]
          · simp (disch := omega) only [↓zcs, ↓zcn, ↓mD, ↓Option.bind_some, ↓zb_some, ↓zrz0b, ↓zrz1b, ↓zckb, zrz0, zrz1, ↓reduceIte, ↓mIb, ↓mPb, ↓zck_ofb, ↓mPob, ↓mQ1b, ↓mRo1b, ↓mWo1b, ↓mQ3b, ↓mRo2b, ↓mWo2b, ↓mQ4b, ↓mRo3b, ↓mWo3b, ↓mQ8b, ↓mRo4b, ↓mWo4b, ↓mQ9b, ↓mRo5b, ↓mWo5b, ↓mQ10b, ↓mRo6b, ↓mWo6b, ↓mQ11b, ↓mRo7b, ↓mWo7b, ↓mQ12b, ↓mRo8b, ↓mWo8b, ↓mQ13b, ↓mRo9b, ↓mWo9b, ↓mQ14b, ↓mRo10b, ↓mWo10b, ↓mQ17b, ↓mRo11b, ↓mWo11b, ↓mQ19b, ↓mRo12b, ↓mWo12b, ↓mQ20b, ↓mRo13b, ↓mWo13b, ↓mQ23b, ↓mRo14b, ↓mWo14b, ↓mQ24b, ↓mRo15b, ↓mWo15b, ↓mQ26b, ↓mRo16b, ↓mWo16b, ↓mQ27b, ↓mRo17b, ↓mWo17b, ↓mQ28b, ↓mRo18b, ↓mWo18b, ↓mQ29b, ↓mRo19b, ↓mWo19b, ↓mQ30b, ↓mRo20b, ↓mWo20b, ↓mQ32b, ↓mRo21b, ↓mWo21b, ↓mQ33b, ↓mRo22b, ↓mWo22b, ↓mQ34b, ↓mRo23b, ↓mWo23b, ↓mQ35b, ↓mRo24b, ↓mWo24b, ↓mQ36b, ↓mRo25b, ↓mWo25b, ↓mQ37b, ↓mRo26b, ↓mWo26b, ↓mQ38b, ↓mRo27b, ↓mWo27b, ↓mQ39b, ↓mRo28b, ↓mWo28b, ↓mQ40b, ↓mRo29b, ↓mWo29b, ↓mQ41b, ↓mRo30b, ↓mWo30b, ↓mQ43b, ↓mRo31b, ↓mWo31b, ↓mQ44b, ↓mRo32b, ↓mWo32b, ↓mQ45b, ↓mRo33b, ↓mWo33b, ↓mQ46b, ↓mRo34b, ↓mWo34b, ↓mQ47b, ↓mRo35b, ↓mWo35b, ↓mQ48b, ↓mRo36b, ↓mWo36b, ↓mQ50b, ↓mRo37b, ↓mWo37b, ↓mQ51b, ↓mRo38b, ↓mWo38b, ↓mQ52b, ↓mRo39b, ↓mWo39b, ↓if_pos, ↓if_neg, ↓bde (eM_isShop _), q1, ↓bde (eM_within _ _ _ _), q2, ti]
        · have tL : ((g 0 49).toNat : Int) = g 0 49 := by omega
          obtain ⟨s, V', f1, f2, f3, f4, f5, f6, f7, f8⟩ := add_loop (FU := zFU) (N := N) (R := R) (K := K) hc (L := (g 0 49).toNat) (p := i) (w := a2) (by omega) V h.p.rise (g 0 49).toNat zFU V (by omega) (by unfold zFU; omega) (by rw [h.p.many]; omega) (fun _ _ _ => rfl) (fun j => by rw [if_neg (by omega)]) (fun j => by rw [if_neg (by omega)]) (fun t h1 h2 => absurd h2 (by omega))
          rw [tL] at f1
          have hno : ∀ t, t < (g 0 49).toNat → V (0, 128, 0) t ≠ (i : Int) := fun t ht z => by
            have l := h.p.load t ht
            rw [z, ti] at l
            omega
          refine ⟨g 0 49 + 1, zX x c N V' R K, zG m N' (gu (gu g 36 i a2) 0 49 (g 0 49 + 1)), ?_, ?_, INV.intro (W := W) ?_⟩
          · simp (disch := omega) only [↓zcs, ↓zcn, ↓Option.bind_some, ↓zb_some, ↓zrz0b, ↓zrz1b, ↓zckb, zrz0, zrz1, ↓reduceIte, ↓xI0b hc, ↓xP0b hc, ↓xI1b hc, ↓xP1b hc, ↓xI66b hc, ↓xP66b hc, ↓xI68b hc, ↓xP68b hc, ↓xI115b hc, ↓xP115b hc, ↓xI120b hc, ↓xP120b hc, ↓xI121b hc, ↓xP121b hc, ↓xI125b hc, ↓xP125b hc, ↓xI127b hc, ↓xP127b hc, ↓xN2b hc, ↓xRo2b hc, ↓xWo2b hc, ↓xN65b hc, ↓xRo65b hc, ↓xWo65b hc, ↓xN113b hc, ↓xRo113b hc, ↓xWo113b hc, ↓xN114b hc, ↓xRo114b hc, ↓xWo114b hc, ↓xN116b hc, ↓xRo116b hc, ↓xWo116b hc, ↓xN117b hc, ↓xRo117b hc, ↓xWo117b hc, ↓xN118b hc, ↓xRo118b hc, ↓xWo118b hc, ↓xN119b hc, ↓xRo119b hc, ↓xWo119b hc, ↓xN122b hc, ↓xRo122b hc, ↓xWo122b hc, ↓xN124b hc, ↓xRo124b hc, ↓xWo124b hc, ↓xN126b hc, ↓xRo126b hc, ↓xWo126b hc, ↓xN128b hc, ↓xRo128b hc, ↓xWo128b hc, ↓xN129b hc, ↓xRo129b hc, ↓xWo129b hc, ↓xN130b hc, ↓xRo130b hc, ↓xWo130b hc, ↓xN131b hc, ↓xRo131b hc, ↓xWo131b hc, ↓xN132b hc, ↓xRo132b hc, ↓xWo132b hc, ↓xN133b hc, ↓xRo133b hc, ↓xWo133b hc, ↓xN67b hc, ↓xAo67b hc, ↓xN123b hc, ↓xAo123b hc, ↓xN3b hc, ↓xAo3b hc, ↓xN34b hc, ↓xAo34b hc, ↓xN69b hc, ↓xAo69b hc, ↓xQ0_0b hc, ↓xQ0_1b hc, ↓xQ0_2b hc, ↓xQ0_3b hc, ↓xQ0_4b hc, ↓xQ0_5b hc, ↓xQ0_6b hc, ↓xQ1_0b hc, ↓xQ1_1b hc, ↓xQ1_2b hc, ↓xQ1_3b hc, ↓xQ66_0b hc, ↓xQ66_1b hc, ↓xQ68_0b hc, ↓xQ68_1b hc, ↓xQ68_2b hc, ↓xQ68_3b hc, ↓xQ115_0b hc, ↓xQ115_1b hc, ↓xQ115_2b hc, ↓xQ115_3b hc, ↓xQ115_4b hc, ↓xQ115_5b hc, ↓xQ115_6b hc, ↓xQ120_0b hc, ↓xQ120_1b hc, ↓xQ120_2b hc, ↓xQ120_3b hc, ↓xQ125_0b hc, ↓xQ125_1b hc, ↓xQ127_0b hc, ↓xQ127_1b hc, ↓xQ127_2b hc, ↓xQ127_3b hc, ↓xQ127_4b hc, ↓xQ127_5b hc, ↓xD0 hc, ↓xD1 hc, ↓xD66 hc, ↓xD68 hc, ↓xD115 hc, ↓xD120 hc, ↓xD121 hc, ↓xD125 hc, ↓xD127 hc, ↓if_neg, ↓if_pos, ↓bde (h.h.shopAt hc _), q1, hR, ↓bde (eB_isWithin _ _ _ _), q2, ↓bde e1, h.p.many, ↓zbe f1]
          · simp (disch := omega) only [↓zcs, ↓zcn, ↓mD, ↓Option.bind_some, ↓zb_some, ↓zrz0b, ↓zrz1b, ↓zckb, zrz0, zrz1, ↓reduceIte, ↓mIb, ↓mPb, ↓zck_ofb, ↓mPob, ↓mQ1b, ↓mRo1b, ↓mWo1b, ↓mQ3b, ↓mRo2b, ↓mWo2b, ↓mQ4b, ↓mRo3b, ↓mWo3b, ↓mQ8b, ↓mRo4b, ↓mWo4b, ↓mQ9b, ↓mRo5b, ↓mWo5b, ↓mQ10b, ↓mRo6b, ↓mWo6b, ↓mQ11b, ↓mRo7b, ↓mWo7b, ↓mQ12b, ↓mRo8b, ↓mWo8b, ↓mQ13b, ↓mRo9b, ↓mWo9b, ↓mQ14b, ↓mRo10b, ↓mWo10b, ↓mQ17b, ↓mRo11b, ↓mWo11b, ↓mQ19b, ↓mRo12b, ↓mWo12b, ↓mQ20b, ↓mRo13b, ↓mWo13b, ↓mQ23b, ↓mRo14b, ↓mWo14b, ↓mQ24b, ↓mRo15b, ↓mWo15b, ↓mQ26b, ↓mRo16b, ↓mWo16b, ↓mQ27b, ↓mRo17b, ↓mWo17b, ↓mQ28b, ↓mRo18b, ↓mWo18b, ↓mQ29b, ↓mRo19b, ↓mWo19b, ↓mQ30b, ↓mRo20b, ↓mWo20b, ↓mQ32b, ↓mRo21b, ↓mWo21b, ↓mQ33b, ↓mRo22b, ↓mWo22b, ↓mQ34b, ↓mRo23b, ↓mWo23b, ↓mQ35b, ↓mRo24b, ↓mWo24b, ↓mQ36b, ↓mRo25b, ↓mWo25b, ↓mQ37b, ↓mRo26b, ↓mWo26b, ↓mQ38b, ↓mRo27b, ↓mWo27b, ↓mQ39b, ↓mRo28b, ↓mWo28b, ↓mQ40b, ↓mRo29b, ↓mWo29b, ↓mQ41b, ↓mRo30b, ↓mWo30b, ↓mQ43b, ↓mRo31b, ↓mWo31b, ↓mQ44b, ↓mRo32b, ↓mWo32b, ↓mQ45b, ↓mRo33b, ↓mWo33b, ↓mQ46b, ↓mRo34b, ↓mWo34b, ↓mQ47b, ↓mRo35b, ↓mWo35b, ↓mQ48b, ↓mRo36b, ↓mWo36b, ↓mQ50b, ↓mRo37b, ↓mWo37b, ↓mQ51b, ↓mRo38b, ↓mWo38b, ↓mQ52b, ↓mRo39b, ↓mWo39b, ↓if_pos, ↓if_neg, ↓bde (eM_isShop _), q1, ↓bde (eM_within _ _ _ _), q2, ti, gu_row]
            simp [zgu]
          · refine h.skip.put (W' := W) (fun a => a == 10) (fun key j q0 q => ?_) (by first | (intro key i q0 q; rfl) | (intro key i q0 q; (try simp only [zgu]); (repeat' split) <;> first | rfl | (rename_i z; obtain ⟨z1, z2⟩ := z; subst z1; subst z2; first | exact absurd (show true = false from q) (by decide) | exact absurd rfl q0))) (p := fun _ => ?_)
            · by_cases k7 : key = (0, 127, 0)
              · subst k7
                rw [f4 j]
                by_cases j6 : j = 6
                · subst j6; exact absurd (show true = false from q) (by decide)
                · rw [if_neg j6]
              · rw [f3 key (fun z => by subst z; exact absurd (show true = false from q) (by decide)) (fun z => by subst z; exact absurd (show true = false from q) (by decide)) k7]
            · have r128 := f5; have r129 := f6
              have g49 : gu (gu g 36 i a2) 0 49 (g 0 49 + 1) 0 49 = g 0 49 + 1 := rfl
              have g15 : gu (gu g 36 i a2) 0 49 (g 0 49 + 1) 0 15 = g 0 15 := rfl
              have g36 : ∀ j, gu (gu g 36 i a2) 0 49 (g 0 49 + 1) 36 j = if j = i then a2 else g 36 j := fun j => by simp [zgu]
              have g38 : gu (gu g 36 i a2) 0 49 (g 0 49 + 1) 38 = g 38 := by rw [gu_row (by decide), gu_row (by decide)]
              have g39 : gu (gu g 36 i a2) 0 49 (g 0 49 + 1) 39 = g 39 := by rw [gu_row (by decide), gu_row (by decide)]
              have L1 : (g 0 49 + 1).toNat = (g 0 49).toNat + 1 := by omega
              unfold IP
              rw [g49, g15, g38, g39, L1, f4 6, f4 7, f3 (0, 132, 0) (by simp) (by simp) (by simp), f3 (0, 133, 0) (by simp) (by simp) (by simp)]
              refine ⟨by rw [if_pos rfl]; omega, by omega, fun t ht => ?_, fun t u htu hu => ?_, fun t ht => ?_, fun j hj hjn => ?_, h.p.packed0, h.p.cart, h.p.none_, h.p.held⟩
              · rw [f5 t]
                by_cases z1 : t = s
                · rw [if_pos z1]; omega
                · rw [if_neg z1]
                  by_cases z2 : s < t ∧ t ≤ (g 0 49).toNat
                  · rw [if_pos z2]; exact h.p.shop (t - 1) (by omega)
                  · rw [if_neg z2]; exact h.p.shop t (by omega)
              · have a1 := fun z => f7 u z
                have b1 := fun z => f8 t z
                have c1 := hno t
                rw [f5 t, f5 u]
                by_cases z1 : t = s
                · rw [if_pos z1, if_neg (by omega), if_pos (by omega)]
                  exact f7 (u - 1) (by omega) (by omega)
                · rw [if_neg z1]
                  by_cases z2 : s < t ∧ t ≤ (g 0 49).toNat
                  · rw [if_pos z2, if_neg (by omega), if_pos (by omega)]
                    exact h.p.rise (t - 1) (u - 1) (by omega) (by omega)
                  · rw [if_neg z2]
                    by_cases z3 : u = s
                    · rw [if_pos z3]
                      have := f8 t (by omega)
                      have := hno t (by omega)
                      omega
                    · rw [if_neg z3]
                      by_cases z4 : s < u ∧ u ≤ (g 0 49).toNat
                      · rw [if_pos z4]
                        have := f8 t (by omega)
                        have := f7 (u - 1) (by omega) (by omega)
                        omega
                      · rw [if_neg z4]
                        exact h.p.rise t u htu (by omega)
              · rw [f5 t, f6 t, g36]
                by_cases z1 : t = s
                · rw [if_pos z1, if_pos z1, if_pos ti]; omega
                · rw [if_neg z1, if_neg z1]
                  by_cases z2 : s < t ∧ t ≤ (g 0 49).toNat
                  · rw [if_pos z2, if_pos z2]
                    have := h.p.load (t - 1) (by omega)
                    have z3 := hno (t - 1) (by omega)
                    have := h.p.shop (t - 1) (by omega)
                    rw [if_neg (by omega)]
                    exact h.p.load (t - 1) (by omega)
                  · rw [if_neg z2, if_neg z2]
                    have z3 := hno t (by omega)
                    have := h.p.shop t (by omega)
                    rw [if_neg (by omega)]
                    exact h.p.load t (by omega)
              · rw [g36]
                have z0 := hjn s (by omega)
                rw [f5 s, if_pos rfl] at z0
                rw [if_neg (by omega)]
                refine h.p.rest j hj (fun t ht z => ?_)
                by_cases z1 : t < s
                · have := hjn t (by omega)
                  rw [f5 t, if_neg (by omega), if_neg (by omega)] at this
                  exact this z
                · have := hjn (t + 1) (by omega)
                  rw [f5 (t + 1), if_neg (by omega), if_pos (by omega)] at this
                  exact this z
    · refine ⟨-1, zX x c N V R K, zG m N' g, ?_, ?_, INV.intro h.skip⟩
      · simp (disch := omega) only [↓zcs, ↓zcn, ↓Option.bind_some, ↓zb_some, ↓zrz0b, ↓zrz1b, ↓zckb, zrz0, zrz1, ↓reduceIte, ↓xI0b hc, ↓xP0b hc, ↓xI1b hc, ↓xP1b hc, ↓xI66b hc, ↓xP66b hc, ↓xI68b hc, ↓xP68b hc, ↓xI115b hc, ↓xP115b hc, ↓xI120b hc, ↓xP120b hc, ↓xI121b hc, ↓xP121b hc, ↓xI125b hc, ↓xP125b hc, ↓xI127b hc, ↓xP127b hc, ↓xN2b hc, ↓xRo2b hc, ↓xWo2b hc, ↓xN65b hc, ↓xRo65b hc, ↓xWo65b hc, ↓xN113b hc, ↓xRo113b hc, ↓xWo113b hc, ↓xN114b hc, ↓xRo114b hc, ↓xWo114b hc, ↓xN116b hc, ↓xRo116b hc, ↓xWo116b hc, ↓xN117b hc, ↓xRo117b hc, ↓xWo117b hc, ↓xN118b hc, ↓xRo118b hc, ↓xWo118b hc, ↓xN119b hc, ↓xRo119b hc, ↓xWo119b hc, ↓xN122b hc, ↓xRo122b hc, ↓xWo122b hc, ↓xN124b hc, ↓xRo124b hc, ↓xWo124b hc, ↓xN126b hc, ↓xRo126b hc, ↓xWo126b hc, ↓xN128b hc, ↓xRo128b hc, ↓xWo128b hc, ↓xN129b hc, ↓xRo129b hc, ↓xWo129b hc, ↓xN130b hc, ↓xRo130b hc, ↓xWo130b hc, ↓xN131b hc, ↓xRo131b hc, ↓xWo131b hc, ↓xN132b hc, ↓xRo132b hc, ↓xWo132b hc, ↓xN133b hc, ↓xRo133b hc, ↓xWo133b hc, ↓xN67b hc, ↓xAo67b hc, ↓xN123b hc, ↓xAo123b hc, ↓xN3b hc, ↓xAo3b hc, ↓xN34b hc, ↓xAo34b hc, ↓xN69b hc, ↓xAo69b hc, ↓xQ0_0b hc, ↓xQ0_1b hc, ↓xQ0_2b hc, ↓xQ0_3b hc, ↓xQ0_4b hc, ↓xQ0_5b hc, ↓xQ0_6b hc, ↓xQ1_0b hc, ↓xQ1_1b hc, ↓xQ1_2b hc, ↓xQ1_3b hc, ↓xQ66_0b hc, ↓xQ66_1b hc, ↓xQ68_0b hc, ↓xQ68_1b hc, ↓xQ68_2b hc, ↓xQ68_3b hc, ↓xQ115_0b hc, ↓xQ115_1b hc, ↓xQ115_2b hc, ↓xQ115_3b hc, ↓xQ115_4b hc, ↓xQ115_5b hc, ↓xQ115_6b hc, ↓xQ120_0b hc, ↓xQ120_1b hc, ↓xQ120_2b hc, ↓xQ120_3b hc, ↓xQ125_0b hc, ↓xQ125_1b hc, ↓xQ127_0b hc, ↓xQ127_1b hc, ↓xQ127_2b hc, ↓xQ127_3b hc, ↓xQ127_4b hc, ↓xQ127_5b hc, ↓xD0 hc, ↓xD1 hc, ↓xD66 hc, ↓xD68 hc, ↓xD115 hc, ↓xD120 hc, ↓xD121 hc, ↓xD125 hc, ↓xD127 hc, ↓if_neg, ↓if_pos, ↓bde (h.h.shopAt hc _), q1, hR, ↓bde (eB_isWithin _ _ _ _), q2]
      · simp (disch := omega) only [↓zcs, ↓zcn, ↓mD, ↓Option.bind_some, ↓zb_some, ↓zrz0b, ↓zrz1b, ↓zckb, zrz0, zrz1, ↓reduceIte, ↓mIb, ↓mPb, ↓zck_ofb, ↓mPob, ↓mQ1b, ↓mRo1b, ↓mWo1b, ↓mQ3b, ↓mRo2b, ↓mWo2b, ↓mQ4b, ↓mRo3b, ↓mWo3b, ↓mQ8b, ↓mRo4b, ↓mWo4b, ↓mQ9b, ↓mRo5b, ↓mWo5b, ↓mQ10b, ↓mRo6b, ↓mWo6b, ↓mQ11b, ↓mRo7b, ↓mWo7b, ↓mQ12b, ↓mRo8b, ↓mWo8b, ↓mQ13b, ↓mRo9b, ↓mWo9b, ↓mQ14b, ↓mRo10b, ↓mWo10b, ↓mQ17b, ↓mRo11b, ↓mWo11b, ↓mQ19b, ↓mRo12b, ↓mWo12b, ↓mQ20b, ↓mRo13b, ↓mWo13b, ↓mQ23b, ↓mRo14b, ↓mWo14b, ↓mQ24b, ↓mRo15b, ↓mWo15b, ↓mQ26b, ↓mRo16b, ↓mWo16b, ↓mQ27b, ↓mRo17b, ↓mWo17b, ↓mQ28b, ↓mRo18b, ↓mWo18b, ↓mQ29b, ↓mRo19b, ↓mWo19b, ↓mQ30b, ↓mRo20b, ↓mWo20b, ↓mQ32b, ↓mRo21b, ↓mWo21b, ↓mQ33b, ↓mRo22b, ↓mWo22b, ↓mQ34b, ↓mRo23b, ↓mWo23b, ↓mQ35b, ↓mRo24b, ↓mWo24b, ↓mQ36b, ↓mRo25b, ↓mWo25b, ↓mQ37b, ↓mRo26b, ↓mWo26b, ↓mQ38b, ↓mRo27b, ↓mWo27b, ↓mQ39b, ↓mRo28b, ↓mWo28b, ↓mQ40b, ↓mRo29b, ↓mWo29b, ↓mQ41b, ↓mRo30b, ↓mWo30b, ↓mQ43b, ↓mRo31b, ↓mWo31b, ↓mQ44b, ↓mRo32b, ↓mWo32b, ↓mQ45b, ↓mRo33b, ↓mWo33b, ↓mQ46b, ↓mRo34b, ↓mWo34b, ↓mQ47b, ↓mRo35b, ↓mWo35b, ↓mQ48b, ↓mRo36b, ↓mWo36b, ↓mQ50b, ↓mRo37b, ↓mWo37b, ↓mQ51b, ↓mRo38b, ↓mWo38b, ↓mQ52b, ↓mRo39b, ↓mWo39b, ↓if_pos, ↓if_neg, ↓bde (eM_isShop _), q1, ↓bde (eM_within _ _ _ _), q2]
end OPI
