/-! ===== the class's town ===== -/
theorem ku_row {V : Key → Nat → Int} {q a : Key} {i : Nat} {v : Int} (h : a ≠ q) : ku V q i v a = V a := funext fun b => by unfold ku; rw [if_neg (fun z => h z.1)]
theorem ku_at {V : Key → Nat → Int} {q : Key} {i b : Nat} {v : Int} : ku V q i v q b = if b = i then v else V q b := by unfold ku; simp
theorem zku {V : Key → Nat → Int} {q a : Key} {i b : Nat} {v : Int} : ku V q i v a b = if a = q ∧ b = i then v else V a b := rfl
theorem eB_isWithin {FU : Nat} (a b d : Int) (G : Hp) : FB_isWithin FU a b d G = some (if b ≤ a ∧ a ≤ d then 1 else 0) := by
  unfold FB_isWithin
  by_cases h1 : a < b
  · rw [if_pos h1, if_neg (by omega)]; rfl
  · rw [if_neg h1]
    by_cases h2 : a ≤ d
    · rw [if_pos h2, if_pos (by omega)]; rfl
    · rw [if_neg h2, if_neg (by omega)]; rfl
theorem eM_within {FU : Nat} (a b d : Int) (G : Hp) : FM_within FU a b d G = some (if b ≤ a ∧ a ≤ d then 1 else 0) := by
  unfold FM_within
  by_cases h1 : a < b
  · rw [if_pos h1, if_neg (by omega)]; rfl
  · rw [if_neg h1]
    by_cases h2 : a ≤ d
    · rw [if_pos h2, if_pos (by omega)]; rfl
    · rw [if_neg h2, if_neg (by omega)]; rfl
section TN
variable {x N FU : Nat} {c : Nat → Key} {V : Key → Nat → Int} {R : Key → Nat → Option Nat} {K : Key → Option (Nat × Nat)}
theorem eB_at {q n : Nat} {key : Key} {i : Int} (hq : c q = key) (hk : zk (zX x c N V R K) q = some (20, n)) (hi : 0 ≤ i ∧ i < (n : Int)) : FB_at FU q i (zX x c N V R K) = some (V key i.toNat) := by
  unfold FB_at
  rw [if_neg (by omega), xNk hk, Option.bind_some, if_pos hi.2, xRk hq hk, if_pos hi]
  rfl
theorem eB_put (h : CX x c) {q n : Nat} {key : Key} {i v : Int} (hq : c q = key) (hk : zk (zX x c N V R K) q = some (20, n)) (hi : 0 ≤ i ∧ i < (n : Int)) : FB_put FU q i v (zX x c N V R K) = some ((), zX x c N (ku V key i.toNat v) R K) := by
  unfold FB_put
  rw [if_neg (by omega), xNk hk, Option.bind_some, if_pos hi.2, xWk h hq hk, if_pos hi]
  rfl
theorem eT_hasPlace (hc : CX x c) (p : Int) : FTown_hasPlace FU (x + 1) p (zX x c N V R K) = some (if 0 ≤ p ∧ p < V (0, 1, 0) 4 then 1 else 0) := by
  unfold FTown_hasPlace FTown_hasPlace_b
  simp (disch := omega) only [Option.bind_some, zb_some, zrz0, zrz1, zck_of, xI0 hc, xP0 hc, xD0 hc, xI1 hc, xP1 hc, xD1 hc, xI66 hc, xP66 hc, xD66 hc, xI68 hc, xP68 hc, xD68 hc, xI115 hc, xP115 hc, xD115 hc, xI120 hc, xP120 hc, xD120 hc, xI121 hc, xP121 hc, xD121 hc, xI125 hc, xP125 hc, xD125 hc, xI127 hc, xP127 hc, xD127 hc, xQ0_0 hc, xQ0_1 hc, xQ0_2 hc, xQ0_3 hc, xQ0_4 hc, xQ0_5 hc, xQ0_6 hc, xQ1_0 hc, xQ1_1 hc, xQ1_2 hc, xQ1_3 hc, xQ66_0 hc, xQ66_1 hc, xQ68_0 hc, xQ68_1 hc, xQ68_2 hc, xQ68_3 hc, xQ115_0 hc, xQ115_1 hc, xQ115_2 hc, xQ115_3 hc, xQ115_4 hc, xQ115_5 hc, xQ115_6 hc, xQ120_0 hc, xQ120_1 hc, xQ120_2 hc, xQ120_3 hc, xQ125_0 hc, xQ125_1 hc, xQ127_0 hc, xQ127_1 hc, xQ127_2 hc, xQ127_3 hc, xQ127_4 hc, xQ127_5 hc, xRo2 hc, xWo2 hc, xN2 hc, xRo65 hc, xWo65 hc, xN65 hc, xRo113 hc, xWo113 hc, xN113 hc, xRo114 hc, xWo114 hc, xN114 hc, xRo116 hc, xWo116 hc, xN116 hc, xRo117 hc, xWo117 hc, xN117 hc, xRo118 hc, xWo118 hc, xN118 hc, xRo119 hc, xWo119 hc, xN119 hc, xRo122 hc, xWo122 hc, xN122 hc, xRo124 hc, xWo124 hc, xN124 hc, xRo126 hc, xWo126 hc, xN126 hc, xRo128 hc, xWo128 hc, xN128 hc, xRo129 hc, xWo129 hc, xN129 hc, xRo130 hc, xWo130 hc, xN130 hc, xRo131 hc, xWo131 hc, xN131 hc, xRo132 hc, xWo132 hc, xN132 hc, xRo133 hc, xWo133 hc, xN133 hc, xN67 hc, xAo67 hc, xN123 hc, xAo123 hc, xN3 hc, xAo3 hc, xN34 hc, xAo34 hc, xN69 hc, xAo69 hc]
  by_cases h1 : p < 0
  · rw [if_pos h1, if_neg (by omega)]
  · rw [if_neg h1]
    by_cases h2 : p < V (0, 1, 0) 4
    · rw [if_pos h2, if_pos (by omega)]
    · rw [if_neg h2, if_neg (by omega)]
theorem eT_way (hc : CX x c) {a b : Int} (ha : 0 ≤ a ∧ a < 30) (hb : 0 ≤ b ∧ b < 30) : FTown_wayBetween FU (x + 1) a b (zX x c N V R K) = some (V (0, 35 + a.toNat, 0) b.toNat) := by
  unfold FTown_wayBetween FTown_wayBetween_b FTown_cell
  have h1 : a.toNat < 30 := by omega
  simp (disch := omega) only [Option.bind_some, zb_some, zrz0, zrz1, zck_of, xI0 hc, xP0 hc, xD0 hc, xI1 hc, xP1 hc, xD1 hc, xI66 hc, xP66 hc, xD66 hc, xI68 hc, xP68 hc, xD68 hc, xI115 hc, xP115 hc, xD115 hc, xI120 hc, xP120 hc, xD120 hc, xI121 hc, xP121 hc, xD121 hc, xI125 hc, xP125 hc, xD125 hc, xI127 hc, xP127 hc, xD127 hc, xQ0_0 hc, xQ0_1 hc, xQ0_2 hc, xQ0_3 hc, xQ0_4 hc, xQ0_5 hc, xQ0_6 hc, xQ1_0 hc, xQ1_1 hc, xQ1_2 hc, xQ1_3 hc, xQ66_0 hc, xQ66_1 hc, xQ68_0 hc, xQ68_1 hc, xQ68_2 hc, xQ68_3 hc, xQ115_0 hc, xQ115_1 hc, xQ115_2 hc, xQ115_3 hc, xQ115_4 hc, xQ115_5 hc, xQ115_6 hc, xQ120_0 hc, xQ120_1 hc, xQ120_2 hc, xQ120_3 hc, xQ125_0 hc, xQ125_1 hc, xQ127_0 hc, xQ127_1 hc, xQ127_2 hc, xQ127_3 hc, xQ127_4 hc, xQ127_5 hc, xRo2 hc, xWo2 hc, xN2 hc, xRo65 hc, xWo65 hc, xN65 hc, xRo113 hc, xWo113 hc, xN113 hc, xRo114 hc, xWo114 hc, xN114 hc, xRo116 hc, xWo116 hc, xN116 hc, xRo117 hc, xWo117 hc, xN117 hc, xRo118 hc, xWo118 hc, xN118 hc, xRo119 hc, xWo119 hc, xN119 hc, xRo122 hc, xWo122 hc, xN122 hc, xRo124 hc, xWo124 hc, xN124 hc, xRo126 hc, xWo126 hc, xN126 hc, xRo128 hc, xWo128 hc, xN128 hc, xRo129 hc, xWo129 hc, xN129 hc, xRo130 hc, xWo130 hc, xN130 hc, xRo131 hc, xWo131 hc, xN131 hc, xRo132 hc, xWo132 hc, xN132 hc, xRo133 hc, xWo133 hc, xN133 hc, xN67 hc, xAo67 hc, xN123 hc, xAo123 hc, xN3 hc, xAo3 hc, xN34 hc, xAo34 hc, xN69 hc, xAo69 hc, if_neg, if_pos, xNr34 hc _ h1, xRr34 hc _ h1]
theorem eT_cellL (hc : CX x c) {a b : Int} (ha : 0 ≤ a ∧ a < 30) (hb : 0 ≤ b ∧ b < 30) : FTown_cell FU (x + 3) a b (zX x c N V R K) = some (V (0, 4 + a.toNat, 0) b.toNat) := by
  unfold FTown_cell
  have h1 : a.toNat < 30 := by omega
  simp (disch := omega) only [Option.bind_some, zb_some, zrz0, zrz1, zck_of, xI0 hc, xP0 hc, xD0 hc, xI1 hc, xP1 hc, xD1 hc, xI66 hc, xP66 hc, xD66 hc, xI68 hc, xP68 hc, xD68 hc, xI115 hc, xP115 hc, xD115 hc, xI120 hc, xP120 hc, xD120 hc, xI121 hc, xP121 hc, xD121 hc, xI125 hc, xP125 hc, xD125 hc, xI127 hc, xP127 hc, xD127 hc, xQ0_0 hc, xQ0_1 hc, xQ0_2 hc, xQ0_3 hc, xQ0_4 hc, xQ0_5 hc, xQ0_6 hc, xQ1_0 hc, xQ1_1 hc, xQ1_2 hc, xQ1_3 hc, xQ66_0 hc, xQ66_1 hc, xQ68_0 hc, xQ68_1 hc, xQ68_2 hc, xQ68_3 hc, xQ115_0 hc, xQ115_1 hc, xQ115_2 hc, xQ115_3 hc, xQ115_4 hc, xQ115_5 hc, xQ115_6 hc, xQ120_0 hc, xQ120_1 hc, xQ120_2 hc, xQ120_3 hc, xQ125_0 hc, xQ125_1 hc, xQ127_0 hc, xQ127_1 hc, xQ127_2 hc, xQ127_3 hc, xQ127_4 hc, xQ127_5 hc, xRo2 hc, xWo2 hc, xN2 hc, xRo65 hc, xWo65 hc, xN65 hc, xRo113 hc, xWo113 hc, xN113 hc, xRo114 hc, xWo114 hc, xN114 hc, xRo116 hc, xWo116 hc, xN116 hc, xRo117 hc, xWo117 hc, xN117 hc, xRo118 hc, xWo118 hc, xN118 hc, xRo119 hc, xWo119 hc, xN119 hc, xRo122 hc, xWo122 hc, xN122 hc, xRo124 hc, xWo124 hc, xN124 hc, xRo126 hc, xWo126 hc, xN126 hc, xRo128 hc, xWo128 hc, xN128 hc, xRo129 hc, xWo129 hc, xN129 hc, xRo130 hc, xWo130 hc, xN130 hc, xRo131 hc, xWo131 hc, xN131 hc, xRo132 hc, xWo132 hc, xN132 hc, xRo133 hc, xWo133 hc, xN133 hc, xN67 hc, xAo67 hc, xN123 hc, xAo123 hc, xN3 hc, xAo3 hc, xN34 hc, xAo34 hc, xN69 hc, xAo69 hc, if_neg, if_pos, xNr3 hc _ h1, xRr3 hc _ h1]
theorem eT_setL (hc : CX x c) {a b v : Int} (ha : 0 ≤ a ∧ a < 30) (hb : 0 ≤ b ∧ b < 30) : FTown_setCell FU (x + 3) a b v (zX x c N V R K) = some ((), zX x c N (ku V (0, 4 + a.toNat, 0) b.toNat v) R K) := by
  unfold FTown_setCell
  have h1 : a.toNat < 30 := by omega
  simp (disch := omega) only [Option.bind_some, zb_some, zrz0, zrz1, zck_of, xI0 hc, xP0 hc, xD0 hc, xI1 hc, xP1 hc, xD1 hc, xI66 hc, xP66 hc, xD66 hc, xI68 hc, xP68 hc, xD68 hc, xI115 hc, xP115 hc, xD115 hc, xI120 hc, xP120 hc, xD120 hc, xI121 hc, xP121 hc, xD121 hc, xI125 hc, xP125 hc, xD125 hc, xI127 hc, xP127 hc, xD127 hc, xQ0_0 hc, xQ0_1 hc, xQ0_2 hc, xQ0_3 hc, xQ0_4 hc, xQ0_5 hc, xQ0_6 hc, xQ1_0 hc, xQ1_1 hc, xQ1_2 hc, xQ1_3 hc, xQ66_0 hc, xQ66_1 hc, xQ68_0 hc, xQ68_1 hc, xQ68_2 hc, xQ68_3 hc, xQ115_0 hc, xQ115_1 hc, xQ115_2 hc, xQ115_3 hc, xQ115_4 hc, xQ115_5 hc, xQ115_6 hc, xQ120_0 hc, xQ120_1 hc, xQ120_2 hc, xQ120_3 hc, xQ125_0 hc, xQ125_1 hc, xQ127_0 hc, xQ127_1 hc, xQ127_2 hc, xQ127_3 hc, xQ127_4 hc, xQ127_5 hc, xRo2 hc, xWo2 hc, xN2 hc, xRo65 hc, xWo65 hc, xN65 hc, xRo113 hc, xWo113 hc, xN113 hc, xRo114 hc, xWo114 hc, xN114 hc, xRo116 hc, xWo116 hc, xN116 hc, xRo117 hc, xWo117 hc, xN117 hc, xRo118 hc, xWo118 hc, xN118 hc, xRo119 hc, xWo119 hc, xN119 hc, xRo122 hc, xWo122 hc, xN122 hc, xRo124 hc, xWo124 hc, xN124 hc, xRo126 hc, xWo126 hc, xN126 hc, xRo128 hc, xWo128 hc, xN128 hc, xRo129 hc, xWo129 hc, xN129 hc, xRo130 hc, xWo130 hc, xN130 hc, xRo131 hc, xWo131 hc, xN131 hc, xRo132 hc, xWo132 hc, xN132 hc, xRo133 hc, xWo133 hc, xN133 hc, xN67 hc, xAo67 hc, xN123 hc, xAo123 hc, xN3 hc, xAo3 hc, xN34 hc, xAo34 hc, xN69 hc, xAo69 hc, if_neg, if_pos, eB_put hc (hc.2 (4 + a.toNat) (by omega)) (xKr3 hc _ h1) (i := b) (by omega)]
theorem eT_setW (hc : CX x c) {a b v : Int} (ha : 0 ≤ a ∧ a < 30) (hb : 0 ≤ b ∧ b < 30) : FTown_setCell FU (x + 34) a b v (zX x c N V R K) = some ((), zX x c N (ku V (0, 35 + a.toNat, 0) b.toNat v) R K) := by
  unfold FTown_setCell
  have h1 : a.toNat < 30 := by omega
  simp (disch := omega) only [Option.bind_some, zb_some, zrz0, zrz1, zck_of, xI0 hc, xP0 hc, xD0 hc, xI1 hc, xP1 hc, xD1 hc, xI66 hc, xP66 hc, xD66 hc, xI68 hc, xP68 hc, xD68 hc, xI115 hc, xP115 hc, xD115 hc, xI120 hc, xP120 hc, xD120 hc, xI121 hc, xP121 hc, xD121 hc, xI125 hc, xP125 hc, xD125 hc, xI127 hc, xP127 hc, xD127 hc, xQ0_0 hc, xQ0_1 hc, xQ0_2 hc, xQ0_3 hc, xQ0_4 hc, xQ0_5 hc, xQ0_6 hc, xQ1_0 hc, xQ1_1 hc, xQ1_2 hc, xQ1_3 hc, xQ66_0 hc, xQ66_1 hc, xQ68_0 hc, xQ68_1 hc, xQ68_2 hc, xQ68_3 hc, xQ115_0 hc, xQ115_1 hc, xQ115_2 hc, xQ115_3 hc, xQ115_4 hc, xQ115_5 hc, xQ115_6 hc, xQ120_0 hc, xQ120_1 hc, xQ120_2 hc, xQ120_3 hc, xQ125_0 hc, xQ125_1 hc, xQ127_0 hc, xQ127_1 hc, xQ127_2 hc, xQ127_3 hc, xQ127_4 hc, xQ127_5 hc, xRo2 hc, xWo2 hc, xN2 hc, xRo65 hc, xWo65 hc, xN65 hc, xRo113 hc, xWo113 hc, xN113 hc, xRo114 hc, xWo114 hc, xN114 hc, xRo116 hc, xWo116 hc, xN116 hc, xRo117 hc, xWo117 hc, xN117 hc, xRo118 hc, xWo118 hc, xN118 hc, xRo119 hc, xWo119 hc, xN119 hc, xRo122 hc, xWo122 hc, xN122 hc, xRo124 hc, xWo124 hc, xN124 hc, xRo126 hc, xWo126 hc, xN126 hc, xRo128 hc, xWo128 hc, xN128 hc, xRo129 hc, xWo129 hc, xN129 hc, xRo130 hc, xWo130 hc, xN130 hc, xRo131 hc, xWo131 hc, xN131 hc, xRo132 hc, xWo132 hc, xN132 hc, xRo133 hc, xWo133 hc, xN133 hc, xN67 hc, xAo67 hc, xN123 hc, xAo123 hc, xN3 hc, xAo3 hc, xN34 hc, xAo34 hc, xN69 hc, xAo69 hc, if_neg, if_pos, eB_put hc (hc.2 (35 + a.toNat) (by omega)) (xKr34 hc _ h1) (i := b) (by omega)]
theorem eT_offer (hc : CX x c) {a b s : Int} (ha : 0 ≤ a ∧ a < 30) (hb : 0 ≤ b ∧ b < 30) : FTown_offerWay FU (x + 1) a b s (zX x c N V R K) = some ((), zX x c N (ku V (0, 35 + a.toNat, 0) b.toNat (if s = -1 then V (0, 35 + a.toNat, 0) b.toNat else if V (0, 35 + a.toNat, 0) b.toNat = -1 then s else if s < V (0, 35 + a.toNat, 0) b.toNat then s else V (0, 35 + a.toNat, 0) b.toNat)) R K) := by
  have hid : ku V (0, 35 + a.toNat, 0) b.toNat (V (0, 35 + a.toNat, 0) b.toNat) = V := by
    funext p q
    unfold ku
    split
    · rename_i e; rw [e.1, e.2]
    · rfl
  unfold FTown_offerWay FTown_offerWay_b FTown_offerWay_B25
  simp (disch := omega) only [Option.bind_some, zb_some, zrz0, zrz1, zck_of, xI0 hc, xP0 hc, xD0 hc, xI1 hc, xP1 hc, xD1 hc, xI66 hc, xP66 hc, xD66 hc, xI68 hc, xP68 hc, xD68 hc, xI115 hc, xP115 hc, xD115 hc, xI120 hc, xP120 hc, xD120 hc, xI121 hc, xP121 hc, xD121 hc, xI125 hc, xP125 hc, xD125 hc, xI127 hc, xP127 hc, xD127 hc, xQ0_0 hc, xQ0_1 hc, xQ0_2 hc, xQ0_3 hc, xQ0_4 hc, xQ0_5 hc, xQ0_6 hc, xQ1_0 hc, xQ1_1 hc, xQ1_2 hc, xQ1_3 hc, xQ66_0 hc, xQ66_1 hc, xQ68_0 hc, xQ68_1 hc, xQ68_2 hc, xQ68_3 hc, xQ115_0 hc, xQ115_1 hc, xQ115_2 hc, xQ115_3 hc, xQ115_4 hc, xQ115_5 hc, xQ115_6 hc, xQ120_0 hc, xQ120_1 hc, xQ120_2 hc, xQ120_3 hc, xQ125_0 hc, xQ125_1 hc, xQ127_0 hc, xQ127_1 hc, xQ127_2 hc, xQ127_3 hc, xQ127_4 hc, xQ127_5 hc, xRo2 hc, xWo2 hc, xN2 hc, xRo65 hc, xWo65 hc, xN65 hc, xRo113 hc, xWo113 hc, xN113 hc, xRo114 hc, xWo114 hc, xN114 hc, xRo116 hc, xWo116 hc, xN116 hc, xRo117 hc, xWo117 hc, xN117 hc, xRo118 hc, xWo118 hc, xN118 hc, xRo119 hc, xWo119 hc, xN119 hc, xRo122 hc, xWo122 hc, xN122 hc, xRo124 hc, xWo124 hc, xN124 hc, xRo126 hc, xWo126 hc, xN126 hc, xRo128 hc, xWo128 hc, xN128 hc, xRo129 hc, xWo129 hc, xN129 hc, xRo130 hc, xWo130 hc, xN130 hc, xRo131 hc, xWo131 hc, xN131 hc, xRo132 hc, xWo132 hc, xN132 hc, xRo133 hc, xWo133 hc, xN133 hc, xN67 hc, xAo67 hc, xN123 hc, xAo123 hc, xN3 hc, xAo3 hc, xN34 hc, xAo34 hc, xN69 hc, xAo69 hc, eT_way hc ha hb, eT_setW hc ha hb]
  by_cases h1 : s = -1
  · rw [if_pos h1, if_pos h1, hid]
  · rw [if_neg h1, if_neg h1]
    by_cases h2 : V (0, 35 + a.toNat, 0) b.toNat = -1
    · rw [if_pos h2, if_pos h2]
    · rw [if_neg h2, if_neg h2]
      by_cases h3 : s < V (0, 35 + a.toNat, 0) b.toNat
      · rw [if_pos h3, if_pos h3]
      · rw [if_neg h3, if_neg h3, hid]
end TN
/-- how the class keeps a least way -/
def wEnc (w : Int) : Int := if w < 1000000 then w else -1
theorem eT_sumOf {FU : Nat} {A B l : Int} (hA : 0 ≤ A ∧ (A < 1000000 → A ≤ 6100)) (hB : 0 ≤ B ∧ (B < 1000000 → B ≤ 6100)) (hl : 1 ≤ l ∧ l ≤ 99) (G : Hp) : FTown_sumOf FU (wEnc A) l (wEnc B) G = some (if A < 1000000 ∧ B < 1000000 then A + l + B else -1) := by
  unfold FTown_sumOf
  by_cases h1 : A < 1000000
  · have eA : wEnc A = A := if_pos h1
    by_cases h2 : B < 1000000
    · have eB : wEnc B = B := if_pos h2
      rw [eA, eB, if_neg (show ¬ A = -1 by omega), if_neg (show ¬ B = -1 by omega), zck_of (by omega), Option.bind_some, zck_of (by omega), if_pos ⟨h1, h2⟩]
      rfl
    · have eB : wEnc B = -1 := if_neg h2
      rw [eA, eB, if_neg (show ¬ A = -1 by omega), if_pos rfl, if_neg (fun q => h2 q.2)]
  · have eA : wEnc A = -1 := if_neg h1
    rw [eA, if_pos rfl, if_neg (fun q => h1 q.1)]
theorem offer_min {A B C l s : Int} (hs : (if A < 1000000 ∧ B < 1000000 then A + l + B else -1) = s) (hA : 0 ≤ A ∧ (A < 1000000 → A ≤ 6100)) (hB : 0 ≤ B ∧ (B < 1000000 → B ≤ 6100)) (hl : 1 ≤ l ∧ l ≤ 99) (hC : 0 ≤ C ∧ C ≤ 1000000) : (if s = -1 then wEnc C else if wEnc C = -1 then s else if s < wEnc C then s else wEnc C) = wEnc (min C (A + l + B)) := by
  by_cases h : A < 1000000 ∧ B < 1000000
  · rw [if_pos h] at hs
    subst hs
    rw [if_neg (show ¬ A + l + B = -1 by omega)]
    by_cases h2 : C < 1000000
    · have eC : wEnc C = C := if_pos h2
      have eM : wEnc (min C (A + l + B)) = min C (A + l + B) := if_pos (by omega)
      rw [eC, eM, if_neg (show ¬ C = -1 by omega)]
      by_cases h3 : A + l + B < C
      · rw [if_pos h3]; omega
      · rw [if_neg h3]; omega
    · have eC : wEnc C = -1 := if_neg h2
      have eM : wEnc (min C (A + l + B)) = min C (A + l + B) := if_pos (by omega)
      rw [eC, eM, if_pos rfl]
      omega
  · rw [if_neg h] at hs
    subst hs
    rw [if_pos rfl, show min C (A + l + B) = C by omega]
theorem offer_two {wab wau wvb wav wub nab nau nvb nav nub nuv nvu l A1 B1 A2 B2 : Int} (hz : nab = min wab (min (wau + l + wvb) (wav + l + wub))) (huv : nuv ≤ l ∧ nvu ≤ l) (t1 : nab ≤ nau + nub) (t2 : nub ≤ nuv + nvb) (t3 : nab ≤ nav + nvb) (t4 : nvb ≤ nvu + nub) (hA1 : nau ≤ A1 ∧ A1 ≤ wau) (hB1 : nvb ≤ B1 ∧ B1 ≤ wvb) (hA2 : nav ≤ A2 ∧ A2 ≤ wav) (hB2 : nub ≤ B2 ∧ B2 ≤ wub) : min (min wab (A1 + l + B1)) (A2 + l + B2) = nab := by omega
/-- the cells of the ways while a street is offered: those behind (a, b) in the order of the loops are still as before -/
def wMid (W W' : Nat → Nat → Int) (a b p q : Nat) : Int := if p < a ∨ (p = a ∧ q < b) then W' p q else W p q
set_option maxHeartbeats 8000000 in
theorem street_row {x N FU : Nat} {c : Nat → Key} {R : Key → Nat → Option Nat} {K : Key → Option (Nat × Nat)} {W W' : Nat → Nat → Int} {u v P a : Nat} {l : Int} {kL48 : Nat → Int → Int → Int → Int → Hp → Option (Int × Hp)} (hc : CX x c) (hP : P ≤ 30) (ha : a < P) (hu : u < P) (hv : v < P) (hl : 1 ≤ l ∧ l ≤ 99)
    (hW : ∀ p q, 0 ≤ W p q ∧ W p q ≤ 1000000 ∧ (W p q < 1000000 → W p q ≤ 2970)) (hW' : ∀ p q, 0 ≤ W' p q ∧ W' p q ≤ 1000000 ∧ (W' p q < 1000000 → W' p q ≤ 2970)) (ht : ∀ p q r, W' p q ≤ W' p r + W' r q) (hz : ∀ p q, W' p q = zoff W u v l p q) (huv : W' u v ≤ l ∧ W' v u ≤ l) :
    ∀ (d b : Nat) (V : Key → Nat → Int) (n : Nat), b + d = P → d < n → V (0, 1, 0) 4 = P → (∀ p q, p < 30 → q < 30 → V (0, 35 + p, 0) q = wEnc (wMid W W' a b p q)) → ∃ V', FTown_addStreet_L60 FU kL48 n (x + 1) u v l a b (zX x c N V R K) = kL48 (x + 1) u v l ((a + 1 : Nat) : Int) (zX x c N V' R K) ∧ (∀ key : Key, ¬ (key.1 = 0 ∧ 35 ≤ key.2.1 ∧ key.2.1 ≤ 64) → V' key = V key) ∧ ∀ p q, p < 30 → q < 30 → V' (0, 35 + p, 0) q = wEnc (wMid W W' a P p q) := by
  intro d
  induction d with
  | zero =>
    intro b V n hb hn hg hH
    obtain ⟨n, rfl⟩ : ∃ n', n = n' + 1 := ⟨n - 1, by omega⟩
    have : b = P := by omega
    subst this
    refine ⟨V, ?_, fun _ _ => rfl, hH⟩
    rw [FTown_addStreet_L60]
    simp (disch := omega) only [Option.bind_some, zb_some, zrz0, zrz1, zck_of, xI0 hc, xP0 hc, xD0 hc, xI1 hc, xP1 hc, xD1 hc, xI66 hc, xP66 hc, xD66 hc, xI68 hc, xP68 hc, xD68 hc, xI115 hc, xP115 hc, xD115 hc, xI120 hc, xP120 hc, xD120 hc, xI121 hc, xP121 hc, xD121 hc, xI125 hc, xP125 hc, xD125 hc, xI127 hc, xP127 hc, xD127 hc, xQ0_0 hc, xQ0_1 hc, xQ0_2 hc, xQ0_3 hc, xQ0_4 hc, xQ0_5 hc, xQ0_6 hc, xQ1_0 hc, xQ1_1 hc, xQ1_2 hc, xQ1_3 hc, xQ66_0 hc, xQ66_1 hc, xQ68_0 hc, xQ68_1 hc, xQ68_2 hc, xQ68_3 hc, xQ115_0 hc, xQ115_1 hc, xQ115_2 hc, xQ115_3 hc, xQ115_4 hc, xQ115_5 hc, xQ115_6 hc, xQ120_0 hc, xQ120_1 hc, xQ120_2 hc, xQ120_3 hc, xQ125_0 hc, xQ125_1 hc, xQ127_0 hc, xQ127_1 hc, xQ127_2 hc, xQ127_3 hc, xQ127_4 hc, xQ127_5 hc, xRo2 hc, xWo2 hc, xN2 hc, xRo65 hc, xWo65 hc, xN65 hc, xRo113 hc, xWo113 hc, xN113 hc, xRo114 hc, xWo114 hc, xN114 hc, xRo116 hc, xWo116 hc, xN116 hc, xRo117 hc, xWo117 hc, xN117 hc, xRo118 hc, xWo118 hc, xN118 hc, xRo119 hc, xWo119 hc, xN119 hc, xRo122 hc, xWo122 hc, xN122 hc, xRo124 hc, xWo124 hc, xN124 hc, xRo126 hc, xWo126 hc, xN126 hc, xRo128 hc, xWo128 hc, xN128 hc, xRo129 hc, xWo129 hc, xN129 hc, xRo130 hc, xWo130 hc, xN130 hc, xRo131 hc, xWo131 hc, xN131 hc, xRo132 hc, xWo132 hc, xN132 hc, xRo133 hc, xWo133 hc, xN133 hc, xN67 hc, xAo67 hc, xN123 hc, xAo123 hc, xN3 hc, xAo3 hc, xN34 hc, xAo34 hc, xN69 hc, xAo69 hc, if_neg, hg]
    rfl
  | succ d ih =>
    intro b V n hb hn hg hH
    obtain ⟨n, rfl⟩ : ∃ n', n = n' + 1 := ⟨n - 1, by omega⟩
    have hm : ∀ p q, 0 ≤ wMid W W' a b p q ∧ W' p q ≤ wMid W W' a b p q ∧ wMid W W' a b p q ≤ W p q ∧ (wMid W W' a b p q < 1000000 → wMid W W' a b p q ≤ 2970) := fun p q => by
      have h1 := hW p q; have h2 := hW' p q
      have h3 : W' p q ≤ W p q := by rw [hz]; unfold zoff; omega
      unfold wMid
      split <;> omega
    rw [FTown_addStreet_L60]
    have eb : ((b : Int)).toNat = b := by omega
    have ea : ((a : Int)).toNat = a := by omega
    have eu : ((u : Int)).toNat = u := by omega
    have ev : ((v : Int)).toNat = v := by omega
    have e1 : (b : Int) + 1 = ((b + 1 : Nat) : Int) := by omega
    have m1 := hm a u; have m2 := hm v b
    -- the first offer
    generalize hs1 : (if wMid W W' a b a u < 1000000 ∧ wMid W W' a b v b < 1000000 then wMid W W' a b a u + l + wMid W W' a b v b else -1) = s1
    simp (disch := omega) only [Option.bind_some, zb_some, zrz0, zrz1, zck_of, xI0 hc, xP0 hc, xD0 hc, xI1 hc, xP1 hc, xD1 hc, xI66 hc, xP66 hc, xD66 hc, xI68 hc, xP68 hc, xD68 hc, xI115 hc, xP115 hc, xD115 hc, xI120 hc, xP120 hc, xD120 hc, xI121 hc, xP121 hc, xD121 hc, xI125 hc, xP125 hc, xD125 hc, xI127 hc, xP127 hc, xD127 hc, xQ0_0 hc, xQ0_1 hc, xQ0_2 hc, xQ0_3 hc, xQ0_4 hc, xQ0_5 hc, xQ0_6 hc, xQ1_0 hc, xQ1_1 hc, xQ1_2 hc, xQ1_3 hc, xQ66_0 hc, xQ66_1 hc, xQ68_0 hc, xQ68_1 hc, xQ68_2 hc, xQ68_3 hc, xQ115_0 hc, xQ115_1 hc, xQ115_2 hc, xQ115_3 hc, xQ115_4 hc, xQ115_5 hc, xQ115_6 hc, xQ120_0 hc, xQ120_1 hc, xQ120_2 hc, xQ120_3 hc, xQ125_0 hc, xQ125_1 hc, xQ127_0 hc, xQ127_1 hc, xQ127_2 hc, xQ127_3 hc, xQ127_4 hc, xQ127_5 hc, xRo2 hc, xWo2 hc, xN2 hc, xRo65 hc, xWo65 hc, xN65 hc, xRo113 hc, xWo113 hc, xN113 hc, xRo114 hc, xWo114 hc, xN114 hc, xRo116 hc, xWo116 hc, xN116 hc, xRo117 hc, xWo117 hc, xN117 hc, xRo118 hc, xWo118 hc, xN118 hc, xRo119 hc, xWo119 hc, xN119 hc, xRo122 hc, xWo122 hc, xN122 hc, xRo124 hc, xWo124 hc, xN124 hc, xRo126 hc, xWo126 hc, xN126 hc, xRo128 hc, xWo128 hc, xN128 hc, xRo129 hc, xWo129 hc, xN129 hc, xRo130 hc, xWo130 hc, xN130 hc, xRo131 hc, xWo131 hc, xN131 hc, xRo132 hc, xWo132 hc, xN132 hc, xRo133 hc, xWo133 hc, xN133 hc, xN67 hc, xAo67 hc, xN123 hc, xAo123 hc, xN3 hc, xAo3 hc, xN34 hc, xAo34 hc, xN69 hc, xAo69 hc, if_pos, hg, eT_way hc (a := (a : Int)) (b := (u : Int)) (by omega) (by omega), eT_way hc (a := (v : Int)) (b := (b : Int)) (by omega) (by omega), eT_offer hc (a := (a : Int)) (b := (b : Int)) (by omega) (by omega), ea, eb, eu, ev, hH a u (by omega) (by omega), hH v b (by omega) (by omega), eT_sumOf (FU := FU) (A := wMid W W' a b a u) (B := wMid W W' a b v b) (l := l) (by omega) (by omega) hl, hs1]
    generalize hv1 : (if s1 = -1 then V (0, 35 + a, 0) b else if V (0, 35 + a, 0) b = -1 then s1 else if s1 < V (0, 35 + a, 0) b then s1 else V (0, 35 + a, 0) b) = v1
    -- the cell behind it
    have hab : V (0, 35 + a, 0) b = wEnc (W a b) := by
      rw [hH a b (by omega) (by omega)]
      unfold wMid
      rw [if_neg (by omega)]
    rw [hab, offer_min hs1 (C := W a b) ⟨m1.1, fun z => by have := m1.2.2.2 z; omega⟩ ⟨m2.1, fun z => by have := m2.2.2.2 z; omega⟩ hl ⟨(hW a b).1, (hW a b).2.1⟩] at hv1
    subst hv1
    have hc1 : W' a b ≤ min (W a b) (wMid W W' a b a u + l + wMid W W' a b v b) := by
      have t1 := ht a b u; have t2 := ht u b v
      have hzo : W' a b ≤ W a b := by rw [hz]; unfold zoff; omega
      clear hW hW' ih hm hH hz
      omega
    have hc2 : min (W a b) (wMid W W' a b a u + l + wMid W W' a b v b) < 1000000 → min (W a b) (wMid W W' a b a u + l + wMid W W' a b v b) ≤ 6100 := by
      have w1 := hW a b
      clear hW hW' ih hm hH hz ht
      omega
    have hc3 : 0 ≤ min (W a b) (wMid W W' a b a u + l + wMid W W' a b v b) := by
      have w1 := hW a b
      clear hW hW' ih hm hH hz ht
      omega
    have hc4 : min (W a b) (wMid W W' a b a u + l + wMid W W' a b v b) ≤ W a b := by
      clear hW hW' ih hm hH hz ht
      omega
    generalize hcc : min (W a b) (wMid W W' a b a u + l + wMid W W' a b v b) = c1 at hc1 hc2 hc3 hc4 ⊢
    have hH1 : ∀ p q, p < 30 → q < 30 → ∃ z : Int, (0 ≤ z ∧ W' p q ≤ z ∧ z ≤ W p q ∧ (z < 1000000 → z ≤ 6100)) ∧ ku V (0, 35 + a, 0) b (wEnc c1) (0, 35 + p, 0) q = wEnc z := fun p q hp hq => by
      by_cases e : p = a ∧ q = b
      · obtain ⟨rfl, rfl⟩ := e
        have := hW' p q
        exact ⟨c1, ⟨hc3, hc1, hc4, hc2⟩, by rw [ku_at, if_pos rfl]⟩
      · refine ⟨wMid W W' a b p q, ⟨(hm p q).1, (hm p q).2.1, (hm p q).2.2.1, fun z => by have := (hm p q).2.2.2 z; omega⟩, ?_⟩
        rw [zku, if_neg (fun z => e ⟨by have := congrArg (fun k : Key => k.2.1) z.1; simp only at this; omega, z.2⟩)]
        exact hH p q hp hq
    obtain ⟨A2, hA2, eA2⟩ := hH1 a v (by omega) (by omega)
    obtain ⟨B2, hB2, eB2⟩ := hH1 u b (by omega) (by omega)
    have hsum := eT_sumOf (FU := FU) (A := A2) (B := B2) (l := l) ⟨hA2.1, hA2.2.2.2⟩ ⟨hB2.1, hB2.2.2.2⟩ hl (zX x c N (ku V (0, 35 + a, 0) b (wEnc c1)) R K)
    generalize hs2 : (if A2 < 1000000 ∧ B2 < 1000000 then A2 + l + B2 else -1) = s2 at hsum
    simp (disch := omega) only [Option.bind_some, zb_some, zrz0, zrz1, zck_of, xI0 hc, xP0 hc, xD0 hc, xI1 hc, xP1 hc, xD1 hc, xI66 hc, xP66 hc, xD66 hc, xI68 hc, xP68 hc, xD68 hc, xI115 hc, xP115 hc, xD115 hc, xI120 hc, xP120 hc, xD120 hc, xI121 hc, xP121 hc, xD121 hc, xI125 hc, xP125 hc, xD125 hc, xI127 hc, xP127 hc, xD127 hc, xQ0_0 hc, xQ0_1 hc, xQ0_2 hc, xQ0_3 hc, xQ0_4 hc, xQ0_5 hc, xQ0_6 hc, xQ1_0 hc, xQ1_1 hc, xQ1_2 hc, xQ1_3 hc, xQ66_0 hc, xQ66_1 hc, xQ68_0 hc, xQ68_1 hc, xQ68_2 hc, xQ68_3 hc, xQ115_0 hc, xQ115_1 hc, xQ115_2 hc, xQ115_3 hc, xQ115_4 hc, xQ115_5 hc, xQ115_6 hc, xQ120_0 hc, xQ120_1 hc, xQ120_2 hc, xQ120_3 hc, xQ125_0 hc, xQ125_1 hc, xQ127_0 hc, xQ127_1 hc, xQ127_2 hc, xQ127_3 hc, xQ127_4 hc, xQ127_5 hc, xRo2 hc, xWo2 hc, xN2 hc, xRo65 hc, xWo65 hc, xN65 hc, xRo113 hc, xWo113 hc, xN113 hc, xRo114 hc, xWo114 hc, xN114 hc, xRo116 hc, xWo116 hc, xN116 hc, xRo117 hc, xWo117 hc, xN117 hc, xRo118 hc, xWo118 hc, xN118 hc, xRo119 hc, xWo119 hc, xN119 hc, xRo122 hc, xWo122 hc, xN122 hc, xRo124 hc, xWo124 hc, xN124 hc, xRo126 hc, xWo126 hc, xN126 hc, xRo128 hc, xWo128 hc, xN128 hc, xRo129 hc, xWo129 hc, xN129 hc, xRo130 hc, xWo130 hc, xN130 hc, xRo131 hc, xWo131 hc, xN131 hc, xRo132 hc, xWo132 hc, xN132 hc, xRo133 hc, xWo133 hc, xN133 hc, xN67 hc, xAo67 hc, xN123 hc, xAo123 hc, xN3 hc, xAo3 hc, xN34 hc, xAo34 hc, xN69 hc, xAo69 hc, if_pos, eT_way hc (a := (a : Int)) (b := (v : Int)) (by omega) (by omega), eT_way hc (a := (u : Int)) (b := (b : Int)) (by omega) (by omega), eT_offer hc (a := (a : Int)) (b := (b : Int)) (by omega) (by omega), ea, eb, eu, ev, eA2, eB2, hsum, e1, ku_at, ite_true]
    have hz2 : W' a b = min (W a b) (min (W a u + l + W v b) (W a v + l + W u b)) := by rw [hz]; unfold zoff; omega
    have hfin : (if s2 = -1 then wEnc c1 else if wEnc c1 = -1 then s2 else if s2 < wEnc c1 then s2 else wEnc c1) = wEnc (W' a b) := by
      rw [offer_min hs2 ⟨hA2.1, hA2.2.2.2⟩ ⟨hB2.1, hB2.2.2.2⟩ hl ⟨hc3, Int.le_trans hc4 (hW a b).2.1⟩, ← hcc]
      exact congrArg wEnc (offer_two hz2 huv (ht a b u) (ht u b v) (ht a b v) (ht v b u) ⟨m1.2.1, m1.2.2.1⟩ ⟨m2.2.1, m2.2.2.1⟩ ⟨hA2.2.1, hA2.2.2.1⟩ ⟨hB2.2.1, hB2.2.2.1⟩)
    rw [hfin]
    obtain ⟨V', f1, f2, f3⟩ := ih (b + 1) (ku (ku V (0, 35 + a, 0) b (wEnc c1)) (0, 35 + a, 0) b (wEnc (W' a b))) n (by omega) (by omega) (by rw [ku_row (by simp; omega), ku_row (by simp; omega)]; exact hg) (fun p q hp hq => by
      rw [zku, zku]
      by_cases e : p = a ∧ q = b
      · obtain ⟨rfl, rfl⟩ := e
        rw [if_pos ⟨rfl, rfl⟩]
        unfold wMid
        rw [if_pos (by omega)]
      · have hne : ¬ (((0, 35 + p, 0) : Key) = (0, 35 + a, 0) ∧ q = b) := fun z => e ⟨by have := congrArg (fun k : Key => k.2.1) z.1; simp only at this; omega, z.2⟩
        rw [if_neg hne, if_neg hne, hH p q hp hq]
        unfold wMid
        by_cases h4 : p < a ∨ (p = a ∧ q < b)
        · rw [if_pos h4, if_pos (by omega)]
        · rw [if_neg h4, if_neg (by omega)])
    refine ⟨V', f1, fun key hk => ?_, f3⟩
    have hk2 : key ≠ (0, 35 + a, 0) := fun z => hk (by rw [z]; exact ⟨rfl, by simp only; omega, by simp only; omega⟩)
    rw [f2 key hk, ku_row hk2, ku_row hk2]
