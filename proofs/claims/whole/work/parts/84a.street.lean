/-! ===== place, street, way ===== -/
theorem street_all {x N FU : Nat} {c : Nat → Key} {R : Key → Nat → Option Nat} {K : Key → Option (Nat × Nat)} {W W' : Nat → Nat → Int} {u v P : Nat} {l : Int} (hc : CX x c) (hP : P ≤ 30) (hFU : 31 ≤ FU) (hu : u < P) (hv : v < P) (hl : 1 ≤ l ∧ l ≤ 99)
    (hW : ∀ p q, 0 ≤ W p q ∧ W p q ≤ 1000000 ∧ (W p q < 1000000 → W p q ≤ 2970)) (hW' : ∀ p q, 0 ≤ W' p q ∧ W' p q ≤ 1000000 ∧ (W' p q < 1000000 → W' p q ≤ 2970)) (ht : ∀ p q r, W' p q ≤ W' p r + W' r q) (hz : ∀ p q, W' p q = zoff W u v l p q) (huv : W' u v ≤ l ∧ W' v u ≤ l) (hfar : ∀ p q, P ≤ p ∨ P ≤ q → W' p q = W p q) :
    ∀ (d a : Nat) (V : Key → Nat → Int) (n : Nat), a + d = P → d < n → V (0, 1, 0) 4 = P → (∀ p q, p < 30 → q < 30 → V (0, 35 + p, 0) q = wEnc (wMid W W' a 0 p q)) → ∃ V', FTown_addStreet_L48 FU n (x + 1) u v l a (zX x c N V R K) = some (l, zX x c N V' R K) ∧ (∀ key : Key, ¬ (key.1 = 0 ∧ 35 ≤ key.2.1 ∧ key.2.1 ≤ 64) → V' key = V key) ∧ ∀ p q, p < 30 → q < 30 → V' (0, 35 + p, 0) q = wEnc (W' p q) := by
  intro d
  induction d with
  | zero =>
    intro a V n ha hn hg hH
    obtain ⟨n, rfl⟩ : ∃ n', n = n' + 1 := ⟨n - 1, by omega⟩
    have : a = P := by omega
    subst this
    refine ⟨V, ?_, fun _ _ => rfl, fun p q hp hq => ?_⟩
    · rw [FTown_addStreet_L48]
      simp (disch := omega) only [Option.bind_some, zb_some, zrz0, zrz1, zck_of, xI0 hc, xP0 hc, xD0 hc, xI1 hc, xP1 hc, xD1 hc, xI66 hc, xP66 hc, xD66 hc, xI68 hc, xP68 hc, xD68 hc, xI115 hc, xP115 hc, xD115 hc, xI120 hc, xP120 hc, xD120 hc, xI121 hc, xP121 hc, xD121 hc, xI125 hc, xP125 hc, xD125 hc, xI127 hc, xP127 hc, xD127 hc, xQ0_0 hc, xQ0_1 hc, xQ0_2 hc, xQ0_3 hc, xQ0_4 hc, xQ0_5 hc, xQ0_6 hc, xQ1_0 hc, xQ1_1 hc, xQ1_2 hc, xQ1_3 hc, xQ66_0 hc, xQ66_1 hc, xQ68_0 hc, xQ68_1 hc, xQ68_2 hc, xQ68_3 hc, xQ115_0 hc, xQ115_1 hc, xQ115_2 hc, xQ115_3 hc, xQ115_4 hc, xQ115_5 hc, xQ115_6 hc, xQ120_0 hc, xQ120_1 hc, xQ120_2 hc, xQ120_3 hc, xQ125_0 hc, xQ125_1 hc, xQ127_0 hc, xQ127_1 hc, xQ127_2 hc, xQ127_3 hc, xQ127_4 hc, xQ127_5 hc, xRo2 hc, xWo2 hc, xN2 hc, xRo65 hc, xWo65 hc, xN65 hc, xRo113 hc, xWo113 hc, xN113 hc, xRo114 hc, xWo114 hc, xN114 hc, xRo116 hc, xWo116 hc, xN116 hc, xRo117 hc, xWo117 hc, xN117 hc, xRo118 hc, xWo118 hc, xN118 hc, xRo119 hc, xWo119 hc, xN119 hc, xRo122 hc, xWo122 hc, xN122 hc, xRo124 hc, xWo124 hc, xN124 hc, xRo126 hc, xWo126 hc, xN126 hc, xRo128 hc, xWo128 hc, xN128 hc, xRo129 hc, xWo129 hc, xN129 hc, xRo130 hc, xWo130 hc, xN130 hc, xRo131 hc, xWo131 hc, xN131 hc, xRo132 hc, xWo132 hc, xN132 hc, xRo133 hc, xWo133 hc, xN133 hc, xN67 hc, xAo67 hc, xN123 hc, xAo123 hc, xN3 hc, xAo3 hc, xN34 hc, xAo34 hc, xN69 hc, xAo69 hc, if_neg, hg]
    · rw [hH p q hp hq]
      unfold wMid
      by_cases h : p < a ∨ (p = a ∧ q < 0)
      · rw [if_pos h]
      · rw [if_neg h, hfar p q (by omega)]
  | succ d ih =>
    intro a V n ha hn hg hH
    obtain ⟨n, rfl⟩ : ∃ n', n = n' + 1 := ⟨n - 1, by omega⟩
    obtain ⟨V1, e1, e2, e3⟩ := street_row (x := x) (N := N) (FU := FU) (c := c) (R := R) (K := K) (W := W) (W' := W') (u := u) (v := v) (P := P) (a := a) (l := l) (kL48 := FTown_addStreet_L48 FU n) hc hP (by omega) hu hv hl hW hW' ht hz huv P 0 V FU (by omega) (by omega) hg hH
    have hg1 : V1 (0, 1, 0) 4 = P := by rw [e2 (0, 1, 0) (by simp)]; exact hg
    obtain ⟨V2, f1, f2, f3⟩ := ih (a + 1) V1 n (by omega) (by omega) hg1 (fun p q hp hq => by
      rw [e3 p q hp hq]
      unfold wMid
      by_cases h : p < a ∨ (p = a ∧ q < P)
      · rw [if_pos h, if_pos (by omega)]
      · rw [if_neg h]
        by_cases h2 : p < a + 1 ∨ (p = a + 1 ∧ q < 0)
        · rw [if_pos h2, hfar p q (by omega)]
        · rw [if_neg h2])
    refine ⟨V2, ?_, fun key hk => by rw [f2 key hk, e2 key hk], f3⟩
    rw [FTown_addStreet_L48]
    simp (disch := omega) only [Option.bind_some, zb_some, zrz0, zrz1, zck_of, xI0 hc, xP0 hc, xD0 hc, xI1 hc, xP1 hc, xD1 hc, xI66 hc, xP66 hc, xD66 hc, xI68 hc, xP68 hc, xD68 hc, xI115 hc, xP115 hc, xD115 hc, xI120 hc, xP120 hc, xD120 hc, xI121 hc, xP121 hc, xD121 hc, xI125 hc, xP125 hc, xD125 hc, xI127 hc, xP127 hc, xD127 hc, xQ0_0 hc, xQ0_1 hc, xQ0_2 hc, xQ0_3 hc, xQ0_4 hc, xQ0_5 hc, xQ0_6 hc, xQ1_0 hc, xQ1_1 hc, xQ1_2 hc, xQ1_3 hc, xQ66_0 hc, xQ66_1 hc, xQ68_0 hc, xQ68_1 hc, xQ68_2 hc, xQ68_3 hc, xQ115_0 hc, xQ115_1 hc, xQ115_2 hc, xQ115_3 hc, xQ115_4 hc, xQ115_5 hc, xQ115_6 hc, xQ120_0 hc, xQ120_1 hc, xQ120_2 hc, xQ120_3 hc, xQ125_0 hc, xQ125_1 hc, xQ127_0 hc, xQ127_1 hc, xQ127_2 hc, xQ127_3 hc, xQ127_4 hc, xQ127_5 hc, xRo2 hc, xWo2 hc, xN2 hc, xRo65 hc, xWo65 hc, xN65 hc, xRo113 hc, xWo113 hc, xN113 hc, xRo114 hc, xWo114 hc, xN114 hc, xRo116 hc, xWo116 hc, xN116 hc, xRo117 hc, xWo117 hc, xN117 hc, xRo118 hc, xWo118 hc, xN118 hc, xRo119 hc, xWo119 hc, xN119 hc, xRo122 hc, xWo122 hc, xN122 hc, xRo124 hc, xWo124 hc, xN124 hc, xRo126 hc, xWo126 hc, xN126 hc, xRo128 hc, xWo128 hc, xN128 hc, xRo129 hc, xWo129 hc, xN129 hc, xRo130 hc, xWo130 hc, xN130 hc, xRo131 hc, xWo131 hc, xN131 hc, xRo132 hc, xWo132 hc, xN132 hc, xRo133 hc, xWo133 hc, xN133 hc, xN67 hc, xAo67 hc, xN123 hc, xAo123 hc, xN3 hc, xAo3 hc, xN34 hc, xAo34 hc, xN69 hc, xAo69 hc, if_pos, hg]
    have e0 : FTown_addStreet_L60 FU (FTown_addStreet_L48 FU n) FU (x + 1) u v l a 0 (zX x c N V R K) = _ := e1
    rw [e0, f1]
theorem eM_isPlace {m N FU : Nat} {g : Nat → Nat → Int} (p : Int) : FM_isPlace FU m p (zG m N g) = some (if 0 ≤ p ∧ p < g 0 2 then 1 else 0) := by
  unfold FM_isPlace FM_isPlace_b
  simp (disch := omega) only [mI, mP, mPo, mD, Option.bind_some, zb_some, zrz0, zrz1, zck_of, mQ1, mRo1, mWo1, mQ3, mRo2, mWo2, mQ4, mRo3, mWo3, mQ8, mRo4, mWo4, mQ9, mRo5, mWo5, mQ10, mRo6, mWo6, mQ11, mRo7, mWo7, mQ12, mRo8, mWo8, mQ13, mRo9, mWo9, mQ14, mRo10, mWo10, mQ17, mRo11, mWo11, mQ19, mRo12, mWo12, mQ20, mRo13, mWo13, mQ23, mRo14, mWo14, mQ24, mRo15, mWo15, mQ26, mRo16, mWo16, mQ27, mRo17, mWo17, mQ28, mRo18, mWo18, mQ29, mRo19, mWo19, mQ30, mRo20, mWo20, mQ32, mRo21, mWo21, mQ33, mRo22, mWo22, mQ34, mRo23, mWo23, mQ35, mRo24, mWo24, mQ36, mRo25, mWo25, mQ37, mRo26, mWo26, mQ38, mRo27, mWo27, mQ39, mRo28, mWo28, mQ40, mRo29, mWo29, mQ41, mRo30, mWo30, mQ43, mRo31, mWo31, mQ44, mRo32, mWo32, mQ45, mRo33, mWo33, mQ46, mRo34, mWo34, mQ47, mRo35, mWo35, mQ48, mRo36, mWo36, mQ50, mRo37, mWo37, mQ51, mRo38, mWo38, mQ52, mRo39, mWo39]
  by_cases h1 : p < 0
  · rw [if_pos h1, if_neg (by omega)]
  · rw [if_neg h1]
    by_cases h2 : p < g 0 2
    · rw [if_pos h2, if_pos (by omega)]
    · rw [if_neg h2, if_neg (by omega)]
theorem eM_isShop {m N FU : Nat} {g : Nat → Nat → Int} (p : Int) : FM_isShop FU m p (zG m N g) = some (if 0 ≤ p ∧ p < g 0 15 then 1 else 0) := by
  unfold FM_isShop FM_isShop_b
  simp (disch := omega) only [mI, mP, mPo, mD, Option.bind_some, zb_some, zrz0, zrz1, zck_of, mQ1, mRo1, mWo1, mQ3, mRo2, mWo2, mQ4, mRo3, mWo3, mQ8, mRo4, mWo4, mQ9, mRo5, mWo5, mQ10, mRo6, mWo6, mQ11, mRo7, mWo7, mQ12, mRo8, mWo8, mQ13, mRo9, mWo9, mQ14, mRo10, mWo10, mQ17, mRo11, mWo11, mQ19, mRo12, mWo12, mQ20, mRo13, mWo13, mQ23, mRo14, mWo14, mQ24, mRo15, mWo15, mQ26, mRo16, mWo16, mQ27, mRo17, mWo17, mQ28, mRo18, mWo18, mQ29, mRo19, mWo19, mQ30, mRo20, mWo20, mQ32, mRo21, mWo21, mQ33, mRo22, mWo22, mQ34, mRo23, mWo23, mQ35, mRo24, mWo24, mQ36, mRo25, mWo25, mQ37, mRo26, mWo26, mQ38, mRo27, mWo27, mQ39, mRo28, mWo28, mQ40, mRo29, mWo29, mQ41, mRo30, mWo30, mQ43, mRo31, mWo31, mQ44, mRo32, mWo32, mQ45, mRo33, mWo33, mQ46, mRo34, mWo34, mQ47, mRo35, mWo35, mQ48, mRo36, mWo36, mQ50, mRo37, mWo37, mQ51, mRo38, mWo38, mQ52, mRo39, mWo39]
  by_cases h1 : p < 0
  · rw [if_pos h1, if_neg (by omega)]
  · rw [if_neg h1]
    by_cases h2 : p < g 0 15
    · rw [if_pos h2, if_pos (by omega)]
    · rw [if_neg h2, if_neg (by omega)]
section OPA
variable {k x m : Nat} {X M : Hp}
theorem INV.intro {c : Nat → Key} {N N' : Nat} {V : Key → Nat → Int} {R : Key → Nat → Option Nat} {K : Key → Option (Nat × Nat)} {g W : Nat → Nat → Int} (h : ST k x c N V R K g W) : INV k x m (zX x c N V R K) (zG m N' g) := ⟨c, N, V, R, K, N', g, W, rfl, rfl, h⟩
theorem OP_place (h : INV k x m X M) (hk : k < 512) (a1 : Int) (h1 : zInI a1) : ∃ (r : Int) (X' M' : Hp), FB_place zFU x a1 X = some (r, X') ∧ FM_place zFU m a1 M = some (r, M') ∧ INV (k + 1) x m X' M' := by
  obtain ⟨c, N, V, R, K, N', g, W, rfl, rfl, h⟩ := h
  have hc := h.c.cx
  have P0 := h.t.many0
  have PV := h.t.many
  unfold FB_place FB_place_b FM_place FM_place_b FTown_addPlace FTown_addPlace_b
  simp (disch := omega) only [mI, mP, mPo, mD, Option.bind_some, zb_some, zrz0, zrz1, zck_of, mQ1, mRo1, mWo1, mQ3, mRo2, mWo2, mQ4, mRo3, mWo3, mQ8, mRo4, mWo4, mQ9, mRo5, mWo5, mQ10, mRo6, mWo6, mQ11, mRo7, mWo7, mQ12, mRo8, mWo8, mQ13, mRo9, mWo9, mQ14, mRo10, mWo10, mQ17, mRo11, mWo11, mQ19, mRo12, mWo12, mQ20, mRo13, mWo13, mQ23, mRo14, mWo14, mQ24, mRo15, mWo15, mQ26, mRo16, mWo16, mQ27, mRo17, mWo17, mQ28, mRo18, mWo18, mQ29, mRo19, mWo19, mQ30, mRo20, mWo20, mQ32, mRo21, mWo21, mQ33, mRo22, mWo22, mQ34, mRo23, mWo23, mQ35, mRo24, mWo24, mQ36, mRo25, mWo25, mQ37, mRo26, mWo26, mQ38, mRo27, mWo27, mQ39, mRo28, mWo28, mQ40, mRo29, mWo29, mQ41, mRo30, mWo30, mQ43, mRo31, mWo31, mQ44, mRo32, mWo32, mQ45, mRo33, mWo33, mQ46, mRo34, mWo34, mQ47, mRo35, mWo35, mQ48, mRo36, mWo36, mQ50, mRo37, mWo37, mQ51, mRo38, mWo38, mQ52, mRo39, mWo39, eM_within]
  simp (disch := omega) only [Option.bind_some, zb_some, zrz0, zrz1, zck_of, xI0 hc, xP0 hc, xD0 hc, xI1 hc, xP1 hc, xD1 hc, xI66 hc, xP66 hc, xD66 hc, xI68 hc, xP68 hc, xD68 hc, xI115 hc, xP115 hc, xD115 hc, xI120 hc, xP120 hc, xD120 hc, xI121 hc, xP121 hc, xD121 hc, xI125 hc, xP125 hc, xD125 hc, xI127 hc, xP127 hc, xD127 hc, xQ0_0 hc, xQ0_1 hc, xQ0_2 hc, xQ0_3 hc, xQ0_4 hc, xQ0_5 hc, xQ0_6 hc, xQ1_0 hc, xQ1_1 hc, xQ1_2 hc, xQ1_3 hc, xQ66_0 hc, xQ66_1 hc, xQ68_0 hc, xQ68_1 hc, xQ68_2 hc, xQ68_3 hc, xQ115_0 hc, xQ115_1 hc, xQ115_2 hc, xQ115_3 hc, xQ115_4 hc, xQ115_5 hc, xQ115_6 hc, xQ120_0 hc, xQ120_1 hc, xQ120_2 hc, xQ120_3 hc, xQ125_0 hc, xQ125_1 hc, xQ127_0 hc, xQ127_1 hc, xQ127_2 hc, xQ127_3 hc, xQ127_4 hc, xQ127_5 hc, xRo2 hc, xWo2 hc, xN2 hc, xRo65 hc, xWo65 hc, xN65 hc, xRo113 hc, xWo113 hc, xN113 hc, xRo114 hc, xWo114 hc, xN114 hc, xRo116 hc, xWo116 hc, xN116 hc, xRo117 hc, xWo117 hc, xN117 hc, xRo118 hc, xWo118 hc, xN118 hc, xRo119 hc, xWo119 hc, xN119 hc, xRo122 hc, xWo122 hc, xN122 hc, xRo124 hc, xWo124 hc, xN124 hc, xRo126 hc, xWo126 hc, xN126 hc, xRo128 hc, xWo128 hc, xN128 hc, xRo129 hc, xWo129 hc, xN129 hc, xRo130 hc, xWo130 hc, xN130 hc, xRo131 hc, xWo131 hc, xN131 hc, xRo132 hc, xWo132 hc, xN132 hc, xRo133 hc, xWo133 hc, xN133 hc, xN67 hc, xAo67 hc, xN123 hc, xAo123 hc, xN3 hc, xAo3 hc, xN34 hc, xAo34 hc, xN69 hc, xAo69 hc, eB_isWithin, PV]
  by_cases q1 : 0 ≤ a1 ∧ a1 ≤ 999
  · by_cases q2 : g 0 2 = 30
    · refine ⟨-2, zX x c N V R K, zG m N' g, ?_, ?_, INV.intro h.skip⟩
      · simp (disch := omega) only [Option.bind_some, zb_some, zrz0, zrz1, zck_of, xI0 hc, xP0 hc, xD0 hc, xI1 hc, xP1 hc, xD1 hc, xI66 hc, xP66 hc, xD66 hc, xI68 hc, xP68 hc, xD68 hc, xI115 hc, xP115 hc, xD115 hc, xI120 hc, xP120 hc, xD120 hc, xI121 hc, xP121 hc, xD121 hc, xI125 hc, xP125 hc, xD125 hc, xI127 hc, xP127 hc, xD127 hc, xQ0_0 hc, xQ0_1 hc, xQ0_2 hc, xQ0_3 hc, xQ0_4 hc, xQ0_5 hc, xQ0_6 hc, xQ1_0 hc, xQ1_1 hc, xQ1_2 hc, xQ1_3 hc, xQ66_0 hc, xQ66_1 hc, xQ68_0 hc, xQ68_1 hc, xQ68_2 hc, xQ68_3 hc, xQ115_0 hc, xQ115_1 hc, xQ115_2 hc, xQ115_3 hc, xQ115_4 hc, xQ115_5 hc, xQ115_6 hc, xQ120_0 hc, xQ120_1 hc, xQ120_2 hc, xQ120_3 hc, xQ125_0 hc, xQ125_1 hc, xQ127_0 hc, xQ127_1 hc, xQ127_2 hc, xQ127_3 hc, xQ127_4 hc, xQ127_5 hc, xRo2 hc, xWo2 hc, xN2 hc, xRo65 hc, xWo65 hc, xN65 hc, xRo113 hc, xWo113 hc, xN113 hc, xRo114 hc, xWo114 hc, xN114 hc, xRo116 hc, xWo116 hc, xN116 hc, xRo117 hc, xWo117 hc, xN117 hc, xRo118 hc, xWo118 hc, xN118 hc, xRo119 hc, xWo119 hc, xN119 hc, xRo122 hc, xWo122 hc, xN122 hc, xRo124 hc, xWo124 hc, xN124 hc, xRo126 hc, xWo126 hc, xN126 hc, xRo128 hc, xWo128 hc, xN128 hc, xRo129 hc, xWo129 hc, xN129 hc, xRo130 hc, xWo130 hc, xN130 hc, xRo131 hc, xWo131 hc, xN131 hc, xRo132 hc, xWo132 hc, xN132 hc, xRo133 hc, xWo133 hc, xN133 hc, xN67 hc, xAo67 hc, xN123 hc, xAo123 hc, xN3 hc, xAo3 hc, xN34 hc, xAo34 hc, xN69 hc, xAo69 hc, ite_true, ite_false, if_pos, if_neg, if_pos q1]
      · simp (disch := omega) only [mI, mP, mPo, mD, Option.bind_some, zb_some, zrz0, zrz1, zck_of, mQ1, mRo1, mWo1, mQ3, mRo2, mWo2, mQ4, mRo3, mWo3, mQ8, mRo4, mWo4, mQ9, mRo5, mWo5, mQ10, mRo6, mWo6, mQ11, mRo7, mWo7, mQ12, mRo8, mWo8, mQ13, mRo9, mWo9, mQ14, mRo10, mWo10, mQ17, mRo11, mWo11, mQ19, mRo12, mWo12, mQ20, mRo13, mWo13, mQ23, mRo14, mWo14, mQ24, mRo15, mWo15, mQ26, mRo16, mWo16, mQ27, mRo17, mWo17, mQ28, mRo18, mWo18, mQ29, mRo19, mWo19, mQ30, mRo20, mWo20, mQ32, mRo21, mWo21, mQ33, mRo22, mWo22, mQ34, mRo23, mWo23, mQ35, mRo24, mWo24, mQ36, mRo25, mWo25, mQ37, mRo26, mWo26, mQ38, mRo27, mWo27, mQ39, mRo28, mWo28, mQ40, mRo29, mWo29, mQ41, mRo30, mWo30, mQ43, mRo31, mWo31, mQ44, mRo32, mWo32, mQ45, mRo33, mWo33, mQ46, mRo34, mWo34, mQ47, mRo35, mWo35, mQ48, mRo36, mWo36, mQ50, mRo37, mWo37, mQ51, mRo38, mWo38, mQ52, mRo39, mWo39, ite_true, ite_false, if_pos, if_neg, if_pos q1]
    · have hP : (g 0 2).toNat < 30 := by omega
      refine ⟨g 0 2, zX x c N (ku (ku V (0, 2, 0) (g 0 2).toNat a1) (0, 1, 0) 4 (g 0 2 + 1)) R K, zG m N' (gu (gu (gu g 1 (g 0 2).toNat a1) 0 2 (g 0 2 + 1)) 0 5 0), ?_, ?_, INV.intro (W := W) ?_⟩
      · simp (disch := omega) only [Option.bind_some, zb_some, zrz0, zrz1, zck_of, xI0 hc, xP0 hc, xD0 hc, xI1 hc, xP1 hc, xD1 hc, xI66 hc, xP66 hc, xD66 hc, xI68 hc, xP68 hc, xD68 hc, xI115 hc, xP115 hc, xD115 hc, xI120 hc, xP120 hc, xD120 hc, xI121 hc, xP121 hc, xD121 hc, xI125 hc, xP125 hc, xD125 hc, xI127 hc, xP127 hc, xD127 hc, xQ0_0 hc, xQ0_1 hc, xQ0_2 hc, xQ0_3 hc, xQ0_4 hc, xQ0_5 hc, xQ0_6 hc, xQ1_0 hc, xQ1_1 hc, xQ1_2 hc, xQ1_3 hc, xQ66_0 hc, xQ66_1 hc, xQ68_0 hc, xQ68_1 hc, xQ68_2 hc, xQ68_3 hc, xQ115_0 hc, xQ115_1 hc, xQ115_2 hc, xQ115_3 hc, xQ115_4 hc, xQ115_5 hc, xQ115_6 hc, xQ120_0 hc, xQ120_1 hc, xQ120_2 hc, xQ120_3 hc, xQ125_0 hc, xQ125_1 hc, xQ127_0 hc, xQ127_1 hc, xQ127_2 hc, xQ127_3 hc, xQ127_4 hc, xQ127_5 hc, xRo2 hc, xWo2 hc, xN2 hc, xRo65 hc, xWo65 hc, xN65 hc, xRo113 hc, xWo113 hc, xN113 hc, xRo114 hc, xWo114 hc, xN114 hc, xRo116 hc, xWo116 hc, xN116 hc, xRo117 hc, xWo117 hc, xN117 hc, xRo118 hc, xWo118 hc, xN118 hc, xRo119 hc, xWo119 hc, xN119 hc, xRo122 hc, xWo122 hc, xN122 hc, xRo124 hc, xWo124 hc, xN124 hc, xRo126 hc, xWo126 hc, xN126 hc, xRo128 hc, xWo128 hc, xN128 hc, xRo129 hc, xWo129 hc, xN129 hc, xRo130 hc, xWo130 hc, xN130 hc, xRo131 hc, xWo131 hc, xN131 hc, xRo132 hc, xWo132 hc, xN132 hc, xRo133 hc, xWo133 hc, xN133 hc, xN67 hc, xAo67 hc, xN123 hc, xAo123 hc, xN3 hc, xAo3 hc, xN34 hc, xAo34 hc, xN69 hc, xAo69 hc, ite_true, ite_false, if_pos, if_neg, if_pos q1, eB_put hc (hc.2 2 (by omega)) (xK2 hc) (i := g 0 2) (by omega), PV, zku]
        simp <;> omega
      · simp (disch := omega) only [mI, mP, mPo, mD, Option.bind_some, zb_some, zrz0, zrz1, zck_of, mQ1, mRo1, mWo1, mQ3, mRo2, mWo2, mQ4, mRo3, mWo3, mQ8, mRo4, mWo4, mQ9, mRo5, mWo5, mQ10, mRo6, mWo6, mQ11, mRo7, mWo7, mQ12, mRo8, mWo8, mQ13, mRo9, mWo9, mQ14, mRo10, mWo10, mQ17, mRo11, mWo11, mQ19, mRo12, mWo12, mQ20, mRo13, mWo13, mQ23, mRo14, mWo14, mQ24, mRo15, mWo15, mQ26, mRo16, mWo16, mQ27, mRo17, mWo17, mQ28, mRo18, mWo18, mQ29, mRo19, mWo19, mQ30, mRo20, mWo20, mQ32, mRo21, mWo21, mQ33, mRo22, mWo22, mQ34, mRo23, mWo23, mQ35, mRo24, mWo24, mQ36, mRo25, mWo25, mQ37, mRo26, mWo26, mQ38, mRo27, mWo27, mQ39, mRo28, mWo28, mQ40, mRo29, mWo29, mQ41, mRo30, mWo30, mQ43, mRo31, mWo31, mQ44, mRo32, mWo32, mQ45, mRo33, mWo33, mQ46, mRo34, mWo34, mQ47, mRo35, mWo35, mQ48, mRo36, mWo36, mQ50, mRo37, mWo37, mQ51, mRo38, mWo38, mQ52, mRo39, mWo39, ite_true, ite_false, if_pos, if_neg, if_pos q1, zgu]
        simp <;> omega
      · have eP : ((g 0 2 + 1).toNat) = (g 0 2).toNat + 1 := by omega
        have g2 : gu (gu (gu g 1 (g 0 2).toNat a1) 0 2 (g 0 2 + 1)) 0 5 0 2 = g 2 := by rw [gu_row (by decide), gu_row (by decide), gu_row (by decide)]
        have g02 : gu (gu (gu g 1 (g 0 2).toNat a1) 0 2 (g 0 2 + 1)) 0 5 0 0 2 = g 0 2 + 1 := rfl
        refine h.skip.put (W' := W) (fun a => a == 2 || a == 12) (by first | (intro key i q0 q; rfl) | (intro key i q0 q; (try simp only [zku]); (repeat' split) <;> first | rfl | (rename_i z; obtain ⟨z1, z2⟩ := z; subst z1; subst z2; first | exact absurd (show true = false from q) (by decide) | exact absurd rfl q0))) (by first | (intro key i q0 q; rfl) | (intro key i q0 q; (try simp only [zgu]); (repeat' split) <;> first | rfl | (rename_i z; obtain ⟨z1, z2⟩ := z; subst z1; subst z2; first | exact absurd (show true = false from q) (by decide) | exact absurd rfl q0))) (t := fun _ => ?_) (z := fun _ => ?_) (hh := fun _ => ?_)
        · unfold IT
          rw [g02, mE_row g2, g2]
          refine ⟨by simp [zku], by omega, fun i hi => ?_, fun a b ha hb => ?_, ?_, h.t.clo, fun a b ha hb => ?_, .inl rfl, fun q => absurd q (by simp [zgu])⟩
          · have := h.t.doors i hi
            simp only [zku, zgu]
            by_cases e : i = (g 0 2).toNat
            · simp [e, q1]
            · simp [e, this]
          · rw [ku_row (by simp <;> omega), ku_row (by simp <;> omega)]
            exact h.t.len a b ha hb
          · intro a b ha hb
            have := h.t.ok a b ha hb
            rw [g2]
            exact ⟨this.1, this.2.1, this.2.2.1, fun z => by have := this.2.2.2 z; omega⟩
          · rw [ku_row (by simp <;> omega), ku_row (by simp <;> omega)]
            exact h.t.ways a b ha hb
        · exact ⟨h.z.many, h.z.many0, fun i hi => ⟨(h.z.site i hi).1, (h.z.site i hi).2.1, by have := (h.z.site i hi).2.2; rw [g02]; exact Int.lt_trans this (by omega)⟩⟩
        · exact ⟨h.h.many, h.h.many0, h.h.at_, h.h.months, fun i hi => by
            have q := (h.h.num i hi).skip
            exact ⟨q.place, ⟨q.place0.1, by have := q.place0.2; rw [g02]; exact Int.lt_trans this (by omega)⟩, q.2.2⟩, h.h.none_⟩
  · refine ⟨-1, zX x c N V R K, zG m N' g, ?_, ?_, INV.intro h.skip⟩
    · simp (disch := omega) only [Option.bind_some, zb_some, zrz0, zrz1, zck_of, xI0 hc, xP0 hc, xD0 hc, xI1 hc, xP1 hc, xD1 hc, xI66 hc, xP66 hc, xD66 hc, xI68 hc, xP68 hc, xD68 hc, xI115 hc, xP115 hc, xD115 hc, xI120 hc, xP120 hc, xD120 hc, xI121 hc, xP121 hc, xD121 hc, xI125 hc, xP125 hc, xD125 hc, xI127 hc, xP127 hc, xD127 hc, xQ0_0 hc, xQ0_1 hc, xQ0_2 hc, xQ0_3 hc, xQ0_4 hc, xQ0_5 hc, xQ0_6 hc, xQ1_0 hc, xQ1_1 hc, xQ1_2 hc, xQ1_3 hc, xQ66_0 hc, xQ66_1 hc, xQ68_0 hc, xQ68_1 hc, xQ68_2 hc, xQ68_3 hc, xQ115_0 hc, xQ115_1 hc, xQ115_2 hc, xQ115_3 hc, xQ115_4 hc, xQ115_5 hc, xQ115_6 hc, xQ120_0 hc, xQ120_1 hc, xQ120_2 hc, xQ120_3 hc, xQ125_0 hc, xQ125_1 hc, xQ127_0 hc, xQ127_1 hc, xQ127_2 hc, xQ127_3 hc, xQ127_4 hc, xQ127_5 hc, xRo2 hc, xWo2 hc, xN2 hc, xRo65 hc, xWo65 hc, xN65 hc, xRo113 hc, xWo113 hc, xN113 hc, xRo114 hc, xWo114 hc, xN114 hc, xRo116 hc, xWo116 hc, xN116 hc, xRo117 hc, xWo117 hc, xN117 hc, xRo118 hc, xWo118 hc, xN118 hc, xRo119 hc, xWo119 hc, xN119 hc, xRo122 hc, xWo122 hc, xN122 hc, xRo124 hc, xWo124 hc, xN124 hc, xRo126 hc, xWo126 hc, xN126 hc, xRo128 hc, xWo128 hc, xN128 hc, xRo129 hc, xWo129 hc, xN129 hc, xRo130 hc, xWo130 hc, xN130 hc, xRo131 hc, xWo131 hc, xN131 hc, xRo132 hc, xWo132 hc, xN132 hc, xRo133 hc, xWo133 hc, xN133 hc, xN67 hc, xAo67 hc, xN123 hc, xAo123 hc, xN3 hc, xAo3 hc, xN34 hc, xAo34 hc, xN69 hc, xAo69 hc, ite_true, ite_false, if_pos, if_neg, if_neg q1]
    · simp (disch := omega) only [mI, mP, mPo, mD, Option.bind_some, zb_some, zrz0, zrz1, zck_of, mQ1, mRo1, mWo1, mQ3, mRo2, mWo2, mQ4, mRo3, mWo3, mQ8, mRo4, mWo4, mQ9, mRo5, mWo5, mQ10, mRo6, mWo6, mQ11, mRo7, mWo7, mQ12, mRo8, mWo8, mQ13, mRo9, mWo9, mQ14, mRo10, mWo10, mQ17, mRo11, mWo11, mQ19, mRo12, mWo12, mQ20, mRo13, mWo13, mQ23, mRo14, mWo14, mQ24, mRo15, mWo15, mQ26, mRo16, mWo16, mQ27, mRo17, mWo17, mQ28, mRo18, mWo18, mQ29, mRo19, mWo19, mQ30, mRo20, mWo20, mQ32, mRo21, mWo21, mQ33, mRo22, mWo22, mQ34, mRo23, mWo23, mQ35, mRo24, mWo24, mQ36, mRo25, mWo25, mQ37, mRo26, mWo26, mQ38, mRo27, mWo27, mQ39, mRo28, mWo28, mQ40, mRo29, mWo29, mQ41, mRo30, mWo30, mQ43, mRo31, mWo31, mQ44, mRo32, mWo32, mQ45, mRo33, mWo33, mQ46, mRo34, mWo34, mQ47, mRo35, mWo35, mQ48, mRo36, mWo36, mQ50, mRo37, mWo37, mQ51, mRo38, mWo38, mQ52, mRo39, mWo39, ite_true, ite_false, if_pos, if_neg, if_neg q1]
end OPA
