/-! ===== shops: how both read them ===== -/
section SHP
variable {x N FU : Nat} {c : Nat → Key} {V : Key → Nat → Int} {R : Key → Nat → Option Nat} {K : Key → Option (Nat × Nat)}
theorem xKo {q t l : Nat} {key : Key} (hq : c q = key) (h0 : key.1 ≠ 0) (hK : K key = some (t, l)) : zk (zX x c N V R K) q = some (t, l) := by
  rw [zX_k, hq, if_neg h0, hK]
theorem xRo {q j : Nat} {key : Key} (hq : c q = key) (h0 : key.1 ≠ 0) : zr (zX x c N V R K) q j = R key j := by
  rw [zX_r, hq, if_neg h0]
theorem xoI {q t j : Nat} {key : Key} (hq : c q = key) (h0 : key.1 ≠ 0) (hK : K key = some (t, 0)) : zgI (zX x c N V R K) q t j = some (V key j) := xIk hq (xKo hq h0 hK)
theorem xoP {q t j : Nat} {v : Int} {key : Key} (hc : CX x c) (hq : c q = key) (h0 : key.1 ≠ 0) (hK : K key = some (t, 0)) : zpI (zX x c N V R K) q t j v = some (zX x c N (ku V key j v) R K) := xPk hc hq (xKo hq h0 hK)
theorem xoD {α : Type} {q t : Nat} {key : Key} {k : Option α} (hq : c q = key) (h0 : key.1 ≠ 0) (hK : K key = some (t, 0)) : zgd (zX x c N V R K) q t k = k := xDk (xKo hq h0 hK)
theorem eC_shopAt (hc : CX x c) {n : Int} (hn : V (0, 66, 0) 2 = n) (h0 : 0 ≤ n ∧ n ≤ 40) (p : Int) : FChain_shopAt FU (x + 66) p (zX x c N V R K) = some (if 0 ≤ p ∧ p < n then R (0, 67, 0) p.toNat else none) := by
  unfold FChain_shopAt FChain_shopAt_b
  by_cases h1 : p < 0
  · simp (disch := omega) only [Option.bind_some, zb_some, zrz0, zrz1, zck_of, xI0 hc, xP0 hc, xD0 hc, xI1 hc, xP1 hc, xD1 hc, xI66 hc, xP66 hc, xD66 hc, xI68 hc, xP68 hc, xD68 hc, xI115 hc, xP115 hc, xD115 hc, xI120 hc, xP120 hc, xD120 hc, xI121 hc, xP121 hc, xD121 hc, xI125 hc, xP125 hc, xD125 hc, xI127 hc, xP127 hc, xD127 hc, xQ0_0 hc, xQ0_1 hc, xQ0_2 hc, xQ0_3 hc, xQ0_4 hc, xQ0_5 hc, xQ0_6 hc, xQ1_0 hc, xQ1_1 hc, xQ1_2 hc, xQ1_3 hc, xQ66_0 hc, xQ66_1 hc, xQ68_0 hc, xQ68_1 hc, xQ68_2 hc, xQ68_3 hc, xQ115_0 hc, xQ115_1 hc, xQ115_2 hc, xQ115_3 hc, xQ115_4 hc, xQ115_5 hc, xQ115_6 hc, xQ120_0 hc, xQ120_1 hc, xQ120_2 hc, xQ120_3 hc, xQ125_0 hc, xQ125_1 hc, xQ127_0 hc, xQ127_1 hc, xQ127_2 hc, xQ127_3 hc, xQ127_4 hc, xQ127_5 hc, xRo2 hc, xWo2 hc, xN2 hc, xRo65 hc, xWo65 hc, xN65 hc, xRo113 hc, xWo113 hc, xN113 hc, xRo114 hc, xWo114 hc, xN114 hc, xRo116 hc, xWo116 hc, xN116 hc, xRo117 hc, xWo117 hc, xN117 hc, xRo118 hc, xWo118 hc, xN118 hc, xRo119 hc, xWo119 hc, xN119 hc, xRo122 hc, xWo122 hc, xN122 hc, xRo124 hc, xWo124 hc, xN124 hc, xRo126 hc, xWo126 hc, xN126 hc, xRo128 hc, xWo128 hc, xN128 hc, xRo129 hc, xWo129 hc, xN129 hc, xRo130 hc, xWo130 hc, xN130 hc, xRo131 hc, xWo131 hc, xN131 hc, xRo132 hc, xWo132 hc, xN132 hc, xRo133 hc, xWo133 hc, xN133 hc, xN67 hc, xAo67 hc, xN123 hc, xAo123 hc, xN3 hc, xAo3 hc, xN34 hc, xAo34 hc, xN69 hc, xAo69 hc, if_pos h1, if_neg (show ¬ (0 ≤ p ∧ p < n) by omega)]
  · by_cases h2 : p < n
    · simp (disch := omega) only [Option.bind_some, zb_some, zrz0, zrz1, zck_of, xI0 hc, xP0 hc, xD0 hc, xI1 hc, xP1 hc, xD1 hc, xI66 hc, xP66 hc, xD66 hc, xI68 hc, xP68 hc, xD68 hc, xI115 hc, xP115 hc, xD115 hc, xI120 hc, xP120 hc, xD120 hc, xI121 hc, xP121 hc, xD121 hc, xI125 hc, xP125 hc, xD125 hc, xI127 hc, xP127 hc, xD127 hc, xQ0_0 hc, xQ0_1 hc, xQ0_2 hc, xQ0_3 hc, xQ0_4 hc, xQ0_5 hc, xQ0_6 hc, xQ1_0 hc, xQ1_1 hc, xQ1_2 hc, xQ1_3 hc, xQ66_0 hc, xQ66_1 hc, xQ68_0 hc, xQ68_1 hc, xQ68_2 hc, xQ68_3 hc, xQ115_0 hc, xQ115_1 hc, xQ115_2 hc, xQ115_3 hc, xQ115_4 hc, xQ115_5 hc, xQ115_6 hc, xQ120_0 hc, xQ120_1 hc, xQ120_2 hc, xQ120_3 hc, xQ125_0 hc, xQ125_1 hc, xQ127_0 hc, xQ127_1 hc, xQ127_2 hc, xQ127_3 hc, xQ127_4 hc, xQ127_5 hc, xRo2 hc, xWo2 hc, xN2 hc, xRo65 hc, xWo65 hc, xN65 hc, xRo113 hc, xWo113 hc, xN113 hc, xRo114 hc, xWo114 hc, xN114 hc, xRo116 hc, xWo116 hc, xN116 hc, xRo117 hc, xWo117 hc, xN117 hc, xRo118 hc, xWo118 hc, xN118 hc, xRo119 hc, xWo119 hc, xN119 hc, xRo122 hc, xWo122 hc, xN122 hc, xRo124 hc, xWo124 hc, xN124 hc, xRo126 hc, xWo126 hc, xN126 hc, xRo128 hc, xWo128 hc, xN128 hc, xRo129 hc, xWo129 hc, xN129 hc, xRo130 hc, xWo130 hc, xN130 hc, xRo131 hc, xWo131 hc, xN131 hc, xRo132 hc, xWo132 hc, xN132 hc, xRo133 hc, xWo133 hc, xN133 hc, xN67 hc, xAo67 hc, xN123 hc, xAo123 hc, xN3 hc, xAo3 hc, xN34 hc, xAo34 hc, xN69 hc, xAo69 hc, ite_true, ite_false, if_pos, if_neg, if_neg h1, hn, if_pos h2, if_pos (show 0 ≤ p ∧ p < n by omega)]
    · simp (disch := omega) only [Option.bind_some, zb_some, zrz0, zrz1, zck_of, xI0 hc, xP0 hc, xD0 hc, xI1 hc, xP1 hc, xD1 hc, xI66 hc, xP66 hc, xD66 hc, xI68 hc, xP68 hc, xD68 hc, xI115 hc, xP115 hc, xD115 hc, xI120 hc, xP120 hc, xD120 hc, xI121 hc, xP121 hc, xD121 hc, xI125 hc, xP125 hc, xD125 hc, xI127 hc, xP127 hc, xD127 hc, xQ0_0 hc, xQ0_1 hc, xQ0_2 hc, xQ0_3 hc, xQ0_4 hc, xQ0_5 hc, xQ0_6 hc, xQ1_0 hc, xQ1_1 hc, xQ1_2 hc, xQ1_3 hc, xQ66_0 hc, xQ66_1 hc, xQ68_0 hc, xQ68_1 hc, xQ68_2 hc, xQ68_3 hc, xQ115_0 hc, xQ115_1 hc, xQ115_2 hc, xQ115_3 hc, xQ115_4 hc, xQ115_5 hc, xQ115_6 hc, xQ120_0 hc, xQ120_1 hc, xQ120_2 hc, xQ120_3 hc, xQ125_0 hc, xQ125_1 hc, xQ127_0 hc, xQ127_1 hc, xQ127_2 hc, xQ127_3 hc, xQ127_4 hc, xQ127_5 hc, xRo2 hc, xWo2 hc, xN2 hc, xRo65 hc, xWo65 hc, xN65 hc, xRo113 hc, xWo113 hc, xN113 hc, xRo114 hc, xWo114 hc, xN114 hc, xRo116 hc, xWo116 hc, xN116 hc, xRo117 hc, xWo117 hc, xN117 hc, xRo118 hc, xWo118 hc, xN118 hc, xRo119 hc, xWo119 hc, xN119 hc, xRo122 hc, xWo122 hc, xN122 hc, xRo124 hc, xWo124 hc, xN124 hc, xRo126 hc, xWo126 hc, xN126 hc, xRo128 hc, xWo128 hc, xN128 hc, xRo129 hc, xWo129 hc, xN129 hc, xRo130 hc, xWo130 hc, xN130 hc, xRo131 hc, xWo131 hc, xN131 hc, xRo132 hc, xWo132 hc, xN132 hc, xRo133 hc, xWo133 hc, xN133 hc, xN67 hc, xAo67 hc, xN123 hc, xAo123 hc, xN3 hc, xAo3 hc, xN34 hc, xAo34 hc, xN69 hc, xAo69 hc, if_neg h1, hn, if_neg h2, if_neg (show ¬ (0 ≤ p ∧ p < n) by omega)]
/-- a shop in the class's heap -/
def SA (c : Nat → Key) (R : Key → Nat → Option Nat) (K : Key → Option (Nat × Nat)) (i a : Nat) : Prop := (R (0, 67, 0) i = some a) ∧ (c a = (1, i, 0)) ∧ (K (1, i, 0) = some (7, 0))
theorem SA.ref {c : Nat → Key} {R : Key → Nat → Option Nat} {K : Key → Option (Nat × Nat)} {i a : Nat} (h : SA c R K i a) : R (0, 67, 0) i = some a := h.1
theorem SA.key {c : Nat → Key} {R : Key → Nat → Option Nat} {K : Key → Option (Nat × Nat)} {i a : Nat} (h : SA c R K i a) : c a = (1, i, 0) := h.2.1
theorem SA.kind {c : Nat → Key} {R : Key → Nat → Option Nat} {K : Key → Option (Nat × Nat)} {i a : Nat} (h : SA c R K i a) : K (1, i, 0) = some (7, 0) := h.2.2
theorem sI {i a j : Nat} (h : SA c R K i a) : zgI (zX x c N V R K) a 7 j = some (V (1, i, 0) j) := xoI h.key (by simp) h.kind
theorem sP {i a j : Nat} {v : Int} (hc : CX x c) (h : SA c R K i a) : zpI (zX x c N V R K) a 7 j v = some (zX x c N (ku V (1, i, 0) j v) R K) := xoP hc h.key (by simp) h.kind
theorem sD {α : Type} {i a : Nat} {k : Option α} (h : SA c R K i a) : zgd (zX x c N V R K) a 7 k = k := xoD h.key (by simp) h.kind
theorem eS_isOpen {i a : Nat} (h : SA c R K i a) : FShop_isOpen FU a (zX x c N V R K) = some (if V (1, i, 0) 5 = -1 then 1 else 0) := by
  unfold FShop_isOpen FShop_isOpen_b
  rw [sD h, sI h, Option.bind_some]
  split <;> rfl
theorem eS_runs {i a : Nat} (h : SA c R K i a) : FShop_hasRunningNotice FU a (zX x c N V R K) = some (if V (1, i, 0) 11 = -1 then 0 else if V (1, i, 0) 13 = 0 then 1 else 0) := by
  unfold FShop_hasRunningNotice FShop_hasRunningNotice_b
  rw [sD h, sI h, Option.bind_some, sI h, Option.bind_some]
  (repeat' split) <;> rfl
theorem eS_wasOpen {i a : Nat} (h : SA c R K i a) (p : Int) : FShop_wasOpenOn FU a p (zX x c N V R K) = some (if V (1, i, 0) 3 ≤ p ∧ (V (1, i, 0) 5 = -1 ∨ p < V (1, i, 0) 5) then 1 else 0) := by
  unfold FShop_wasOpenOn FShop_wasOpenOn_b
  rw [sD h, sI h, Option.bind_some, sI h, Option.bind_some, Option.bind_some]
  by_cases h1 : V (1, i, 0) 3 ≤ p
  · rw [if_pos h1]
    by_cases h2 : V (1, i, 0) 5 = -1
    · rw [if_pos h2, if_pos ⟨h1, .inl h2⟩]; rfl
    · rw [if_neg h2]
      by_cases h3 : V (1, i, 0) 5 ≤ p
      · rw [if_pos h3, if_neg (by omega)]; rfl
      · rw [if_neg h3, if_pos (by omega)]; rfl
  · rw [if_neg h1, if_neg (by omega)]; rfl
/-- how a notice ends -/
def vEnd (V : Key → Nat → Int) (i : Nat) (how day : Int) : Key → Nat → Int := if V (1, i, 0) 11 = -1 then V else if V (1, i, 0) 13 = 0 then ku (ku V (1, i, 0) 13 how) (1, i, 0) 14 day else V
theorem eS_end {i a : Nat} (hc : CX x c) (h : SA c R K i a) (how day : Int) : FShop_endNotice FU a how day (zX x c N V R K) = some ((), zX x c N (vEnd V i how day) R K) := by
  unfold FShop_endNotice FShop_endNotice_b vEnd
  rw [sD h, eS_runs h, Option.bind_some]
  by_cases h1 : V (1, i, 0) 11 = -1
  · rw [if_pos h1, if_pos h1, if_pos rfl]
  · rw [if_neg h1, if_neg h1]
    by_cases h2 : V (1, i, 0) 13 = 0
    · rw [if_pos h2, if_pos h2, if_neg (by decide), sP hc h, Option.bind_some, sP hc h, Option.bind_some]
    · rw [if_neg h2, if_neg h2, if_pos rfl]
theorem eS_shut {i a : Nat} (hc : CX x c) (h : SA c R K i a) (how day : Int) : FShop_shut FU a day how (zX x c N V R K) = some ((), zX x c N (vEnd (ku V (1, i, 0) 5 day) i how day) R K) := by
  unfold FShop_shut FShop_shut_b
  rw [sD h, sP hc h, Option.bind_some, eS_end hc h, zb_some]
end SHP
section SHM
variable {m N FU : Nat} {g : Nat → Nat → Int}
theorem eM_isOpen {i : Int} (h : 0 ≤ i ∧ i < 40) : FM_isOpen FU m i (zG m N g) = some (if g 8 i.toNat < 0 then 1 else 0) := by
  unfold FM_isOpen FM_isOpen_b
  simp (disch := omega) only [mI, mP, mPo, mD, Option.bind_some, zb_some, zrz0, zrz1, zck_of, mQ1, mRo1, mWo1, mQ3, mRo2, mWo2, mQ4, mRo3, mWo3, mQ8, mRo4, mWo4, mQ9, mRo5, mWo5, mQ10, mRo6, mWo6, mQ11, mRo7, mWo7, mQ12, mRo8, mWo8, mQ13, mRo9, mWo9, mQ14, mRo10, mWo10, mQ17, mRo11, mWo11, mQ19, mRo12, mWo12, mQ20, mRo13, mWo13, mQ23, mRo14, mWo14, mQ24, mRo15, mWo15, mQ26, mRo16, mWo16, mQ27, mRo17, mWo17, mQ28, mRo18, mWo18, mQ29, mRo19, mWo19, mQ30, mRo20, mWo20, mQ32, mRo21, mWo21, mQ33, mRo22, mWo22, mQ34, mRo23, mWo23, mQ35, mRo24, mWo24, mQ36, mRo25, mWo25, mQ37, mRo26, mWo26, mQ38, mRo27, mWo27, mQ39, mRo28, mWo28, mQ40, mRo29, mWo29, mQ41, mRo30, mWo30, mQ43, mRo31, mWo31, mQ44, mRo32, mWo32, mQ45, mRo33, mWo33, mQ46, mRo34, mWo34, mQ47, mRo35, mWo35, mQ48, mRo36, mWo36, mQ50, mRo37, mWo37, mQ51, mRo38, mWo38, mQ52, mRo39, mWo39]
  split <;> rfl
theorem eM_runs {i : Int} (h : 0 ≤ i ∧ i < 40) : FM_runs FU m i (zG m N g) = some (if g 31 i.toNat < 0 then 0 else if g 33 i.toNat = 0 then 1 else 0) := by
  unfold FM_runs FM_runs_b
  simp (disch := omega) only [mI, mP, mPo, mD, Option.bind_some, zb_some, zrz0, zrz1, zck_of, mQ1, mRo1, mWo1, mQ3, mRo2, mWo2, mQ4, mRo3, mWo3, mQ8, mRo4, mWo4, mQ9, mRo5, mWo5, mQ10, mRo6, mWo6, mQ11, mRo7, mWo7, mQ12, mRo8, mWo8, mQ13, mRo9, mWo9, mQ14, mRo10, mWo10, mQ17, mRo11, mWo11, mQ19, mRo12, mWo12, mQ20, mRo13, mWo13, mQ23, mRo14, mWo14, mQ24, mRo15, mWo15, mQ26, mRo16, mWo16, mQ27, mRo17, mWo17, mQ28, mRo18, mWo18, mQ29, mRo19, mWo19, mQ30, mRo20, mWo20, mQ32, mRo21, mWo21, mQ33, mRo22, mWo22, mQ34, mRo23, mWo23, mQ35, mRo24, mWo24, mQ36, mRo25, mWo25, mQ37, mRo26, mWo26, mQ38, mRo27, mWo27, mQ39, mRo28, mWo28, mQ40, mRo29, mWo29, mQ41, mRo30, mWo30, mQ43, mRo31, mWo31, mQ44, mRo32, mWo32, mQ45, mRo33, mWo33, mQ46, mRo34, mWo34, mQ47, mRo35, mWo35, mQ48, mRo36, mWo36, mQ50, mRo37, mWo37, mQ51, mRo38, mWo38, mQ52, mRo39, mWo39]
  (repeat' split) <;> rfl
theorem eM_wasOpen {i : Int} (h : 0 ≤ i ∧ i < 40) (p : Int) : FM_wasOpen FU m i p (zG m N g) = some (if g 7 i.toNat ≤ p ∧ (g 8 i.toNat < 0 ∨ p < g 8 i.toNat) then 1 else 0) := by
  unfold FM_wasOpen FM_wasOpen_b
  simp (disch := omega) only [mI, mP, mPo, mD, Option.bind_some, zb_some, zrz0, zrz1, zck_of, mQ1, mRo1, mWo1, mQ3, mRo2, mWo2, mQ4, mRo3, mWo3, mQ8, mRo4, mWo4, mQ9, mRo5, mWo5, mQ10, mRo6, mWo6, mQ11, mRo7, mWo7, mQ12, mRo8, mWo8, mQ13, mRo9, mWo9, mQ14, mRo10, mWo10, mQ17, mRo11, mWo11, mQ19, mRo12, mWo12, mQ20, mRo13, mWo13, mQ23, mRo14, mWo14, mQ24, mRo15, mWo15, mQ26, mRo16, mWo16, mQ27, mRo17, mWo17, mQ28, mRo18, mWo18, mQ29, mRo19, mWo19, mQ30, mRo20, mWo20, mQ32, mRo21, mWo21, mQ33, mRo22, mWo22, mQ34, mRo23, mWo23, mQ35, mRo24, mWo24, mQ36, mRo25, mWo25, mQ37, mRo26, mWo26, mQ38, mRo27, mWo27, mQ39, mRo28, mWo28, mQ40, mRo29, mWo29, mQ41, mRo30, mWo30, mQ43, mRo31, mWo31, mQ44, mRo32, mWo32, mQ45, mRo33, mWo33, mQ46, mRo34, mWo34, mQ47, mRo35, mWo35, mQ48, mRo36, mWo36, mQ50, mRo37, mWo37, mQ51, mRo38, mWo38, mQ52, mRo39, mWo39]
  by_cases h1 : g 7 i.toNat ≤ p
  · rw [if_pos h1]
    by_cases h2 : g 8 i.toNat < 0
    · rw [if_pos h2, if_pos ⟨h1, .inl h2⟩]
    · rw [if_neg h2]
      by_cases h3 : g 8 i.toNat ≤ p
      · rw [if_pos h3, if_neg (by omega)]
      · rw [if_neg h3, if_pos (by omega)]
  · rw [if_neg h1, if_neg (by omega)]
theorem eM_end {i : Int} (h : 0 ≤ i ∧ i < 40) (how : Int) : FM_endNotice FU m i how (zG m N g) = some ((), zG m N (gu (gu g 33 i.toNat how) 34 i.toNat (g 0 0))) := by
  unfold FM_endNotice FM_endNotice_b
  simp (disch := omega) only [mI, mP, mPo, mD, Option.bind_some, zb_some, zrz0, zrz1, zck_of, mQ1, mRo1, mWo1, mQ3, mRo2, mWo2, mQ4, mRo3, mWo3, mQ8, mRo4, mWo4, mQ9, mRo5, mWo5, mQ10, mRo6, mWo6, mQ11, mRo7, mWo7, mQ12, mRo8, mWo8, mQ13, mRo9, mWo9, mQ14, mRo10, mWo10, mQ17, mRo11, mWo11, mQ19, mRo12, mWo12, mQ20, mRo13, mWo13, mQ23, mRo14, mWo14, mQ24, mRo15, mWo15, mQ26, mRo16, mWo16, mQ27, mRo17, mWo17, mQ28, mRo18, mWo18, mQ29, mRo19, mWo19, mQ30, mRo20, mWo20, mQ32, mRo21, mWo21, mQ33, mRo22, mWo22, mQ34, mRo23, mWo23, mQ35, mRo24, mWo24, mQ36, mRo25, mWo25, mQ37, mRo26, mWo26, mQ38, mRo27, mWo27, mQ39, mRo28, mWo28, mQ40, mRo29, mWo29, mQ41, mRo30, mWo30, mQ43, mRo31, mWo31, mQ44, mRo32, mWo32, mQ45, mRo33, mWo33, mQ46, mRo34, mWo34, mQ47, mRo35, mWo35, mQ48, mRo36, mWo36, mQ50, mRo37, mWo37, mQ51, mRo38, mWo38, mQ52, mRo39, mWo39, gu_row]
end SHM
section SHT
variable {k x N : Nat} {c : Nat → Key} {V V' : Key → Nat → Int} {R : Key → Nat → Option Nat} {K : Key → Option (Nat × Nat)} {g g' W : Nat → Nat → Int}
theorem IH.sa (h : IH k c V R K g) {i : Nat} (hi : i < (g 0 15).toNat) : ∃ a, SA c R K i a := by
  obtain ⟨a, h1, h2, h3⟩ := h.at_ i hi
  exact ⟨a, h1, h2, h3⟩
theorem IH.shopAt (hc : CX x c) (h : IH k c V R K g) {FU : Nat} (p : Int) : FChain_shopAt FU (x + 66) p (zX x c N V R K) = some (if 0 ≤ p ∧ p < g 0 15 then R (0, 67, 0) p.toNat else none) := eC_shopAt hc h.many h.many0 p
/-- a call's shop: none, or the i-th -/
theorem IH.ask (h : IH k c V R K g) (p : Int) : ¬ (0 ≤ p ∧ p < g 0 15) ∨ ∃ i a : Nat, p = (i : Int) ∧ i < (g 0 15).toNat ∧ i < 40 ∧ (0 ≤ p ∧ p < g 0 15) ∧ SA c R K i a ∧ R (0, 67, 0) p.toNat = some a ∧ IHi k V g i := by
  by_cases q : 0 ≤ p ∧ p < g 0 15
  · have n0 := h.many0
    obtain ⟨i, rfl⟩ : ∃ i : Nat, p = (i : Int) := ⟨p.toNat, by omega⟩
    obtain ⟨a, ha⟩ := h.sa (i := i) (by omega)
    exact .inr ⟨i, a, rfl, by omega, by omega, q, ha, ha.ref, h.num i (by omega)⟩
  · exact .inl q
theorem IH.upd (h : IH k c V R K g) {i0 : Nat} (hi0 : i0 < (g 0 15).toNat) (hV : ∀ key, key ≠ (1, i0, 0) → V' key = V key) (hg : ∀ j i, 4 ≤ j → j ≤ 35 → i ≠ i0 → g' j i = g j i) (h15 : g' 0 15 = g 0 15) (h2 : g' 0 2 = g 0 2) (q : IHi k V' g' i0) : IH k c V' R K g' := by
  unfold IH
  rw [h15, hV _ (by simp)]
  refine ⟨h.many, h.many0, h.at_, h.months, fun i hi => ?_, fun i hi hi2 => ?_⟩
  · by_cases e : i = i0
    · rw [e]; exact q
    · exact (h.num i hi).fr (fun j _ _ => by rw [hV _ (by simp [e])]) (fun j hj => hg j i (by omega) (by omega) e) h2
  · have := h.none_ i hi hi2
    have e : i ≠ i0 := by omega
    rw [hg 8 i (by omega) (by omega) e, hg 9 i (by omega) (by omega) e, hg 35 i (by omega) (by omega) e, hg 10 i (by omega) (by omega) e, hg 31 i (by omega) (by omega) e, hg 32 i (by omega) (by omega) e, hg 33 i (by omega) (by omega) e, hg 34 i (by omega) (by omega) e]
    exact this
end SHT
section OPC
variable {k x m : Nat} {X M : Hp}
theorem OP_reach (h : INV k x m X M) (hk : k < 512) (a1 a2 : Int) (h1 : zInI a1) (h2 : zInI a2) : ∃ (r : Int) (X' M' : Hp), FB_reach zFU x a1 a2 X = some (r, X') ∧ FM_reach zFU m a1 a2 M = some (r, M') ∧ INV (k + 1) x m X' M' := by
  obtain ⟨c, N, V, R, K, N', g, W, rfl, rfl, h⟩ := h
  have hc := h.c.cx
  unfold FB_reach FB_reach_b FM_reach FM_reach_b
  rcases h.h.ask a1 with q1 | ⟨i, a, rfl, hi, hi2, q1, ha, hR, hn⟩
  · refine ⟨-1, zX x c N V R K, zG m N' g, ?_, ?_, INV.intro h.skip⟩
    · simp (disch := omega) only [Option.bind_some, zb_some, zrz0, zrz1, zck_of, xI0 hc, xP0 hc, xD0 hc, xI1 hc, xP1 hc, xD1 hc, xI66 hc, xP66 hc, xD66 hc, xI68 hc, xP68 hc, xD68 hc, xI115 hc, xP115 hc, xD115 hc, xI120 hc, xP120 hc, xD120 hc, xI121 hc, xP121 hc, xD121 hc, xI125 hc, xP125 hc, xD125 hc, xI127 hc, xP127 hc, xD127 hc, xQ0_0 hc, xQ0_1 hc, xQ0_2 hc, xQ0_3 hc, xQ0_4 hc, xQ0_5 hc, xQ0_6 hc, xQ1_0 hc, xQ1_1 hc, xQ1_2 hc, xQ1_3 hc, xQ66_0 hc, xQ66_1 hc, xQ68_0 hc, xQ68_1 hc, xQ68_2 hc, xQ68_3 hc, xQ115_0 hc, xQ115_1 hc, xQ115_2 hc, xQ115_3 hc, xQ115_4 hc, xQ115_5 hc, xQ115_6 hc, xQ120_0 hc, xQ120_1 hc, xQ120_2 hc, xQ120_3 hc, xQ125_0 hc, xQ125_1 hc, xQ127_0 hc, xQ127_1 hc, xQ127_2 hc, xQ127_3 hc, xQ127_4 hc, xQ127_5 hc, xRo2 hc, xWo2 hc, xN2 hc, xRo65 hc, xWo65 hc, xN65 hc, xRo113 hc, xWo113 hc, xN113 hc, xRo114 hc, xWo114 hc, xN114 hc, xRo116 hc, xWo116 hc, xN116 hc, xRo117 hc, xWo117 hc, xN117 hc, xRo118 hc, xWo118 hc, xN118 hc, xRo119 hc, xWo119 hc, xN119 hc, xRo122 hc, xWo122 hc, xN122 hc, xRo124 hc, xWo124 hc, xN124 hc, xRo126 hc, xWo126 hc, xN126 hc, xRo128 hc, xWo128 hc, xN128 hc, xRo129 hc, xWo129 hc, xN129 hc, xRo130 hc, xWo130 hc, xN130 hc, xRo131 hc, xWo131 hc, xN131 hc, xRo132 hc, xWo132 hc, xN132 hc, xRo133 hc, xWo133 hc, xN133 hc, xN67 hc, xAo67 hc, xN123 hc, xAo123 hc, xN3 hc, xAo3 hc, xN34 hc, xAo34 hc, xN69 hc, xAo69 hc, h.h.shopAt hc, if_neg q1, zcase]
    · simp (disch := omega) only [mI, mP, mPo, mD, Option.bind_some, zb_some, zrz0, zrz1, zck_of, mQ1, mRo1, mWo1, mQ3, mRo2, mWo2, mQ4, mRo3, mWo3, mQ8, mRo4, mWo4, mQ9, mRo5, mWo5, mQ10, mRo6, mWo6, mQ11, mRo7, mWo7, mQ12, mRo8, mWo8, mQ13, mRo9, mWo9, mQ14, mRo10, mWo10, mQ17, mRo11, mWo11, mQ19, mRo12, mWo12, mQ20, mRo13, mWo13, mQ23, mRo14, mWo14, mQ24, mRo15, mWo15, mQ26, mRo16, mWo16, mQ27, mRo17, mWo17, mQ28, mRo18, mWo18, mQ29, mRo19, mWo19, mQ30, mRo20, mWo20, mQ32, mRo21, mWo21, mQ33, mRo22, mWo22, mQ34, mRo23, mWo23, mQ35, mRo24, mWo24, mQ36, mRo25, mWo25, mQ37, mRo26, mWo26, mQ38, mRo27, mWo27, mQ39, mRo28, mWo28, mQ40, mRo29, mWo29, mQ41, mRo30, mWo30, mQ43, mRo31, mWo31, mQ44, mRo32, mWo32, mQ45, mRo33, mWo33, mQ46, mRo34, mWo34, mQ47, mRo35, mWo35, mQ48, mRo36, mWo36, mQ50, mRo37, mWo37, mQ51, mRo38, mWo38, mQ52, mRo39, mWo39, ite_true, ite_false, if_pos, if_neg, eM_isShop, if_neg q1]
  · have hi3 : (i : Int).toNat = i := by omega
    by_cases q2 : 0 ≤ a2 ∧ a2 ≤ 999
    · by_cases q3 : g 8 i = -1
      · refine ⟨g 9 i, zX x c N (ku V (1, i, 0) 6 a2) R K, zG m N' (gu g 9 i a2), ?_, ?_, INV.intro (W := W) ?_⟩
        · simp (disch := omega) only [Option.bind_some, zb_some, zrz0, zrz1, zck_of, xI0 hc, xP0 hc, xD0 hc, xI1 hc, xP1 hc, xD1 hc, xI66 hc, xP66 hc, xD66 hc, xI68 hc, xP68 hc, xD68 hc, xI115 hc, xP115 hc, xD115 hc, xI120 hc, xP120 hc, xD120 hc, xI121 hc, xP121 hc, xD121 hc, xI125 hc, xP125 hc, xD125 hc, xI127 hc, xP127 hc, xD127 hc, xQ0_0 hc, xQ0_1 hc, xQ0_2 hc, xQ0_3 hc, xQ0_4 hc, xQ0_5 hc, xQ0_6 hc, xQ1_0 hc, xQ1_1 hc, xQ1_2 hc, xQ1_3 hc, xQ66_0 hc, xQ66_1 hc, xQ68_0 hc, xQ68_1 hc, xQ68_2 hc, xQ68_3 hc, xQ115_0 hc, xQ115_1 hc, xQ115_2 hc, xQ115_3 hc, xQ115_4 hc, xQ115_5 hc, xQ115_6 hc, xQ120_0 hc, xQ120_1 hc, xQ120_2 hc, xQ120_3 hc, xQ125_0 hc, xQ125_1 hc, xQ127_0 hc, xQ127_1 hc, xQ127_2 hc, xQ127_3 hc, xQ127_4 hc, xQ127_5 hc, xRo2 hc, xWo2 hc, xN2 hc, xRo65 hc, xWo65 hc, xN65 hc, xRo113 hc, xWo113 hc, xN113 hc, xRo114 hc, xWo114 hc, xN114 hc, xRo116 hc, xWo116 hc, xN116 hc, xRo117 hc, xWo117 hc, xN117 hc, xRo118 hc, xWo118 hc, xN118 hc, xRo119 hc, xWo119 hc, xN119 hc, xRo122 hc, xWo122 hc, xN122 hc, xRo124 hc, xWo124 hc, xN124 hc, xRo126 hc, xWo126 hc, xN126 hc, xRo128 hc, xWo128 hc, xN128 hc, xRo129 hc, xWo129 hc, xN129 hc, xRo130 hc, xWo130 hc, xN130 hc, xRo131 hc, xWo131 hc, xN131 hc, xRo132 hc, xWo132 hc, xN132 hc, xRo133 hc, xWo133 hc, xN133 hc, xN67 hc, xAo67 hc, xN123 hc, xAo123 hc, xN3 hc, xAo3 hc, xN34 hc, xAo34 hc, xN69 hc, xAo69 hc, ite_true, ite_false, if_pos, if_neg, h.h.shopAt hc, if_pos q1, hR, zcase, eB_isWithin, if_pos q2, eS_isOpen ha, hn.closed, if_pos q3, sI ha, sP hc ha, hn.reach]
        · simp (disch := omega) only [mI, mP, mPo, mD, Option.bind_some, zb_some, zrz0, zrz1, zck_of, mQ1, mRo1, mWo1, mQ3, mRo2, mWo2, mQ4, mRo3, mWo3, mQ8, mRo4, mWo4, mQ9, mRo5, mWo5, mQ10, mRo6, mWo6, mQ11, mRo7, mWo7, mQ12, mRo8, mWo8, mQ13, mRo9, mWo9, mQ14, mRo10, mWo10, mQ17, mRo11, mWo11, mQ19, mRo12, mWo12, mQ20, mRo13, mWo13, mQ23, mRo14, mWo14, mQ24, mRo15, mWo15, mQ26, mRo16, mWo16, mQ27, mRo17, mWo17, mQ28, mRo18, mWo18, mQ29, mRo19, mWo19, mQ30, mRo20, mWo20, mQ32, mRo21, mWo21, mQ33, mRo22, mWo22, mQ34, mRo23, mWo23, mQ35, mRo24, mWo24, mQ36, mRo25, mWo25, mQ37, mRo26, mWo26, mQ38, mRo27, mWo27, mQ39, mRo28, mWo28, mQ40, mRo29, mWo29, mQ41, mRo30, mWo30, mQ43, mRo31, mWo31, mQ44, mRo32, mWo32, mQ45, mRo33, mWo33, mQ46, mRo34, mWo34, mQ47, mRo35, mWo35, mQ48, mRo36, mWo36, mQ50, mRo37, mWo37, mQ51, mRo38, mWo38, mQ52, mRo39, mWo39, ite_true, ite_false, if_pos, if_neg, eM_isShop, if_pos q1, eM_within, if_pos q2, eM_isOpen (i := (i : Int)) (by omega), hi3, q3]
        · refine h.skip.put (W' := W) (fun a => a == 4) (by first | (intro key i q0 q; rfl) | (intro key i q0 q; (try simp only [zku]); (repeat' split) <;> first | rfl | (rename_i z; obtain ⟨z1, z2⟩ := z; subst z1; subst z2; first | exact absurd (show true = false from q) (by decide) | exact absurd rfl q0))) (by first | (intro key i q0 q; rfl) | (intro key i q0 q; (try simp only [zgu]); (repeat' split) <;> first | rfl | (rename_i z; obtain ⟨z1, z2⟩ := z; subst z1; subst z2; first | exact absurd (show true = false from q) (by decide) | exact absurd rfl q0))) (hh := fun _ => ?_)
          refine h.skip.h.upd hi (fun key e => ku_row e) (fun j i' _ _ e => by simp [zgu, e]) rfl rfl ?_
          have q := hn.skip
          unfold IHi at q ⊢
          simp [zku, zgu]
          simp at q
          omega
      · refine ⟨-3, zX x c N V R K, zG m N' g, ?_, ?_, INV.intro h.skip⟩
        · simp (disch := omega) only [Option.bind_some, zb_some, zrz0, zrz1, zck_of, xI0 hc, xP0 hc, xD0 hc, xI1 hc, xP1 hc, xD1 hc, xI66 hc, xP66 hc, xD66 hc, xI68 hc, xP68 hc, xD68 hc, xI115 hc, xP115 hc, xD115 hc, xI120 hc, xP120 hc, xD120 hc, xI121 hc, xP121 hc, xD121 hc, xI125 hc, xP125 hc, xD125 hc, xI127 hc, xP127 hc, xD127 hc, xQ0_0 hc, xQ0_1 hc, xQ0_2 hc, xQ0_3 hc, xQ0_4 hc, xQ0_5 hc, xQ0_6 hc, xQ1_0 hc, xQ1_1 hc, xQ1_2 hc, xQ1_3 hc, xQ66_0 hc, xQ66_1 hc, xQ68_0 hc, xQ68_1 hc, xQ68_2 hc, xQ68_3 hc, xQ115_0 hc, xQ115_1 hc, xQ115_2 hc, xQ115_3 hc, xQ115_4 hc, xQ115_5 hc, xQ115_6 hc, xQ120_0 hc, xQ120_1 hc, xQ120_2 hc, xQ120_3 hc, xQ125_0 hc, xQ125_1 hc, xQ127_0 hc, xQ127_1 hc, xQ127_2 hc, xQ127_3 hc, xQ127_4 hc, xQ127_5 hc, xRo2 hc, xWo2 hc, xN2 hc, xRo65 hc, xWo65 hc, xN65 hc, xRo113 hc, xWo113 hc, xN113 hc, xRo114 hc, xWo114 hc, xN114 hc, xRo116 hc, xWo116 hc, xN116 hc, xRo117 hc, xWo117 hc, xN117 hc, xRo118 hc, xWo118 hc, xN118 hc, xRo119 hc, xWo119 hc, xN119 hc, xRo122 hc, xWo122 hc, xN122 hc, xRo124 hc, xWo124 hc, xN124 hc, xRo126 hc, xWo126 hc, xN126 hc, xRo128 hc, xWo128 hc, xN128 hc, xRo129 hc, xWo129 hc, xN129 hc, xRo130 hc, xWo130 hc, xN130 hc, xRo131 hc, xWo131 hc, xN131 hc, xRo132 hc, xWo132 hc, xN132 hc, xRo133 hc, xWo133 hc, xN133 hc, xN67 hc, xAo67 hc, xN123 hc, xAo123 hc, xN3 hc, xAo3 hc, xN34 hc, xAo34 hc, xN69 hc, xAo69 hc, ite_true, ite_false, if_pos, if_neg, h.h.shopAt hc, if_pos q1, hR, zcase, eB_isWithin, if_pos q2, eS_isOpen ha, hn.closed, if_neg q3]
        · have q4 : ¬ g 8 i < 0 := by have := hn.closed0; omega
          simp (disch := omega) only [mI, mP, mPo, mD, Option.bind_some, zb_some, zrz0, zrz1, zck_of, mQ1, mRo1, mWo1, mQ3, mRo2, mWo2, mQ4, mRo3, mWo3, mQ8, mRo4, mWo4, mQ9, mRo5, mWo5, mQ10, mRo6, mWo6, mQ11, mRo7, mWo7, mQ12, mRo8, mWo8, mQ13, mRo9, mWo9, mQ14, mRo10, mWo10, mQ17, mRo11, mWo11, mQ19, mRo12, mWo12, mQ20, mRo13, mWo13, mQ23, mRo14, mWo14, mQ24, mRo15, mWo15, mQ26, mRo16, mWo16, mQ27, mRo17, mWo17, mQ28, mRo18, mWo18, mQ29, mRo19, mWo19, mQ30, mRo20, mWo20, mQ32, mRo21, mWo21, mQ33, mRo22, mWo22, mQ34, mRo23, mWo23, mQ35, mRo24, mWo24, mQ36, mRo25, mWo25, mQ37, mRo26, mWo26, mQ38, mRo27, mWo27, mQ39, mRo28, mWo28, mQ40, mRo29, mWo29, mQ41, mRo30, mWo30, mQ43, mRo31, mWo31, mQ44, mRo32, mWo32, mQ45, mRo33, mWo33, mQ46, mRo34, mWo34, mQ47, mRo35, mWo35, mQ48, mRo36, mWo36, mQ50, mRo37, mWo37, mQ51, mRo38, mWo38, mQ52, mRo39, mWo39, ite_true, ite_false, if_pos, if_neg, eM_isShop, if_pos q1, eM_within, if_pos q2, eM_isOpen (i := (i : Int)) (by omega), hi3, if_neg q4]
    · refine ⟨-1, zX x c N V R K, zG m N' g, ?_, ?_, INV.intro h.skip⟩
      · simp (disch := omega) only [Option.bind_some, zb_some, zrz0, zrz1, zck_of, xI0 hc, xP0 hc, xD0 hc, xI1 hc, xP1 hc, xD1 hc, xI66 hc, xP66 hc, xD66 hc, xI68 hc, xP68 hc, xD68 hc, xI115 hc, xP115 hc, xD115 hc, xI120 hc, xP120 hc, xD120 hc, xI121 hc, xP121 hc, xD121 hc, xI125 hc, xP125 hc, xD125 hc, xI127 hc, xP127 hc, xD127 hc, xQ0_0 hc, xQ0_1 hc, xQ0_2 hc, xQ0_3 hc, xQ0_4 hc, xQ0_5 hc, xQ0_6 hc, xQ1_0 hc, xQ1_1 hc, xQ1_2 hc, xQ1_3 hc, xQ66_0 hc, xQ66_1 hc, xQ68_0 hc, xQ68_1 hc, xQ68_2 hc, xQ68_3 hc, xQ115_0 hc, xQ115_1 hc, xQ115_2 hc, xQ115_3 hc, xQ115_4 hc, xQ115_5 hc, xQ115_6 hc, xQ120_0 hc, xQ120_1 hc, xQ120_2 hc, xQ120_3 hc, xQ125_0 hc, xQ125_1 hc, xQ127_0 hc, xQ127_1 hc, xQ127_2 hc, xQ127_3 hc, xQ127_4 hc, xQ127_5 hc, xRo2 hc, xWo2 hc, xN2 hc, xRo65 hc, xWo65 hc, xN65 hc, xRo113 hc, xWo113 hc, xN113 hc, xRo114 hc, xWo114 hc, xN114 hc, xRo116 hc, xWo116 hc, xN116 hc, xRo117 hc, xWo117 hc, xN117 hc, xRo118 hc, xWo118 hc, xN118 hc, xRo119 hc, xWo119 hc, xN119 hc, xRo122 hc, xWo122 hc, xN122 hc, xRo124 hc, xWo124 hc, xN124 hc, xRo126 hc, xWo126 hc, xN126 hc, xRo128 hc, xWo128 hc, xN128 hc, xRo129 hc, xWo129 hc, xN129 hc, xRo130 hc, xWo130 hc, xN130 hc, xRo131 hc, xWo131 hc, xN131 hc, xRo132 hc, xWo132 hc, xN132 hc, xRo133 hc, xWo133 hc, xN133 hc, xN67 hc, xAo67 hc, xN123 hc, xAo123 hc, xN3 hc, xAo3 hc, xN34 hc, xAo34 hc, xN69 hc, xAo69 hc, ite_true, ite_false, if_pos, if_neg, h.h.shopAt hc, if_pos q1, hR, zcase, eB_isWithin, if_neg q2]
      · simp (disch := omega) only [mI, mP, mPo, mD, Option.bind_some, zb_some, zrz0, zrz1, zck_of, mQ1, mRo1, mWo1, mQ3, mRo2, mWo2, mQ4, mRo3, mWo3, mQ8, mRo4, mWo4, mQ9, mRo5, mWo5, mQ10, mRo6, mWo6, mQ11, mRo7, mWo7, mQ12, mRo8, mWo8, mQ13, mRo9, mWo9, mQ14, mRo10, mWo10, mQ17, mRo11, mWo11, mQ19, mRo12, mWo12, mQ20, mRo13, mWo13, mQ23, mRo14, mWo14, mQ24, mRo15, mWo15, mQ26, mRo16, mWo16, mQ27, mRo17, mWo17, mQ28, mRo18, mWo18, mQ29, mRo19, mWo19, mQ30, mRo20, mWo20, mQ32, mRo21, mWo21, mQ33, mRo22, mWo22, mQ34, mRo23, mWo23, mQ35, mRo24, mWo24, mQ36, mRo25, mWo25, mQ37, mRo26, mWo26, mQ38, mRo27, mWo27, mQ39, mRo28, mWo28, mQ40, mRo29, mWo29, mQ41, mRo30, mWo30, mQ43, mRo31, mWo31, mQ44, mRo32, mWo32, mQ45, mRo33, mWo33, mQ46, mRo34, mWo34, mQ47, mRo35, mWo35, mQ48, mRo36, mWo36, mQ50, mRo37, mWo37, mQ51, mRo38, mWo38, mQ52, mRo39, mWo39, ite_true, ite_false, if_pos, if_neg, eM_isShop, if_pos q1, eM_within, if_neg q2]
end OPC
