/-! ===== the reference's ways: its loops give the closure ===== -/
def mE (g : Nat → Nat → Int) (a b : Nat) : Int := if a < 30 ∧ b < 30 ∧ 0 < g 2 (30 * a + b) then g 2 (30 * a + b) else 1000000
theorem gu_row {g : Nat → Nat → Int} {j i a : Nat} {v : Int} (h : a ≠ j) : gu g j i v a = g a := funext fun b => by unfold gu; rw [if_neg (fun q => h q.1)]
theorem gu_at {g : Nat → Nat → Int} {j i b : Nat} {v : Int} : gu g j i v j b = if b = i then v else g j b := by unfold gu; simp
theorem zgu {g : Nat → Nat → Int} {j i a b : Nat} {v : Int} : gu g j i v a b = if a = j ∧ b = i then v else g a b := rfl
/-- the matrix as the loops begin -/
def mW0 (g : Nat → Nat → Int) (a b : Nat) : Int := if a = b then 0 else if g 2 (30 * a + b) ≤ 0 then 1000000 else g 2 (30 * a + b)
theorem fw_init_row {m N : Nat} {FU : Nat} {kL10 : Nat → Int → Hp → Option (Unit × Hp)} {P a : Nat} (hP : P ≤ 30) (ha : a < P) : ∀ (d b : Nat) (g : Nat → Nat → Int) (n : Nat), b + d = P → d < n → g 0 2 = P → ∃ g', FM_findWays_L20 FU kL10 n m a b (zG m N g) = kL10 m ((a + 1 : Nat) : Int) (zG m N g') ∧ (∀ j, j ≠ 3 → g' j = g j) ∧ ∀ i, g' 3 i = if 30 * a + b ≤ i ∧ i < 30 * a + P then mW0 g a (i - 30 * a) else g 3 i := by
  intro d
  induction d with
  | zero =>
    intro b g n hb hn hg
    obtain ⟨n, rfl⟩ : ∃ n', n = n' + 1 := ⟨n - 1, by omega⟩
    refine ⟨g, ?_, fun _ _ => rfl, fun i => by rw [if_neg (by omega)]⟩
    rw [FM_findWays_L20]
    simp (disch := omega) only [mI, mP, mPo, mD, Option.bind_some, zb_some, zrz0, zrz1, zck_of, mQ1, mRo1, mWo1, mQ3, mRo2, mWo2, mQ4, mRo3, mWo3, mQ8, mRo4, mWo4, mQ9, mRo5, mWo5, mQ10, mRo6, mWo6, mQ11, mRo7, mWo7, mQ12, mRo8, mWo8, mQ13, mRo9, mWo9, mQ14, mRo10, mWo10, mQ17, mRo11, mWo11, mQ19, mRo12, mWo12, mQ20, mRo13, mWo13, mQ23, mRo14, mWo14, mQ24, mRo15, mWo15, mQ26, mRo16, mWo16, mQ27, mRo17, mWo17, mQ28, mRo18, mWo18, mQ29, mRo19, mWo19, mQ30, mRo20, mWo20, mQ32, mRo21, mWo21, mQ33, mRo22, mWo22, mQ34, mRo23, mWo23, mQ35, mRo24, mWo24, mQ36, mRo25, mWo25, mQ37, mRo26, mWo26, mQ38, mRo27, mWo27, mQ39, mRo28, mWo28, mQ40, mRo29, mWo29, mQ41, mRo30, mWo30, mQ43, mRo31, mWo31, mQ44, mRo32, mWo32, mQ45, mRo33, mWo33, mQ46, mRo34, mWo34, mQ47, mRo35, mWo35, mQ48, mRo36, mWo36, mQ50, mRo37, mWo37, mQ51, mRo38, mWo38, mQ52, mRo39, mWo39, if_neg, hg]
    rfl
  | succ d ih =>
    intro b g n hb hn hg
    obtain ⟨n, rfl⟩ : ∃ n', n = n' + 1 := ⟨n - 1, by omega⟩
    have key : ∀ v : Int, v = mW0 g a b → ∃ g', FM_findWays_L20 FU kL10 n m a ((b + 1 : Nat) : Int) (zG m N (gu g 3 (30 * a + b) v)) = kL10 m ((a + 1 : Nat) : Int) (zG m N g') ∧ (∀ j, j ≠ 3 → g' j = g j) ∧ ∀ i, g' 3 i = if 30 * a + b ≤ i ∧ i < 30 * a + P then mW0 g a (i - 30 * a) else g 3 i := fun v hv => by
      obtain ⟨g', e1, e2, e3⟩ := ih (b + 1) (gu g 3 (30 * a + b) v) n (by omega) (by omega) (by rw [gu_row (by decide)]; exact hg)
      refine ⟨g', e1, fun j hj => by rw [e2 j hj, gu_row hj], fun i => ?_⟩
      rw [e3 i]
      have e4 : mW0 (gu g 3 (30 * a + b) v) = mW0 g := by
        funext p q
        unfold mW0
        rw [gu_row (by decide)]
      rw [e4, gu_at]
      by_cases h1 : i = 30 * a + b
      · rw [if_neg (by omega), if_pos h1, if_pos (by omega), hv, h1, Nat.add_sub_cancel_left]
      · by_cases h2 : 30 * a + b ≤ i ∧ i < 30 * a + P
        · rw [if_pos (by omega), if_pos h2]
        · rw [if_neg (by omega), if_neg h1, if_neg h2]
    rw [FM_findWays_L20]
    have e0 : ((30 : Int) * (a : Int) + (b : Int)).toNat = 30 * a + b := by omega
    have e1 : (b : Int) + 1 = ((b + 1 : Nat) : Int) := by omega
    simp (disch := omega) only [mI, mP, mPo, mD, Option.bind_some, zb_some, zrz0, zrz1, zck_of, mQ1, mRo1, mWo1, mQ3, mRo2, mWo2, mQ4, mRo3, mWo3, mQ8, mRo4, mWo4, mQ9, mRo5, mWo5, mQ10, mRo6, mWo6, mQ11, mRo7, mWo7, mQ12, mRo8, mWo8, mQ13, mRo9, mWo9, mQ14, mRo10, mWo10, mQ17, mRo11, mWo11, mQ19, mRo12, mWo12, mQ20, mRo13, mWo13, mQ23, mRo14, mWo14, mQ24, mRo15, mWo15, mQ26, mRo16, mWo16, mQ27, mRo17, mWo17, mQ28, mRo18, mWo18, mQ29, mRo19, mWo19, mQ30, mRo20, mWo20, mQ32, mRo21, mWo21, mQ33, mRo22, mWo22, mQ34, mRo23, mWo23, mQ35, mRo24, mWo24, mQ36, mRo25, mWo25, mQ37, mRo26, mWo26, mQ38, mRo27, mWo27, mQ39, mRo28, mWo28, mQ40, mRo29, mWo29, mQ41, mRo30, mWo30, mQ43, mRo31, mWo31, mQ44, mRo32, mWo32, mQ45, mRo33, mWo33, mQ46, mRo34, mWo34, mQ47, mRo35, mWo35, mQ48, mRo36, mWo36, mQ50, mRo37, mWo37, mQ51, mRo38, mWo38, mQ52, mRo39, mWo39, if_pos, hg, e0, e1]
    by_cases hab : (a : Int) = (b : Int)
    · rw [if_pos hab]
      exact key 0 (by unfold mW0; rw [if_pos (by omega)])
    · rw [if_neg hab]
      by_cases hE : g 2 (30 * a + b) ≤ 0
      · rw [if_pos hE]
        exact key 1000000 (by unfold mW0; rw [if_neg (by omega), if_pos hE])
      · rw [if_neg hE]
        exact key _ (by unfold mW0; rw [if_neg (by omega), if_neg hE])
theorem mW0_row {g g' : Nat → Nat → Int} (h : g' 2 = g 2) : mW0 g' = mW0 g := by funext p q; unfold mW0; rw [h]
theorem mE_row {g g' : Nat → Nat → Int} (h : g' 2 = g 2) : mE g' = mE g := by funext p q; unfold mE; rw [h]
theorem fw_init {m N FU : Nat} {P : Nat} (hP : P ≤ 30) (hFU : 31 ≤ FU) : ∀ (d a : Nat) (g : Nat → Nat → Int) (n : Nat), a + d = P → d < n → g 0 2 = P → ∃ g', FM_findWays_L10 FU n m a (zG m N g) = FM_findWays_L84 FU FU m 0 (zG m N g') ∧ (∀ j, j ≠ 3 → g' j = g j) ∧ ∀ p q, p < P → q < P → g' 3 (30 * p + q) = if a ≤ p then mW0 g p q else g 3 (30 * p + q) := by
  intro d
  induction d with
  | zero =>
    intro a g n hb hn hg
    obtain ⟨n, rfl⟩ : ∃ n', n = n' + 1 := ⟨n - 1, by omega⟩
    refine ⟨g, ?_, fun _ _ => rfl, fun p q hp hq => by rw [if_neg (by omega)]⟩
    rw [FM_findWays_L10]
    simp (disch := omega) only [mI, mP, mPo, mD, Option.bind_some, zb_some, zrz0, zrz1, zck_of, mQ1, mRo1, mWo1, mQ3, mRo2, mWo2, mQ4, mRo3, mWo3, mQ8, mRo4, mWo4, mQ9, mRo5, mWo5, mQ10, mRo6, mWo6, mQ11, mRo7, mWo7, mQ12, mRo8, mWo8, mQ13, mRo9, mWo9, mQ14, mRo10, mWo10, mQ17, mRo11, mWo11, mQ19, mRo12, mWo12, mQ20, mRo13, mWo13, mQ23, mRo14, mWo14, mQ24, mRo15, mWo15, mQ26, mRo16, mWo16, mQ27, mRo17, mWo17, mQ28, mRo18, mWo18, mQ29, mRo19, mWo19, mQ30, mRo20, mWo20, mQ32, mRo21, mWo21, mQ33, mRo22, mWo22, mQ34, mRo23, mWo23, mQ35, mRo24, mWo24, mQ36, mRo25, mWo25, mQ37, mRo26, mWo26, mQ38, mRo27, mWo27, mQ39, mRo28, mWo28, mQ40, mRo29, mWo29, mQ41, mRo30, mWo30, mQ43, mRo31, mWo31, mQ44, mRo32, mWo32, mQ45, mRo33, mWo33, mQ46, mRo34, mWo34, mQ47, mRo35, mWo35, mQ48, mRo36, mWo36, mQ50, mRo37, mWo37, mQ51, mRo38, mWo38, mQ52, mRo39, mWo39, if_neg, hg]
  | succ d ih =>
    intro a g n hb hn hg
    obtain ⟨n, rfl⟩ : ∃ n', n = n' + 1 := ⟨n - 1, by omega⟩
    rw [FM_findWays_L10]
    simp (disch := omega) only [mI, mP, mPo, mD, Option.bind_some, zb_some, zrz0, zrz1, zck_of, mQ1, mRo1, mWo1, mQ3, mRo2, mWo2, mQ4, mRo3, mWo3, mQ8, mRo4, mWo4, mQ9, mRo5, mWo5, mQ10, mRo6, mWo6, mQ11, mRo7, mWo7, mQ12, mRo8, mWo8, mQ13, mRo9, mWo9, mQ14, mRo10, mWo10, mQ17, mRo11, mWo11, mQ19, mRo12, mWo12, mQ20, mRo13, mWo13, mQ23, mRo14, mWo14, mQ24, mRo15, mWo15, mQ26, mRo16, mWo16, mQ27, mRo17, mWo17, mQ28, mRo18, mWo18, mQ29, mRo19, mWo19, mQ30, mRo20, mWo20, mQ32, mRo21, mWo21, mQ33, mRo22, mWo22, mQ34, mRo23, mWo23, mQ35, mRo24, mWo24, mQ36, mRo25, mWo25, mQ37, mRo26, mWo26, mQ38, mRo27, mWo27, mQ39, mRo28, mWo28, mQ40, mRo29, mWo29, mQ41, mRo30, mWo30, mQ43, mRo31, mWo31, mQ44, mRo32, mWo32, mQ45, mRo33, mWo33, mQ46, mRo34, mWo34, mQ47, mRo35, mWo35, mQ48, mRo36, mWo36, mQ50, mRo37, mWo37, mQ51, mRo38, mWo38, mQ52, mRo39, mWo39, if_pos, hg]
    obtain ⟨g1, e1, e2, e3⟩ := fw_init_row (m := m) (N := N) (FU := FU) (kL10 := FM_findWays_L10 FU n) (P := P) (a := a) hP (by omega) P 0 g FU (by omega) (by omega) hg
    obtain ⟨g2, f1, f2, f3⟩ := ih (a + 1) g1 n (by omega) (by omega) (by rw [e2 0 (by decide)]; exact hg)
    refine ⟨g2, ?_, fun j hj => by rw [f2 j hj, e2 j hj], fun p q hp hq => ?_⟩
    · rw [← f1, ← e1]; rfl
    · rw [f3 p q hp hq, mW0_row (e2 2 (by decide)), e3]
      by_cases h1 : a + 1 ≤ p
      · rw [if_pos h1, if_pos (by omega)]
      · rw [if_neg h1]
        by_cases h2 : p = a
        · subst h2
          rw [if_pos (by omega), if_pos (Nat.le_refl p), Nat.add_sub_cancel_left]
        · rw [if_neg (by omega), if_neg (by omega)]
/-- one step of the closing, by node k -/
def fwS (w : Nat → Nat → Int) (k a b : Nat) : Int := if w a k + w k b < w a b then w a k + w k b else w a b
theorem fw_row {m N FU : Nat} {P : Nat} {kL84 : Nat → Int → Hp → Option (Unit × Hp)} {kL94 : Nat → Int → Int → Hp → Option (Unit × Hp)} {k a : Nat} {w : Nat → Nat → Int} (hP : P ≤ 30) (hk : k < P) (ha : a < P) (hkk : w k k = 0) (hw : ∀ p q, p < P → q < P → 0 ≤ w p q ∧ w p q ≤ 1000000) : ∀ (d b : Nat) (g : Nat → Nat → Int) (n : Nat), b + d = P → d < n → g 0 2 = P → (∀ p q, p < P → q < P → g 3 (30 * p + q) = if p < a ∨ (p = a ∧ q < b) then fwS w k p q else w p q) → ∃ g', FM_findWays_L104 FU kL84 kL94 n m k a b (zG m N g) = kL94 m k ((a + 1 : Nat) : Int) (zG m N g') ∧ (∀ j, j ≠ 3 → g' j = g j) ∧ ∀ p q, p < P → q < P → g' 3 (30 * p + q) = if p < a + 1 then fwS w k p q else w p q := by
  intro d
  induction d with
  | zero =>
    intro b g n hb hn hg hH
    obtain ⟨n, rfl⟩ : ∃ n', n = n' + 1 := ⟨n - 1, by omega⟩
    refine ⟨g, ?_, fun _ _ => rfl, fun p q hp hq => ?_⟩
    · rw [FM_findWays_L104]
      simp (disch := omega) only [mI, mP, mPo, mD, Option.bind_some, zb_some, zrz0, zrz1, zck_of, mQ1, mRo1, mWo1, mQ3, mRo2, mWo2, mQ4, mRo3, mWo3, mQ8, mRo4, mWo4, mQ9, mRo5, mWo5, mQ10, mRo6, mWo6, mQ11, mRo7, mWo7, mQ12, mRo8, mWo8, mQ13, mRo9, mWo9, mQ14, mRo10, mWo10, mQ17, mRo11, mWo11, mQ19, mRo12, mWo12, mQ20, mRo13, mWo13, mQ23, mRo14, mWo14, mQ24, mRo15, mWo15, mQ26, mRo16, mWo16, mQ27, mRo17, mWo17, mQ28, mRo18, mWo18, mQ29, mRo19, mWo19, mQ30, mRo20, mWo20, mQ32, mRo21, mWo21, mQ33, mRo22, mWo22, mQ34, mRo23, mWo23, mQ35, mRo24, mWo24, mQ36, mRo25, mWo25, mQ37, mRo26, mWo26, mQ38, mRo27, mWo27, mQ39, mRo28, mWo28, mQ40, mRo29, mWo29, mQ41, mRo30, mWo30, mQ43, mRo31, mWo31, mQ44, mRo32, mWo32, mQ45, mRo33, mWo33, mQ46, mRo34, mWo34, mQ47, mRo35, mWo35, mQ48, mRo36, mWo36, mQ50, mRo37, mWo37, mQ51, mRo38, mWo38, mQ52, mRo39, mWo39, if_neg, hg]
      rfl
    · rw [hH p q hp hq]
      by_cases h1 : p < a + 1
      · rw [if_pos h1, if_pos (by omega)]
      · rw [if_neg h1, if_neg (by omega)]
  | succ d ih =>
    intro b g n hb hn hg hH
    obtain ⟨n, rfl⟩ : ∃ n', n = n' + 1 := ⟨n - 1, by omega⟩
    rw [FM_findWays_L104]
    have e0 : ((30 : Int) * (a : Int) + (b : Int)).toNat = 30 * a + b := by omega
    have e1 : (b : Int) + 1 = ((b + 1 : Nat) : Int) := by omega
    have e2 : ((30 : Int) * (a : Int) + (k : Int)).toNat = 30 * a + k := by omega
    have e3 : ((30 : Int) * (k : Int) + (b : Int)).toNat = 30 * k + b := by omega
    have hbP : b < P := by omega
    have w1 := hw a k ha hk
    have w2 := hw k b hk hbP
    have w3 := hw a b ha hbP
    have w4 := hw k k hk hk
    have r1 : g 3 (30 * a + k) = w a k := by
      rw [hH a k ha hk]
      split
      · unfold fwS; rw [hkk]; rw [if_neg (by omega)]
      · rfl
    have r2 : g 3 (30 * k + b) = w k b := by
      rw [hH k b hk hbP]
      split
      · unfold fwS; rw [hkk]; rw [if_neg (by omega)]
      · rfl
    have r3 : g 3 (30 * a + b) = w a b := by
      rw [hH a b ha hbP, if_neg (by omega)]
    simp (disch := omega) only [mI, mP, mPo, mD, Option.bind_some, zb_some, zrz0, zrz1, zck_of, mQ1, mRo1, mWo1, mQ3, mRo2, mWo2, mQ4, mRo3, mWo3, mQ8, mRo4, mWo4, mQ9, mRo5, mWo5, mQ10, mRo6, mWo6, mQ11, mRo7, mWo7, mQ12, mRo8, mWo8, mQ13, mRo9, mWo9, mQ14, mRo10, mWo10, mQ17, mRo11, mWo11, mQ19, mRo12, mWo12, mQ20, mRo13, mWo13, mQ23, mRo14, mWo14, mQ24, mRo15, mWo15, mQ26, mRo16, mWo16, mQ27, mRo17, mWo17, mQ28, mRo18, mWo18, mQ29, mRo19, mWo19, mQ30, mRo20, mWo20, mQ32, mRo21, mWo21, mQ33, mRo22, mWo22, mQ34, mRo23, mWo23, mQ35, mRo24, mWo24, mQ36, mRo25, mWo25, mQ37, mRo26, mWo26, mQ38, mRo27, mWo27, mQ39, mRo28, mWo28, mQ40, mRo29, mWo29, mQ41, mRo30, mWo30, mQ43, mRo31, mWo31, mQ44, mRo32, mWo32, mQ45, mRo33, mWo33, mQ46, mRo34, mWo34, mQ47, mRo35, mWo35, mQ48, mRo36, mWo36, mQ50, mRo37, mWo37, mQ51, mRo38, mWo38, mQ52, mRo39, mWo39, if_pos, hg, e0, e1, e2, e3, r1, r2, r3]
    by_cases hlt : w a k + w k b < w a b
    · rw [if_pos hlt]
      obtain ⟨g', f1, f2, f3⟩ := ih (b + 1) (gu g 3 (30 * a + b) (w a k + w k b)) n (by omega) (by omega) (by rw [gu_row (by decide)]; exact hg) (fun p q hp hq => by
        rw [gu_at, hH p q hp hq]
        by_cases h1 : 30 * p + q = 30 * a + b
        · have h2 : p = a := by omega
          have h3 : q = b := by omega
          subst h2
          subst h3
          rw [if_pos rfl, if_pos (by omega)]
          unfold fwS
          rw [if_pos hlt]
        · rw [if_neg h1]
          by_cases h4 : p < a ∨ (p = a ∧ q < b)
          · rw [if_pos h4, if_pos (by omega)]
          · rw [if_neg h4, if_neg (by omega)])
      exact ⟨g', f1, fun j hj => by rw [f2 j hj, gu_row hj], f3⟩
    · rw [if_neg hlt]
      exact ih (b + 1) g n (by omega) (by omega) hg (fun p q hp hq => by
        rw [hH p q hp hq]
        by_cases h4 : p < a ∨ (p = a ∧ q < b)
        · rw [if_pos h4, if_pos (by omega)]
        · rw [if_neg h4]
          by_cases h5 : p < a ∨ (p = a ∧ q < b + 1)
          · have h2 : p = a := by omega
            have h3 : q = b := by omega
            subst h2
            subst h3
            rw [if_pos h5]
            unfold fwS
            rw [if_neg hlt]
          · rw [if_neg h5])
theorem fw_mat {m N FU : Nat} {P : Nat} {kL84 : Nat → Int → Hp → Option (Unit × Hp)} {k : Nat} {w : Nat → Nat → Int} (hP : P ≤ 30) (hFU : 31 ≤ FU) (hk : k < P) (hkk : w k k = 0) (hw : ∀ p q, p < P → q < P → 0 ≤ w p q ∧ w p q ≤ 1000000) : ∀ (d a : Nat) (g : Nat → Nat → Int) (n : Nat), a + d = P → d < n → g 0 2 = P → (∀ p q, p < P → q < P → g 3 (30 * p + q) = if p < a then fwS w k p q else w p q) → ∃ g', FM_findWays_L94 FU kL84 n m k a (zG m N g) = kL84 m ((k + 1 : Nat) : Int) (zG m N g') ∧ (∀ j, j ≠ 3 → g' j = g j) ∧ ∀ p q, p < P → q < P → g' 3 (30 * p + q) = fwS w k p q := by
  intro d
  induction d with
  | zero =>
    intro a g n hb hn hg hH
    obtain ⟨n, rfl⟩ : ∃ n', n = n' + 1 := ⟨n - 1, by omega⟩
    refine ⟨g, ?_, fun _ _ => rfl, fun p q hp hq => by rw [hH p q hp hq, if_pos (by omega)]⟩
    rw [FM_findWays_L94]
    simp (disch := omega) only [mI, mP, mPo, mD, Option.bind_some, zb_some, zrz0, zrz1, zck_of, mQ1, mRo1, mWo1, mQ3, mRo2, mWo2, mQ4, mRo3, mWo3, mQ8, mRo4, mWo4, mQ9, mRo5, mWo5, mQ10, mRo6, mWo6, mQ11, mRo7, mWo7, mQ12, mRo8, mWo8, mQ13, mRo9, mWo9, mQ14, mRo10, mWo10, mQ17, mRo11, mWo11, mQ19, mRo12, mWo12, mQ20, mRo13, mWo13, mQ23, mRo14, mWo14, mQ24, mRo15, mWo15, mQ26, mRo16, mWo16, mQ27, mRo17, mWo17, mQ28, mRo18, mWo18, mQ29, mRo19, mWo19, mQ30, mRo20, mWo20, mQ32, mRo21, mWo21, mQ33, mRo22, mWo22, mQ34, mRo23, mWo23, mQ35, mRo24, mWo24, mQ36, mRo25, mWo25, mQ37, mRo26, mWo26, mQ38, mRo27, mWo27, mQ39, mRo28, mWo28, mQ40, mRo29, mWo29, mQ41, mRo30, mWo30, mQ43, mRo31, mWo31, mQ44, mRo32, mWo32, mQ45, mRo33, mWo33, mQ46, mRo34, mWo34, mQ47, mRo35, mWo35, mQ48, mRo36, mWo36, mQ50, mRo37, mWo37, mQ51, mRo38, mWo38, mQ52, mRo39, mWo39, if_neg, hg]
    rfl
  | succ d ih =>
    intro a g n hb hn hg hH
    obtain ⟨n, rfl⟩ : ∃ n', n = n' + 1 := ⟨n - 1, by omega⟩
    rw [FM_findWays_L94]
    simp (disch := omega) only [mI, mP, mPo, mD, Option.bind_some, zb_some, zrz0, zrz1, zck_of, mQ1, mRo1, mWo1, mQ3, mRo2, mWo2, mQ4, mRo3, mWo3, mQ8, mRo4, mWo4, mQ9, mRo5, mWo5, mQ10, mRo6, mWo6, mQ11, mRo7, mWo7, mQ12, mRo8, mWo8, mQ13, mRo9, mWo9, mQ14, mRo10, mWo10, mQ17, mRo11, mWo11, mQ19, mRo12, mWo12, mQ20, mRo13, mWo13, mQ23, mRo14, mWo14, mQ24, mRo15, mWo15, mQ26, mRo16, mWo16, mQ27, mRo17, mWo17, mQ28, mRo18, mWo18, mQ29, mRo19, mWo19, mQ30, mRo20, mWo20, mQ32, mRo21, mWo21, mQ33, mRo22, mWo22, mQ34, mRo23, mWo23, mQ35, mRo24, mWo24, mQ36, mRo25, mWo25, mQ37, mRo26, mWo26, mQ38, mRo27, mWo27, mQ39, mRo28, mWo28, mQ40, mRo29, mWo29, mQ41, mRo30, mWo30, mQ43, mRo31, mWo31, mQ44, mRo32, mWo32, mQ45, mRo33, mWo33, mQ46, mRo34, mWo34, mQ47, mRo35, mWo35, mQ48, mRo36, mWo36, mQ50, mRo37, mWo37, mQ51, mRo38, mWo38, mQ52, mRo39, mWo39, if_pos, hg]
    obtain ⟨g1, e1, e2, e3⟩ := fw_row (m := m) (N := N) (FU := FU) (kL84 := kL84) (kL94 := FM_findWays_L94 FU kL84 n) (k := k) (a := a) hP hk (by omega) hkk hw P 0 g FU (by omega) (by omega) hg (fun p q hp hq => by
      rw [hH p q hp hq]
      by_cases h1 : p < a
      · rw [if_pos h1, if_pos (by omega)]
      · rw [if_neg h1, if_neg (by omega)])
    obtain ⟨g2, f1, f2, f3⟩ := ih (a + 1) g1 n (by omega) (by omega) (by rw [e2 0 (by decide)]; exact hg) e3
    refine ⟨g2, ?_, fun j hj => by rw [f2 j hj, e2 j hj], f3⟩
    rw [← f1, ← e1]; rfl
/-- what holds of the matrix when nodes below k are done -/
def FW (P : Nat) (E : Nat → Nat → Int) (k : Nat) (w : Nat → Nat → Int) : Prop :=
  (∀ a, a < P → w a a = 0) ∧ (∀ a b, a < P → b < P → 0 ≤ w a b ∧ w a b ≤ 1000000) ∧ (∀ a b, a < P → b < P → w a b ≤ E a b) ∧ (∀ a b c, a < P → b < P → c < k → w a b ≤ w a c + w c b) ∧
  ∀ φ : Nat → Int, (∀ a, 0 ≤ φ a ∧ φ a ≤ 1000000) → (∀ a c, φ a ≤ E a c + φ c) → ∀ a b, a < P → b < P → φ a ≤ w a b + φ b
theorem FW.step {P : Nat} {E w : Nat → Nat → Int} {k : Nat} (h : FW P E k w) (hk : k < P) : FW P E (k + 1) (fwS w k) := by
  obtain ⟨d, r, e, t, p⟩ := h
  have hs : ∀ a b, a < P → b < P → fwS w k a b ≤ w a b ∧ fwS w k a b ≤ w a k + w k b ∧ (fwS w k a b = w a b ∨ fwS w k a b = w a k + w k b) := fun a b _ _ => by unfold fwS; split <;> omega
  refine ⟨fun a ha => ?_, fun a b ha hb => ?_, fun a b ha hb => ?_, fun a b c ha hb hc => ?_, fun φ hr hφ a b ha hb => ?_⟩
  · have := hs a a ha ha; have := d a ha; have := r a k ha hk; have := r k a hk ha; omega
  · have := hs a b ha hb; have := r a b ha hb; have := r a k ha hk; have := r k b hk hb; omega
  · have := hs a b ha hb; have := e a b ha hb; omega
  · have hcP : c < P := by omega
    have h1 := hs a b ha hb
    have h2 := hs a c ha hcP
    have h3 := hs c b hcP hb
    have rk := r k c hk hcP
    have rc := r c k hcP hk
    by_cases hck : c = k
    · subst hck
      have := d c hk; omega
    · have t1 := t a b c ha hb (by omega)
      have t2 := t a k c ha hk (by omega)
      have t3 := t k b c hk hb (by omega)
      omega
  · have h1 := hs a b ha hb
    have := p φ hr hφ a b ha hb
    have := p φ hr hφ a k ha hk
    have := p φ hr hφ k b hk hb
    omega
theorem fw_all {m N FU : Nat} {P : Nat} {E : Nat → Nat → Int} (hP : P ≤ 30) (hFU : 31 ≤ FU) : ∀ (d k : Nat) (g : Nat → Nat → Int) (n : Nat) (w : Nat → Nat → Int), k + d = P → d < n → g 0 2 = P → FW P E k w → (∀ p q, p < P → q < P → g 3 (30 * p + q) = w p q) → ∃ g', FM_findWays_L84 FU n m k (zG m N g) = some ((), zG m N (gu g' 0 5 1)) ∧ (∀ j, j ≠ 3 → g' j = g j) ∧ ∃ w', FW P E P w' ∧ ∀ p q, p < P → q < P → g' 3 (30 * p + q) = w' p q := by
  intro d
  induction d with
  | zero =>
    intro k g n w hb hn hg hF hH
    obtain ⟨n, rfl⟩ : ∃ n', n = n' + 1 := ⟨n - 1, by omega⟩
    have hkP : k = P := by omega
    subst hkP
    refine ⟨g, ?_, fun _ _ => rfl, w, hF, hH⟩
    rw [FM_findWays_L84]
    simp (disch := omega) only [mI, mP, mPo, mD, Option.bind_some, zb_some, zrz0, zrz1, zck_of, mQ1, mRo1, mWo1, mQ3, mRo2, mWo2, mQ4, mRo3, mWo3, mQ8, mRo4, mWo4, mQ9, mRo5, mWo5, mQ10, mRo6, mWo6, mQ11, mRo7, mWo7, mQ12, mRo8, mWo8, mQ13, mRo9, mWo9, mQ14, mRo10, mWo10, mQ17, mRo11, mWo11, mQ19, mRo12, mWo12, mQ20, mRo13, mWo13, mQ23, mRo14, mWo14, mQ24, mRo15, mWo15, mQ26, mRo16, mWo16, mQ27, mRo17, mWo17, mQ28, mRo18, mWo18, mQ29, mRo19, mWo19, mQ30, mRo20, mWo20, mQ32, mRo21, mWo21, mQ33, mRo22, mWo22, mQ34, mRo23, mWo23, mQ35, mRo24, mWo24, mQ36, mRo25, mWo25, mQ37, mRo26, mWo26, mQ38, mRo27, mWo27, mQ39, mRo28, mWo28, mQ40, mRo29, mWo29, mQ41, mRo30, mWo30, mQ43, mRo31, mWo31, mQ44, mRo32, mWo32, mQ45, mRo33, mWo33, mQ46, mRo34, mWo34, mQ47, mRo35, mWo35, mQ48, mRo36, mWo36, mQ50, mRo37, mWo37, mQ51, mRo38, mWo38, mQ52, mRo39, mWo39, if_neg, hg]
  | succ d ih =>
    intro k g n w hb hn hg hF hH
    obtain ⟨n, rfl⟩ : ∃ n', n = n' + 1 := ⟨n - 1, by omega⟩
    rw [FM_findWays_L84]
    simp (disch := omega) only [mI, mP, mPo, mD, Option.bind_some, zb_some, zrz0, zrz1, zck_of, mQ1, mRo1, mWo1, mQ3, mRo2, mWo2, mQ4, mRo3, mWo3, mQ8, mRo4, mWo4, mQ9, mRo5, mWo5, mQ10, mRo6, mWo6, mQ11, mRo7, mWo7, mQ12, mRo8, mWo8, mQ13, mRo9, mWo9, mQ14, mRo10, mWo10, mQ17, mRo11, mWo11, mQ19, mRo12, mWo12, mQ20, mRo13, mWo13, mQ23, mRo14, mWo14, mQ24, mRo15, mWo15, mQ26, mRo16, mWo16, mQ27, mRo17, mWo17, mQ28, mRo18, mWo18, mQ29, mRo19, mWo19, mQ30, mRo20, mWo20, mQ32, mRo21, mWo21, mQ33, mRo22, mWo22, mQ34, mRo23, mWo23, mQ35, mRo24, mWo24, mQ36, mRo25, mWo25, mQ37, mRo26, mWo26, mQ38, mRo27, mWo27, mQ39, mRo28, mWo28, mQ40, mRo29, mWo29, mQ41, mRo30, mWo30, mQ43, mRo31, mWo31, mQ44, mRo32, mWo32, mQ45, mRo33, mWo33, mQ46, mRo34, mWo34, mQ47, mRo35, mWo35, mQ48, mRo36, mWo36, mQ50, mRo37, mWo37, mQ51, mRo38, mWo38, mQ52, mRo39, mWo39, if_pos, hg]
    obtain ⟨g1, e1, e2, e3⟩ := fw_mat (m := m) (N := N) (FU := FU) (kL84 := FM_findWays_L84 FU n) (k := k) (w := w) hP hFU (by omega) (hF.1 k (by omega)) hF.2.1 P 0 g FU (by omega) (by omega) hg (fun p q hp hq => by rw [hH p q hp hq, if_neg (by omega)])
    obtain ⟨g2, f1, f2, f3⟩ := ih (k + 1) g1 n (fwS w k) (by omega) (by omega) (by rw [e2 0 (by decide)]; exact hg) (hF.step (by omega)) e3
    refine ⟨g2, ?_, fun j hj => by rw [f2 j hj, e2 j hj], f3⟩
    rw [← f1, ← e1]; rfl
/-- the places' edges are as the town keeps them -/
def mEok (g : Nat → Nat → Int) (P : Nat) : Prop := ∀ a b, a < 30 → b < 30 → 0 ≤ g 2 (30 * a + b) ∧ g 2 (30 * a + b) ≤ 99 ∧ g 2 (30 * a + b) = g 2 (30 * b + a) ∧ (g 2 (30 * a + b) ≠ 0 → a < P ∧ b < P ∧ a ≠ b)
theorem mE_ge {g : Nat → Nat → Int} {P : Nat} (h : mEok g P) (a b : Nat) : 1 ≤ mE g a b := by unfold mE; split <;> omega
theorem mE_le {g : Nat → Nat → Int} {P : Nat} (h : mEok g P) (a b : Nat) (hl : mE g a b < 1000000) : mE g a b ≤ 99 := by
  unfold mE at hl ⊢
  split
  · rename_i q; exact (h a b q.1 q.2.1).2.1
  · rename_i q; rw [if_neg q] at hl; omega
theorem mE_far {g : Nat → Nat → Int} {P : Nat} (h : mEok g P) (a c : Nat) (hc : P ≤ c) : 1000000 ≤ mE g a c := by
  unfold mE
  split
  · rename_i q; have := (h a c q.1 q.2.1).2.2.2 (by omega); omega
  · omega
theorem mE_sym {g : Nat → Nat → Int} {P : Nat} (h : mEok g P) (a b : Nat) : mE g a b = mE g b a := by
  unfold mE
  by_cases q : a < 30 ∧ b < 30 ∧ 0 < g 2 (30 * a + b)
  · have := (h a b q.1 q.2.1).2.2.1
    rw [if_pos q, if_pos (by omega), this]
  · by_cases q2 : b < 30 ∧ a < 30 ∧ 0 < g 2 (30 * b + a)
    · have := (h a b q2.2.1 q2.1).2.2.1
      omega
    · rw [if_neg q, if_neg q2]
theorem FW.clo {P : Nat} {E w : Nat → Nat → Int} (h : FW P E P w) (hfar : ∀ a c, P ≤ c → 1000000 ≤ E a c) (hsym : ∀ a b, E a b = E b a) : Clo E (fun a b => if a < P ∧ b < P then w a b else if a = b then 0 else 1000000) := by
  obtain ⟨d, r, e, t, p⟩ := h
  have hv : ∀ a b, (a < P ∧ b < P ∧ (if a < P ∧ b < P then w a b else if a = b then 0 else 1000000) = w a b ∧ 0 ≤ w a b ∧ w a b ≤ 1000000 ∧ w a b ≤ E a b) ∨ ((P ≤ a ∨ P ≤ b) ∧ a = b ∧ (if a < P ∧ b < P then w a b else if a = b then 0 else 1000000) = 0) ∨ ((P ≤ a ∨ P ≤ b) ∧ a ≠ b ∧ (if a < P ∧ b < P then w a b else if a = b then 0 else 1000000) = (1000000 : Int)) := fun a b => by
    by_cases h1 : a < P ∧ b < P
    · rw [if_pos h1]; have := r a b h1.1 h1.2; have := e a b h1.1 h1.2; exact Or.inl ⟨h1.1, h1.2, rfl, by omega, by omega, by omega⟩
    · rw [if_neg h1]
      by_cases h2 : a = b
      · rw [if_pos h2]; exact Or.inr (Or.inl ⟨by omega, h2, rfl⟩)
      · rw [if_neg h2]; exact Or.inr (Or.inr ⟨by omega, h2, rfl⟩)
  have hE : ∀ a b, (P ≤ a ∨ P ≤ b) → 1000000 ≤ E a b := fun a b q => by
    rcases q with q | q
    · rw [hsym]; exact hfar b a q
    · exact hfar a b q
  refine ⟨fun a => ?_, fun a b => ?_, fun a b => ?_, fun a b c => ?_, fun φ hr hφ a b => ?_⟩
  · rcases hv a a with ⟨h1, -, h2, -⟩ | ⟨-, -, h2⟩ | ⟨-, h1, -⟩
    · simp only at h2 ⊢; rw [h2, d a h1]
    · exact h2
    · exact absurd rfl h1
  · show 0 ≤ (if a < P ∧ b < P then w a b else if a = b then 0 else 1000000) ∧ (if a < P ∧ b < P then w a b else if a = b then 0 else 1000000) ≤ (1000000 : Int)
    rcases hv a b with ⟨-, -, h2, h3, h4, -⟩ | ⟨-, -, h2⟩ | ⟨-, -, h2⟩ <;> rw [h2] <;> omega
  · show (if a < P ∧ b < P then w a b else if a = b then 0 else 1000000) ≤ E a b
    rcases hv a b with ⟨-, -, h2, -, -, h5⟩ | ⟨h1, -, h2⟩ | ⟨h1, -, h2⟩ <;> rw [h2]
    · exact h5
    · have := hE a b h1; omega
    · exact hE a b h1
  · show (if a < P ∧ b < P then w a b else if a = b then 0 else 1000000) ≤ (if a < P ∧ c < P then w a c else if a = c then 0 else 1000000) + (if c < P ∧ b < P then w c b else if c = b then 0 else 1000000)
    rcases hv a b with ⟨a1, b1, h2, h3, h4, -⟩ | ⟨a1, b1, h2⟩ | ⟨a1, b1, h2⟩ <;> rw [h2] <;>
    rcases hv a c with ⟨a3, b3, h5, h6, h7, -⟩ | ⟨a3, b3, h5⟩ | ⟨a3, b3, h5⟩ <;> rw [h5] <;>
    rcases hv c b with ⟨a8, b8, h8, h9, h10, -⟩ | ⟨a8, b8, h8⟩ | ⟨a8, b8, h8⟩ <;> rw [h8] <;> first | omega | exact t a b c a1 b1 b3
  · show φ a ≤ (if a < P ∧ b < P then w a b else if a = b then 0 else 1000000) + φ b
    have f1 := hr a
    have f2 := hr b
    rcases hv a b with ⟨a1, b1, h2, -⟩ | ⟨-, b1, h2⟩ | ⟨-, -, h2⟩ <;> rw [h2]
    · exact p φ hr hφ a b a1 b1
    · subst b1; omega
    · omega
/-- findWays: afterwards the ways are kept, the rest stays -/
theorem eM_findWays {m N FU : Nat} {g W : Nat → Nat → Int} {P : Nat} (hP : P ≤ 30) (hFU : 31 ≤ FU) (hg : g 0 2 = P) (hE : mEok g P) (hW : Clo (mE g) W) (h5 : g 0 5 = 0 ∨ g 0 5 = 1) (hc : g 0 5 = 1 → ∀ a b, a < P → b < P → g 3 (30 * a + b) = W a b) : ∃ g', FM_findWays FU m (zG m N g) = some ((), zG m N g') ∧ (∀ j, j ≠ 3 → j ≠ 0 → g' j = g j) ∧ (∀ i, i ≠ 5 → g' 0 i = g 0 i) ∧ g' 0 5 = 1 ∧ ∀ a b, a < P → b < P → g' 3 (30 * a + b) = W a b := by
  unfold FM_findWays FM_findWays_b
  rcases h5 with h5 | h5
  · obtain ⟨g1, e1, e2, e3⟩ := fw_init (m := m) (N := N) (FU := FU) hP hFU P 0 g FU (by omega) (by omega) hg
    obtain ⟨g2, f1, f2, w', f3, f4⟩ := fw_all (m := m) (N := N) (FU := FU) (E := mE g) hP hFU P 0 g1 FU (mW0 g) (by omega) (by omega) (by rw [e2 0 (by decide)]; exact hg) ⟨fun a _ => by unfold mW0; rw [if_pos rfl], fun a b ha hb => by
        have := hE a b (by omega) (by omega)
        unfold mW0; split <;> (try split) <;> omega, fun a b ha hb => by
        have := hE a b (by omega) (by omega)
        unfold mW0 mE
        by_cases q1 : a = b
        · rw [if_pos q1]; by_cases q2 : a < 30 ∧ b < 30 ∧ 0 < g 2 (30 * a + b)
          · rw [if_pos q2]; omega
          · rw [if_neg q2]; omega
        · rw [if_neg q1]; by_cases q2 : a < 30 ∧ b < 30 ∧ 0 < g 2 (30 * a + b)
          · rw [if_pos q2, if_neg (by omega)]; omega
          · rw [if_neg q2, if_pos (by omega)]; omega, fun a b c _ _ hc => absurd hc (Nat.not_lt_zero c), fun φ hr hφ a b ha hb => by
        have h1 := hφ a b
        have h2 := hr a
        have h3 := hr b
        have := hE a b (by omega) (by omega)
        unfold mE at h1
        unfold mW0
        by_cases hab : a = b
        · rw [if_pos hab, hab]; omega
        · rw [if_neg hab]
          split
          · omega
          · rw [if_pos (by omega)] at h1; exact h1⟩ (fun p q hp hq => by rw [e3 p q hp hq, if_pos (Nat.zero_le p)])
    refine ⟨gu g2 0 5 1, ?_, fun j h3 h0 => by rw [gu_row h0, f2 j h3, e2 j h3], fun i hi => by rw [gu_at, if_neg hi, f2 0 (by decide), e2 0 (by decide)], by rw [gu_at, if_pos rfl], fun a b ha hb => ?_⟩
    · simp (disch := omega) only [mI, mP, mPo, mD, Option.bind_some, zb_some, zrz0, zrz1, zck_of, mQ1, mRo1, mWo1, mQ3, mRo2, mWo2, mQ4, mRo3, mWo3, mQ8, mRo4, mWo4, mQ9, mRo5, mWo5, mQ10, mRo6, mWo6, mQ11, mRo7, mWo7, mQ12, mRo8, mWo8, mQ13, mRo9, mWo9, mQ14, mRo10, mWo10, mQ17, mRo11, mWo11, mQ19, mRo12, mWo12, mQ20, mRo13, mWo13, mQ23, mRo14, mWo14, mQ24, mRo15, mWo15, mQ26, mRo16, mWo16, mQ27, mRo17, mWo17, mQ28, mRo18, mWo18, mQ29, mRo19, mWo19, mQ30, mRo20, mWo20, mQ32, mRo21, mWo21, mQ33, mRo22, mWo22, mQ34, mRo23, mWo23, mQ35, mRo24, mWo24, mQ36, mRo25, mWo25, mQ37, mRo26, mWo26, mQ38, mRo27, mWo27, mQ39, mRo28, mWo28, mQ40, mRo29, mWo29, mQ41, mRo30, mWo30, mQ43, mRo31, mWo31, mQ44, mRo32, mWo32, mQ45, mRo33, mWo33, mQ46, mRo34, mWo34, mQ47, mRo35, mWo35, mQ48, mRo36, mWo36, mQ50, mRo37, mWo37, mQ51, mRo38, mWo38, mQ52, mRo39, mWo39, h5, if_pos]
      have e0 : FM_findWays_L10 FU FU m 0 (zG m N g) = FM_findWays_L84 FU FU m 0 (zG m N g1) := e1
      rw [e0]
      exact f1
    · rw [gu_row (by decide), f4 a b ha hb]
      have h1 := Clo.eq hW (f3.clo (fun a c hc => mE_far hE a c hc) (mE_sym hE)) a b
      rw [if_pos ⟨ha, hb⟩] at h1
      exact h1
  · refine ⟨g, ?_, fun _ _ _ => rfl, fun _ _ => rfl, h5, hc h5⟩
    simp (disch := omega) only [mI, mP, mPo, mD, Option.bind_some, zb_some, zrz0, zrz1, zck_of, mQ1, mRo1, mWo1, mQ3, mRo2, mWo2, mQ4, mRo3, mWo3, mQ8, mRo4, mWo4, mQ9, mRo5, mWo5, mQ10, mRo6, mWo6, mQ11, mRo7, mWo7, mQ12, mRo8, mWo8, mQ13, mRo9, mWo9, mQ14, mRo10, mWo10, mQ17, mRo11, mWo11, mQ19, mRo12, mWo12, mQ20, mRo13, mWo13, mQ23, mRo14, mWo14, mQ24, mRo15, mWo15, mQ26, mRo16, mWo16, mQ27, mRo17, mWo17, mQ28, mRo18, mWo18, mQ29, mRo19, mWo19, mQ30, mRo20, mWo20, mQ32, mRo21, mWo21, mQ33, mRo22, mWo22, mQ34, mRo23, mWo23, mQ35, mRo24, mWo24, mQ36, mRo25, mWo25, mQ37, mRo26, mWo26, mQ38, mRo27, mWo27, mQ39, mRo28, mWo28, mQ40, mRo29, mWo29, mQ41, mRo30, mWo30, mQ43, mRo31, mWo31, mQ44, mRo32, mWo32, mQ45, mRo33, mWo33, mQ46, mRo34, mWo34, mQ47, mRo35, mWo35, mQ48, mRo36, mWo36, mQ50, mRo37, mWo37, mQ51, mRo38, mWo38, mQ52, mRo39, mWo39, h5, if_neg]
