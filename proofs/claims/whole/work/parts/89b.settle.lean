/-! ===== what is due is paid, the eldest month first ===== -/
def potF (g : Nat → Nat → Int) (i : Nat) (C : Int) : Nat → Int
  | 0 => C
  | j + 1 => potF g i C j - min (potF g i C j) (g 26 (333 * i + j) - g 28 (333 * i + j)) - min (potF g i C j - min (potF g i C j) (g 26 (333 * i + j) - g 28 (333 * i + j))) (g 27 (333 * i + j) - g 29 (333 * i + j))
def rF (g : Nat → Nat → Int) (i : Nat) (C : Int) (j : Nat) : Int := min (potF g i C j) (g 26 (333 * i + j) - g 28 (333 * i + j))
def fF (g : Nat → Nat → Int) (i : Nat) (C : Int) (j : Nat) : Int := min (potF g i C j - rF g i C j) (g 27 (333 * i + j) - g 29 (333 * i + j))
theorem potF_succ (g : Nat → Nat → Int) (i : Nat) (C : Int) (j : Nat) : potF g i C (j + 1) = potF g i C j - rF g i C j - fF g i C j := rfl
def dueOk (g : Nat → Nat → Int) : Prop := ∀ s, s < 13320 → 0 ≤ g 28 s ∧ g 28 s ≤ g 26 s ∧ g 26 s ≤ 1000000 ∧ 0 ≤ g 29 s ∧ g 29 s ≤ g 27 s ∧ g 27 s ≤ 1000000
theorem potF_nn {g : Nat → Nat → Int} (h : dueOk g) {i : Nat} (hi : i < 40) {C : Int} (hC : 0 ≤ C) : ∀ j, j ≤ 333 → 0 ≤ potF g i C j ∧ potF g i C j ≤ C
  | 0, _ => ⟨hC, Int.le_refl C⟩
  | j + 1, hj => by
    have p := potF_nn h hi hC j (by omega)
    have d := h (333 * i + j) (by omega)
    rw [potF_succ]
    unfold fF rF
    omega
theorem part_bd {g : Nat → Nat → Int} (h : dueOk g) {i : Nat} (hi : i < 40) {C : Int} (hC : 0 ≤ C) {j : Nat} (hj : j < 333) : 0 ≤ rF g i C j ∧ rF g i C j ≤ g 26 (333 * i + j) - g 28 (333 * i + j) ∧ rF g i C j ≤ potF g i C j ∧ 0 ≤ fF g i C j ∧ fF g i C j ≤ g 27 (333 * i + j) - g 29 (333 * i + j) ∧ fF g i C j ≤ potF g i C j - rF g i C j ∧ potF g i C j ≤ C := by
  have p := potF_nn h hi hC j (by omega)
  have d := h (333 * i + j) (by omega)
  unfold fF rF
  omega
theorem part_0 {g : Nat → Nat → Int} (h : dueOk g) {i : Nat} (hi : i < 40) {C : Int} (hC : 0 ≤ C) {n : Nat} (hn : n ≤ 333) (h0 : potF g i C n ≤ 0) : ∀ j, n ≤ j → j < 333 → rF g i C j = 0 ∧ fF g i C j = 0 := by
  have h1 : ∀ d, n + d ≤ 333 → potF g i C (n + d) = 0 := by
    intro d
    induction d with
    | zero => intro _; have := potF_nn h hi hC n hn; show potF g i C n = 0; omega
    | succ d ih =>
      intro hd
      have := ih (by omega)
      have b := part_bd h hi hC (j := n + d) (by omega)
      have e : potF g i C (n + (d + 1)) = potF g i C (n + d) - rF g i C (n + d) - fF g i C (n + d) := rfl
      omega
  intro j hj hj2
  have z := h1 (j - n) (by omega)
  rw [show n + (j - n) = j by omega] at z
  have b := part_bd h hi hC (j := j) hj2
  omega
def setV (V : Key → Nat → Int) (g : Nat → Nat → Int) (i : Nat) (C : Int) (n : Nat) (key : Key) (q : Nat) : Int :=
  if key.1 = 2 ∧ key.2.1 = i ∧ key.2.2 < n then (if q = 5 then V key 5 + rF g i C key.2.2 else if q = 6 then V key 6 + fF g i C key.2.2 else V key q)
  else if key = (1, i, 0) then (if q = 10 then potF g i C n else if q = 9 then V key 9 - (C - potF g i C n) else V key q) else V key q
def setG (g : Nat → Nat → Int) (i : Nat) (C : Int) (n : Nat) (a s : Nat) : Int :=
  if a = 28 ∧ 333 * i ≤ s ∧ s < 333 * i + n then g 28 s + rF g i C (s - 333 * i)
  else if a = 29 ∧ 333 * i ≤ s ∧ s < 333 * i + n then g 29 s + fF g i C (s - 333 * i)
  else if a = 0 ∧ s = 42 then g 0 42 + zsum (fF g i C) n else g a s
theorem setG_0 (g : Nat → Nat → Int) (i : Nat) (C : Int) : setG g i C 0 = g := by
  funext a s
  unfold setG
  rw [if_neg (by omega), if_neg (by omega)]
  split
  · rename_i z
    rw [z.1, z.2]
    simp [zsum]
  · rfl
theorem setG_o {g : Nat → Nat → Int} {i : Nat} {C : Int} {n a s : Nat} (h28 : a ≠ 28) (h29 : a ≠ 29) (h0 : a = 0 → s ≠ 42) : setG g i C n a s = g a s := by
  unfold setG
  rw [if_neg (fun z => h28 z.1), if_neg (fun z => h29 z.1), if_neg (fun z => h0 z.1 z.2)]
theorem setG_step (g : Nat → Nat → Int) (i : Nat) (C : Int) (n : Nat) : gu (gu (gu (setG g i C n) 28 (333 * i + n) (g 28 (333 * i + n) + rF g i C n)) 29 (333 * i + n) (g 29 (333 * i + n) + fF g i C n)) 0 42 (g 0 42 + zsum (fF g i C) n + fF g i C n) = setG g i C (n + 1) := by
  funext a s
  simp only [zgu]
  unfold setG
  by_cases e0 : a = 0 ∧ s = 42
  · rw [if_pos e0, if_neg (by omega), if_neg (by omega), if_pos e0]
    simp [zsum]
    omega
  · rw [if_neg e0]
    by_cases e29 : a = 29 ∧ s = 333 * i + n
    · rw [if_pos e29, if_neg (by omega), if_pos (by omega), e29.2, show 333 * i + n - 333 * i = n by omega]
    · rw [if_neg e29]
      by_cases e28 : a = 28 ∧ s = 333 * i + n
      · rw [if_pos e28, if_pos (by omega), e28.2, show 333 * i + n - 333 * i = n by omega]
      · rw [if_neg e28]
        by_cases c1 : a = 28 ∧ 333 * i ≤ s ∧ s < 333 * i + n
        · rw [if_pos c1, if_pos (by omega)]
        · have c1' : ¬ (a = 28 ∧ 333 * i ≤ s ∧ s < 333 * i + (n + 1)) := by omega
          rw [if_neg c1, if_neg c1']
          by_cases c2 : a = 29 ∧ 333 * i ≤ s ∧ s < 333 * i + n
          · rw [if_pos c2, if_pos (by omega)]
          · have c2' : ¬ (a = 29 ∧ 333 * i ≤ s ∧ s < 333 * i + (n + 1)) := by omega
            rw [if_neg c2, if_neg c2', if_neg e0, if_neg e0]
theorem zsum_0 {f : Nat → Int} {n : Nat} : ∀ d, (∀ j, n ≤ j → j < n + d → f j = 0) → zsum f (n + d) = zsum f n
  | 0, _ => rfl
  | d + 1, h => by
    show zsum f (n + d) + f (n + d) = zsum f n
    rw [zsum_0 d (fun j h1 h2 => h j h1 (by omega)), h (n + d) (by omega) (by omega), Int.add_zero]
theorem setG_end {g : Nat → Nat → Int} (h : dueOk g) {i : Nat} (hi : i < 40) {C : Int} (hC : 0 ≤ C) {n : Nat} (hn : n ≤ 333) (h0 : potF g i C n ≤ 0) : setG g i C n = setG g i C 333 := by
  have p := part_0 h hi hC hn h0
  funext a s
  unfold setG
  by_cases c1 : a = 28 ∧ 333 * i ≤ s ∧ s < 333 * i + n
  · rw [if_pos c1, if_pos (by omega)]
  · rw [if_neg c1]
    by_cases c2 : a = 29 ∧ 333 * i ≤ s ∧ s < 333 * i + n
    · rw [if_pos c2, if_neg (by omega), if_pos (by omega)]
    · rw [if_neg c2]
      by_cases c3 : a = 28 ∧ 333 * i ≤ s ∧ s < 333 * i + 333
      · rw [if_pos c3, if_neg (by omega), (p (s - 333 * i) (by omega) (by omega)).1, c3.1]
        omega
      · rw [if_neg c3]
        by_cases c4 : a = 29 ∧ 333 * i ≤ s ∧ s < 333 * i + 333
        · rw [if_pos c4, if_neg (by omega), (p (s - 333 * i) (by omega) (by omega)).2, c4.1]
          omega
        · rw [if_neg c4]
          have e := zsum_0 (f := fF g i C) (n := n) (333 - n) (fun j h1 h2 => (p j h1 (by omega)).2)
          rw [show n + (333 - n) = 333 by omega] at e
          rw [e]
theorem potF_end {g : Nat → Nat → Int} (h : dueOk g) {i : Nat} (hi : i < 40) {C : Int} (hC : 0 ≤ C) {n : Nat} (hn : n ≤ 333) (h0 : potF g i C n ≤ 0) : ∀ d, n + d ≤ 333 → potF g i C (n + d) = potF g i C n
  | 0, _ => rfl
  | d + 1, hd => by
    have p := part_0 h hi hC hn h0 (n + d) (by omega) (by omega)
    have := potF_end h hi hC hn h0 d (by omega)
    have e : potF g i C (n + (d + 1)) = potF g i C (n + d) - rF g i C (n + d) - fF g i C (n + d) := rfl
    omega
theorem msettle_loop {m N FU : Nat} {g : Nat → Nat → Int} (h : dueOk g) {i : Nat} (hi : i < 40) {C : Int} (hC : 0 ≤ C ∧ C ≤ 600000000) (h42 : 0 ≤ g 0 42 ∧ g 0 42 ≤ 600000000) : ∀ (d j n : Nat), j + d = 333 → d < n → FM_settle_L9 FU n m (i : Int) (potF g i C j) ((333 * i + j : Nat) : Int) (zG m N (setG g i C j)) = FM_settle_B140 FU m (i : Int) (potF g i C 333) (zG m N (setG g i C 333)) := by
  intro d
  induction d with
  | zero =>
    intro j n hj hn
    obtain ⟨n, rfl⟩ : ∃ n', n = n' + 1 := ⟨n - 1, by omega⟩
    have : j = 333 := by omega
    subst this
    rw [FM_settle_L9, zckb (by omega), zckb (by omega), if_neg (by omega)]
  | succ d ih =>
    intro j n hj hn
    obtain ⟨n, rfl⟩ : ∃ n', n = n' + 1 := ⟨n - 1, by omega⟩
    have p := potF_nn h hi hC.1 j (by omega)
    rw [FM_settle_L9, zckb (by omega), zckb (by omega), if_pos (by omega)]
    by_cases c1 : potF g i C j ≤ 0
    · rw [if_pos c1, setG_end h hi hC.1 (by omega) c1]
      have e := potF_end h hi hC.1 (n := j) (by omega) c1 (d + 1) (by omega)
      rw [hj] at e
      rw [e]
    · rw [if_neg c1]
      have b := part_bd h hi hC.1 (j := j) (by omega)
      have dd := h (333 * i + j) (by omega)
      have ih1 := ih (j + 1) n (by omega) (by omega)
      have fs := zsum_bd (f := fF g i C) (b := 1000000) (n := j) (fun t ht => by
        have := part_bd h hi hC.1 (j := t) (by omega)
        have := h (333 * i + t) (by omega)
        omega)
      have ts : ((333 * i + j : Nat) : Int).toNat = 333 * i + j := by omega
      have t1 : ((333 * i + j : Nat) : Int) + 1 = ((333 * i + (j + 1) : Nat) : Int) := by omega
      have e26 : setG g i C j 26 (333 * i + j) = g 26 (333 * i + j) := setG_o (by decide) (by decide) (by simp)
      have e27 : setG g i C j 27 (333 * i + j) = g 27 (333 * i + j) := setG_o (by decide) (by decide) (by simp)
      have e28 : setG g i C j 28 (333 * i + j) = g 28 (333 * i + j) := by
        unfold setG; rw [if_neg (by omega), if_neg (by omega), if_neg (by omega)]
      have e29 : setG g i C j 29 (333 * i + j) = g 29 (333 * i + j) := by
        unfold setG; rw [if_neg (by omega), if_neg (by omega), if_neg (by omega)]
      have e42 : setG g i C j 0 42 = g 0 42 + zsum (fF g i C) j := by
        unfold setG; rw [if_neg (by omega), if_neg (by omega), if_pos ⟨rfl, rfl⟩]
      -- the fund's part, whichever the royalty's was
      have hB104 : FM_settle_B104 FU (FM_settle_L9 FU n) m (i : Int) (potF g i C j - rF g i C j) ((333 * i + j : Nat) : Int) (fF g i C j) (zG m N (gu (setG g i C j) 28 (333 * i + j) (g 28 (333 * i + j) + rF g i C j))) = FM_settle_B140 FU m (i : Int) (potF g i C 333) (zG m N (setG g i C 333)) := by
        rw [← ih1, ← setG_step, potF_succ]
        unfold FM_settle_B104
        have w29 : gu (setG g i C j) 28 (333 * i + j) (g 28 (333 * i + j) + rF g i C j) 29 (333 * i + j) = g 29 (333 * i + j) := by rw [gu_row (by decide)]; exact e29
        have w42 : gu (gu (setG g i C j) 28 (333 * i + j) (g 28 (333 * i + j) + rF g i C j)) 29 (333 * i + j) (g 29 (333 * i + j) + fF g i C j) 0 42 = g 0 42 + zsum (fF g i C) j := by rw [gu_row (by decide), gu_row (by decide)]; exact e42
        simp (disch := omega) only [↓zcs, ↓zcn, ↓mD, ↓Option.bind_some, ↓zb_some, ↓zrz0b, ↓zrz1b, ↓zckb, zrz0, zrz1, ↓reduceIte, ↓mIb, ↓mPb, ↓zck_ofb, ↓mPob, ↓mQ1b, ↓mRo1b, ↓mWo1b, ↓mQ3b, ↓mRo2b, ↓mWo2b, ↓mQ4b, ↓mRo3b, ↓mWo3b, ↓mQ8b, ↓mRo4b, ↓mWo4b, ↓mQ9b, ↓mRo5b, ↓mWo5b, ↓mQ10b, ↓mRo6b, ↓mWo6b, ↓mQ11b, ↓mRo7b, ↓mWo7b, ↓mQ12b, ↓mRo8b, ↓mWo8b, ↓mQ13b, ↓mRo9b, ↓mWo9b, ↓mQ14b, ↓mRo10b, ↓mWo10b, ↓mQ17b, ↓mRo11b, ↓mWo11b, ↓mQ19b, ↓mRo12b, ↓mWo12b, ↓mQ20b, ↓mRo13b, ↓mWo13b, ↓mQ23b, ↓mRo14b, ↓mWo14b, ↓mQ24b, ↓mRo15b, ↓mWo15b, ↓mQ26b, ↓mRo16b, ↓mWo16b, ↓mQ27b, ↓mRo17b, ↓mWo17b, ↓mQ28b, ↓mRo18b, ↓mWo18b, ↓mQ29b, ↓mRo19b, ↓mWo19b, ↓mQ30b, ↓mRo20b, ↓mWo20b, ↓mQ32b, ↓mRo21b, ↓mWo21b, ↓mQ33b, ↓mRo22b, ↓mWo22b, ↓mQ34b, ↓mRo23b, ↓mWo23b, ↓mQ35b, ↓mRo24b, ↓mWo24b, ↓mQ36b, ↓mRo25b, ↓mWo25b, ↓mQ37b, ↓mRo26b, ↓mWo26b, ↓mQ38b, ↓mRo27b, ↓mWo27b, ↓mQ39b, ↓mRo28b, ↓mWo28b, ↓mQ40b, ↓mRo29b, ↓mWo29b, ↓mQ41b, ↓mRo30b, ↓mWo30b, ↓mQ43b, ↓mRo31b, ↓mWo31b, ↓mQ44b, ↓mRo32b, ↓mWo32b, ↓mQ45b, ↓mRo33b, ↓mWo33b, ↓mQ46b, ↓mRo34b, ↓mWo34b, ↓mQ47b, ↓mRo35b, ↓mWo35b, ↓mQ48b, ↓mRo36b, ↓mWo36b, ↓mQ50b, ↓mRo37b, ↓mWo37b, ↓mQ51b, ↓mRo38b, ↓mWo38b, ↓mQ52b, ↓mRo39b, ↓mWo39b, ts, w29, w42, t1]
      have hB56 : FM_settle_B56 FU (FM_settle_L9 FU n) m (i : Int) (potF g i C j) ((333 * i + j : Nat) : Int) (rF g i C j) (zG m N (setG g i C j)) = FM_settle_B140 FU m (i : Int) (potF g i C 333) (zG m N (setG g i C 333)) := by
        unfold FM_settle_B56
        have w27 : gu (setG g i C j) 28 (333 * i + j) (g 28 (333 * i + j) + rF g i C j) 27 (333 * i + j) = g 27 (333 * i + j) := by rw [gu_row (by decide)]; exact e27
        have w29 : gu (setG g i C j) 28 (333 * i + j) (g 28 (333 * i + j) + rF g i C j) 29 (333 * i + j) = g 29 (333 * i + j) := by rw [gu_row (by decide)]; exact e29
        simp (disch := omega) only [↓zcs, ↓zcn, ↓mD, ↓Option.bind_some, ↓zb_some, ↓zrz0b, ↓zrz1b, ↓zckb, zrz0, zrz1, ↓reduceIte, ↓mIb, ↓mPb, ↓zck_ofb, ↓mPob, ↓mQ1b, ↓mRo1b, ↓mWo1b, ↓mQ3b, ↓mRo2b, ↓mWo2b, ↓mQ4b, ↓mRo3b, ↓mWo3b, ↓mQ8b, ↓mRo4b, ↓mWo4b, ↓mQ9b, ↓mRo5b, ↓mWo5b, ↓mQ10b, ↓mRo6b, ↓mWo6b, ↓mQ11b, ↓mRo7b, ↓mWo7b, ↓mQ12b, ↓mRo8b, ↓mWo8b, ↓mQ13b, ↓mRo9b, ↓mWo9b, ↓mQ14b, ↓mRo10b, ↓mWo10b, ↓mQ17b, ↓mRo11b, ↓mWo11b, ↓mQ19b, ↓mRo12b, ↓mWo12b, ↓mQ20b, ↓mRo13b, ↓mWo13b, ↓mQ23b, ↓mRo14b, ↓mWo14b, ↓mQ24b, ↓mRo15b, ↓mWo15b, ↓mQ26b, ↓mRo16b, ↓mWo16b, ↓mQ27b, ↓mRo17b, ↓mWo17b, ↓mQ28b, ↓mRo18b, ↓mWo18b, ↓mQ29b, ↓mRo19b, ↓mWo19b, ↓mQ30b, ↓mRo20b, ↓mWo20b, ↓mQ32b, ↓mRo21b, ↓mWo21b, ↓mQ33b, ↓mRo22b, ↓mWo22b, ↓mQ34b, ↓mRo23b, ↓mWo23b, ↓mQ35b, ↓mRo24b, ↓mWo24b, ↓mQ36b, ↓mRo25b, ↓mWo25b, ↓mQ37b, ↓mRo26b, ↓mWo26b, ↓mQ38b, ↓mRo27b, ↓mWo27b, ↓mQ39b, ↓mRo28b, ↓mWo28b, ↓mQ40b, ↓mRo29b, ↓mWo29b, ↓mQ41b, ↓mRo30b, ↓mWo30b, ↓mQ43b, ↓mRo31b, ↓mWo31b, ↓mQ44b, ↓mRo32b, ↓mWo32b, ↓mQ45b, ↓mRo33b, ↓mWo33b, ↓mQ46b, ↓mRo34b, ↓mWo34b, ↓mQ47b, ↓mRo35b, ↓mWo35b, ↓mQ48b, ↓mRo36b, ↓mWo36b, ↓mQ50b, ↓mRo37b, ↓mWo37b, ↓mQ51b, ↓mRo38b, ↓mWo38b, ↓mQ52b, ↓mRo39b, ↓mWo39b, ts, e28, w27, w29]
        by_cases c2 : g 27 (333 * i + j) - g 29 (333 * i + j) < potF g i C j - rF g i C j
        · rw [if_pos c2]
          have : fF g i C j = g 27 (333 * i + j) - g 29 (333 * i + j) := by unfold fF; omega
          rw [this] at hB104
          exact hB104
        · rw [if_neg c2]
          have : fF g i C j = potF g i C j - rF g i C j := by unfold fF; omega
          rw [this] at hB104
          exact hB104
      simp (disch := omega) only [↓zcs, ↓zcn, ↓mD, ↓Option.bind_some, ↓zb_some, ↓zrz0b, ↓zrz1b, ↓zckb, zrz0, zrz1, ↓reduceIte, ↓mIb, ↓mPb, ↓zck_ofb, ↓mPob, ↓mQ1b, ↓mRo1b, ↓mWo1b, ↓mQ3b, ↓mRo2b, ↓mWo2b, ↓mQ4b, ↓mRo3b, ↓mWo3b, ↓mQ8b, ↓mRo4b, ↓mWo4b, ↓mQ9b, ↓mRo5b, ↓mWo5b, ↓mQ10b, ↓mRo6b, ↓mWo6b, ↓mQ11b, ↓mRo7b, ↓mWo7b, ↓mQ12b, ↓mRo8b, ↓mWo8b, ↓mQ13b, ↓mRo9b, ↓mWo9b, ↓mQ14b, ↓mRo10b, ↓mWo10b, ↓mQ17b, ↓mRo11b, ↓mWo11b, ↓mQ19b, ↓mRo12b, ↓mWo12b, ↓mQ20b, ↓mRo13b, ↓mWo13b, ↓mQ23b, ↓mRo14b, ↓mWo14b, ↓mQ24b, ↓mRo15b, ↓mWo15b, ↓mQ26b, ↓mRo16b, ↓mWo16b, ↓mQ27b, ↓mRo17b, ↓mWo17b, ↓mQ28b, ↓mRo18b, ↓mWo18b, ↓mQ29b, ↓mRo19b, ↓mWo19b, ↓mQ30b, ↓mRo20b, ↓mWo20b, ↓mQ32b, ↓mRo21b, ↓mWo21b, ↓mQ33b, ↓mRo22b, ↓mWo22b, ↓mQ34b, ↓mRo23b, ↓mWo23b, ↓mQ35b, ↓mRo24b, ↓mWo24b, ↓mQ36b, ↓mRo25b, ↓mWo25b, ↓mQ37b, ↓mRo26b, ↓mWo26b, ↓mQ38b, ↓mRo27b, ↓mWo27b, ↓mQ39b, ↓mRo28b, ↓mWo28b, ↓mQ40b, ↓mRo29b, ↓mWo29b, ↓mQ41b, ↓mRo30b, ↓mWo30b, ↓mQ43b, ↓mRo31b, ↓mWo31b, ↓mQ44b, ↓mRo32b, ↓mWo32b, ↓mQ45b, ↓mRo33b, ↓mWo33b, ↓mQ46b, ↓mRo34b, ↓mWo34b, ↓mQ47b, ↓mRo35b, ↓mWo35b, ↓mQ48b, ↓mRo36b, ↓mWo36b, ↓mQ50b, ↓mRo37b, ↓mWo37b, ↓mQ51b, ↓mRo38b, ↓mWo38b, ↓mQ52b, ↓mRo39b, ↓mWo39b, ts, e26, e28]
      by_cases c2 : g 26 (333 * i + j) - g 28 (333 * i + j) < potF g i C j
      · rw [if_pos c2]
        have : rF g i C j = g 26 (333 * i + j) - g 28 (333 * i + j) := by unfold rF; omega
        rw [this] at hB56
        exact hB56
      · rw [if_neg c2]
        have : rF g i C j = potF g i C j := by unfold rF; omega
        rw [this] at hB56
        exact hB56
