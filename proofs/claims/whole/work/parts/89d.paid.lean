/-! ===== what is left when the pot is led out ===== -/
theorem setG_28 {g : Nat → Nat → Int} {i : Nat} {C : Int} {j : Nat} (hj : j < 333) : setG g i C 333 28 (333 * i + j) = g 28 (333 * i + j) + rF g i C j := by
  unfold setG
  rw [if_pos (by omega), show 333 * i + j - 333 * i = j by omega]
theorem setG_29 {g : Nat → Nat → Int} {i : Nat} {C : Int} {j : Nat} (hj : j < 333) : setG g i C 333 29 (333 * i + j) = g 29 (333 * i + j) + fF g i C j := by
  unfold setG
  rw [if_neg (by omega), if_pos (by omega), show 333 * i + j - 333 * i = j by omega]
theorem setG_n {g : Nat → Nat → Int} {i : Nat} {C : Int} {a s : Nat} (h0 : a ≠ 0) (hs : s < 333 * i ∨ 333 * i + 333 ≤ s) : setG g i C 333 a s = g a s := by
  unfold setG
  rw [if_neg (by omega), if_neg (by omega), if_neg (fun z => h0 z.1)]
theorem due_left {g : Nat → Nat → Int} (i : Nat) (C : Int) : ∀ n, n ≤ 333 → zsum (fun j => mDue (setG g i C 333) (333 * i + j)) n = zsum (fun j => mDue g (333 * i + j)) n - (C - potF g i C n)
  | 0, _ => by show (0 : Int) = 0 - (C - C); omega
  | n + 1, hn => by
    have := due_left (g := g) i C n (by omega)
    have e : mDue (setG g i C 333) (333 * i + n) = mDue g (333 * i + n) - rF g i C n - fF g i C n := by
      unfold mDue
      rw [setG_28 (by omega), setG_29 (by omega), setG_o (by decide) (by decide) (by simp), setG_o (by decide) (by decide) (by simp)]
      omega
    show zsum (fun j => mDue (setG g i C 333) (333 * i + j)) n + mDue (setG g i C 333) (333 * i + n) = zsum (fun j => mDue g (333 * i + j)) n + mDue g (333 * i + n) - (C - potF g i C (n + 1))
    rw [this, e, potF_succ]
    omega
theorem due_all {g : Nat → Nat → Int} (h : dueOk g) {i : Nat} (hi : i < 40) {C : Int} (hC : 0 ≤ C) (h0 : 0 < potF g i C 333) : ∀ n, n ≤ 333 → zsum (fun j => mDue g (333 * i + j)) n = C - potF g i C n
  | 0, _ => by show (0 : Int) = C - C; omega
  | n + 1, hn => by
    have := due_all h hi hC h0 n (by omega)
    have p1 : 0 < potF g i C (n + 1) := by
      by_cases z : 0 < potF g i C (n + 1)
      · exact z
      · have e := potF_end h hi hC (n := n + 1) (by omega) (by omega) (333 - (n + 1)) (by omega)
        rw [show n + 1 + (333 - (n + 1)) = 333 by omega] at e
        omega
    have b := part_bd h hi hC (j := n) (by omega)
    rw [potF_succ] at p1
    show zsum (fun j => mDue g (333 * i + j)) n + mDue g (333 * i + n) = C - potF g i C (n + 1)
    rw [this, potF_succ]
    unfold mDue
    have hr : rF g i C n = g 26 (333 * i + n) - g 28 (333 * i + n) := by unfold rF fF at *; omega
    have hf : fF g i C n = g 27 (333 * i + n) - g 29 (333 * i + n) := by unfold fF at *; omega
    omega
theorem fund_le {g : Nat → Nat → Int} (h : dueOk g) {i : Nat} (hi : i < 40) {C : Int} (hC : 0 ≤ C) : ∀ n, n ≤ 333 → 0 ≤ zsum (fF g i C) n ∧ zsum (fF g i C) n ≤ C - potF g i C n
  | 0, _ => by show 0 ≤ (0 : Int) ∧ (0 : Int) ≤ C - C; omega
  | n + 1, hn => by
    have := fund_le h hi hC n (by omega)
    have b := part_bd h hi hC (j := n) (by omega)
    show 0 ≤ zsum (fF g i C) n + fF g i C n ∧ zsum (fF g i C) n + fF g i C n ≤ C - potF g i C (n + 1)
    rw [potF_succ]
    omega
theorem mDue_bd' {g : Nat → Nat → Int} (h : dueOk g) {s : Nat} (hs : s < 13320) : 0 ≤ mDue g s ∧ mDue g s ≤ 2000000 := by
  have := h s hs
  unfold mDue
  omega
/-- nothing due: nothing is led anywhere -/
theorem none_due {g : Nat → Nat → Int} (h : dueOk g) {i : Nat} (hi : i < 40) (h0 : zsum (fun j => mDue g (333 * i + j)) 333 = 0) {C : Int} (hC : 0 ≤ C) : potF g i C 333 = C ∧ setG g i C 333 = g ∧ ∀ j, j < 333 → rF g i C j = 0 ∧ fF g i C j = 0 := by
  have hz : ∀ n, n ≤ 333 → ∀ d, n + d = 333 → zsum (fun j => mDue g (333 * i + j)) n = 0 := by
    intro n hn d
    induction d generalizing n with
    | zero => intro hd; rw [show n = 333 by omega]; exact h0
    | succ d ih =>
      intro hd
      have e := ih (n + 1) (by omega) (by omega)
      have b := mDue_bd' h (s := 333 * i + n) (by omega)
      have z := zsum_nn (f := fun j => mDue g (333 * i + j)) (n := n) (fun t ht => (mDue_bd' h (by omega)).1)
      have e2 : zsum (fun j => mDue g (333 * i + j)) n + mDue g (333 * i + n) = 0 := e
      omega
  have hd : ∀ j, j < 333 → mDue g (333 * i + j) = 0 := fun j hj => by
    have a := hz j (by omega) (333 - j) (by omega)
    have b : zsum (fun j => mDue g (333 * i + j)) j + mDue g (333 * i + j) = 0 := hz (j + 1) (by omega) (333 - (j + 1)) (by omega)
    omega
  have hp : ∀ j, j < 333 → rF g i C j = 0 ∧ fF g i C j = 0 := fun j hj => by
    have b := part_bd h hi hC (j := j) hj
    have d := hd j hj
    unfold mDue at d
    have dd := h (333 * i + j) (by omega)
    omega
  have hq : ∀ n, n ≤ 333 → potF g i C n = C := by
    intro n
    induction n with
    | zero => intro _; rfl
    | succ n ih =>
      intro hn
      have a := ih (by omega)
      have b := hp n (by omega)
      rw [potF_succ]; omega
  refine ⟨hq 333 (by omega), ?_, hp⟩
  have hs : zsum (fF g i C) 333 = 0 := by
    have := zsum_0 (f := fF g i C) (n := 0) 333 (fun j _ h2 => (hp j (by omega)).2)
    rw [show 0 + 333 = 333 by omega] at this
    exact this
  funext a s
  unfold setG
  rw [hs]
  by_cases c1 : a = 28 ∧ 333 * i ≤ s ∧ s < 333 * i + 333
  · rw [if_pos c1, (hp (s - 333 * i) (by omega)).1, c1.1]; omega
  · rw [if_neg c1]
    by_cases c2 : a = 29 ∧ 333 * i ≤ s ∧ s < 333 * i + 333
    · rw [if_pos c2, (hp (s - 333 * i) (by omega)).2, c2.1]; omega
    · rw [if_neg c2]
      split
      · rename_i z; rw [z.1, z.2]; omega
      · rfl
/-- how the reference's settling ends -/
def endG (g : Nat → Nat → Int) (i : Nat) (owed : Int) : Nat → Nat → Int := if 0 ≤ g 31 i ∧ g 33 i = 0 ∧ owed ≤ 0 then gu (gu g 33 i 1) 34 i (g 0 0) else g
theorem eM_settle {m N FU : Nat} {g : Nat → Nat → Int} (hFU : 400 ≤ FU) (h : dueOk g) {i : Nat} (hi : i < 40) {p : Int} (hp : 0 ≤ p ∧ p ≤ 600000000) (h30 : 0 ≤ g 30 i ∧ g 30 i + p ≤ 600000000) (h42 : 0 ≤ g 0 42 ∧ g 0 42 ≤ 600000000) : FM_settle FU m (i : Int) p (zG m N g) = some ((), zG m N (endG (gu (setG g i p 333) 30 i (g 30 i + potF g i p 333)) i (zsum (fun j => mDue g (333 * i + j)) 333 - p - g 30 i))) := by
  have l := msettle_loop (m := m) (N := N) (FU := FU) h hi hp h42 333 0 FU (by omega) (by omega)
  have ti : (i : Int).toNat = i := by omega
  have t0 : (333 * (i : Int)) = ((333 * i + 0 : Nat) : Int) := by omega
  have pp := potF_nn h hi hp.1 333 (by omega)
  have e30 : setG g i p 333 30 i = g 30 i := setG_o (by decide) (by decide) (by simp)
  rw [setG_0] at l
  unfold FM_settle FM_settle_b
  rw [mD, zckb (by omega), t0]
  have l0 : FM_settle_L9 FU FU m (i : Int) p ((333 * i + 0 : Nat) : Int) (zG m N g) = _ := l
  rw [l0]
  clear l l0
  unfold FM_settle_B140 endG
  have eR := eM_runs (FU := FU) (m := m) (N := N) (g := gu (setG g i p 333) 30 i (g 30 i + potF g i p 333)) (i := (i : Int)) (by omega)
  have r31 : gu (setG g i p 333) 30 i (g 30 i + potF g i p 333) 31 i = g 31 i := by rw [gu_row (by decide)]; exact setG_o (by decide) (by decide) (by simp)
  have r33 : gu (setG g i p 333) 30 i (g 30 i + potF g i p 333) 33 i = g 33 i := by rw [gu_row (by decide)]; exact setG_o (by decide) (by decide) (by simp)
  rw [ti, r31, r33] at eR
  have rr : ∀ a s, a ≠ 30 → gu (setG g i p 333) 30 i (g 30 i + potF g i p 333) a s = setG g i p 333 a s := fun a s ha => by rw [gu_row ha]
  have hO := eM_owed (FU := FU) (m := m) (N := N) (g := gu (setG g i p 333) 30 i (g 30 i + potF g i p 333)) hFU (fun s hs => by
    rw [rr 26 s (by decide), rr 27 s (by decide), rr 28 s (by decide), rr 29 s (by decide), setG_o (a := 26) (by decide) (by decide) (by simp), setG_o (a := 27) (by decide) (by decide) (by simp)]
    have d := h s hs
    by_cases z : 333 * i ≤ s ∧ s < 333 * i + 333
    · obtain ⟨j, rfl⟩ : ∃ j, s = 333 * i + j := ⟨s - 333 * i, by omega⟩
      have b := part_bd h hi hp.1 (j := j) (by omega)
      rw [setG_28 (by omega), setG_29 (by omega)]
      omega
    · rw [setG_n (by decide) (by omega), setG_n (by decide) (by omega)]
      exact d) (i := i) hi (by rw [gu_at, if_pos rfl]; omega)
  have hz : zsum (fun j => mDue (gu (setG g i p 333) 30 i (g 30 i + potF g i p 333)) (333 * i + j)) 333 = zsum (fun j => mDue g (333 * i + j)) 333 - (p - potF g i p 333) := by
    rw [← due_left i p 333 (by omega)]
    exact zsum_eq (fun j _ => by
      unfold mDue
      rw [rr 26 _ (by decide), rr 27 _ (by decide), rr 28 _ (by decide), rr 29 _ (by decide)])
  rw [hz, gu_at, if_pos rfl, show zsum (fun j => mDue g (333 * i + j)) 333 - (p - potF g i p 333) - (g 30 i + potF g i p 333) = zsum (fun j => mDue g (333 * i + j)) 333 - p - g 30 i by omega] at hO
  have eE := eM_end (FU := FU) (m := m) (N := N) (g := gu (setG g i p 333) 30 i (g 30 i + potF g i p 333)) (i := (i : Int)) (by omega) 1
  rw [ti] at eE
  simp (disch := omega) only [↓zcs, ↓zcn, ↓mD, ↓Option.bind_some, ↓zb_some, ↓zrz0b, ↓zrz1b, ↓zckb, zrz0, zrz1, ↓reduceIte, ↓mIb, ↓mPb, ↓zck_ofb, ↓mPob, ↓mQ1b, ↓mRo1b, ↓mWo1b, ↓mQ3b, ↓mRo2b, ↓mWo2b, ↓mQ4b, ↓mRo3b, ↓mWo3b, ↓mQ8b, ↓mRo4b, ↓mWo4b, ↓mQ9b, ↓mRo5b, ↓mWo5b, ↓mQ10b, ↓mRo6b, ↓mWo6b, ↓mQ11b, ↓mRo7b, ↓mWo7b, ↓mQ12b, ↓mRo8b, ↓mWo8b, ↓mQ13b, ↓mRo9b, ↓mWo9b, ↓mQ14b, ↓mRo10b, ↓mWo10b, ↓mQ17b, ↓mRo11b, ↓mWo11b, ↓mQ19b, ↓mRo12b, ↓mWo12b, ↓mQ20b, ↓mRo13b, ↓mWo13b, ↓mQ23b, ↓mRo14b, ↓mWo14b, ↓mQ24b, ↓mRo15b, ↓mWo15b, ↓mQ26b, ↓mRo16b, ↓mWo16b, ↓mQ27b, ↓mRo17b, ↓mWo17b, ↓mQ28b, ↓mRo18b, ↓mWo18b, ↓mQ29b, ↓mRo19b, ↓mWo19b, ↓mQ30b, ↓mRo20b, ↓mWo20b, ↓mQ32b, ↓mRo21b, ↓mWo21b, ↓mQ33b, ↓mRo22b, ↓mWo22b, ↓mQ34b, ↓mRo23b, ↓mWo23b, ↓mQ35b, ↓mRo24b, ↓mWo24b, ↓mQ36b, ↓mRo25b, ↓mWo25b, ↓mQ37b, ↓mRo26b, ↓mWo26b, ↓mQ38b, ↓mRo27b, ↓mWo27b, ↓mQ39b, ↓mRo28b, ↓mWo28b, ↓mQ40b, ↓mRo29b, ↓mWo29b, ↓mQ41b, ↓mRo30b, ↓mWo30b, ↓mQ43b, ↓mRo31b, ↓mWo31b, ↓mQ44b, ↓mRo32b, ↓mWo32b, ↓mQ45b, ↓mRo33b, ↓mWo33b, ↓mQ46b, ↓mRo34b, ↓mWo34b, ↓mQ47b, ↓mRo35b, ↓mWo35b, ↓mQ48b, ↓mRo36b, ↓mWo36b, ↓mQ50b, ↓mRo37b, ↓mWo37b, ↓mQ51b, ↓mRo38b, ↓mWo38b, ↓mQ52b, ↓mRo39b, ↓mWo39b, ti, e30, r31, r33, ↓bde eR]
  by_cases c1 : g 31 i < 0
  · rw [if_pos c1, if_pos rfl, if_neg (by omega)]
  · rw [if_neg c1]
    by_cases c2 : g 33 i = 0
    · rw [if_pos c2, if_neg (by decide), bde hO]
      by_cases c3 : zsum (fun j => mDue g (333 * i + j)) 333 - p - g 30 i ≤ 0
      · rw [if_pos c3, zbe eE, if_pos ⟨by omega, c2, c3⟩]
      · rw [if_neg c3, if_neg (fun z => c3 z.2.2)]
    · rw [if_neg c2, if_pos rfl, if_neg (fun z => c2 z.2.1)]
