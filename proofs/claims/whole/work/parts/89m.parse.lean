/-! ===== facts of the reading without a machine ===== -/
section PAR
variable {b : Nat → Int} {n : Nat}
def pOk (n : Nat) (f : Nat → PR) : Prop := ∀ p, p ≤ n → p ≤ (f p).2.1 ∧ (f p).2.1 ≤ n ∧ ((f p).2.2 = false → p < (f p).2.1)
theorem pb_lt {p : Nat} (h : 0 ≤ pb b n p) : p < n := by
  unfold pb at h
  by_cases e : p < n
  · exact e
  · rw [if_neg e] at h; omega
theorem pb_in {p : Nat} (h : p < n) : pb b n p = b p := if_pos h
theorem pb_out {p : Nat} (h : n ≤ p) : pb b n p = -1 := if_neg (by omega)
theorem pNum_ok : ∀ (k : Nat) (v : Int) (p : Nat), p ≤ n → p ≤ (pNum b n k v p).2.1 ∧ (pNum b n k v p).2.1 ≤ n ∧ ((pNum b n k v p).2.2 = true → 48 ≤ pb b n (pNum b n k v p).2.1 ∧ pb b n (pNum b n k v p).2.1 ≤ 57)
  | 0, v, p, hp => by
    rw [pNum]
    exact ⟨Nat.le_refl _, hp, fun e => of_decide_eq_true e⟩
  | k + 1, v, p, hp => by
    rw [pNum]
    by_cases c : 48 ≤ pb b n p ∧ pb b n p ≤ 57
    · rw [if_pos c]
      have := pb_lt (b := b) (n := n) (p := p) (by omega)
      have q := pNum_ok k (zwr (zwr (zwr (v * 10) + pb b n p) - 48)) (p + 1) (by omega)
      exact ⟨by omega, q.2.1, q.2.2⟩
    · rw [if_neg c]
      exact ⟨Nat.le_refl _, hp, fun e => absurd e (by decide)⟩
theorem pNum_go {k : Nat} {v : Int} {p : Nat} (hp : p ≤ n) (c : 48 ≤ pb b n p ∧ pb b n p ≤ 57) : p < (pNum b n (k + 1) v p).2.1 := by
  rw [pNum, if_pos c]
  have := pb_lt (b := b) (n := n) (p := p) (by omega)
  have q := pNum_ok (b := b) (n := n) k (zwr (zwr (zwr (v * 10) + pb b n p) - 48)) (p + 1) (by omega)
  omega
theorem pPar_ok {r : Option (Nat → PR)} (hr : ∀ f, r = some f → pOk n f) {p : Nat} (hp : p < n) : p ≤ (pPar b n r p).2.1 ∧ (pPar b n r p).2.1 ≤ n ∧ ((pPar b n r p).2.2 = false → p < (pPar b n r p).2.1) := by
  unfold pPar
  cases r with
  | none => exact ⟨Nat.le_refl _, by show p ≤ n; omega, fun e => absurd e (by decide)⟩
  | some f =>
    have q := hr f rfl (p + 1) (by omega)
    show p ≤ (if (f (p + 1)).2.2 = true then f (p + 1) else if pb b n (f (p + 1)).2.1 = 41 then ((f (p + 1)).1, (f (p + 1)).2.1 + 1, false) else ((f (p + 1)).1, (f (p + 1)).2.1, true)).2.1 ∧ (if (f (p + 1)).2.2 = true then f (p + 1) else if pb b n (f (p + 1)).2.1 = 41 then ((f (p + 1)).1, (f (p + 1)).2.1 + 1, false) else ((f (p + 1)).1, (f (p + 1)).2.1, true)).2.1 ≤ n ∧ _
    by_cases c : (f (p + 1)).2.2 = true
    · simp only [if_pos c]
      exact ⟨by omega, q.2.1, fun e => absurd e (by rw [c]; decide)⟩
    · simp only [if_neg c]
      by_cases d : pb b n (f (p + 1)).2.1 = 41
      · simp only [if_pos d]
        have := pb_lt (b := b) (n := n) (p := (f (p + 1)).2.1) (by omega)
        refine ⟨?_, ?_, fun _ => ?_⟩ <;> (show _ ≤ _) <;> omega
      · simp only [if_neg d]
        exact ⟨by omega, q.2.1, fun e => absurd e (by decide)⟩
theorem pOne_ok {r : Option (Nat → PR)} (hr : ∀ f, r = some f → pOk n f) : pOk n (pOne b n r) := by
  intro p hp
  unfold pOne
  by_cases c : 48 ≤ pb b n p ∧ pb b n p ≤ 57
  · simp only [if_pos c]
    have q := pNum_ok (b := b) (n := n) 6 0 p hp
    exact ⟨q.1, q.2.1, fun _ => pNum_go hp c⟩
  · simp only [if_neg c]
    by_cases c1 : pb b n p = 40
    · simp only [if_pos c1]
      exact pPar_ok hr (pb_lt (b := b) (by omega))
    · simp only [if_neg c1]
      have one : ∀ (v : PV), 0 ≤ pb b n p → p ≤ ((v, p + 1, false) : PR).2.1 ∧ ((v, p + 1, false) : PR).2.1 ≤ n ∧ (((v, p + 1, false) : PR).2.2 = false → p < ((v, p + 1, false) : PR).2.1) := fun v h => by
        have := pb_lt h
        exact ⟨by show p ≤ p + 1; omega, by show p + 1 ≤ n; omega, fun _ => by show p < p + 1; omega⟩
      by_cases c2 : pb b n p = 116
      · simp only [if_pos c2]; exact one _ (by omega)
      · simp only [if_neg c2]
        by_cases c3 : pb b n p = 102
        · simp only [if_pos c3]; exact one _ (by omega)
        · simp only [if_neg c3]
          by_cases c4 : pb b n p = 109
          · simp only [if_pos c4]; exact one _ (by omega)
          · simp only [if_neg c4]
            by_cases c5 : pb b n p = 121
            · simp only [if_pos c5]; exact one _ (by omega)
            · simp only [if_neg c5]
              by_cases c6 : pb b n p = 115
              · simp only [if_pos c6]; exact one _ (by omega)
              · simp only [if_neg c6]
                exact ⟨Nat.le_refl _, hp, fun e => absurd e (by decide)⟩
theorem pLoop_ok {op : Nat → PR} {c1 c2 : Int} (h1 : 0 ≤ c1) (h2 : 0 ≤ c2) {f : Int → Int → Int → Int} (ho : pOk n op) : ∀ (k : Nat) (v : PV) (p : Nat), p ≤ n → p ≤ (pLoop b n op c1 c2 f k v p).2.1 ∧ (pLoop b n op c1 c2 f k v p).2.1 ≤ n
  | 0, v, p, hp => by rw [pLoop]; exact ⟨Nat.le_refl _, hp⟩
  | k + 1, v, p, hp => by
    rw [pLoop]
    by_cases c : pb b n p = c1 ∨ pb b n p = c2
    · rw [if_pos c]
      have := pb_lt (b := b) (n := n) (p := p) (by omega)
      have q := ho (p + 1) (by omega)
      by_cases d : (op (p + 1)).2.2 = true
      · rw [if_pos d]; exact ⟨by omega, q.2.1⟩
      · rw [if_neg d]
        have r := pLoop_ok h1 h2 (f := f) ho k (fun nm => f (pb b n p) (v nm) ((op (p + 1)).1 nm)) (op (p + 1)).2.1 q.2.1
        exact ⟨by omega, r.2⟩
    · rw [if_neg c]; exact ⟨Nat.le_refl _, hp⟩
theorem pChain_ok {op : Nat → PR} {c1 c2 : Int} (h1 : 0 ≤ c1) (h2 : 0 ≤ c2) {f : Int → Int → Int → Int} (ho : pOk n op) : pOk n (pChain b n op c1 c2 f) := by
  intro p hp
  unfold pChain
  have q := ho p hp
  by_cases d : (op p).2.2 = true
  · simp only [if_pos d]; exact ⟨q.1, q.2.1, q.2.2⟩
  · simp only [if_neg d]
    have r := pLoop_ok (b := b) h1 h2 (f := f) ho (n + 1) (op p).1 (op p).2.1 q.2.1
    have := q.2.2 (by simpa using d)
    exact ⟨by omega, r.2, fun _ => by omega⟩
theorem pProd_ok {r : Option (Nat → PR)} (hr : ∀ f, r = some f → pOk n f) : pOk n (pProd b n r) := pChain_ok (by decide) (by decide) (pOne_ok hr)
theorem pSum_ok {r : Option (Nat → PR)} (hr : ∀ f, r = some f → pOk n f) : pOk n (pSum b n r) := pChain_ok (by decide) (by decide) (pProd_ok hr)
theorem pRec_ok : ∀ d, ∀ f, pRec b n d = some f → pOk n f
  | 0, f, e => absurd e (by simp [pRec])
  | d + 1, f, e => by
    rw [pRec] at e
    rw [← Option.some.inj e]
    exact pSum_ok (pRec_ok d)
theorem pS_ok : pOk n (pS b n) := pSum_ok (pRec_ok 8)
theorem pBand_ok {p : Nat} (hp : p ≤ n) : (pBand b n p).2.2.1 ≤ n ∧ ((pBand b n p).2.2.2 = false → p < (pBand b n p).2.2.1) := by
  have ok := pS_ok (b := b) p hp
  unfold pBand
  by_cases cf : (pS b n p).2.2 = true
  · rw [if_pos cf]
    exact ⟨ok.2.1, fun e => absurd e (by show ¬ true = false; decide)⟩
  · have gt := ok.2.2 (by simpa using cf)
    rw [if_neg cf]
    by_cases cc : pb b n (pS b n p).2.1 = 60 ∨ pb b n (pS b n p).2.1 = 61 ∨ pb b n (pS b n p).2.1 = 62
    · have lt := pb_lt (b := b) (n := n) (p := (pS b n p).2.1) (by omega)
      have ok2 := pS_ok (b := b) (n := n) ((pS b n p).2.1 + 1) (by omega)
      rw [if_pos cc]
      by_cases cf2 : (pS b n ((pS b n p).2.1 + 1)).2.2 = true
      · rw [if_pos cf2]
        exact ⟨ok2.2.1, fun e => absurd e (by show ¬ true = false; decide)⟩
      · have gt2 := ok2.2.2 (by simpa using cf2)
        rw [if_neg cf2]
        by_cases c44 : pb b n (pS b n ((pS b n p).2.1 + 1)).2.1 = 44
        · have lt2 := pb_lt (b := b) (n := n) (p := (pS b n ((pS b n p).2.1 + 1)).2.1) (by omega)
          have ok3 := pS_ok (b := b) (n := n) ((pS b n ((pS b n p).2.1 + 1)).2.1 + 1) (by omega)
          rw [if_pos c44]
          exact ⟨ok3.2.1, fun e => by have := ok3.2.2 e; show p < (pS b n ((pS b n ((pS b n p).2.1 + 1)).2.1 + 1)).2.1; omega⟩
        · rw [if_neg c44]
          exact ⟨ok2.2.1, fun e => absurd e (by show ¬ true = false; decide)⟩
    · rw [if_neg cc]
      exact ⟨ok.2.1, fun _ => gt⟩
end PAR
