/-! ===== facts of the reading without a machine ===== -/
theorem ft {P : Prop} (e : false = true) : P := absurd e (by decide)
theorem tf {P : Prop} (e : true = false) : P := absurd e (by decide)
section PAR
variable {b : Nat → Int} {n : Nat}
def pOk (n : Nat) (f : Nat → PR) : Prop := ∀ p, p ≤ n → p ≤ (f p).2.1 ∧ (f p).2.1 ≤ n ∧ ((f p).2.2 = false → p < (f p).2.1)
theorem pb_lt {p : Nat} (h : 0 ≤ pb b n p) : p < n := by
  unfold pb at h
  by_cases e : p < n
  · exact e
  · rw [if_neg e] at h; omega
theorem pb_in {p : Nat} (h : p < n) : pb b n p = b p := if_pos h
theorem pb_out {p : Nat} (h : n ≤ p) : pb b n p = -1 := if_neg (by omega)
theorem pNum_ok : ∀ (k : Nat) (v : Int) (p : Nat), p ≤ n → p ≤ (pNum b n k v p).2.1 ∧ (pNum b n k v p).2.1 ≤ n ∧ ((pNum b n k v p).2.2 = true → 48 ≤ pb b n (pNum b n k v p).2.1 ∧ pb b n (pNum b n k v p).2.1 ≤ 57)
  | 0, v, p, hp => by
    rw [pNum]
    exact ⟨Nat.le_refl _, hp, fun e => of_decide_eq_true e⟩
  | k + 1, v, p, hp => by
    rw [pNum]
    by_cases c : 48 ≤ pb b n p ∧ pb b n p ≤ 57
    · rw [if_pos c]
      have := pb_lt (b := b) (n := n) (p := p) (by omega)
      have q := pNum_ok k (zwr (zwr (zwr (v * 10) + pb b n p) - 48)) (p + 1) (by omega)
      exact ⟨by omega, q.2.1, q.2.2⟩
    · rw [if_neg c]
      exact ⟨Nat.le_refl _, hp, fun e => ft e⟩
theorem pNum_go {k : Nat} {v : Int} {p : Nat} (hp : p ≤ n) (c : 48 ≤ pb b n p ∧ pb b n p ≤ 57) : p < (pNum b n (k + 1) v p).2.1 := by
  rw [pNum, if_pos c]
  have := pb_lt (b := b) (n := n) (p := p) (by omega)
  have q := pNum_ok (b := b) (n := n) k (zwr (zwr (zwr (v * 10) + pb b n p) - 48)) (p + 1) (by omega)
  omega
theorem pPar_some {f : Nat → PR} {p : Nat} : pPar b n (some f) p = if (f (p + 1)).2.2 = true then f (p + 1) else if pb b n (f (p + 1)).2.1 = 41 then ((f (p + 1)).1, (f (p + 1)).2.1 + 1, false) else ((f (p + 1)).1, (f (p + 1)).2.1, true) := rfl
theorem pPar_ok {r : Option (Nat → PR)} (hr : ∀ f, r = some f → pOk n f) {p : Nat} (hp : p < n) : p ≤ (pPar b n r p).2.1 ∧ (pPar b n r p).2.1 ≤ n ∧ ((pPar b n r p).2.2 = false → p < (pPar b n r p).2.1) := by
  cases r with
  | none =>
    have h : p ≤ n := by omega
    exact ⟨Nat.le_refl _, h, fun e => tf e⟩
  | some f =>
    have q := hr f rfl (p + 1) (by omega)
    rw [pPar_some]
    by_cases c : (f (p + 1)).2.2 = true
    · rw [if_pos c]
      exact ⟨by omega, q.2.1, fun e => absurd e (by rw [c]; decide)⟩
    · rw [if_neg c]
      by_cases d : pb b n (f (p + 1)).2.1 = 41
      · have := pb_lt (b := b) (n := n) (p := (f (p + 1)).2.1) (by omega)
        rw [if_pos d]
        have h1 : p ≤ (f (p + 1)).2.1 + 1 := by omega
        have h2 : (f (p + 1)).2.1 + 1 ≤ n := by omega
        have h3 : p < (f (p + 1)).2.1 + 1 := by omega
        exact ⟨h1, h2, fun _ => h3⟩
      · rw [if_neg d]
        have h1 : p ≤ (f (p + 1)).2.1 := by omega
        exact ⟨h1, q.2.1, fun e => tf e⟩
theorem pOne_ok {r : Option (Nat → PR)} (hr : ∀ f, r = some f → pOk n f) : pOk n (pOne b n r) := by
  intro p hp
  unfold pOne
  by_cases c : 48 ≤ pb b n p ∧ pb b n p ≤ 57
  · rw [if_pos c]
    have q := pNum_ok (b := b) (n := n) 6 0 p hp
    exact ⟨q.1, q.2.1, fun _ => pNum_go hp c⟩
  · rw [if_neg c]
    by_cases c1 : pb b n p = 40
    · rw [if_pos c1]
      exact pPar_ok hr (pb_lt (b := b) (by omega))
    · rw [if_neg c1]
      have one : ∀ (v : PV), 0 ≤ pb b n p → p ≤ ((v, p + 1, false) : PR).2.1 ∧ ((v, p + 1, false) : PR).2.1 ≤ n ∧ (((v, p + 1, false) : PR).2.2 = false → p < ((v, p + 1, false) : PR).2.1) := fun v h => by
        have := pb_lt h
        exact ⟨by show p ≤ p + 1; omega, by show p + 1 ≤ n; omega, fun _ => by show p < p + 1; omega⟩
      by_cases c2 : pb b n p = 116
      · rw [if_pos c2]; exact one _ (by omega)
      · rw [if_neg c2]
        by_cases c3 : pb b n p = 102
        · rw [if_pos c3]; exact one _ (by omega)
        · rw [if_neg c3]
          by_cases c4 : pb b n p = 109
          · rw [if_pos c4]; exact one _ (by omega)
          · rw [if_neg c4]
            by_cases c5 : pb b n p = 121
            · rw [if_pos c5]; exact one _ (by omega)
            · rw [if_neg c5]
              by_cases c6 : pb b n p = 115
              · rw [if_pos c6]; exact one _ (by omega)
              · rw [if_neg c6]
                exact ⟨Nat.le_refl _, hp, fun e => tf e⟩
theorem pLoop_ok {op : Nat → PR} {c1 c2 : Int} (h1 : 0 ≤ c1) (h2 : 0 ≤ c2) {f : Int → Int → Int → Int} (ho : pOk n op) : ∀ (k : Nat) (v : PV) (p : Nat), p ≤ n → p ≤ (pLoop b n op c1 c2 f k v p).2.1 ∧ (pLoop b n op c1 c2 f k v p).2.1 ≤ n
  | 0, v, p, hp => by rw [pLoop]; exact ⟨Nat.le_refl _, hp⟩
  | k + 1, v, p, hp => by
    rw [pLoop]
    by_cases c : pb b n p = c1 ∨ pb b n p = c2
    · rw [if_pos c]
      have := pb_lt (b := b) (n := n) (p := p) (by omega)
      have q := ho (p + 1) (by omega)
      by_cases d : (op (p + 1)).2.2 = true
      · rw [if_pos d]; exact ⟨by omega, q.2.1⟩
      · rw [if_neg d]
        have r := pLoop_ok h1 h2 (f := f) ho k (fun nm => f (pb b n p) (v nm) ((op (p + 1)).1 nm)) (op (p + 1)).2.1 q.2.1
        exact ⟨by omega, r.2⟩
    · rw [if_neg c]; exact ⟨Nat.le_refl _, hp⟩
theorem pChain_ok {op : Nat → PR} {c1 c2 : Int} (h1 : 0 ≤ c1) (h2 : 0 ≤ c2) {f : Int → Int → Int → Int} (ho : pOk n op) : pOk n (pChain b n op c1 c2 f) := by
  intro p hp
  unfold pChain
  have q := ho p hp
  by_cases d : (op p).2.2 = true
  · rw [if_pos d]; exact ⟨q.1, q.2.1, q.2.2⟩
  · rw [if_neg d]
    have r := pLoop_ok (b := b) h1 h2 (f := f) ho (n + 1) (op p).1 (op p).2.1 q.2.1
    have := q.2.2 (by simpa using d)
    exact ⟨by omega, r.2, fun _ => by omega⟩
theorem pProd_ok {r : Option (Nat → PR)} (hr : ∀ f, r = some f → pOk n f) : pOk n (pProd b n r) := pChain_ok (by decide) (by decide) (pOne_ok hr)
theorem pSum_ok {r : Option (Nat → PR)} (hr : ∀ f, r = some f → pOk n f) : pOk n (pSum b n r) := pChain_ok (by decide) (by decide) (pProd_ok hr)
theorem pRec_ok : ∀ d, ∀ f, pRec b n d = some f → pOk n f
  | 0, f, e => absurd e (by simp [pRec])
  | d + 1, f, e => by
    rw [pRec] at e
    rw [← Option.some.inj e]
    exact pSum_ok (pRec_ok d)
theorem pS_ok : pOk n (pS b n) := pSum_ok (pRec_ok 8)
theorem pBand_ok {p : Nat} (hp : p ≤ n) : (pBand b n p).2.2.1 ≤ n ∧ ((pBand b n p).2.2.2 = false → p < (pBand b n p).2.2.1) := by
  have ok := pS_ok (b := b) p hp
  unfold pBand
  by_cases cf : (pS b n p).2.2 = true
  · rw [if_pos cf]
    exact ⟨ok.2.1, fun e => tf e⟩
  · have gt := ok.2.2 (by simpa using cf)
    rw [if_neg cf]
    by_cases cc : pb b n (pS b n p).2.1 = 60 ∨ pb b n (pS b n p).2.1 = 61 ∨ pb b n (pS b n p).2.1 = 62
    · have lt := pb_lt (b := b) (n := n) (p := (pS b n p).2.1) (by omega)
      have ok2 := pS_ok (b := b) (n := n) ((pS b n p).2.1 + 1) (by omega)
      rw [if_pos cc]
      by_cases cf2 : (pS b n ((pS b n p).2.1 + 1)).2.2 = true
      · rw [if_pos cf2]
        exact ⟨ok2.2.1, fun e => tf e⟩
      · have gt2 := ok2.2.2 (by simpa using cf2)
        rw [if_neg cf2]
        by_cases c44 : pb b n (pS b n ((pS b n p).2.1 + 1)).2.1 = 44
        · have lt2 := pb_lt (b := b) (n := n) (p := (pS b n ((pS b n p).2.1 + 1)).2.1) (by omega)
          have ok3 := pS_ok (b := b) (n := n) ((pS b n ((pS b n p).2.1 + 1)).2.1 + 1) (by omega)
          rw [if_pos c44]
          exact ⟨ok3.2.1, fun e => by have := ok3.2.2 e; show p < (pS b n ((pS b n ((pS b n p).2.1 + 1)).2.1 + 1)).2.1; omega⟩
        · rw [if_neg c44]
          exact ⟨ok2.2.1, fun e => tf e⟩
    · rw [if_neg cc]
      exact ⟨ok.2.1, fun _ => gt⟩
theorem pOne_dig {r : Option (Nat → PR)} {p : Nat} (c : 48 ≤ pb b n p ∧ pb b n p ≤ 57) : pOne b n r p = pNum b n 6 0 p := if_pos c
theorem pOne_par {r : Option (Nat → PR)} {p : Nat} (c : pb b n p = 40) : pOne b n r p = pPar b n r p := by
  unfold pOne
  rw [if_neg (by omega), if_pos c]
theorem pOne_t {r : Option (Nat → PR)} {p : Nat} (c : pb b n p = 116) : pOne b n r p = (fun nm => nm 0, p + 1, false) := by
  unfold pOne
  rw [if_neg (by omega), if_neg (by omega), if_pos c]
theorem pOne_f {r : Option (Nat → PR)} {p : Nat} (c : pb b n p = 102) : pOne b n r p = (fun nm => nm 1, p + 1, false) := by
  unfold pOne
  rw [if_neg (by omega), if_neg (by omega), if_neg (by omega), if_pos c]
theorem pOne_m {r : Option (Nat → PR)} {p : Nat} (c : pb b n p = 109) : pOne b n r p = (fun nm => nm 2, p + 1, false) := by
  unfold pOne
  rw [if_neg (by omega), if_neg (by omega), if_neg (by omega), if_neg (by omega), if_pos c]
theorem pOne_y {r : Option (Nat → PR)} {p : Nat} (c : pb b n p = 121) : pOne b n r p = (fun nm => nm 3, p + 1, false) := by
  unfold pOne
  rw [if_neg (by omega), if_neg (by omega), if_neg (by omega), if_neg (by omega), if_neg (by omega), if_pos c]
theorem pOne_s {r : Option (Nat → PR)} {p : Nat} (c : pb b n p = 115) : pOne b n r p = (fun nm => nm 4, p + 1, false) := by
  unfold pOne
  rw [if_neg (by omega), if_neg (by omega), if_neg (by omega), if_neg (by omega), if_neg (by omega), if_neg (by omega), if_pos c]
theorem pOne_bad {r : Option (Nat → PR)} {p : Nat} (c : ¬ (48 ≤ pb b n p ∧ pb b n p ≤ 57)) (c1 : pb b n p ≠ 40) (c2 : pb b n p ≠ 116) (c3 : pb b n p ≠ 102) (c4 : pb b n p ≠ 109) (c5 : pb b n p ≠ 121) (c6 : pb b n p ≠ 115) : pOne b n r p = (fun _ => 0, p, true) := by
  unfold pOne
  rw [if_neg c, if_neg c1, if_neg c2, if_neg c3, if_neg c4, if_neg c5, if_neg c6]
theorem pText_le : ∀ (k : Nat) (a : (Nat → Int) → Int × Int) (p : Nat), p ≤ n → (pText b n k a p).2.1 ≤ n
  | 0, a, p, hp => by rw [pText]; exact hp
  | k + 1, a, p, hp => by
    have ok := pBand_ok (b := b) hp
    rw [pText]
    by_cases c1 : (pBand b n p).2.2.2 = true
    · rw [if_pos c1]; exact ok.1
    · rw [if_neg c1]
      by_cases c2 : (pBand b n p).2.2.1 < n
      · rw [if_pos c2]
        by_cases c3 : b (pBand b n p).2.2.1 = 59
        · rw [if_pos c3]; exact pText_le k _ _ (by omega)
        · rw [if_neg c3]; exact ok.1
      · rw [if_neg c2]; exact ok.1
theorem pRead_le : (pRead b n).2.1 ≤ n := pText_le (n + 1) _ 0 (by omega)
variable {b' : Nat → Int}
theorem pNum_same (e : pb b' n = pb b n) : ∀ (k : Nat) (v : Int) (p : Nat), pNum b' n k v p = pNum b n k v p
  | 0, v, p => by rw [pNum, pNum, e]
  | k + 1, v, p => by rw [pNum, pNum, e, pNum_same e k]
theorem pPar_same (e : pb b' n = pb b n) (r : Option (Nat → PR)) (p : Nat) : pPar b' n r p = pPar b n r p := by
  unfold pPar
  rw [e]
theorem pOne_same (e : pb b' n = pb b n) (r : Option (Nat → PR)) : pOne b' n r = pOne b n r := by
  funext p
  unfold pOne
  rw [e, pNum_same e, pPar_same e]
theorem pLoop_same (e : pb b' n = pb b n) (op : Nat → PR) (c1 c2 : Int) (f : Int → Int → Int → Int) : ∀ (k : Nat) (v : PV) (p : Nat), pLoop b' n op c1 c2 f k v p = pLoop b n op c1 c2 f k v p
  | 0, v, p => by rw [pLoop, pLoop]
  | k + 1, v, p => by rw [pLoop, pLoop, e, pLoop_same e op c1 c2 f k]
theorem pChain_same (e : pb b' n = pb b n) (op : Nat → PR) (c1 c2 : Int) (f : Int → Int → Int → Int) : pChain b' n op c1 c2 f = pChain b n op c1 c2 f := by
  funext p
  unfold pChain
  rw [pLoop_same e]
theorem pProd_same (e : pb b' n = pb b n) (r : Option (Nat → PR)) : pProd b' n r = pProd b n r := by
  unfold pProd
  rw [pOne_same e, pChain_same e]
theorem pSum_same (e : pb b' n = pb b n) (r : Option (Nat → PR)) : pSum b' n r = pSum b n r := by
  unfold pSum
  rw [pProd_same e, pChain_same e]
theorem pRec_same (e : pb b' n = pb b n) : ∀ d, pRec b' n d = pRec b n d
  | 0 => rfl
  | d + 1 => by rw [pRec, pRec, pRec_same e d, pSum_same e]
theorem pS_same (e : pb b' n = pb b n) : pS b' n = pS b n := by
  unfold pS
  rw [pRec_same e, pSum_same e]
theorem pBand_same (e : pb b' n = pb b n) (p : Nat) : pBand b' n p = pBand b n p := by
  unfold pBand
  rw [pS_same e, e]
theorem pText_same (e : pb b' n = pb b n) (h : ∀ j, j < n → b' j = b j) : ∀ (k : Nat) (a : (Nat → Int) → Int × Int) (p : Nat), pText b' n k a p = pText b n k a p
  | 0, a, p => by rw [pText, pText]
  | k + 1, a, p => by
    rw [pText, pText, pBand_same e]
    by_cases c1 : (pBand b n p).2.2.2 = true
    · rw [if_pos c1, if_pos c1]
    · rw [if_neg c1, if_neg c1]
      by_cases c2 : (pBand b n p).2.2.1 < n
      · rw [if_pos c2, if_pos c2, h _ c2, pText_same e h k]
      · rw [if_neg c2, if_neg c2]
theorem pRead_good (h : ∀ j, j < n → b' j = b j) (hg : (pRead b n).2.2 = false) : (pRead b' n).2.2 = false := by
  have e : pb b' n = pb b n := by
    funext p
    unfold pb
    by_cases c : p < n
    · rw [if_pos c, if_pos c, h p c]
    · rw [if_neg c, if_neg c]
  unfold pRead at hg ⊢
  rw [pText_same e h]
  exact hg
end PAR
