/-! ===== the class's reader ===== -/
def rX (V : Key → Nat → Int) (p : Nat) (s : Int) : Key → Nat → Int := ku (ku V (0, 121, 0) 2 (p : Int)) (0, 121, 0) 3 s
def XB (x : Nat) (c : Nat → Key) (V : Key → Nat → Int) (R : Key → Nat → Option Nat) (K : Key → Option (Nat × Nat)) (b nm : Nat → Int) (n A : Nat) (bk : Key) : Prop := (CX x c) ∧ (R (0, 121, 0) 0 = some A) ∧ (c A = bk) ∧ ((if bk.1 = 0 then kfix bk.2.1 else K bk) = some (20, 120)) ∧ (bk ≠ (0, 121, 0)) ∧ (V (0, 121, 0) 1 = (n : Int)) ∧ (n ≤ 120) ∧ (∀ i, i < n → V bk i = b i ∧ 0 ≤ b i ∧ b i ≤ 255) ∧ (∀ i, i < 5 → V (0, 121, 0) (4 + i) = nm i)
theorem XB.cx {x : Nat} {c : Nat → Key} {V : Key → Nat → Int} {R : Key → Nat → Option Nat} {K : Key → Option (Nat × Nat)} {b nm : Nat → Int} {n A : Nat} {bk : Key} (h : XB x c V R K b nm n A bk) : CX x c := h.1
theorem XB.row {x : Nat} {c : Nat → Key} {V : Key → Nat → Int} {R : Key → Nat → Option Nat} {K : Key → Option (Nat × Nat)} {b nm : Nat → Int} {n A : Nat} {bk : Key} (h : XB x c V R K b nm n A bk) : R (0, 121, 0) 0 = some A := h.2.1
theorem XB.key {x : Nat} {c : Nat → Key} {V : Key → Nat → Int} {R : Key → Nat → Option Nat} {K : Key → Option (Nat × Nat)} {b nm : Nat → Int} {n A : Nat} {bk : Key} (h : XB x c V R K b nm n A bk) : c A = bk := h.2.2.1
theorem XB.kind {x : Nat} {c : Nat → Key} {V : Key → Nat → Int} {R : Key → Nat → Option Nat} {K : Key → Option (Nat × Nat)} {b nm : Nat → Int} {n A : Nat} {bk : Key} (h : XB x c V R K b nm n A bk) : (if bk.1 = 0 then kfix bk.2.1 else K bk) = some (20, 120) := h.2.2.2.1
theorem XB.ne {x : Nat} {c : Nat → Key} {V : Key → Nat → Int} {R : Key → Nat → Option Nat} {K : Key → Option (Nat × Nat)} {b nm : Nat → Int} {n A : Nat} {bk : Key} (h : XB x c V R K b nm n A bk) : bk ≠ (0, 121, 0) := h.2.2.2.2.1
theorem XB.len {x : Nat} {c : Nat → Key} {V : Key → Nat → Int} {R : Key → Nat → Option Nat} {K : Key → Option (Nat × Nat)} {b nm : Nat → Int} {n A : Nat} {bk : Key} (h : XB x c V R K b nm n A bk) : V (0, 121, 0) 1 = (n : Int) := h.2.2.2.2.2.1
theorem XB.max {x : Nat} {c : Nat → Key} {V : Key → Nat → Int} {R : Key → Nat → Option Nat} {K : Key → Option (Nat × Nat)} {b nm : Nat → Int} {n A : Nat} {bk : Key} (h : XB x c V R K b nm n A bk) : n ≤ 120 := h.2.2.2.2.2.2.1
theorem XB.byte {x : Nat} {c : Nat → Key} {V : Key → Nat → Int} {R : Key → Nat → Option Nat} {K : Key → Option (Nat × Nat)} {b nm : Nat → Int} {n A : Nat} {bk : Key} (h : XB x c V R K b nm n A bk) : ∀ i, i < n → V bk i = b i ∧ 0 ≤ b i ∧ b i ≤ 255 := h.2.2.2.2.2.2.2.1
theorem XB.name {x : Nat} {c : Nat → Key} {V : Key → Nat → Int} {R : Key → Nat → Option Nat} {K : Key → Option (Nat × Nat)} {b nm : Nat → Int} {n A : Nat} {bk : Key} (h : XB x c V R K b nm n A bk) : ∀ i, i < 5 → V (0, 121, 0) (4 + i) = nm i := h.2.2.2.2.2.2.2.2
def XR (x : Nat) (c : Nat → Key) (N : Nat) (V : Key → Nat → Int) (R : Key → Nat → Option Nat) (K : Key → Option (Nat × Nat)) (b nm : Nat → Int) (n : Nat) (r : PR) (res : Option (Int × Hp)) : Prop := ∃ (v s : Int), res = some (v, zX x c N (rX V r.2.1 s) R K) ∧ (r.2.2 = false → v = r.1 nm ∧ s = 0) ∧ (r.2.2 = true → s = 1 ∨ (s = 0 ∧ 48 ≤ pb b n r.2.1 ∧ pb b n r.2.1 ≤ 57))
def XT (x : Nat) (c : Nat → Key) (N : Nat) (V : Key → Nat → Int) (R : Key → Nat → Option Nat) (K : Key → Option (Nat × Nat)) (nm : Nat → Int) (r : ((Nat → Int) → Int × Int) × Nat × Bool) (res : Option (Int × Hp)) : Prop := ∃ v : Int, res = some (v, zX x c N (rX V r.2.1 (if r.2.2 = true then 1 else 0)) R K) ∧ (r.2.2 = false → v = (r.1 nm).1)
section RDX
variable {x N FU n A : Nat} {c : Nat → Key} {V : Key → Nat → Int} {R : Key → Nat → Option Nat} {K : Key → Option (Nat × Nat)} {b nm : Nat → Int} {bk : Key}
theorem rX_2 (p : Nat) (s : Int) : rX V p s (0, 121, 0) 2 = (p : Int) := by simp [rX, ku]
theorem rX_3 (p : Nat) (s : Int) : rX V p s (0, 121, 0) 3 = s := by simp [rX, ku]
theorem rX_o {j : Nat} (p : Nat) (s : Int) (h2 : j ≠ 2) (h3 : j ≠ 3) : rX V p s (0, 121, 0) j = V (0, 121, 0) j := by simp [rX, ku, h2, h3]
theorem rX_k {q : Key} (j p : Nat) (s : Int) (h : q ≠ (0, 121, 0)) : rX V p s q j = V q j := by simp [rX, ku, h]
theorem rX_p {p q : Nat} {s z : Int} (hz : z = (q : Int)) : ku (rX V p s) (0, 121, 0) 2 z = rX V q s := by
  subst hz
  funext a i
  simp only [rX, ku]
  repeat' split
  all_goals first | rfl | (rename_i z1 z2; exact absurd z1.2 (by rw [z2.2]; decide)) | omega
theorem rX_s {p : Nat} {s t : Int} : ku (rX V p s) (0, 121, 0) 3 t = rX V p t := by
  funext a i
  simp only [rX, ku]
  repeat' split
  all_goals first | rfl | omega
theorem xPZ1b {α : Type} {f : Hp → Option α} (hc : CX x c) : (zpZ (zX x c N V R K) (x + 121) 5 3 1).bind f = f (zX x c N (ku V (0, 121, 0) 3 1) R K) := by
  rw [xPZ121 hc, if_pos (by simp)]; rfl
theorem XB.next (h : XB x c V R K b nm n A bk) (p : Nat) (s : Int) : FReader_next FU (x + 121) (zX x c N (rX V p s) R K) = some (pb b n p) := by
  have hc := h.cx
  have kd : zk (zX x c N (rX V p s) R K) A = some (20, 120) := by rw [zX_k, h.key]; exact h.kind
  have row : zgQ (zX x c N (rX V p s) R K) (x + 121) 5 0 = some A := by
    unfold zgQ
    rw [if_pos (xK121 hc), xRd hc 121 0 (by decide) rfl]
    exact h.row
  have mx := h.max
  unfold FReader_next FReader_next_b
  rw [xD121 hc, xI121b hc, rX_2, if_neg (by omega), xI121b hc, rX_2, xI121b hc, rX_o p s (by decide) (by decide), h.len]
  unfold pb
  by_cases e : p < n
  · have rd : zaI (zX x c N (rX V p s) R K) A 20 (p : Int) = some (b p) := by
      rw [xRk h.key kd, if_pos (by omega), Int.toNat_natCast, rX_k p p s h.ne, (h.byte p e).1]
    rw [if_pos (by omega), if_pos e, xI121b hc, rX_2, bde row, bde (xNk kd), if_pos (by omega), bde row, xI121b hc, rX_2, bde rd]
  · rw [if_neg (by omega), if_neg e]
theorem XB.num (h : XB x c V R K b nm n A bk) : ∀ (k : Nat) (v : Int) (p fu : Nat), k ≤ 6 → p ≤ n → k < fu → FReader_readNumber_L4 FU fu (x + 121) v (6 - (k : Int)) (zX x c N (rX V p 0) R K) = some ((pNum b n k v p).1 nm, zX x c N (rX V (pNum b n k v p).2.1 0) R K) := by
  have hc := h.cx
  have mx := h.max
  intro k
  induction k with
  | zero =>
    intro v p fu hk hp hf
    obtain ⟨fu, rfl⟩ : ∃ fu', fu = fu' + 1 := ⟨fu - 1, by omega⟩
    rw [FReader_readNumber_L4, if_neg (by omega), pNum]
  | succ k ih =>
    intro v p fu hk hp hf
    obtain ⟨fu, rfl⟩ : ∃ fu', fu = fu' + 1 := ⟨fu - 1, by omega⟩
    rw [FReader_readNumber_L4, if_pos (by omega), bde (h.next p 0), pNum]
    by_cases c1 : pb b n p < 48
    · rw [if_pos c1, if_neg (by omega)]
    · by_cases c2 : pb b n p ≤ 57
      · have lt := pb_lt (b := b) (n := n) (p := p) (by omega)
        have e : 6 - ((k + 1 : Nat) : Int) + 1 = 6 - (k : Int) := by omega
        rw [if_neg c1, if_pos c2, if_pos (by omega), Option.bind_some, Option.bind_some, Option.bind_some, xI121b hc, rX_2, zckb (by omega), xP121b hc, rX_p (q := p + 1) (by omega), zckb (by omega), e]
        exact ih _ (p + 1) fu (by omega) (by omega) (by omega)
      · rw [if_neg c1, if_neg c2, if_neg (by omega)]
theorem XB.expect (h : XB x c V R K b nm n A bk) {p : Nat} (hp : p ≤ n) (ch : Int) : FReader_expect FU (x + 121) ch (zX x c N (rX V p 0) R K) = some ((), zX x c N (if pb b n p = ch then rX V (p + 1) 0 else rX V p 1) R K) := by
  have hc := h.cx
  have mx := h.max
  unfold FReader_expect FReader_expect_b
  rw [xD121 hc, xI121b hc, rX_3, if_pos rfl, bde (h.next p 0)]
  by_cases c1 : pb b n p = ch
  · rw [if_pos c1, if_pos c1, xI121b hc, rX_2, zckb (by omega), xP121b hc, rX_p (q := p + 1) (by omega)]
  · rw [if_neg c1, if_neg c1, xPZ1b hc, rX_s]
theorem XB.expect1 (h : XB x c V R K b nm n A bk) (p : Nat) (ch : Int) : FReader_expect FU (x + 121) ch (zX x c N (rX V p 1) R K) = some ((), zX x c N (rX V p 1) R K) := by
  have hc := h.cx
  unfold FReader_expect FReader_expect_b
  rw [xD121 hc, xI121b hc, rX_3, if_neg (by decide)]
theorem XB.nameV (h : XB x c V R K b nm n A bk) {p : Nat} (hp : p ≤ n) (v : Int) : FReader_readName FU (x + 121) v (zX x c N (rX V p 0) R K) = if v = 116 then some (nm 0, zX x c N (rX V (p + 1) 0) R K) else if v = 102 then some (nm 1, zX x c N (rX V (p + 1) 0) R K) else if v = 109 then some (nm 2, zX x c N (rX V (p + 1) 0) R K) else if v = 121 then some (nm 3, zX x c N (rX V (p + 1) 0) R K) else if v = 115 then some (nm 4, zX x c N (rX V (p + 1) 0) R K) else some (0, zX x c N (rX V p 1) R K) := by
  have hc := h.cx
  have mx := h.max
  have n0 : V (0, 121, 0) 4 = nm 0 := h.name 0 (by omega)
  have n1 : V (0, 121, 0) 5 = nm 1 := h.name 1 (by omega)
  have n2 : V (0, 121, 0) 6 = nm 2 := h.name 2 (by omega)
  have n3 : V (0, 121, 0) 7 = nm 3 := h.name 3 (by omega)
  have n4 : V (0, 121, 0) 8 = nm 4 := h.name 4 (by omega)
  unfold FReader_readName FReader_readName_b
  rw [xD121 hc, xI121b hc, rX_2, zckb (by omega), xP121b hc, rX_p (q := p + 1) (by omega)]
  by_cases c1 : v = 102
  · rw [if_pos c1, xI121b hc, rX_o _ _ (by decide) (by decide), n1, if_neg (by omega), if_pos c1]
  · rw [if_neg c1]
    by_cases c2 : v = 109
    · rw [if_pos c2, xI121b hc, rX_o _ _ (by decide) (by decide), n2, if_neg (by omega), if_neg (by omega), if_pos c2]
    · rw [if_neg c2]
      by_cases c3 : v = 115
      · rw [if_pos c3, xI121b hc, rX_o _ _ (by decide) (by decide), n4, if_neg (by omega), if_neg (by omega), if_neg (by omega), if_neg (by omega), if_pos c3]
      · rw [if_neg c3]
        by_cases c4 : v = 116
        · rw [if_pos c4, xI121b hc, rX_o _ _ (by decide) (by decide), n0, if_pos c4]
        · rw [if_neg c4]
          by_cases c5 : v = 121
          · rw [if_pos c5, xI121b hc, rX_o _ _ (by decide) (by decide), n3, if_neg (by omega), if_neg (by omega), if_neg (by omega), if_pos c5]
          · rw [if_neg c5, xI121b hc, rX_2, zckb (by omega), xP121b hc, rX_p (q := p) (by omega), xPZ1b hc, rX_s, if_neg (by omega), if_neg (by omega), if_neg (by omega), if_neg (by omega), if_neg (by omega)]
theorem XB.one (h : XB x c V R K b nm n A bk) {r : Option (Nat → PR)} {rec : Nat → Int → Hp → Option (Int × Hp)} {d : Nat} (hr0 : r = none → d = 8) (hr1 : ∀ f, r = some f → d < 8 ∧ ∀ p, p ≤ n → XR x c N V R K b nm n (f p) (rec (x + 121) ((d : Int) + 1) (zX x c N (rX V p 0) R K))) (hok : ∀ f, r = some f → pOk n f) (hFU : 7 ≤ FU) : ∀ p, p ≤ n → XR x c N V R K b nm n (pOne b n r p) (FReader_readOperand FU rec (x + 121) (d : Int) (zX x c N (rX V p 0) R K)) := by
  intro p hp
  have hc := h.cx
  have mx := h.max
  unfold FReader_readOperand FReader_readOperand_b
  rw [xD121 hc, xI121b hc, rX_3, if_pos rfl, bde (h.next p 0)]
  have B : ¬ (48 ≤ pb b n p ∧ pb b n p ≤ 57) → XR x c N V R K b nm n (pOne b n r p) (FReader_readOperand_B31 FU rec (x + 121) (d : Int) (pb b n p) (zX x c N (rX V p 0) R K)) := by
    intro cd
    have nv := h.nameV (FU := FU) (N := N) hp (pb b n p)
    unfold FReader_readOperand_B31 pOne
    rw [if_neg cd]
    by_cases c40 : pb b n p = 40
    · rw [if_pos c40, if_pos c40]
      have lt := pb_lt (b := b) (n := n) (p := p) (by omega)
      rw [if_neg (by omega), if_neg (by omega), if_neg (by omega), if_neg (by omega), if_neg (by omega)] at nv
      cases r with
      | none =>
        have d8 := hr0 rfl
        rw [if_neg (by omega)]
        unfold FReader_readOperand_B69
        rw [zbe nv]
        exact ⟨0, 1, rfl, fun e => tf e, fun _ => Or.inl rfl⟩
      | some f =>
        obtain ⟨d8, hf⟩ := hr1 f rfl
        rw [if_pos (by omega), xI121b hc, rX_2, zckb (by omega), xP121b hc, rX_p (q := p + 1) (by omega), zckb (by omega)]
        obtain ⟨v, s, e1, e2, e3⟩ := hf (p + 1) (by omega)
        have ok := hok f rfl (p + 1) (by omega)
        rw [zbe e1, pPar_some]
        by_cases cf : (f (p + 1)).2.2 = true
        · rw [if_pos cf]
          rcases e3 cf with hs | ⟨hs, dg⟩
          · subst hs
            rw [zbe (h.expect1 _ _)]
            exact ⟨v, 1, rfl, fun e => absurd e (by rw [cf]; decide), fun _ => Or.inl rfl⟩
          · subst hs
            rw [zbe (h.expect (by omega) _), if_neg (by omega)]
            exact ⟨v, 1, rfl, fun e => absurd e (by rw [cf]; decide), fun _ => Or.inl rfl⟩
        · have cf' : (f (p + 1)).2.2 = false := by simpa using cf
          obtain ⟨ev, es⟩ := e2 cf'
          subst es
          rw [if_neg cf, zbe (h.expect (by omega) _)]
          by_cases c41 : pb b n (f (p + 1)).2.1 = 41
          · rw [if_pos c41, if_pos c41]
            exact ⟨v, 0, rfl, fun _ => ⟨ev, rfl⟩, fun e => ft e⟩
          · rw [if_neg c41, if_neg c41]
            exact ⟨v, 1, rfl, fun e => tf e, fun _ => Or.inl rfl⟩
    · rw [if_neg c40, if_neg c40]
      unfold FReader_readOperand_B69
      have G : ∀ (w : PV), XR x c N V R K b nm n (w, p + 1, false) (some (w nm, zX x c N (rX V (p + 1) 0) R K)) := fun w => ⟨w nm, 0, rfl, fun _ => ⟨rfl, rfl⟩, fun e => ft e⟩
      by_cases c1 : pb b n p = 116
      · rw [if_pos c1] at nv ⊢
        rw [zbe nv]
        exact G _
      · rw [if_neg c1] at nv ⊢
        by_cases c2 : pb b n p = 102
        · rw [if_pos c2] at nv ⊢
          rw [zbe nv]
          exact G _
        · rw [if_neg c2] at nv ⊢
          by_cases c3 : pb b n p = 109
          · rw [if_pos c3] at nv ⊢
            rw [zbe nv]
            exact G _
          · rw [if_neg c3] at nv ⊢
            by_cases c4 : pb b n p = 121
            · rw [if_pos c4] at nv ⊢
              rw [zbe nv]
              exact G _
            · rw [if_neg c4] at nv ⊢
              by_cases c5 : pb b n p = 115
              · rw [if_pos c5] at nv ⊢
                rw [zbe nv]
                exact G _
              · rw [if_neg c5] at nv ⊢
                rw [zbe nv]
                exact ⟨0, 1, rfl, fun e => tf e, fun _ => Or.inl rfl⟩
  by_cases c1 : pb b n p < 48
  · rw [if_pos c1]
    exact B (by omega)
  · by_cases c2 : pb b n p ≤ 57
    · rw [if_neg c1, if_pos c2]
      unfold FReader_readNumber FReader_readNumber_b pOne
      have e := h.num (FU := FU) (N := N) 6 0 p FU (by omega) hp (by omega)
      rw [show (6 : Int) - ((6 : Nat) : Int) = 0 from rfl] at e
      rw [xD121 hc, zbe e, if_pos (by omega)]
      exact ⟨_, 0, rfl, fun _ => ⟨rfl, rfl⟩, fun e => Or.inr ⟨rfl, (pNum_ok (b := b) (n := n) 6 0 p hp).2.2 e⟩⟩
    · rw [if_neg c1, if_neg c2]
      exact B (by omega)
theorem div_eq (v w : Int) (G : Hp) : FReader_divide FU v w G = some (if w = 0 then 0 else zwr (v.tdiv w)) := by
  unfold FReader_divide
  by_cases e : w = 0
  · rw [if_pos e, if_pos e]
  · rw [if_neg e, if_neg e]
    unfold zdw
    rw [if_neg e]
    rfl
theorem XB.badProd (h : XB x c V R K b nm n A bk) {rec : Nat → Int → Hp → Option (Int × Hp)} {q fu : Nat} {s d w i : Int} (hq : s = 1 ∨ (s = 0 ∧ 48 ≤ pb b n q ∧ pb b n q ≤ 57)) (hf : 0 < fu) : FReader_readProduct_L8 FU rec fu (x + 121) d w i (zX x c N (rX V q s) R K) = some (w, zX x c N (rX V q s) R K) := by
  have hc := h.cx
  obtain ⟨fu, rfl⟩ : ∃ fu', fu = fu' + 1 := ⟨fu - 1, by omega⟩
  rw [FReader_readProduct_L8, xI121b hc]
  split
  · rw [xI121b hc, rX_3]
    rcases hq with e | ⟨e, e1⟩
    · subst e
      rw [if_neg (by decide)]
    · subst e
      rw [if_pos rfl, bde (h.next q 0), if_neg (by omega), if_neg (by omega)]
  · rfl
theorem XB.loopProd (h : XB x c V R K b nm n A bk) {op : Nat → PR} {rec : Nat → Int → Hp → Option (Int × Hp)} {d : Int} (ho : ∀ p, p ≤ n → XR x c N V R K b nm n (op p) (FReader_readOperand FU rec (x + 121) d (zX x c N (rX V p 0) R K))) (hok : pOk n op) : ∀ (k : Nat) (vf : PV) (p i fu : Nat), p ≤ n → n < p + k → i ≤ p → k < fu → XR x c N V R K b nm n (pLoop b n op 42 47 fProd k vf p) (FReader_readProduct_L8 FU rec fu (x + 121) d (vf nm) (i : Int) (zX x c N (rX V p 0) R K)) := by
  have hc := h.cx
  have mx := h.max
  intro k
  induction k with
  | zero =>
    intro vf p i fu hp hn
    omega
  | succ k ih =>
    intro vf p i fu hp hn hi hf
    obtain ⟨fu, rfl⟩ : ∃ fu', fu = fu' + 1 := ⟨fu - 1, by omega⟩
    rw [FReader_readProduct_L8, xI121b hc, rX_o _ _ (by decide) (by decide), h.len, pLoop]
    by_cases cs : pb b n p = 42 ∨ pb b n p = 47
    · have lt := pb_lt (b := b) (n := n) (p := p) (by omega)
      rw [if_pos cs, if_pos (show (i : Int) < (n : Int) by omega), xI121b hc, rX_3, if_pos rfl, bde (h.next p 0)]
      have B : XR x c N V R K b nm n (if (op (p + 1)).2.2 = true then op (p + 1) else pLoop b n op 42 47 fProd k (fun nm => fProd (pb b n p) (vf nm) ((op (p + 1)).1 nm)) (op (p + 1)).2.1) (FReader_readProduct_B46 FU rec (FReader_readProduct_L8 FU rec fu) (x + 121) d (vf nm) (i : Int) (pb b n p) (zX x c N (rX V p 0) R K)) := by
        unfold FReader_readProduct_B46
        rw [xI121b hc, rX_2, zckb (by omega), xP121b hc, rX_p (q := p + 1) (by omega)]
        obtain ⟨v5, s, e1, e2, e3⟩ := ho (p + 1) (by omega)
        have ok := hok (p + 1) (by omega)
        have i1 : (i : Int) + 1 = ((i + 1 : Nat) : Int) := by omega
        rw [zbe e1]
        have S : (if pb b n p = 42 then ((some (zwr (vf nm * v5))).bind fun v6 => (zck ((i : Int) + 1)).bind fun v7 => FReader_readProduct_L8 FU rec fu (x + 121) d v6 v7 (zX x c N (rX V (op (p + 1)).2.1 s) R K)) else ((FReader_divide FU (vf nm) v5 (zX x c N (rX V (op (p + 1)).2.1 s) R K)).bind fun v8 => (zck ((i : Int) + 1)).bind fun v9 => FReader_readProduct_L8 FU rec fu (x + 121) d v8 v9 (zX x c N (rX V (op (p + 1)).2.1 s) R K))) = FReader_readProduct_L8 FU rec fu (x + 121) d (fProd (pb b n p) (vf nm) v5) ((i + 1 : Nat) : Int) (zX x c N (rX V (op (p + 1)).2.1 s) R K) := by
          unfold fProd
          by_cases c1 : pb b n p = 42
          · rw [if_pos c1, if_pos c1, Option.bind_some, zckb (by omega), i1]
          · rw [if_neg c1, if_neg c1, bde (div_eq _ _ _), zckb (by omega), i1]
        refine (show _ = _ from S) ▸ ?_
        by_cases cf : (op (p + 1)).2.2 = true
        · rw [if_pos cf, h.badProd (e3 cf) (by omega)]
          exact ⟨_, s, rfl, fun e => absurd e (by rw [cf]; decide), e3⟩
        · have cf' : (op (p + 1)).2.2 = false := by simpa using cf
          obtain ⟨ev, es⟩ := e2 cf'
          subst es
          subst ev
          rw [if_neg cf]
          exact ih (fun nm => fProd (pb b n p) (vf nm) ((op (p + 1)).1 nm)) (op (p + 1)).2.1 (i + 1) fu ok.2.1 (by omega) (by omega) (by omega)
      rcases cs with c1 | c1
      · rw [if_pos c1]
        exact B
      · rw [if_neg (show ¬ pb b n p = 42 by omega), if_pos c1]
        exact B
    · rw [if_neg cs]
      have E : XR x c N V R K b nm n (vf, p, false) (some (vf nm, zX x c N (rX V p 0) R K)) := ⟨vf nm, 0, rfl, fun _ => ⟨rfl, rfl⟩, fun e => ft e⟩
      by_cases ci : (i : Int) < (n : Int)
      · rw [if_pos ci, xI121b hc, rX_3, if_pos rfl, bde (h.next p 0), if_neg (by omega), if_neg (by omega)]
        exact E
      · rw [if_neg ci]
        exact E
theorem XB.chainProd (h : XB x c V R K b nm n A bk) {op : Nat → PR} {rec : Nat → Int → Hp → Option (Int × Hp)} {d : Int} (ho : ∀ p, p ≤ n → XR x c N V R K b nm n (op p) (FReader_readOperand FU rec (x + 121) d (zX x c N (rX V p 0) R K))) (hok : pOk n op) (hFU : 122 ≤ FU) (p : Nat) (hp : p ≤ n) : XR x c N V R K b nm n (pChain b n op 42 47 fProd p) (FReader_readProduct FU rec (x + 121) d (zX x c N (rX V p 0) R K)) := by
  have hc := h.cx
  have mx := h.max
  have ok := hok p hp
  unfold FReader_readProduct FReader_readProduct_b pChain
  obtain ⟨v, s, e1, e2, e3⟩ := ho p hp
  rw [xD121 hc, zbe e1]
  by_cases cf : (op p).2.2 = true
  · rw [if_pos cf, h.badProd (e3 cf) (by omega)]
    exact ⟨v, s, rfl, fun e => absurd e (by rw [cf]; decide), e3⟩
  · obtain ⟨ev, es⟩ := e2 (by simpa using cf)
    subst es
    subst ev
    rw [if_neg cf]
    exact h.loopProd ho hok (n + 1) _ (op p).2.1 0 FU ok.2.1 (by omega) (by omega) (by omega)
theorem XB.badSum (h : XB x c V R K b nm n A bk) {rec : Nat → Int → Hp → Option (Int × Hp)} {q fu : Nat} {s d w i : Int} (hq : s = 1 ∨ (s = 0 ∧ 48 ≤ pb b n q ∧ pb b n q ≤ 57)) (hf : 0 < fu) : FReader_readSum_L8 FU rec fu (x + 121) d w i (zX x c N (rX V q s) R K) = some (w, zX x c N (rX V q s) R K) := by
  have hc := h.cx
  obtain ⟨fu, rfl⟩ : ∃ fu', fu = fu' + 1 := ⟨fu - 1, by omega⟩
  rw [FReader_readSum_L8, xI121b hc]
  split
  · rw [xI121b hc, rX_3]
    rcases hq with e | ⟨e, e1⟩
    · subst e
      rw [if_neg (by decide)]
    · subst e
      rw [if_pos rfl, bde (h.next q 0), if_neg (by omega), if_neg (by omega)]
  · rfl
theorem XB.loopSum (h : XB x c V R K b nm n A bk) {op : Nat → PR} {rec : Nat → Int → Hp → Option (Int × Hp)} {d : Int} (ho : ∀ p, p ≤ n → XR x c N V R K b nm n (op p) (FReader_readProduct FU rec (x + 121) d (zX x c N (rX V p 0) R K))) (hok : pOk n op) : ∀ (k : Nat) (vf : PV) (p i fu : Nat), p ≤ n → n < p + k → i ≤ p → k < fu → XR x c N V R K b nm n (pLoop b n op 43 45 fSum k vf p) (FReader_readSum_L8 FU rec fu (x + 121) d (vf nm) (i : Int) (zX x c N (rX V p 0) R K)) := by
  have hc := h.cx
  have mx := h.max
  intro k
  induction k with
  | zero =>
    intro vf p i fu hp hn
    omega
  | succ k ih =>
    intro vf p i fu hp hn hi hf
    obtain ⟨fu, rfl⟩ : ∃ fu', fu = fu' + 1 := ⟨fu - 1, by omega⟩
    rw [FReader_readSum_L8, xI121b hc, rX_o _ _ (by decide) (by decide), h.len, pLoop]
    by_cases cs : pb b n p = 43 ∨ pb b n p = 45
    · have lt := pb_lt (b := b) (n := n) (p := p) (by omega)
      rw [if_pos cs, if_pos (show (i : Int) < (n : Int) by omega), xI121b hc, rX_3, if_pos rfl, bde (h.next p 0)]
      have B : XR x c N V R K b nm n (if (op (p + 1)).2.2 = true then op (p + 1) else pLoop b n op 43 45 fSum k (fun nm => fSum (pb b n p) (vf nm) ((op (p + 1)).1 nm)) (op (p + 1)).2.1) (FReader_readSum_B46 FU rec (FReader_readSum_L8 FU rec fu) (x + 121) d (vf nm) (i : Int) (pb b n p) (zX x c N (rX V p 0) R K)) := by
        unfold FReader_readSum_B46
        rw [xI121b hc, rX_2, zckb (by omega), xP121b hc, rX_p (q := p + 1) (by omega)]
        obtain ⟨v5, s, e1, e2, e3⟩ := ho (p + 1) (by omega)
        have ok := hok (p + 1) (by omega)
        have i1 : (i : Int) + 1 = ((i + 1 : Nat) : Int) := by omega
        rw [zbe e1]
        have S : (if pb b n p = 43 then ((some (zwr (vf nm + v5))).bind fun v6 => (zck ((i : Int) + 1)).bind fun v7 => FReader_readSum_L8 FU rec fu (x + 121) d v6 v7 (zX x c N (rX V (op (p + 1)).2.1 s) R K)) else ((some (zwr (vf nm - v5))).bind fun v8 => (zck ((i : Int) + 1)).bind fun v9 => FReader_readSum_L8 FU rec fu (x + 121) d v8 v9 (zX x c N (rX V (op (p + 1)).2.1 s) R K))) = FReader_readSum_L8 FU rec fu (x + 121) d (fSum (pb b n p) (vf nm) v5) ((i + 1 : Nat) : Int) (zX x c N (rX V (op (p + 1)).2.1 s) R K) := by
          unfold fSum
          by_cases c1 : pb b n p = 43
          · rw [if_pos c1, if_pos c1, Option.bind_some, zckb (by omega), i1]
          · rw [if_neg c1, if_neg c1, Option.bind_some, zckb (by omega), i1]
        refine (show _ = _ from S) ▸ ?_
        by_cases cf : (op (p + 1)).2.2 = true
        · rw [if_pos cf, h.badSum (e3 cf) (by omega)]
          exact ⟨_, s, rfl, fun e => absurd e (by rw [cf]; decide), e3⟩
        · have cf' : (op (p + 1)).2.2 = false := by simpa using cf
          obtain ⟨ev, es⟩ := e2 cf'
          subst es
          subst ev
          rw [if_neg cf]
          exact ih (fun nm => fSum (pb b n p) (vf nm) ((op (p + 1)).1 nm)) (op (p + 1)).2.1 (i + 1) fu ok.2.1 (by omega) (by omega) (by omega)
      rcases cs with c1 | c1
      · rw [if_pos c1]
        exact B
      · rw [if_neg (show ¬ pb b n p = 43 by omega), if_pos c1]
        exact B
    · rw [if_neg cs]
      have E : XR x c N V R K b nm n (vf, p, false) (some (vf nm, zX x c N (rX V p 0) R K)) := ⟨vf nm, 0, rfl, fun _ => ⟨rfl, rfl⟩, fun e => ft e⟩
      by_cases ci : (i : Int) < (n : Int)
      · rw [if_pos ci, xI121b hc, rX_3, if_pos rfl, bde (h.next p 0), if_neg (by omega), if_neg (by omega)]
        exact E
      · rw [if_neg ci]
        exact E
theorem XB.chainSum (h : XB x c V R K b nm n A bk) {op : Nat → PR} {rec : Nat → Int → Hp → Option (Int × Hp)} {d : Int} (ho : ∀ p, p ≤ n → XR x c N V R K b nm n (op p) (FReader_readProduct FU rec (x + 121) d (zX x c N (rX V p 0) R K))) (hok : pOk n op) (hFU : 122 ≤ FU) (p : Nat) (hp : p ≤ n) : XR x c N V R K b nm n (pChain b n op 43 45 fSum p) (FReader_readSum FU rec (x + 121) d (zX x c N (rX V p 0) R K)) := by
  have hc := h.cx
  have mx := h.max
  have ok := hok p hp
  unfold FReader_readSum FReader_readSum_b pChain
  obtain ⟨v, s, e1, e2, e3⟩ := ho p hp
  rw [xD121 hc, zbe e1]
  by_cases cf : (op p).2.2 = true
  · rw [if_pos cf, h.badSum (e3 cf) (by omega)]
    exact ⟨v, s, rfl, fun e => absurd e (by rw [cf]; decide), e3⟩
  · obtain ⟨ev, es⟩ := e2 (by simpa using cf)
    subst es
    subst ev
    rw [if_neg cf]
    exact h.loopSum ho hok (n + 1) _ (op p).2.1 0 FU ok.2.1 (by omega) (by omega) (by omega)
theorem XB.sumN (h : XB x c V R K b nm n A bk) (hFU : 122 ≤ FU) : ∀ (e D p : Nat), e ≤ 8 → e < D → p ≤ n → XR x c N V R K b nm n (pSum b n (pRec b n e) p) (FReader_readSum_n FU D (x + 121) ((8 - e : Nat) : Int) (zX x c N (rX V p 0) R K)) := by
  intro e
  induction e with
  | zero =>
    intro D p he hD hp
    obtain ⟨D, rfl⟩ : ∃ D', D = D' + 1 := ⟨D - 1, by omega⟩
    rw [FReader_readSum_n]
    exact h.chainSum (fun p hp => h.chainProd (h.one (fun _ => rfl) (fun f q => absurd q (by simp [pRec])) (pRec_ok 0) (by omega)) (pOne_ok (pRec_ok 0)) hFU p hp) (pProd_ok (pRec_ok 0)) hFU p hp
  | succ e ih =>
    intro D p he hD hp
    obtain ⟨D, rfl⟩ : ∃ D', D = D' + 1 := ⟨D - 1, by omega⟩
    rw [FReader_readSum_n]
    refine h.chainSum (fun p hp => h.chainProd (h.one (fun q => absurd q (by simp [pRec])) (fun f q => ⟨by omega, fun p hp => ?_⟩) (pRec_ok (e + 1)) (by omega)) (pOne_ok (pRec_ok (e + 1))) hFU p hp) (pProd_ok (pRec_ok (e + 1))) hFU p hp
    rw [pRec] at q
    rw [← Option.some.inj q]
    have i1 : ((8 - (e + 1) : Nat) : Int) + 1 = ((8 - e : Nat) : Int) := by omega
    rw [i1]
    exact ih D p (by omega) (by omega) hp
theorem XB.sum1 (h : XB x c V R K b nm n A bk) (hFU : 0 < FU) (D q : Nat) (d : Int) : FReader_readSum_n FU (D + 1) (x + 121) d (zX x c N (rX V q 1) R K) = some (0, zX x c N (rX V q 1) R K) := by
  have hc := h.cx
  rw [FReader_readSum_n]
  unfold FReader_readSum FReader_readSum_b FReader_readProduct FReader_readProduct_b FReader_readOperand FReader_readOperand_b
  rw [xD121 hc, xD121 hc, xD121 hc, xI121b hc, rX_3, if_neg (by decide), zb_some, h.badProd (Or.inl rfl) hFU, zb_some, h.badSum (Or.inl rfl) hFU]
theorem cmp_eq {v w ch : Int} (G : Hp) (hc : ch = 60 ∨ ch = 61 ∨ ch = 62) : FReader_compare FU v ch w G = some (if pCmp ch v w = true then 1 else 0) := by
  unfold FReader_compare pCmp
  rcases hc with e | e | e <;> subst e
  · by_cases q : v < w
    · simp [q, zrz]
    · simp [q, zrz]
  · by_cases q : v = w
    · simp [q, zrz]
    · simp [q, zrz]
  · by_cases q : v ≤ w
    · have : ¬ w < v := by omega
      simp [q, this, zrz]
    · have : w < v := by omega
      simp [q, this, zrz]
theorem pText_of {k p q : Nat} {a : (Nat → Int) → Int × Int} {vB : PV} {tB : (Nat → Int) → Bool} {fl : Bool} (e : pBand b n p = (vB, tB, q, fl)) : pText b n (k + 1) a p = if fl = true then (a, q, true) else if q < n then (if b q = 59 then pText b n k (pAcc (vB, tB, q, fl) a) (q + 1) else (a, q, true)) else (pAcc (vB, tB, q, fl) a, q, false) := by
  rw [pText, e]
theorem XB.badText (h : XB x c V R K b nm n A bk) {q fu : Nat} {u x3 x4 i : Int} (hf : 0 < fu) : FReader_read_L28 FU fu (x + 121) u x3 x4 i (zX x c N (rX V q 1) R K) = some (x4, zX x c N (rX V q 1) R K) := by
  have hc := h.cx
  obtain ⟨fu, rfl⟩ : ∃ fu', fu = fu' + 1 := ⟨fu - 1, by omega⟩
  rw [FReader_read_L28]
  split
  · rw [xI121b hc, rX_3, if_neg (by decide)]
  · rfl
theorem XB.badTail (h : XB x c V R K b nm n A bk) {q fu i : Nat} {s u x3 x4 x6 x7 : Int} {a : (Nat → Int) → Int × Int} (hq : s = 1 ∨ (s = 0 ∧ 48 ≤ pb b n q ∧ pb b n q ≤ 57)) (hqn : q ≤ n) (hi : i ≤ 120) (hf : 0 < fu) : XT x c N V R K nm (a, q, true) (FReader_read_B122 FU (FReader_read_L28 FU fu) (x + 121) u x3 x4 (i : Int) x6 x7 (zX x c N (rX V q s) R K)) := by
  have T : ∀ y3 y4 : Int, XT x c N V R K nm (a, q, true) (FReader_read_B137 FU (FReader_read_L28 FU fu) (x + 121) u y3 y4 (i : Int) (zX x c N (rX V q s) R K)) := by
    intro y3 y4
    unfold FReader_read_B137
    rw [bde (h.next q s)]
    rcases hq with e | ⟨e, e1⟩
    · subst e
      split
      · exact ⟨y4, rfl, fun e => tf e⟩
      · rw [zbe (h.expect1 _ _), zckb (by omega), h.badText hf]
        exact ⟨y4, rfl, fun e => tf e⟩
    · subst e
      rw [if_neg (by omega), zbe (h.expect hqn _), if_neg (by omega), zckb (by omega), h.badText hf]
      exact ⟨y4, rfl, fun e => tf e⟩
  unfold FReader_read_B122
  split
  · exact T _ _
  · split
    · exact T _ _
    · exact T _ _
theorem XB.goodTail (h : XB x c V R K b nm n A bk) {k q fu i : Nat} {x3 x4 : Int} {a : (Nat → Int) → Int × Int} {vB : PV} {tB : (Nat → Int) → Bool} (ha : a nm = (x4, x3)) (h3 : x3 = 0 ∨ x3 = 1) (hqn : q ≤ n) (hi : i ≤ q) (hf : 0 < fu)
    (ih : ∀ (a : (Nat → Int) → Int × Int) (y3 y4 : Int), a nm = (y4, y3) → (y3 = 0 ∨ y3 = 1) → q + 1 ≤ n → XT x c N V R K nm (pText b n k a (q + 1)) (FReader_read_L28 FU fu (x + 121) (n : Int) y3 y4 ((i + 1 : Nat) : Int) (zX x c N (rX V (q + 1) 0) R K))) :
    XT x c N V R K nm (if q < n then (if b q = 59 then pText b n k (pAcc (vB, tB, q, false) a) (q + 1) else (a, q, true)) else (pAcc (vB, tB, q, false) a, q, false)) (FReader_read_B122 FU (FReader_read_L28 FU fu) (x + 121) (n : Int) x3 x4 (i : Int) (vB nm) (if tB nm = true then 1 else 0) (zX x c N (rX V q 0) R K)) := by
  have mx := h.max
  have i1 : (i : Int) + 1 = ((i + 1 : Nat) : Int) := by omega
  have T : ∀ y3 y4 : Int, (pAcc (vB, tB, q, false) a) nm = (y4, y3) → (y3 = 0 ∨ y3 = 1) → XT x c N V R K nm (if q < n then (if b q = 59 then pText b n k (pAcc (vB, tB, q, false) a) (q + 1) else (a, q, true)) else (pAcc (vB, tB, q, false) a, q, false)) (FReader_read_B137 FU (FReader_read_L28 FU fu) (x + 121) (n : Int) y3 y4 (i : Int) (zX x c N (rX V q 0) R K)) := by
    intro y3 y4 hy hy3
    unfold FReader_read_B137
    rw [bde (h.next q 0)]
    by_cases e : q < n
    · have bq := h.byte q e
      rw [if_pos e, pb_in e, if_neg (show ¬ b q = -1 by omega), zbe (h.expect hqn _), pb_in e, zckb (by omega), i1]
      by_cases e2 : b q = 59
      · rw [if_pos e2, if_pos e2]
        exact ih _ _ _ hy hy3 (by omega)
      · rw [if_neg e2, if_neg e2, h.badText hf]
        exact ⟨y4, rfl, fun e => tf e⟩
    · rw [if_neg e, pb_out (by omega), if_pos rfl]
      exact ⟨y4, rfl, fun _ => by show y4 = ((pAcc (vB, tB, q, false) a) nm).1; rw [hy]⟩
  unfold FReader_read_B122
  by_cases t : tB nm = true
  · rw [if_pos t, if_neg (show ¬ (1 : Int) = 0 by decide)]
    by_cases e3 : x3 = 0
    · rw [if_pos e3]
      exact T 1 (vB nm) (by unfold pAcc; rw [ha]; simp [t, e3]) (Or.inr rfl)
    · rw [if_neg e3]
      exact T x3 x4 (by unfold pAcc; rw [ha]; simp [t, e3]) h3
  · rw [if_neg t, if_pos rfl]
    exact T x3 x4 (by unfold pAcc; rw [ha]; simp [t]) h3
theorem XB.text (h : XB x c V R K b nm n A bk) (hFU : 122 ≤ FU) : ∀ (k : Nat) (a : (Nat → Int) → Int × Int) (p i fu : Nat) (x3 x4 : Int), a nm = (x4, x3) → (x3 = 0 ∨ x3 = 1) → p ≤ n → i ≤ p → n < p + k → k < fu → XT x c N V R K nm (pText b n k a p) (FReader_read_L28 FU fu (x + 121) (n : Int) x3 x4 (i : Int) (zX x c N (rX V p 0) R K)) := by
  have hc := h.cx
  have mx := h.max
  intro k
  induction k with
  | zero =>
    intro a p i fu x3 x4 ha h3 hp hi hn hf
    omega
  | succ k ih =>
    intro a p i fu x3 x4 ha h3 hp hi hn hf
    obtain ⟨fu, rfl⟩ : ∃ fu', fu = fu' + 1 := ⟨fu - 1, by omega⟩
    have S : ∀ p, p ≤ n → XR x c N V R K b nm n (pS b n p) (FReader_readSum_n FU 12 (x + 121) 0 (zX x c N (rX V p 0) R K)) := fun p hp => h.sumN hFU 8 12 p (by omega) (by omega) hp
    have ok := pS_ok (b := b) (n := n) p hp
    obtain ⟨v3, s, e1, e2, e3⟩ := S p hp
    rw [FReader_read_L28, if_pos (by omega), xI121b hc, rX_3, if_pos rfl, zbe e1, bde (h.next _ s), xI121b hc, rX_3]
    have IH : ∀ (q : Nat), p < q → q ≤ n → ∀ (a : (Nat → Int) → Int × Int) (y3 y4 : Int), a nm = (y4, y3) → (y3 = 0 ∨ y3 = 1) → q + 1 ≤ n → XT x c N V R K nm (pText b n k a (q + 1)) (FReader_read_L28 FU fu (x + 121) (n : Int) y3 y4 ((i + 1 : Nat) : Int) (zX x c N (rX V (q + 1) 0) R K)) :=
      fun q hq hqn a y3 y4 hy hy3 hq1 => ih a (q + 1) (i + 1) fu y3 y4 hy hy3 hq1 (by omega) (by omega) (by omega)
    by_cases cf : (pS b n p).2.2 = true
    · have eb : pBand b n p = ((pS b n p).1, fun _ => true, (pS b n p).2.1, true) := by unfold pBand; rw [if_pos cf]
      rw [pText_of eb, if_pos rfl]
      have g3 := e3 cf
      have T : ∀ x7 : Int, XT x c N V R K nm (a, (pS b n p).2.1, true) (FReader_read_B122 FU (FReader_read_L28 FU fu) (x + 121) (n : Int) x3 x4 (i : Int) v3 x7 (zX x c N (rX V (pS b n p).2.1 s) R K)) := fun x7 => h.badTail g3 ok.2.1 (by omega) (by omega)
      rcases g3 with e | ⟨e, dg⟩
      · rw [if_neg (by omega)]
        exact T _
      · rw [if_pos e, if_neg (by omega), if_neg (by omega), if_neg (by omega)]
        exact T _
    · obtain ⟨ev, es⟩ := e2 (by simpa using cf)
      have gt := ok.2.2 (by simpa using cf)
      subst es
      subst ev
      rw [if_pos rfl]
      by_cases cc : pb b n (pS b n p).2.1 = 60 ∨ pb b n (pS b n p).2.1 = 61 ∨ pb b n (pS b n p).2.1 = 62
      · have lt := pb_lt (b := b) (n := n) (p := (pS b n p).2.1) (by omega)
        have ok2 := pS_ok (b := b) (n := n) ((pS b n p).2.1 + 1) (by omega)
        have B : XT x c N V R K nm (pText b n (k + 1) a p) (FReader_read_B85 FU (FReader_read_L28 FU fu) (x + 121) (n : Int) x3 x4 (i : Int) ((pS b n p).1 nm) (pb b n (pS b n p).2.1) (zX x c N (rX V (pS b n p).2.1 0) R K)) := by
          unfold FReader_read_B85
          obtain ⟨w, s2, f1, f2, f3⟩ := S ((pS b n p).2.1 + 1) (by omega)
          rw [xI121b hc, rX_2, zckb (by omega), xP121b hc, rX_p (q := (pS b n p).2.1 + 1) (by omega), zbe f1, bde (cmp_eq _ cc)]
          by_cases cf2 : (pS b n ((pS b n p).2.1 + 1)).2.2 = true
          · have eb : pBand b n p = ((pS b n p).1, fun _ => true, (pS b n ((pS b n p).2.1 + 1)).2.1, true) := by
              unfold pBand
              rw [if_neg cf, if_pos cc, if_pos cf2]
            rw [pText_of eb, if_pos rfl]
            rcases f3 cf2 with e | ⟨e, dg⟩
            · subst e
              rw [zbe (h.expect1 _ _), zbe (h.sum1 (by omega) _ _ _)]
              exact h.badTail (Or.inl rfl) ok2.2.1 (by omega) (by omega)
            · subst e
              rw [zbe (h.expect ok2.2.1 _), if_neg (by omega), zbe (h.sum1 (by omega) _ _ _)]
              exact h.badTail (Or.inl rfl) ok2.2.1 (by omega) (by omega)
          · obtain ⟨ew, et⟩ := f2 (by simpa using cf2)
            have gt2 := ok2.2.2 (by simpa using cf2)
            subst et
            subst ew
            rw [zbe (h.expect ok2.2.1 _)]
            by_cases c44 : pb b n (pS b n ((pS b n p).2.1 + 1)).2.1 = 44
            · have lt2 := pb_lt (b := b) (n := n) (p := (pS b n ((pS b n p).2.1 + 1)).2.1) (by omega)
              have ok3 := pS_ok (b := b) (n := n) ((pS b n ((pS b n p).2.1 + 1)).2.1 + 1) (by omega)
              obtain ⟨u, s3, k1, k2, k3⟩ := S ((pS b n ((pS b n p).2.1 + 1)).2.1 + 1) (by omega)
              rw [if_pos c44, zbe k1]
              have eb : pBand b n p = ((pS b n ((pS b n ((pS b n p).2.1 + 1)).2.1 + 1)).1, fun nm => pCmp (pb b n (pS b n p).2.1) ((pS b n p).1 nm) ((pS b n ((pS b n p).2.1 + 1)).1 nm), (pS b n ((pS b n ((pS b n p).2.1 + 1)).2.1 + 1)).2.1, (pS b n ((pS b n ((pS b n p).2.1 + 1)).2.1 + 1)).2.2) := by
                unfold pBand
                rw [if_neg cf, if_pos cc, if_neg cf2, if_pos c44]
              rw [pText_of eb]
              by_cases cf3 : (pS b n ((pS b n ((pS b n p).2.1 + 1)).2.1 + 1)).2.2 = true
              · rw [if_pos cf3]
                exact h.badTail (k3 cf3) ok3.2.1 (by omega) (by omega)
              · have cf3' : (pS b n ((pS b n ((pS b n p).2.1 + 1)).2.1 + 1)).2.2 = false := by simpa using cf3
                obtain ⟨eu, et⟩ := k2 cf3'
                have gt3 := ok3.2.2 cf3'
                subst et
                subst eu
                rw [if_neg cf3, cf3']
                exact h.goodTail (vB := (pS b n ((pS b n ((pS b n p).2.1 + 1)).2.1 + 1)).1) (tB := fun nm => pCmp (pb b n (pS b n p).2.1) ((pS b n p).1 nm) ((pS b n ((pS b n p).2.1 + 1)).1 nm)) ha h3 ok3.2.1 (by omega) (by omega) (IH _ (by omega) ok3.2.1)
            · have eb : pBand b n p = ((pS b n p).1, fun _ => true, (pS b n ((pS b n p).2.1 + 1)).2.1, true) := by
                unfold pBand
                rw [if_neg cf, if_pos cc, if_neg cf2, if_neg c44]
              rw [pText_of eb, if_pos rfl, if_neg c44, zbe (h.sum1 (by omega) _ _ _)]
              exact h.badTail (Or.inl rfl) ok2.2.1 (by omega) (by omega)
        rcases cc with c1 | c1 | c1
        · rw [if_pos c1]
          exact B
        · rw [if_neg (by omega), if_pos c1]
          exact B
        · rw [if_neg (by omega), if_neg (by omega), if_pos c1]
          exact B
      · have eb : pBand b n p = ((pS b n p).1, fun _ => true, (pS b n p).2.1, false) := by
          unfold pBand
          rw [if_neg cf, if_neg cc]
        rw [pText_of eb, if_neg (show ¬ (false = true) by decide), if_neg (show ¬ pb b n (pS b n p).2.1 = 60 by omega), if_neg (show ¬ pb b n (pS b n p).2.1 = 61 by omega), if_neg (show ¬ pb b n (pS b n p).2.1 = 62 by omega)]
        exact h.goodTail (vB := (pS b n p).1) (tB := fun _ => true) ha h3 ok.2.1 (by omega) (by omega) (IH _ (by omega) ok.2.1)
end RDX
