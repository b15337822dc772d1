/-! ===== the class settles ===== -/
theorem setV_0 {V : Key → Nat → Int} {g : Nat → Nat → Int} {i : Nat} {C : Int} (h : V (1, i, 0) 10 = C) : setV V g i C 0 = V := by
  funext key q
  unfold setV
  rw [if_neg (by omega)]
  by_cases e : key = (1, i, 0)
  · rw [if_pos e]
    subst e
    by_cases e10 : q = 10
    · rw [if_pos e10, e10, h]; rfl
    · rw [if_neg e10]
      by_cases e9 : q = 9
      · rw [if_pos e9, e9]
        show V (1, i, 0) 9 - (C - C) = V (1, i, 0) 9
        omega
      · rw [if_neg e9]
  · rw [if_neg e]
theorem setV_shop {V : Key → Nat → Int} {g : Nat → Nat → Int} {i : Nat} {C : Int} {n : Nat} (q : Nat) : setV V g i C n (1, i, 0) q = if q = 10 then potF g i C n else if q = 9 then V (1, i, 0) 9 - (C - potF g i C n) else V (1, i, 0) q := by
  unfold setV
  rw [if_neg (by simp), if_pos rfl]
theorem setV_month {V : Key → Nat → Int} {g : Nat → Nat → Int} {i : Nat} {C : Int} {n j : Nat} (q : Nat) : setV V g i C n (2, i, j) q = if j < n then (if q = 5 then V (2, i, j) 5 + rF g i C j else if q = 6 then V (2, i, j) 6 + fF g i C j else V (2, i, j) q) else V (2, i, j) q := by
  unfold setV
  by_cases e : j < n
  · rw [if_pos ⟨rfl, rfl, e⟩, if_pos e]
  · rw [if_neg (fun z => e z.2.2), if_neg (by simp), if_neg e]
theorem setV_o {V : Key → Nat → Int} {g : Nat → Nat → Int} {i : Nat} {C : Int} {n : Nat} {key : Key} (h1 : key ≠ (1, i, 0)) (h2 : ¬ (key.1 = 2 ∧ key.2.1 = i)) (q : Nat) : setV V g i C n key q = V key q := by
  unfold setV
  rw [if_neg (fun z => h2 ⟨z.1, z.2.1⟩), if_neg h1]
theorem setV_step (V : Key → Nat → Int) (g : Nat → Nat → Int) (i : Nat) (C : Int) (n : Nat) : ku (ku (ku (ku (setV V g i C n) (2, i, n) 5 (V (2, i, n) 5 + rF g i C n)) (2, i, n) 6 (V (2, i, n) 6 + fF g i C n)) (1, i, 0) 10 (potF g i C n - (rF g i C n + fF g i C n))) (1, i, 0) 9 (V (1, i, 0) 9 - (C - potF g i C n) - (rF g i C n + fF g i C n)) = setV V g i C (n + 1) := by
  funext key q
  simp only [zku]
  by_cases e : key = (1, i, 0)
  · subst e
    rw [setV_shop, setV_shop, potF_succ]
    simp
    by_cases e9 : q = 9
    · simp [e9]; omega
    · by_cases e10 : q = 10
      · simp [e10]; omega
      · simp [e9, e10]
  · by_cases e2 : key.1 = 2 ∧ key.2.1 = i
    · obtain ⟨ka, kb, kd⟩ := key
      simp only at e2
      obtain ⟨rfl, rfl⟩ := e2
      rw [setV_month, setV_month]
      by_cases en : kd = n
      · subst en
        simp
        by_cases e5 : q = 5
        · simp [e5]
        · by_cases e6 : q = 6
          · simp [e6]
          · simp [e5, e6]
      · simp [en]
        have : (kd < n + 1) = (kd < n) := by simp; omega
        simp only [this]
    · have en : key ≠ (2, i, n) := fun z => e2 (by rw [z]; exact ⟨rfl, rfl⟩)
      simp only [e, en, false_and, if_false]
      rw [setV_o e e2, setV_o e e2]
theorem setV_same {V : Key → Nat → Int} {g : Nat → Nat → Int} {i : Nat} {C : Int} {n : Nat} (d : Nat) (hr : ∀ j, n ≤ j → j < n + d → rF g i C j = 0 ∧ fF g i C j = 0) (hp : potF g i C (n + d) = potF g i C n) : setV V g i C (n + d) = setV V g i C n := by
  funext key q
  by_cases e : key = (1, i, 0)
  · subst e
    rw [setV_shop, setV_shop, hp]
  · by_cases e2 : key.1 = 2 ∧ key.2.1 = i
    · obtain ⟨ka, kb, kd⟩ := key
      simp only at e2
      obtain ⟨rfl, rfl⟩ := e2
      rw [setV_month, setV_month]
      by_cases e3 : kd < n
      · rw [if_pos e3, if_pos (by omega)]
      · rw [if_neg e3]
        by_cases e4 : kd < n + d
        · have := hr kd (by omega) e4
          rw [if_pos e4, this.1, this.2]
          split
          · rename_i z; rw [z]; omega
          · split
            · rename_i z; rw [z]; omega
            · rfl
        · rw [if_neg e4]
    · rw [setV_o e e2, setV_o e e2]
theorem setV_end {V : Key → Nat → Int} {g : Nat → Nat → Int} (h : dueOk g) {i : Nat} (hi : i < 40) {C : Int} (hC : 0 ≤ C) {n : Nat} (hn : n ≤ 333) (h0 : potF g i C n ≤ 0) : setV V g i C 333 = setV V g i C n := by
  have := setV_same (V := V) (g := g) (i := i) (C := C) (n := n) (333 - n) (fun j h1 h2 => part_0 h hi hC hn h0 j h1 (by omega)) (potF_end h hi hC hn h0 (333 - n) (by omega))
  rw [show n + (333 - n) = 333 by omega] at this
  exact this
section STL
variable {k x N FU : Nat} {c : Nat → Key} {V : Key → Nat → Int} {R : Key → Nat → Option Nat} {K : Key → Option (Nat × Nat)} {g W : Nat → Nat → Int}
theorem eO_payR {i j b : Nat} (hc : CX x c) (hs : MS c R K i j b) {C : Int} (hC : 0 ≤ C ∧ C ≤ 600000000) (h5 : 0 ≤ V (2, i, j) 5 ∧ V (2, i, j) 5 ≤ V (2, i, j) 3 ∧ V (2, i, j) 3 ≤ 1000000) : FMonth_payRoyalty FU b C (zX x c N V R K) = some (min C (V (2, i, j) 3 - V (2, i, j) 5), zX x c N (ku V (2, i, j) 5 (V (2, i, j) 5 + min C (V (2, i, j) 3 - V (2, i, j) 5))) R K) := by
  have e : zmin C (V (2, i, j) 3 - V (2, i, j) 5) = min C (V (2, i, j) 3 - V (2, i, j) 5) := by unfold zmin; split <;> omega
  unfold FMonth_payRoyalty FMonth_payRoyalty_b
  rw [oD hs, oI hs, oI hs, zckb (by omega), Option.bind_some, oI hs, e, zckb (by omega), oP hc hs]
theorem eO_payF {i j b : Nat} (hc : CX x c) (hs : MS c R K i j b) {C : Int} (hC : 0 ≤ C ∧ C ≤ 600000000) (h5 : 0 ≤ V (2, i, j) 6 ∧ V (2, i, j) 6 ≤ V (2, i, j) 4 ∧ V (2, i, j) 4 ≤ 1000000) : FMonth_payFund FU b C (zX x c N V R K) = some (min C (V (2, i, j) 4 - V (2, i, j) 6), zX x c N (ku V (2, i, j) 6 (V (2, i, j) 6 + min C (V (2, i, j) 4 - V (2, i, j) 6))) R K) := by
  have e : zmin C (V (2, i, j) 4 - V (2, i, j) 6) = min C (V (2, i, j) 4 - V (2, i, j) 6) := by unfold zmin; split <;> omega
  unfold FMonth_payFund FMonth_payFund_b
  rw [oD hs, oI hs, oI hs, zckb (by omega), Option.bind_some, oI hs, e, zckb (by omega), oP hc hs]
theorem settle_loop (hc : CX x c) (h : IM c V R K g) (n0 : 0 ≤ g 0 15 ∧ g 0 15 ≤ 40) {i a b : Nat} (hi : i < (g 0 15).toNat) (ha : SA c R K i a) (hb : MA c R K i b) {C day : Int} (hC : 0 ≤ C ∧ C ≤ 600000000) (hu : 0 ≤ V (1, i, 0) 9 ∧ V (1, i, 0) 9 ≤ 1200000000) : ∀ (d j n : Nat), j + d = 333 → d < n → FShop_settle_L15 FU n a day (zsum (fF g i C) j) (j : Int) (zX x c N (setV V g i C j) R K) = FShop_settle_B113 FU a day (zsum (fF g i C) 333) (zX x c N (setV V g i C 333) R K) := by
  have hd : dueOk g := h.due0
  intro d
  induction d with
  | zero =>
    intro j n hj hn
    obtain ⟨n, rfl⟩ : ∃ n', n = n' + 1 := ⟨n - 1, by omega⟩
    have : j = 333 := by omega
    subst this
    rw [FShop_settle_L15, sQ4 ha hb, sN4 hb, if_neg (by omega)]
  | succ d ih =>
    intro j n hj hn
    obtain ⟨n, rfl⟩ : ∃ n', n = n' + 1 := ⟨n - 1, by omega⟩
    have p := potF_nn hd (by omega : i < 40) hC.1 j (by omega)
    have tj : (j : Int).toNat = j := by omega
    have j1 : ((j : Int) + 1) = ((j + 1 : Nat) : Int) := by omega
    have bb := part_bd hd (by omega : i < 40) hC.1 (j := j) (by omega)
    have dd := hd (333 * i + j) (by omega)
    have ih1 := ih (j + 1) n (by omega) (by omega)
    have fs := zsum_bd (f := fF g i C) (b := 1000000) (n := j) (fun t ht => by
      have := part_bd hd (by omega : i < 40) hC.1 (j := t) (by omega)
      have := hd (333 * i + t) (by omega)
      omega)
    rw [FShop_settle_L15, sQ4 ha hb, sN4 hb, if_pos (by omega), sIb ha, setV_shop, if_pos rfl]
    by_cases c1 : potF g i C j ≤ 0
    · rw [if_pos c1, setV_end hd (by omega) hC.1 (by omega) c1]
      have e := zsum_0 (f := fF g i C) (n := j) (d + 1) (fun t h1 h2 => (part_0 hd (by omega) hC.1 (by omega) c1 t h1 (by omega)).2)
      rw [hj] at e
      rw [e]
    · rw [if_neg c1, sQ4 ha hb, sR4 hb (by omega), tj]
      rcases h.ask n0 hi (j := j) (by omega) with ⟨q3, q4⟩ | ⟨q3, e, q4, hs, q⟩
      · have z := h.zero (333 * i + j) (by omega) q3
        rw [q4, zcn, zckb (by omega), j1, ← ih1]
        have z1 : rF g i C j = 0 ∧ fF g i C j = 0 := by omega
        have z2 : setV V g i C (j + 1) = setV V g i C j := setV_same 1 (fun t h1 h2 => by
          have : t = j := by omega
          rw [this]; exact z1) (by rw [potF_succ, z1.1, z1.2]; omega)
        have z3 : zsum (fF g i C) (j + 1) = zsum (fF g i C) j := by
          show zsum (fF g i C) j + fF g i C j = zsum (fF g i C) j
          omega
        rw [z2, z3]
      · have m5 : setV V g i C j (2, i, j) 5 = g 28 (333 * i + j) := by rw [setV_month, if_neg (by omega)]; exact q.royaltyPaid
        have m3 : setV V g i C j (2, i, j) 3 = g 26 (333 * i + j) := by rw [setV_month, if_neg (by omega)]; exact q.royalty
        have m6 : setV V g i C j (2, i, j) 6 = g 29 (333 * i + j) := by rw [setV_month, if_neg (by omega)]; exact q.fundPaid
        have m4 : setV V g i C j (2, i, j) 4 = g 27 (333 * i + j) := by rw [setV_month, if_neg (by omega)]; exact q.fund
        have eR := eO_payR (FU := FU) (N := N) (V := setV V g i C j) hc hs (C := potF g i C j) (by omega) (by rw [m5, m3]; omega)
        rw [m5, m3] at eR
        have eF := eO_payF (FU := FU) (N := N) (V := ku (setV V g i C j) (2, i, j) 5 (g 28 (333 * i + j) + rF g i C j)) hc hs (C := potF g i C j - rF g i C j) (by omega) (by
          rw [ku_at, if_neg (by decide), ku_at, if_neg (by decide), m6, m4]; omega)
        rw [ku_at, if_neg (by decide), ku_at, if_neg (by decide), m6, m4] at eF
        have eR' : FMonth_payRoyalty FU e (potF g i C j) (zX x c N (setV V g i C j) R K) = some (rF g i C j, zX x c N (ku (setV V g i C j) (2, i, j) 5 (g 28 (333 * i + j) + rF g i C j)) R K) := eR
        have eF' : FMonth_payFund FU e (potF g i C j - rF g i C j) (zX x c N (ku (setV V g i C j) (2, i, j) 5 (g 28 (333 * i + j) + rF g i C j)) R K) = some (fF g i C j, zX x c N (ku (ku (setV V g i C j) (2, i, j) 5 (g 28 (333 * i + j) + rF g i C j)) (2, i, j) 6 (g 29 (333 * i + j) + fF g i C j)) R K) := eF
        have s10 : setV V g i C j (1, i, 0) 10 = potF g i C j := by rw [setV_shop, if_pos rfl]
        have s9 : setV V g i C j (1, i, 0) 9 = V (1, i, 0) 9 - (C - potF g i C j) := by rw [setV_shop, if_neg (by decide), if_pos rfl]
        have st := setV_step V g i C j
        rw [q.royaltyPaid, q.fundPaid] at st
        rw [q4, zcs, sIb ha, s10, zbe eR', sIb ha, ku_row (by simp), s10, zckb (by omega), zbe eF', sIb ha, ku_row (by simp), ku_row (by simp), s10, zckb (by omega), zckb (by omega), sPb hc ha, sIb ha, ku_at, if_neg (by decide), ku_row (by simp), ku_row (by simp), s9, zckb (by omega), zckb (by omega), sPb hc ha, zckb (by omega), zckb (by omega), st, j1]
        exact ih1
theorem eS_settle (hc : CX x c) (h : IM c V R K g) (n0 : 0 ≤ g 0 15 ∧ g 0 15 ≤ 40) (hFU : 400 ≤ FU) {i a b : Nat} (hi : i < (g 0 15).toNat) (ha : SA c R K i a) (hb : MA c R K i b) {coins day : Int} (hC : 0 ≤ V (1, i, 0) 10 + coins ∧ V (1, i, 0) 10 + coins ≤ 600000000) (hu : 0 ≤ V (1, i, 0) 9 ∧ V (1, i, 0) 9 ≤ 1200000000) : FShop_settle FU a coins day (zX x c N V R K) = FShop_settle_B113 FU a day (zsum (fF g i (V (1, i, 0) 10 + coins)) 333) (zX x c N (setV (ku V (1, i, 0) 10 (V (1, i, 0) 10 + coins)) g i (V (1, i, 0) 10 + coins) 333) R K) := by
  have hm : IM c (ku V (1, i, 0) 10 (V (1, i, 0) 10 + coins)) R K g := h.fr (fun key q hq => by
    rw [zku, if_neg (fun z => by rw [z.1, z.2] at hq; rcases hq with hq | hq <;> exact absurd hq (by simp [cV]))]) (fun _ _ _ => rfl)
  have l := settle_loop (FU := FU) (N := N) hc hm n0 hi ha hb (day := day) hC (by rw [ku_at, if_neg (by decide)]; exact hu) 333 0 FU (by omega) (by omega)
  rw [setV_0 (by rw [ku_at, if_pos rfl])] at l
  unfold FShop_settle FShop_settle_b
  rw [sD ha, sIb ha, zckb (by omega), sPb hc ha]
  exact l
end STL
