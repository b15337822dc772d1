/-! ===== spend: the class ===== -/
section SPX
variable {x N FU n : Nat} {c : Nat → Key} {V : Key → Nat → Int} {R : Key → Nat → Option Nat} {K : Key → Option (Nat × Nat)} {p D : Int} {f r : Nat → Int}
def SHX (c : Nat → Key) (R : Key → Nat → Option Nat) (K : Key → Option (Nat × Nat)) (n : Nat) : Prop := n ≤ 40 ∧ ∀ i, i < n → ∃ a, SA c R K i a
def frS (n : Nat) (V V' : Key → Nat → Int) : Prop := ∀ key q, key ≠ (0, 126, 0) → (∀ i, i < n → key = (1, i, 0) → q ≠ 8 ∧ q ≠ 7) → V' key q = V key q
theorem frS.trans {V1 V2 : Key → Nat → Int} (h1 : frS n V V1) (h2 : frS n V1 V2) : frS n V V2 := fun key q z1 z2 => by rw [h2 key q z1 z2, h1 key q z1 z2]
theorem shop_at (hc : CX x c) (hs : SHX c R K n) (hn : V (0, 66, 0) 2 = (n : Int)) {i a : Nat} (hi : i < n) (ha : SA c R K i a) : FChain_shopAt FU (x + 66) (i : Int) (zX x c N V R K) = some (some a) := by
  have n4 := hs.1
  rw [eC_shopAt hc hn (by omega), if_pos (by omega), show (i : Int).toNat = i by omega, ha.ref]
theorem gains_loop (hc : CX x c) (hs : SHX c R K n) (hn : V (0, 66, 0) 2 = (n : Int)) (hf : ∀ i, i < n → V (1, i, 0) 7 = f i ∧ 0 ≤ f i ∧ f i ≤ 999) : ∀ (d i fu : Nat), i + d = n → d < fu → FFund_allGains_L4 FU fu (x + 125) (zsum f i) (i : Int) (zX x c N V R K) = some (zsum f n) := by
  have n4 := hs.1
  intro d
  induction d with
  | zero =>
    intro i fu hi hfu
    obtain ⟨fu, rfl⟩ : ∃ fu', fu = fu' + 1 := ⟨fu - 1, by omega⟩
    have : i = n := by omega
    subst this
    rw [FFund_allGains_L4, xQ125_0b hc, xI66b hc, hn, if_neg (by omega)]
  | succ d ih =>
    intro i fu hi hfu
    obtain ⟨fu, rfl⟩ : ∃ fu', fu = fu' + 1 := ⟨fu - 1, by omega⟩
    obtain ⟨a, ha⟩ := hs.2 i (by omega)
    have b0 := hf i (by omega)
    have b1 := zsum_bd (f := f) (b := 999) (n := i) (fun j hj => (hf j (by omega)).2)
    have i1 : (i : Int) + 1 = ((i + 1 : Nat) : Int) := by omega
    rw [FFund_allGains_L4, xQ125_0b hc, xI66b hc, hn, if_pos (by omega), xQ125_0b hc, bde (shop_at hc hs hn (by omega) ha), zcs, sIb ha, b0.1, zckb (by omega), zckb (by omega), i1]
    exact ih (i + 1) fu (by omega) (by omega)
theorem zdvLb {α : Type} {F : Int → Option α} {a b : Int} (h0 : 0 ≤ a ∧ a ≤ 2000000000) (hb : 0 < b) : (zdvL a b).bind F = F (a / b) := by
  have e1 := Int.ediv_nonneg h0.1 (show 0 ≤ b by omega)
  have e2 := Int.ediv_le_self (a := a) b h0.1
  unfold zdvL
  rw [if_neg (by omega), Int.tdiv_eq_ediv_of_nonneg h0.1, zckL_of (by omega)]
  rfl
theorem zrmb {α : Type} {F : Int → Option α} {a b : Int} (h0 : 0 ≤ a) (hb : 0 < b) : (zrm a b).bind F = F (a % b) := by
  unfold zrm
  rw [if_neg (by omega), Int.tmod_eq_emod_of_nonneg h0]
  rfl
theorem zckLb {α : Type} {F : Int → Option α} {z : Int} (h : -9223372036854775808 ≤ z ∧ z ≤ 9223372036854775807) : (zckL z).bind F = F z := by rw [zckL_of h]; rfl
theorem prod_bd (hp : 1 ≤ p ∧ p ≤ 1000000) {g : Int} (hg : 0 ≤ g ∧ g ≤ 999) : 0 ≤ p * g ∧ p * g ≤ 999000000 := by
  have a := Int.mul_nonneg (show 0 ≤ p by omega) hg.1
  have b := Int.mul_le_mul hp.2 hg.2 hg.1 (show (0 : Int) ≤ 1000000 by decide)
  omega
theorem whole_loop (hc : CX x c) (hs : SHX c R K n) (hp : 1 ≤ p ∧ p ≤ 1000000) (hD : 0 < D ∧ D ≤ 100000) (hfb : ∀ i, i < n → 0 ≤ f i ∧ f i ≤ 999 ∧ f i ≤ D) (hw : zsum (wP p D f) n ≤ p) : ∀ (d i fu : Nat) (V : Key → Nat → Int), i + d = n → d < fu → V (0, 66, 0) 2 = (n : Int) → (∀ j, i ≤ j → j < n → V (1, j, 0) 7 = f j) → (∀ j, i ≤ j → j < n → 0 ≤ V (1, j, 0) 8 ∧ V (1, j, 0) 8 ≤ 600000000) → ∃ V', FFund_giveWholeParts_L11 FU fu (x + 125) p D (zsum (wP p D f) i) (i : Int) (zX x c N V R K) = some (zsum (wP p D f) n, zX x c N V' R K) ∧ frS n V V' ∧ (∀ j, j < n → V' (1, j, 0) 8 = V (1, j, 0) 8 + (if i ≤ j then wP p D f j else 0)) ∧ (∀ j, j < n → V' (1, j, 0) 7 = if i ≤ j then 0 else V (1, j, 0) 7) ∧ (∀ j, j < n → V' (0, 126, 0) j = if i ≤ j then rP p D f j else V (0, 126, 0) j) := by
  have n4 := hs.1
  have hwb : ∀ j, j < n → 0 ≤ wP p D f j ∧ wP p D f j ≤ p := fun j hj => wP_bd hD.1 (by omega) ⟨(hfb j hj).1, (hfb j hj).2.2⟩
  intro d
  induction d with
  | zero =>
    intro i fu V hi hfu hn hf h8
    obtain ⟨fu, rfl⟩ : ∃ fu', fu = fu' + 1 := ⟨fu - 1, by omega⟩
    have : i = n := by omega
    subst this
    refine ⟨V, ?_, fun _ _ _ _ => rfl, fun j hj => by rw [if_neg (by omega), Int.add_zero], fun j hj => by rw [if_neg (by omega)], fun j hj => by rw [if_neg (by omega)]⟩
    rw [FFund_giveWholeParts_L11, xQ125_0b hc, xI66b hc, hn, if_neg (by omega)]
  | succ d ih =>
    intro i fu V hi hfu hn hf h8
    obtain ⟨fu, rfl⟩ : ∃ fu', fu = fu' + 1 := ⟨fu - 1, by omega⟩
    obtain ⟨a, ha⟩ := hs.2 i (by omega)
    have fi := hf i (Nat.le_refl i) (by omega)
    have fb := hfb i (by omega)
    have wb := hwb i (by omega)
    have rb := rP_bd (p := p) (f := f) hD.1 i
    have pb := prod_bd hp ⟨fb.1, fb.2.1⟩
    have hi8 := h8 i (Nat.le_refl i) (by omega)
    have i1 : (i : Int) + 1 = ((i + 1 : Nat) : Int) := by omega
    have ws : zsum (wP p D f) (i + 1) = zsum (wP p D f) i + wP p D f i := rfl
    have wn := zsum_nn (f := wP p D f) (n := i) (fun j hj => (hwb j (by omega)).1)
    have wu := zsum_up (f := wP p D f) (a := i + 1) d (fun j hj => (hwb j (by omega)).1)
    rw [show i + 1 + d = n by omega] at wu
    have a1 := putF (FU := FU) (N := N) (V := V) (R := R) (K := K) hc (o := 126) (by omega) (xK126 hc) (j := i) (by omega) (rP p D f i)
    have k8 : ku V (0, 126, 0) i (rP p D f i) (1, i, 0) 8 = V (1, i, 0) 8 := by rw [ku_row (by simp)]
    obtain ⟨V', e1, e2, e3, e4, e5⟩ := ih (i + 1) fu (ku (ku (ku V (0, 126, 0) i (rP p D f i)) (1, i, 0) 8 (V (1, i, 0) 8 + wP p D f i)) (1, i, 0) 7 0) (by omega) (by omega) (by rw [ku_row (by simp), ku_row (by simp), ku_row (by simp)]; exact hn) (fun j j1 j2 => by
      have ne : ((1, j, 0) : Key) ≠ (1, i, 0) := fun z => by simp at z; omega
      rw [ku_row ne, ku_row ne, ku_row (by simp)]; exact hf j (by omega) j2) (fun j j1 j2 => by
      have ne : ((1, j, 0) : Key) ≠ (1, i, 0) := fun y => by simp at y; omega
      rw [ku_row ne, ku_row ne, ku_row (by simp)]; exact h8 j (by omega) j2)
    refine ⟨V', ?_, fun key q z1 z2 => ?_, fun j hj => ?_, fun j hj => ?_, fun j hj => ?_⟩
    · rw [FFund_giveWholeParts_L11, xQ125_0b hc, xI66b hc, hn, if_pos (by omega), xQ125_0b hc, bde (shop_at hc hs hn (by omega) ha), zcs, sIb ha, fi, zckLb (by omega), zdvLb (by omega) hD.1]
      show (zck (wP p D f i)).bind _ = _
      rw [zckb (by omega), xQ125_1b hc, zrmb (by omega) hD.1]
      show (zck (rP p D f i)).bind _ = _
      rw [zckb (by omega), zbe a1, sIb ha, k8, zckb (by omega), sPb hc ha, sPb hc ha, zckb (by omega), zckb (by omega), i1, ← ws]
      exact e1
    · rw [e2 key q z1 z2]
      by_cases z3 : key = (1, i, 0)
      · have := z2 i (by omega) z3
        subst z3
        rw [ku_at, if_neg this.2, ku_at, if_neg this.1, ku_row (by simp)]
      · rw [ku_row z3, ku_row z3, ku_row z1]
    · rw [e3 j hj]
      by_cases z : j = i
      · subst z
        rw [if_neg (by omega), if_pos (by omega), ku_at, if_neg (by decide), ku_at, if_pos rfl, Int.add_zero]
      · have ne : ((1, j, 0) : Key) ≠ (1, i, 0) := fun y => by simp at y; omega
        rw [ku_row ne, ku_row ne, ku_row (by simp)]
        by_cases z2 : i ≤ j
        · rw [if_pos z2, if_pos (by omega)]
        · rw [if_neg z2, if_neg (by omega)]
    · rw [e4 j hj]
      by_cases z : j = i
      · subst z
        rw [if_neg (by omega), if_pos (by omega), ku_at, if_pos rfl]
      · have ne : ((1, j, 0) : Key) ≠ (1, i, 0) := fun y => by simp at y; omega
        rw [ku_row ne, ku_row ne, ku_row (by simp)]
        by_cases z2 : i ≤ j
        · rw [if_pos z2, if_pos (by omega)]
        · rw [if_neg z2, if_neg (by omega)]
    · rw [e5 j hj, ku_row (by simp), ku_row (by simp), ku_at]
      by_cases z : j = i
      · subst z
        rw [if_neg (by omega), if_pos rfl, if_pos (Nat.le_refl j)]
      · rw [if_neg z]
        by_cases z2 : i ≤ j
        · rw [if_pos z2, if_pos (by omega)]
        · rw [if_neg z2, if_neg (by omega)]
/-- the first of the greatest rests gets a coin -/
theorem great_loop (hc : CX x c) (hs : SHX c R K n) (hn : V (0, 66, 0) 2 = (n : Int)) (h8 : ∀ j, j < n → 0 ≤ V (1, j, 0) 8 ∧ V (1, j, 0) 8 ≤ 700000000) : ∀ (d i b fu : Nat), i + d = n → d < fu → b < i → (∀ j, j < i → V (0, 126, 0) j ≤ V (0, 126, 0) b) → (∀ j, j < b → V (0, 126, 0) j < V (0, 126, 0) b) → ∃ b', b' < n ∧ (∀ j, j < n → V (0, 126, 0) j ≤ V (0, 126, 0) b') ∧ (∀ j, j < b' → V (0, 126, 0) j < V (0, 126, 0) b') ∧ FFund_giveToGreatestRest_L4 FU fu (x + 125) (b : Int) (i : Int) (zX x c N V R K) = some ((), zX x c N (ku (ku V (1, b', 0) 8 (V (1, b', 0) 8 + 1)) (0, 126, 0) b' 0) R K) := by
  have n4 := hs.1
  intro d
  induction d with
  | zero =>
    intro i b fu hi hfu hb h1 h2
    obtain ⟨fu, rfl⟩ : ∃ fu', fu = fu' + 1 := ⟨fu - 1, by omega⟩
    have : i = n := by omega
    subst this
    obtain ⟨a, ha⟩ := hs.2 b hb
    have b8 := h8 b hb
    have a1 := putF (FU := FU) (N := N) (V := ku V (1, b, 0) 8 (V (1, b, 0) 8 + 1)) (R := R) (K := K) hc (o := 126) (by omega) (xK126 hc) (j := b) (by omega) 0
    refine ⟨b, hb, h1, h2, ?_⟩
    rw [FFund_giveToGreatestRest_L4, xQ125_0b hc, xI66b hc, hn, if_neg (by omega), xQ125_0b hc, bde (shop_at hc hs hn hb ha), zcs, sIb ha, zckb (by omega), sPb hc ha, xQ125_1b hc, zbe a1]
  | succ d ih =>
    intro i b fu hi hfu hb h1 h2
    obtain ⟨fu, rfl⟩ : ∃ fu', fu = fu' + 1 := ⟨fu - 1, by omega⟩
    have i1 : (i : Int) + 1 = ((i + 1 : Nat) : Int) := by omega
    have a1 := atF (FU := FU) (N := N) (V := V) (R := R) (K := K) hc (o := 126) (by omega) (xK126 hc) (j := i) (by omega)
    have a2 := atF (FU := FU) (N := N) (V := V) (R := R) (K := K) hc (o := 126) (by omega) (xK126 hc) (j := b) (by omega)
    rw [FFund_giveToGreatestRest_L4, xQ125_0b hc, xI66b hc, hn, if_pos (by omega), xQ125_1b hc, bde a1, xQ125_1b hc, bde a2]
    by_cases c1 : V (0, 126, 0) i ≤ V (0, 126, 0) b
    · rw [if_pos c1, zckb (by omega), i1]
      exact ih (i + 1) b fu (by omega) (by omega) (by omega) (fun j hj => by
        by_cases z : j = i
        · rw [z]; exact c1
        · exact h1 j (by omega)) h2
    · rw [if_neg c1, zckb (by omega), i1]
      exact ih (i + 1) i fu (by omega) (by omega) (by omega) (fun j hj => by
        by_cases z : j = i
        · rw [z]; exact Int.le_refl _
        · have := h1 j (by omega); omega) (fun j hj => by have := h1 j (by omega); omega)
theorem rest_loop (hc : CX x c) (hs : SHX c R K n) (hFU : 60 ≤ FU) (hn1 : 0 < n) {L : Int} (hL : L ≤ 40) (hD : 0 < D) (hr : ∀ j, j < n → 0 ≤ r j ∧ r j < D) (hS : L * D = zsum r n) {coins : Int} (hp : 1 ≤ p ∧ p ≤ coins) (hco : coins ≤ 600000000) : ∀ (d t fu : Nat) (T : Nat → Bool) (V : Key → Nat → Int), (d : Int) = L - (t : Int) → d < fu → TK r n T (t : Int) → V (0, 66, 0) 2 = (n : Int) → V (0, 125, 0) 2 = coins → (∀ j, j < n → V (0, 126, 0) j = if T j = true then 0 else r j) → (∀ j, j < n → 0 ≤ V (1, j, 0) 8 ∧ V (1, j, 0) 8 ≤ 600000000 + (t : Int)) → ∃ V' T', FFund_partOut_L32 FU fu (x + 125) p (L - (t : Int)) (t : Int) (zX x c N V R K) = some (coins - p, zX x c N (ku V' (0, 125, 0) 2 (coins - p)) R K) ∧ TK r n T' L ∧ frS n V V' ∧ (∀ j, j < n → V' (1, j, 0) 7 = V (1, j, 0) 7) ∧ (∀ j, j < n → V' (1, j, 0) 8 = V (1, j, 0) 8 + inT T' j - inT T j) := by
  have n4 := hs.1
  intro d
  induction d with
  | zero =>
    intro t fu T V hd hfu hT hn hco2 h126 h8
    obtain ⟨fu, rfl⟩ : ∃ fu', fu = fu' + 1 := ⟨fu - 1, by omega⟩
    have eL : L = (t : Int) := by omega
    refine ⟨V, T, ?_, by rw [eL]; exact hT, fun _ _ _ _ => rfl, fun _ _ => rfl, fun j hj => by omega⟩
    have B : FFund_partOut_B56 FU (x + 125) p (zX x c N V R K) = some (coins - p, zX x c N (ku V (0, 125, 0) 2 (coins - p)) R K) := by
      unfold FFund_partOut_B56
      rw [xI125b hc, hco2, zckb (by omega), xP125b hc, xI125b hc, ku_at, if_pos rfl]
    rw [FFund_partOut_L32]
    by_cases c1 : (t : Int) < 40
    · rw [if_pos c1, if_pos (by omega), B]
    · rw [if_neg c1, B]
  | succ d ih =>
    intro t fu T V hd hfu hT hn hco2 h126 h8
    obtain ⟨fu, rfl⟩ : ∃ fu', fu = fu' + 1 := ⟨fu - 1, by omega⟩
    have t1 : (t : Int) + 1 = ((t + 1 : Nat) : Int) := by omega
    have l1 : L - (t : Int) + -1 = L - ((t + 1 : Nat) : Int) := by omega
    obtain ⟨b, hb, b1, b2, eg⟩ := great_loop (FU := FU) (N := N) (V := V) hc hs hn (fun j hj => by have := h8 j hj; omega) (n - 1) 1 0 FU (by omega) (by omega) (by omega) (fun j hj => by rw [show j = 0 by omega]; exact Int.le_refl _) (fun j hj => by omega)
    obtain ⟨j0, m1, m2, m3⟩ := hT.more hD hr hS (by omega)
    have pos : 0 < V (0, 126, 0) b := by
      have := b1 j0 m1
      rw [h126 j0 m1, if_neg (by rw [m2]; decide)] at this
      omega
    have nT : T b = false := by
      cases z : T b with
      | false => rfl
      | true =>
        rw [h126 b hb, if_pos z] at pos
        omega
    have vb : V (0, 126, 0) b = r b := by rw [h126 b hb, if_neg (by rw [nT]; decide)]
    have hT2 := hT.step hb nT (fun j hj z => by
      have := b1 j hj
      rw [h126 j hj, if_neg (by rw [z]; decide), vb] at this
      exact this) (fun j hj z => by
      have := b2 j hj
      rw [h126 j (by omega), if_neg (by rw [z]; decide), vb] at this
      exact this)
    rw [t1] at hT2
    have b8 := h8 b hb
    obtain ⟨V', T', k1, k2, k3, k4, k5⟩ := ih (t + 1) fu (fun j => T j || j == b) (ku (ku V (1, b, 0) 8 (V (1, b, 0) 8 + 1)) (0, 126, 0) b 0) (by omega) (by omega) hT2 (by rw [ku_row (by simp), ku_row (by simp)]; exact hn) (by rw [ku_row (by simp), ku_row (by simp)]; exact hco2) (fun j hj => by
      rw [ku_at]
      by_cases z : j = b
      · rw [if_pos z, if_pos (by simp [z])]
      · have zb' : (j == b) = false := by simpa using z
        rw [if_neg z, ku_row (by simp), h126 j hj]
        show (if T j = true then 0 else r j) = if (T j || j == b) = true then 0 else r j
        rw [zb', Bool.or_false]) (fun j hj => by
      rw [ku_row (by simp)]
      by_cases z : j = b
      · subst z
        rw [ku_at, if_pos rfl]
        omega
      · have ne : ((1, j, 0) : Key) ≠ (1, b, 0) := fun y => by simp at y; omega
        rw [ku_row ne]
        have := h8 j hj
        omega)
    refine ⟨V', T', ?_, k2, fun key q z1 z2 => ?_, fun j hj => ?_, fun j hj => ?_⟩
    · rw [FFund_partOut_L32, if_pos (by omega), if_neg (by omega)]
      unfold FFund_giveToGreatestRest FFund_giveToGreatestRest_b
      rw [xD125 hc]
      have eg' : FFund_giveToGreatestRest_L4 FU FU (x + 125) 0 1 (zX x c N V R K) = _ := eg
      rw [zbe eg', zckb (by omega), zckb (by omega), t1, l1]
      exact k1
    · rw [k3 key q z1 z2, ku_row z1]
      by_cases z3 : key = (1, b, 0)
      · have := z2 b hb z3
        subst z3
        rw [ku_at, if_neg this.1]
      · rw [ku_row z3]
    · rw [k4 j hj, ku_row (by simp)]
      by_cases z : j = b
      · subst z; rw [ku_at, if_neg (by decide)]
      · have ne : ((1, j, 0) : Key) ≠ (1, b, 0) := fun y => by simp at y; omega
        rw [ku_row ne]
    · rw [k5 j hj, ku_row (by simp)]
      unfold inT
      by_cases z : j = b
      · subst z
        rw [ku_at, if_pos rfl, nT]
        simp
        omega
      · have ne : ((1, j, 0) : Key) ≠ (1, b, 0) := fun y => by simp at y; omega
        have zb' : (j == b) = false := by simpa using z
        rw [ku_row ne]
        show V (1, j, 0) 8 + (if T' j = true then 1 else 0) - (if (T j || j == b) = true then 1 else 0) = V (1, j, 0) 8 + (if T' j = true then 1 else 0) - (if T j = true then 1 else 0)
        rw [zb', Bool.or_false]
end SPX
