/-! ===== spend: the reference, and both ===== -/
def aF (g : Nat → Nat → Int) (h : Nat → Int) (n i : Nat) : Nat → Nat → Int := fun a s => if a = 10 ∧ i ≤ s ∧ s < n then g 10 s + h s else g a s
theorem aF_end {g : Nat → Nat → Int} {h : Nat → Int} {n : Nat} : aF g h n n = g := by
  funext a s
  unfold aF
  rw [if_neg (by omega)]
theorem aF_step {g : Nat → Nat → Int} {h : Nat → Int} {n i : Nat} (hi : i < n) : aF (gu g 10 i (g 10 i + h i)) h n (i + 1) = aF g h n i := by
  funext a s
  unfold aF
  by_cases e : a = 10 ∧ s = i
  · rw [if_neg (by omega), if_pos (by omega), gu, if_pos e, e.2]
  · by_cases e2 : a = 10 ∧ i + 1 ≤ s ∧ s < n
    · rw [if_pos e2, if_pos (by omega), gu, if_neg (by omega)]
    · rw [if_neg e2, if_neg (by omega), gu, if_neg e]
theorem aF_o {g : Nat → Nat → Int} {h : Nat → Int} {n i a : Nat} (ha : a ≠ 10) : aF g h n i a = g a := by
  funext s
  exact if_neg (fun z => ha z.1)
section SPM
variable {m N FU n : Nat} {g : Nat → Nat → Int} {p D L : Int} {f : Nat → Int}
theorem eM_rest (hp : 1 ≤ p ∧ p ≤ 1000000) (hD : 0 < D) (hf : ∀ j, j < n → g 35 j = f j ∧ 0 ≤ f j ∧ f j ≤ 999) (hn : n ≤ 40) {j : Nat} (hj : j < n) : FM_restOf FU m (j : Int) p D (zG m N g) = some (rP p D f j) := by
  have b := hf j hj
  have pb := prod_bd hp b.2
  unfold FM_restOf FM_restOf_b
  rw [mD, mQ47b, mRo35b (by omega), show (j : Int).toNat = j by omega, b.1, zckLb (by omega), zrmb pb.1 hD]
  rfl
theorem msum_loop (hn : n ≤ 40) (h15 : g 0 15 = (n : Int)) (hf : ∀ j, j < n → g 35 j = f j ∧ 0 ≤ f j ∧ f j ≤ 999) : ∀ (d i fu : Nat), i + d = n → d < fu → FM_spend_L17 FU fu m p (zsum f i) (i : Int) (zG m N g) = if p ≤ g 0 42 then (if zsum f n = 0 then some (-3, zG m N g) else FM_spend_L66 FU FU m p (zsum f n) p 0 (zG m N g)) else some (-3, zG m N g) := by
  intro d
  induction d with
  | zero =>
    intro i fu hi hfu
    obtain ⟨fu, rfl⟩ : ∃ fu', fu = fu' + 1 := ⟨fu - 1, by omega⟩
    have : i = n := by omega
    subst this
    rw [FM_spend_L17, mIb, h15, if_neg (by omega), mIb]
    by_cases c1 : p ≤ g 0 42
    · rw [if_pos c1, if_pos c1, Option.bind_some]
      by_cases c2 : zsum f i = 0
      · have : zcmp (zsum f i) 0 = 0 := by unfold zcmp; rw [c2]; rfl
        rw [if_pos c2, if_pos this]
      · have : ¬ zcmp (zsum f i) 0 = 0 := by
          unfold zcmp
          split
          · decide
          · decide
        rw [if_neg c2, if_neg this]
    · rw [if_neg c1, if_neg c1]
  | succ d ih =>
    intro i fu hi hfu
    obtain ⟨fu, rfl⟩ : ∃ fu', fu = fu' + 1 := ⟨fu - 1, by omega⟩
    have b := hf i (by omega)
    have b1 := zsum_bd (f := f) (b := 999) (n := i) (fun j hj => (hf j (by omega)).2)
    have i1 : (i : Int) + 1 = ((i + 1 : Nat) : Int) := by omega
    rw [FM_spend_L17, mIb, h15, if_pos (by omega), mQ47b, mRo35b (by omega), show (i : Int).toNat = i by omega, b.1, zckLb (by omega), zckb (by omega), i1]
    exact ih (i + 1) fu (by omega) (by omega)
theorem mwhole_loop (hn : n ≤ 40) (hp : 1 ≤ p ∧ p ≤ 1000000) (hD : 0 < D) (hfb : ∀ j, j < n → 0 ≤ f j ∧ f j ≤ 999 ∧ f j ≤ D) (hw : zsum (wP p D f) n ≤ p) : ∀ (d i fu : Nat) (g : Nat → Nat → Int), i + d = n → d < fu → g 0 15 = (n : Int) → (∀ j, j < n → g 35 j = f j) → (∀ j, i ≤ j → j < n → 0 ≤ g 10 j ∧ g 10 j ≤ 600000000) → FM_spend_L66 FU fu m p D (p - zsum (wP p D f) i) (i : Int) (zG m N g) = FM_spend_L119 FU FU m p D (p - zsum (wP p D f) n) 0 (zG m N (aF g (wP p D f) n i)) := by
  have hwb : ∀ j, j < n → 0 ≤ wP p D f j ∧ wP p D f j ≤ p := fun j hj => wP_bd hD (by omega) ⟨(hfb j hj).1, (hfb j hj).2.2⟩
  intro d
  induction d with
  | zero =>
    intro i fu g hi hfu h15 h35 h10
    obtain ⟨fu, rfl⟩ : ∃ fu', fu = fu' + 1 := ⟨fu - 1, by omega⟩
    have : i = n := by omega
    subst this
    rw [FM_spend_L66, mIb, h15, if_neg (by omega), aF_end]
  | succ d ih =>
    intro i fu g hi hfu h15 h35 h10
    obtain ⟨fu, rfl⟩ : ∃ fu', fu = fu' + 1 := ⟨fu - 1, by omega⟩
    have fb := hfb i (by omega)
    have wb := hwb i (by omega)
    have pb := prod_bd hp ⟨fb.1, fb.2.1⟩
    have g10 := h10 i (Nat.le_refl i) (by omega)
    have i1 : (i : Int) + 1 = ((i + 1 : Nat) : Int) := by omega
    have ws : zsum (wP p D f) (i + 1) = zsum (wP p D f) i + wP p D f i := rfl
    have wn := zsum_nn (f := wP p D f) (n := i) (fun j hj => (hwb j (by omega)).1)
    have wu := zsum_up (f := wP p D f) (a := i + 1) d (fun j hj => (hwb j (by omega)).1)
    rw [show i + 1 + d = n by omega] at wu
    have e : p - zsum (wP p D f) i - wP p D f i = p - zsum (wP p D f) (i + 1) := by omega
    rw [FM_spend_L66, mIb, h15, if_pos (by omega), mQ47b, mRo35b (by omega), show (i : Int).toNat = i by omega, h35 i (by omega), zckLb (by omega), zdvLb (by omega) hD]
    show (zck (wP p D f i)).bind _ = _
    rw [zckb (by omega), mQ14b, mRo10b (by omega), show (i : Int).toNat = i by omega, zckb (by omega), mWo10b (by omega), show (i : Int).toNat = i by omega, zckb (by omega), zckb (by omega), i1, e, ih (i + 1) fu _ (by omega) (by omega) (by rw [gu_ne (by omega)]; exact h15) (fun j hj => by rw [gu_ne (by omega)]; exact h35 j hj) (fun j j1 j2 => by rw [gu_ne (by omega)]; exact h10 j (by omega) j2), aF_step (by omega)]
theorem mrank_loop (hn : n ≤ 40) (hp : 1 ≤ p ∧ p ≤ 1000000) (hD : 0 < D) (h15 : g 0 15 = (n : Int)) (hf : ∀ j, j < n → g 35 j = f j ∧ 0 ≤ f j ∧ f j ≤ 999) (h10 : ∀ j, j < n → 0 ≤ g 10 j ∧ g 10 j ≤ 700000000) {i : Nat} (hi : i < n) {kL : Nat → Int → Int → Int → Int → Hp → Option (Int × Hp)} : ∀ (d j fu : Nat), j + d = n → d < fu → FM_spend_L134 FU kL fu m p D L (i : Int) (zsum (ahF (rP p D f) i) j) (j : Int) (zG m N g) = kL m p D L ((i + 1 : Nat) : Int) (zG m N (gu g 10 i (g 10 i + if zsum (ahF (rP p D f) i) n < L then 1 else 0))) := by
  have ab : ∀ j, 0 ≤ ahF (rP p D f) i j ∧ ahF (rP p D f) i j ≤ 1 := fun j => by unfold ahF; split <;> omega
  have ti : (i : Int).toNat = i := by omega
  have i1 : (i : Int) + 1 = ((i + 1 : Nat) : Int) := by omega
  intro d
  induction d with
  | zero =>
    intro j fu hj hfu
    obtain ⟨fu, rfl⟩ : ∃ fu', fu = fu' + 1 := ⟨fu - 1, by omega⟩
    have : j = n := by omega
    subst this
    have b := h10 i hi
    rw [FM_spend_L134, mIb, h15, if_neg (by omega), mQ14b, mRo10b (by omega), ti]
    by_cases c1 : zsum (ahF (rP p D f) i) j < L
    · rw [if_pos c1, if_pos c1, zckb (by omega), mWo10b (by omega), ti, zckb (by omega), i1]
    · rw [if_neg c1, if_neg c1, zckb (by omega), mWo10b (by omega), ti, zckb (by omega), i1]
  | succ d ih =>
    intro j fu hj hfu
    obtain ⟨fu, rfl⟩ : ∃ fu', fu = fu' + 1 := ⟨fu - 1, by omega⟩
    have j1 : (j : Int) + 1 = ((j + 1 : Nat) : Int) := by omega
    have e1 := eM_rest (FU := FU) (m := m) (N := N) hp hD hf hn (j := j) (by omega)
    have e2 := eM_rest (FU := FU) (m := m) (N := N) hp hD hf hn hi
    have s := zsum_bd (f := ahF (rP p D f) i) (b := 1) (n := j) (fun t _ => ab t)
    have ih1 := ih (j + 1) fu (by omega) (by omega)
    have hs : zsum (ahF (rP p D f) i) (j + 1) = zsum (ahF (rP p D f) i) j + ahF (rP p D f) i j := rfl
    rw [hs] at ih1
    unfold ahF at ih1
    rw [FM_spend_L134, mIb, h15, if_pos (by omega), bde e1, bde e2, Option.bind_some]
    unfold ahF
    by_cases c1 : rP p D f j < rP p D f i
    · have z : zcmp (rP p D f j) (rP p D f i) = -1 := if_pos c1
      rw [if_neg (show ¬ (rP p D f i < rP p D f j ∨ (rP p D f j = rP p D f i ∧ j < i)) by omega)] at ih1
      rw [z, if_pos (by decide), Option.bind_some, if_neg (by decide), zckb (by unfold ahF at s; omega), zckb (by omega), j1]
      exact ih1
    · by_cases c2 : rP p D f j = rP p D f i
      · have z : zcmp (rP p D f j) (rP p D f i) = 0 := by unfold zcmp; rw [if_neg c1, if_pos c2]
        rw [z, if_pos (by decide), Option.bind_some, if_pos rfl]
        by_cases c3 : (j : Int) < (i : Int)
        · rw [if_pos (show rP p D f i < rP p D f j ∨ (rP p D f j = rP p D f i ∧ j < i) from Or.inr ⟨c2, by omega⟩)] at ih1
          rw [if_pos c3, zckb (by unfold ahF at s; omega), zckb (by omega), j1]
          exact ih1
        · rw [if_neg (show ¬ (rP p D f i < rP p D f j ∨ (rP p D f j = rP p D f i ∧ j < i)) by omega)] at ih1
          rw [if_neg c3, zckb (by unfold ahF at s; omega), zckb (by omega), j1]
          exact ih1
      · have z : zcmp (rP p D f j) (rP p D f i) = 1 := by unfold zcmp; rw [if_neg c1, if_neg c2]
        rw [if_pos (show rP p D f i < rP p D f j ∨ (rP p D f j = rP p D f i ∧ j < i) by omega)] at ih1
        rw [z, if_neg (by decide), zckb (by unfold ahF at s; omega), zckb (by omega), j1]
        exact ih1
theorem mzero_loop (hn : n ≤ 40) (hp : 1 ≤ p ∧ p ≤ 1000000) : ∀ (d i fu : Nat) (g : Nat → Nat → Int), i + d = n → d < fu → g 0 15 = (n : Int) → 0 ≤ g 0 42 ∧ g 0 42 ≤ 600000000 → FM_spend_L233 FU fu m p (i : Int) (zG m N g) = some (g 0 42 - p, zG m N (fun a s => if a = 0 ∧ s = 42 then g 0 42 - p else if a = 35 ∧ i ≤ s ∧ s < n then 0 else g a s)) := by
  intro d
  induction d with
  | zero =>
    intro i fu g hi hfu h15 h42
    obtain ⟨fu, rfl⟩ : ∃ fu', fu = fu' + 1 := ⟨fu - 1, by omega⟩
    have e : gu g 0 42 (g 0 42 - p) = (fun a s => if a = 0 ∧ s = 42 then g 0 42 - p else if a = 35 ∧ i ≤ s ∧ s < n then 0 else g a s) := by
      funext a s
      unfold gu
      by_cases c1 : a = 0 ∧ s = 42
      · rw [if_pos c1, if_pos c1]
      · rw [if_neg c1, if_neg c1, if_neg (by omega)]
    rw [FM_spend_L233, mIb, h15, if_neg (by omega), mIb, zckb (by omega), mPb, mIb, gu_at, if_pos rfl, e]
  | succ d ih =>
    intro i fu g hi hfu h15 h42
    obtain ⟨fu, rfl⟩ : ∃ fu', fu = fu' + 1 := ⟨fu - 1, by omega⟩
    have i1 : (i : Int) + 1 = ((i + 1 : Nat) : Int) := by omega
    have r42 : gu g 35 i 0 0 42 = g 0 42 := gu_ne (by omega)
    have e : (fun a s => if a = 0 ∧ s = 42 then gu g 35 i 0 0 42 - p else if a = 35 ∧ i + 1 ≤ s ∧ s < n then 0 else gu g 35 i 0 a s) = (fun a s => if a = 0 ∧ s = 42 then g 0 42 - p else if a = 35 ∧ i ≤ s ∧ s < n then 0 else g a s) := by
      funext a s
      rw [r42]
      by_cases c1 : a = 0 ∧ s = 42
      · rw [if_pos c1, if_pos c1]
      · rw [if_neg c1, if_neg c1]
        by_cases c2 : a = 35 ∧ s = i
        · rw [if_neg (by omega), if_pos (by omega), gu, if_pos c2]
        · by_cases c3 : a = 35 ∧ i + 1 ≤ s ∧ s < n
          · rw [if_pos c3, if_pos (by omega)]
          · rw [if_neg c3, if_neg (by omega), gu, if_neg c2]
    rw [FM_spend_L233, mIb, h15, if_pos (by omega), mQ47b, mWo35b (by omega), show (i : Int).toNat = i by omega, zckb (by omega), i1, ih (i + 1) fu _ (by omega) (by omega) (by rw [gu_ne (by omega)]; exact h15) (by rw [r42]; exact h42), e, r42]
theorem mgive_loop (hn : n ≤ 40) (hFU : 60 ≤ FU) (hp : 1 ≤ p ∧ p ≤ 1000000) (hD : 0 < D) (hfb : ∀ j, j < n → 0 ≤ f j ∧ f j ≤ 999) : ∀ (d i fu : Nat) (g : Nat → Nat → Int), i + d = n → d < fu → g 0 15 = (n : Int) → (∀ j, j < n → g 35 j = f j) → (∀ j, j < n → 0 ≤ g 10 j ∧ g 10 j ≤ 600000000 + (i : Int)) → FM_spend_L119 FU fu m p D L (i : Int) (zG m N g) = FM_spend_L233 FU FU m p 0 (zG m N (aF g (fun s => if zsum (ahF (rP p D f) s) n < L then 1 else 0) n i)) := by
  intro d
  induction d with
  | zero =>
    intro i fu g hi hfu h15 h35 h10
    obtain ⟨fu, rfl⟩ : ∃ fu', fu = fu' + 1 := ⟨fu - 1, by omega⟩
    have : i = n := by omega
    subst this
    rw [FM_spend_L119, mIb, h15, if_neg (by omega), aF_end]
  | succ d ih =>
    intro i fu g hi hfu h15 h35 h10
    obtain ⟨fu, rfl⟩ : ∃ fu', fu = fu' + 1 := ⟨fu - 1, by omega⟩
    have e := mrank_loop (FU := FU) (m := m) (N := N) (L := L) hn hp hD h15 (fun j hj => ⟨h35 j hj, hfb j hj⟩) (fun j hj => by have := h10 j hj; omega) (i := i) (by omega) (kL := FM_spend_L119 FU fu) n 0 FU (by omega) (by omega)
    have e' : FM_spend_L134 FU (FM_spend_L119 FU fu) FU m p D L (i : Int) 0 0 (zG m N g) = _ := e
    have st := aF_step (g := g) (h := fun s => if zsum (ahF (rP p D f) s) n < L then 1 else 0) (n := n) (i := i) (by omega)
    rw [FM_spend_L119, mIb, h15, if_pos (by omega), e', ih (i + 1) fu _ (by omega) (by omega) (by rw [gu_ne (by omega)]; exact h15) (fun j hj => by rw [gu_ne (by omega)]; exact h35 j hj) (fun j hj => by
      have := h10 j hj
      rw [gu_at]
      by_cases z : j = i
      · subst z
        rw [if_pos rfl]
        split <;> omega
      · rw [if_neg z]; omega), st]
end SPM
section SPO
variable {k x m : Nat} {X M : Hp}
theorem OP_spend (h : INV k x m X M) (hk : k < 512) (a1 : Int) (h1 : zInI a1) : ∃ (r : Int) (X' M' : Hp), FB_spend zFU x a1 X = some (r, X') ∧ FM_spend zFU m a1 M = some (r, M') ∧ INV (k + 1) x m X' M' := by
  obtain ⟨c, N, V, R, K, N', g, W, rfl, rfl, h⟩ := h
  have hc := h.c.cx
  have h0 := h.h.many0
  have f0 := h.f.coins0
  unfold FB_spend FB_spend_b FM_spend FM_spend_b FFund_partOut FFund_partOut_b
  by_cases q1 : 1 ≤ a1 ∧ a1 ≤ 1000000
  · obtain ⟨n, en⟩ : ∃ n : Nat, g 0 15 = (n : Int) := ⟨(g 0 15).toNat, by omega⟩
    have tn : (g 0 15).toNat = n := by omega
    have hn : n ≤ 40 := by omega
    have hs : SHX c R K n := ⟨hn, fun i hi => h.h.sa (by omega)⟩
    have hv : V (0, 66, 0) 2 = (n : Int) := by rw [h.h.many, en]
    have hg : ∀ i, i < n → V (1, i, 0) 7 = g 35 i ∧ 0 ≤ g 35 i ∧ g 35 i ≤ 999 := fun i hi => ⟨(h.h.num i (by omega)).gain, (h.h.num i (by omega)).gain0⟩
    have hsh : ∀ i, i < n → V (1, i, 0) 8 = g 10 i ∧ 0 ≤ g 10 i ∧ g 10 i ≤ 1000001 * (k : Int) := fun i hi => ⟨(h.h.num i (by omega)).share, (h.h.num i (by omega)).share0⟩
    have eA := gains_loop (FU := zFU) (N := N) hc hs hv hg n 0 zFU (by omega) (by unfold zFU; omega)
    have eA' : FFund_allGains zFU (x + 125) (zX x c N V R K) = some (zsum (g 35) n) := by
      unfold FFund_allGains FFund_allGains_b
      rw [xD125 hc]
      exact eA
    have eM := msum_loop (FU := zFU) (m := m) (N := N') (p := a1) (f := g 35) hn en (fun j hj => ⟨rfl, (hg j hj).2⟩) n 0 zFU (by omega) (by unfold zFU; omega)
    have eM' : FM_spend_L17 zFU zFU m a1 0 0 (zG m N' g) = _ := eM
    have sb := zsum_bd (f := g 35) (b := 999) (n := n) (fun j hj => (hg j hj).2)
    have ew : ∀ G, FB_isWithin zFU a1 1 1000000 G = some 1 := fun G => by rw [eB_isWithin, if_pos q1]
    have ew2 : ∀ G, FM_within zFU a1 1 1000000 G = some 1 := fun G => by rw [eM_within, if_pos q1]
    by_cases q2 : a1 ≤ g 0 42
    · rw [if_pos q2] at eM'
      by_cases q3 : zsum (g 35) n = 0
      · rw [if_pos q3] at eM'
        refine ⟨-3, zX x c N V R K, zG m N' g, ?_, ?_, INV.intro h.skip⟩
        · simp (disch := omega) only [↓zcs, ↓zcn, ↓Option.bind_some, ↓zb_some, ↓zrz0b, ↓zrz1b, ↓zckb, zrz0, zrz1, ↓reduceIte, ↓xI0b hc, ↓xP0b hc, ↓xI1b hc, ↓xP1b hc, ↓xI66b hc, ↓xP66b hc, ↓xI68b hc, ↓xP68b hc, ↓xI115b hc, ↓xP115b hc, ↓xI120b hc, ↓xP120b hc, ↓xI121b hc, ↓xP121b hc, ↓xI125b hc, ↓xP125b hc, ↓xI127b hc, ↓xP127b hc, ↓xN2b hc, ↓xRo2b hc, ↓xWo2b hc, ↓xN65b hc, ↓xRo65b hc, ↓xWo65b hc, ↓xN113b hc, ↓xRo113b hc, ↓xWo113b hc, ↓xN114b hc, ↓xRo114b hc, ↓xWo114b hc, ↓xN116b hc, ↓xRo116b hc, ↓xWo116b hc, ↓xN117b hc, ↓xRo117b hc, ↓xWo117b hc, ↓xN118b hc, ↓xRo118b hc, ↓xWo118b hc, ↓xN119b hc, ↓xRo119b hc, ↓xWo119b hc, ↓xN122b hc, ↓xRo122b hc, ↓xWo122b hc, ↓xN124b hc, ↓xRo124b hc, ↓xWo124b hc, ↓xN126b hc, ↓xRo126b hc, ↓xWo126b hc, ↓xN128b hc, ↓xRo128b hc, ↓xWo128b hc, ↓xN129b hc, ↓xRo129b hc, ↓xWo129b hc, ↓xN130b hc, ↓xRo130b hc, ↓xWo130b hc, ↓xN131b hc, ↓xRo131b hc, ↓xWo131b hc, ↓xN132b hc, ↓xRo132b hc, ↓xWo132b hc, ↓xN133b hc, ↓xRo133b hc, ↓xWo133b hc, ↓xN67b hc, ↓xAo67b hc, ↓xN123b hc, ↓xAo123b hc, ↓xN3b hc, ↓xAo3b hc, ↓xN34b hc, ↓xAo34b hc, ↓xN69b hc, ↓xAo69b hc, ↓xQ0_0b hc, ↓xQ0_1b hc, ↓xQ0_2b hc, ↓xQ0_3b hc, ↓xQ0_4b hc, ↓xQ0_5b hc, ↓xQ0_6b hc, ↓xQ1_0b hc, ↓xQ1_1b hc, ↓xQ1_2b hc, ↓xQ1_3b hc, ↓xQ66_0b hc, ↓xQ66_1b hc, ↓xQ68_0b hc, ↓xQ68_1b hc, ↓xQ68_2b hc, ↓xQ68_3b hc, ↓xQ115_0b hc, ↓xQ115_1b hc, ↓xQ115_2b hc, ↓xQ115_3b hc, ↓xQ115_4b hc, ↓xQ115_5b hc, ↓xQ115_6b hc, ↓xQ120_0b hc, ↓xQ120_1b hc, ↓xQ120_2b hc, ↓xQ120_3b hc, ↓xQ125_0b hc, ↓xQ125_1b hc, ↓xQ127_0b hc, ↓xQ127_1b hc, ↓xQ127_2b hc, ↓xQ127_3b hc, ↓xQ127_4b hc, ↓xQ127_5b hc, ↓xD0 hc, ↓xD1 hc, ↓xD66 hc, ↓xD68 hc, ↓xD115 hc, ↓xD120 hc, ↓xD121 hc, ↓xD125 hc, ↓xD127 hc, ↓if_neg, ↓if_pos, ↓bde (ew _), ↓xD125 hc, ↓bde eA', h.f.coins, q2, q3]
        · simp (disch := omega) only [↓zcs, ↓zcn, ↓mD, ↓Option.bind_some, ↓zb_some, ↓zrz0b, ↓zrz1b, ↓zckb, zrz0, zrz1, ↓reduceIte, ↓mIb, ↓mPb, ↓zck_ofb, ↓mPob, ↓mQ1b, ↓mRo1b, ↓mWo1b, ↓mQ3b, ↓mRo2b, ↓mWo2b, ↓mQ4b, ↓mRo3b, ↓mWo3b, ↓mQ8b, ↓mRo4b, ↓mWo4b, ↓mQ9b, ↓mRo5b, ↓mWo5b, ↓mQ10b, ↓mRo6b, ↓mWo6b, ↓mQ11b, ↓mRo7b, ↓mWo7b, ↓mQ12b, ↓mRo8b, ↓mWo8b, ↓mQ13b, ↓mRo9b, ↓mWo9b, ↓mQ14b, ↓mRo10b, ↓mWo10b, ↓mQ17b, ↓mRo11b, ↓mWo11b, ↓mQ19b, ↓mRo12b, ↓mWo12b, ↓mQ20b, ↓mRo13b, ↓mWo13b, ↓mQ23b, ↓mRo14b, ↓mWo14b, ↓mQ24b, ↓mRo15b, ↓mWo15b, ↓mQ26b, ↓mRo16b, ↓mWo16b, ↓mQ27b, ↓mRo17b, ↓mWo17b, ↓mQ28b, ↓mRo18b, ↓mWo18b, ↓mQ29b, ↓mRo19b, ↓mWo19b, ↓mQ30b, ↓mRo20b, ↓mWo20b, ↓mQ32b, ↓mRo21b, ↓mWo21b, ↓mQ33b, ↓mRo22b, ↓mWo22b, ↓mQ34b, ↓mRo23b, ↓mWo23b, ↓mQ35b, ↓mRo24b, ↓mWo24b, ↓mQ36b, ↓mRo25b, ↓mWo25b, ↓mQ37b, ↓mRo26b, ↓mWo26b, ↓mQ38b, ↓mRo27b, ↓mWo27b, ↓mQ39b, ↓mRo28b, ↓mWo28b, ↓mQ40b, ↓mRo29b, ↓mWo29b, ↓mQ41b, ↓mRo30b, ↓mWo30b, ↓mQ43b, ↓mRo31b, ↓mWo31b, ↓mQ44b, ↓mRo32b, ↓mWo32b, ↓mQ45b, ↓mRo33b, ↓mWo33b, ↓mQ46b, ↓mRo34b, ↓mWo34b, ↓mQ47b, ↓mRo35b, ↓mWo35b, ↓mQ48b, ↓mRo36b, ↓mWo36b, ↓mQ50b, ↓mRo37b, ↓mWo37b, ↓mQ51b, ↓mRo38b, ↓mWo38b, ↓mQ52b, ↓mRo39b, ↓mWo39b, ↓if_neg, ↓if_pos, ↓bde (ew2 _), eM']
      · rw [if_neg q3] at eM'
        have hD : 0 < zsum (g 35) n := by omega
        have hfb : ∀ i, i < n → 0 ≤ g 35 i ∧ g 35 i ≤ 999 ∧ g 35 i ≤ zsum (g 35) n := fun i hi => ⟨(hg i hi).2.1, (hg i hi).2.2, zsum_mem (fun j hj => (hg j hj).2.1) hi⟩
        have lb := left_bd (p := a1) (D := zsum (g 35) n) (f := g 35) (n := n) hD rfl
        have n1 : 0 < n := by
          by_cases z : 0 < n
          · exact z
          · have : n = 0 := by omega
            rw [this] at hD
            have e : zsum (g 35) 0 = 0 := rfl
            omega
        generalize hDD : zsum (g 35) n = D at eA' eM' hD hfb lb sb
        -- the class
        obtain ⟨V1, b1, b2, b3, b4, b5⟩ := whole_loop (FU := zFU) (N := N) (D := D) (f := g 35) hc hs q1 ⟨hD, by omega⟩ hfb (by omega) n 0 zFU V (by omega) (by unfold zFU; omega) hv (fun j _ hj => (hg j hj).1) (fun j _ hj => by have := hsh j hj; omega)
        have b1' : FFund_giveWholeParts zFU (x + 125) a1 D (zX x c N V R K) = some (zsum (wP a1 D (g 35)) n, zX x c N V1 R K) := by
          unfold FFund_giveWholeParts FFund_giveWholeParts_b
          rw [xD125 hc, if_neg (by omega)]
          exact b1
        have wb : ∀ j, j < n → 0 ≤ wP a1 D (g 35) j ∧ wP a1 D (g 35) j ≤ a1 := fun j hj => wP_bd hD (by omega) ⟨(hfb j hj).1, (hfb j hj).2.2⟩
        have v66 : V1 (0, 66, 0) 2 = (n : Int) := by rw [b2 _ _ (by simp) (fun i _ z => by simp at z)]; exact hv
        have v125 : V1 (0, 125, 0) 2 = g 0 42 := by rw [b2 _ _ (by simp) (fun i _ z => by simp at z)]; exact h.f.coins
        obtain ⟨V2, T, c1, c2, c3, c4, c5⟩ := rest_loop (FU := zFU) (N := N) (r := rP a1 D (g 35)) hc hs (by decide) n1 (L := a1 - zsum (wP a1 D (g 35)) n) (by omega) hD (fun j _ => rP_bd hD j) lb.1 ⟨q1.1, q2⟩ (by omega) (a1 - zsum (wP a1 D (g 35)) n).toNat 0 zFU (fun _ => false) V1 (by omega) (by unfold zFU; omega) ⟨fun i j _ _ z => ft z, by
          have : ∀ n, zsum (inT (fun _ => false)) n = 0 := fun n => by
            induction n with
            | zero => rfl
            | succ n ih =>
              show zsum (inT (fun _ => false)) n + inT (fun _ => false) n = 0
              rw [ih]; rfl
          exact this n⟩ v66 v125 (fun j hj => by rw [b5 j hj, if_pos (by omega), if_neg (by decide)]) (fun j hj => by
          have := hsh j hj
          have := wb j hj
          rw [b3 j hj, if_pos (by omega)]
          omega)
        have e0 : a1 - zsum (wP a1 D (g 35)) n - ((0 : Nat) : Int) = a1 - zsum (wP a1 D (g 35)) n := by omega
        rw [e0] at c1
        have c1' : FFund_partOut_L32 zFU zFU (x + 125) a1 (a1 - zsum (wP a1 D (g 35)) n) 0 (zX x c N V1 R K) = _ := c1
        -- the reference
        have d1 := mwhole_loop (FU := zFU) (m := m) (N := N') (D := D) (f := g 35) hn q1 hD hfb (by omega) n 0 zFU g (by omega) (by unfold zFU; omega) en (fun _ _ => rfl) (fun j _ hj => by have := hsh j hj; omega)
        have d1' : FM_spend_L66 zFU zFU m a1 D a1 0 (zG m N' g) = FM_spend_L119 zFU zFU m a1 D (a1 - zsum (wP a1 D (g 35)) n) 0 (zG m N' (aF g (wP a1 D (g 35)) n 0)) := by
          rw [← d1]
          show FM_spend_L66 zFU zFU m a1 D a1 0 (zG m N' g) = FM_spend_L66 zFU zFU m a1 D (a1 - 0) 0 (zG m N' g)
          rw [Int.sub_zero]
        have a10 : ∀ j, j < n → aF g (wP a1 D (g 35)) n 0 10 j = g 10 j + wP a1 D (g 35) j := fun j hj => if_pos ⟨rfl, by omega, hj⟩
        have d2 := mgive_loop (FU := zFU) (m := m) (N := N') (D := D) (f := g 35) (L := a1 - zsum (wP a1 D (g 35)) n) hn (by decide) q1 hD (fun j hj => (hg j hj).2) n 0 zFU (aF g (wP a1 D (g 35)) n 0) (by omega) (by unfold zFU; omega) (by rw [aF_o (by decide)]; exact en) (fun j _ => by rw [aF_o (by decide)]) (fun j hj => by
          have := hsh j hj
          have := wb j hj
          rw [a10 j hj]
          omega)
        have d2' : FM_spend_L119 zFU zFU m a1 D (a1 - zsum (wP a1 D (g 35)) n) 0 (zG m N' (aF g (wP a1 D (g 35)) n 0)) = _ := d2
        generalize hgg : aF (aF g (wP a1 D (g 35)) n 0) (fun s => if zsum (ahF (rP a1 D (g 35)) s) n < a1 - zsum (wP a1 D (g 35)) n then 1 else 0) n 0 = gg at d2'
        have o1 : ∀ a, a ≠ 10 → gg a = g a := fun a z => by rw [← hgg, aF_o z, aF_o z]
        have o10 : ∀ j, j < n → gg 10 j = g 10 j + wP a1 D (g 35) j + inT T j := fun j hj => by
          rw [← hgg]
          show (if 10 = 10 ∧ 0 ≤ j ∧ j < n then aF g (wP a1 D (g 35)) n 0 10 j + (if zsum (ahF (rP a1 D (g 35)) j) n < a1 - zsum (wP a1 D (g 35)) n then 1 else 0) else _) = _
          rw [if_pos ⟨rfl, by omega, hj⟩, a10 j hj]
          unfold inT
          have te := c2.end_ hj
          by_cases z : T j = true
          · rw [if_pos z, if_pos (te.mp z)]
          · rw [if_neg z, if_neg (fun y => z (te.mpr y))]
        have o10b : ∀ j, n ≤ j → gg 10 j = g 10 j := fun j hj => by
          rw [← hgg]
          unfold aF
          rw [if_neg (by omega), if_neg (by omega)]
        have d3 := mzero_loop (FU := zFU) (m := m) (N := N') (p := a1) hn q1 n 0 zFU gg (by omega) (by unfold zFU; omega) (by rw [o1 0 (by decide)]; exact en) (by rw [o1 0 (by decide)]; omega)
        rw [o1 0 (by decide)] at d3
        have d3' : FM_spend_L233 zFU zFU m a1 0 (zG m N' gg) = _ := d3
        generalize hg3 : (fun a s => if a = 0 ∧ s = 42 then g 0 42 - a1 else if a = 35 ∧ 0 ≤ s ∧ s < n then 0 else gg a s) = g3 at d3'
        have p42 : g3 0 42 = g 0 42 - a1 := by rw [← hg3]; simp
        have p35 : ∀ j, j < n → g3 35 j = 0 := fun j hj => by rw [← hg3]; simp [hj]
        have p35b : ∀ j, n ≤ j → g3 35 j = g 35 j := fun j hj => by
          rw [← hg3]
          show (if 35 = 0 ∧ j = 42 then g 0 42 - a1 else if 35 = 35 ∧ 0 ≤ j ∧ j < n then 0 else gg 35 j) = g 35 j
          rw [if_neg (by omega), if_neg (by omega), o1 35 (by decide)]
        have p10 : ∀ j, g3 10 j = gg 10 j := fun j => by rw [← hg3]; simp
        have po : ∀ a s, a ≠ 10 → a ≠ 35 → (a = 0 → s ≠ 42) → g3 a s = g a s := fun a s z1 z2 z3 => by
          rw [← hg3]
          show (if a = 0 ∧ s = 42 then g 0 42 - a1 else if a = 35 ∧ 0 ≤ s ∧ s < n then 0 else gg a s) = g a s
          rw [if_neg (fun z => z3 z.1 z.2), if_neg (fun z => z2 z.1), o1 a z1]
        have vs : frS n V V2 := b2.trans c3
        have w8 : ∀ j, j < n → V2 (1, j, 0) 8 = g 10 j + wP a1 D (g 35) j + inT T j := fun j hj => by
          rw [c5 j hj, b3 j hj, if_pos (by omega), (hsh j hj).1]
          show g 10 j + wP a1 D (g 35) j + inT T j - 0 = _
          omega
        have w7 : ∀ j, j < n → V2 (1, j, 0) 7 = 0 := fun j hj => by rw [c4 j hj, b4 j hj, if_pos (by omega)]
        have tb : ∀ j, 0 ≤ inT T j ∧ inT T j ≤ 1 := fun j => by unfold inT; split <;> omega
        refine ⟨g 0 42 - a1, zX x c N (ku V2 (0, 125, 0) 2 (g 0 42 - a1)) R K, zG m N' g3, ?_, ?_, INV.intro (W := W) ?_⟩
        · have nD : ¬ D ≤ 0 := by omega
          simp (disch := omega) only [↓zcs, ↓zcn, ↓Option.bind_some, ↓zb_some, ↓zrz0b, ↓zrz1b, ↓zckb, zrz0, zrz1, ↓reduceIte, ↓xI0b hc, ↓xP0b hc, ↓xI1b hc, ↓xP1b hc, ↓xI66b hc, ↓xP66b hc, ↓xI68b hc, ↓xP68b hc, ↓xI115b hc, ↓xP115b hc, ↓xI120b hc, ↓xP120b hc, ↓xI121b hc, ↓xP121b hc, ↓xI125b hc, ↓xP125b hc, ↓xI127b hc, ↓xP127b hc, ↓xN2b hc, ↓xRo2b hc, ↓xWo2b hc, ↓xN65b hc, ↓xRo65b hc, ↓xWo65b hc, ↓xN113b hc, ↓xRo113b hc, ↓xWo113b hc, ↓xN114b hc, ↓xRo114b hc, ↓xWo114b hc, ↓xN116b hc, ↓xRo116b hc, ↓xWo116b hc, ↓xN117b hc, ↓xRo117b hc, ↓xWo117b hc, ↓xN118b hc, ↓xRo118b hc, ↓xWo118b hc, ↓xN119b hc, ↓xRo119b hc, ↓xWo119b hc, ↓xN122b hc, ↓xRo122b hc, ↓xWo122b hc, ↓xN124b hc, ↓xRo124b hc, ↓xWo124b hc, ↓xN126b hc, ↓xRo126b hc, ↓xWo126b hc, ↓xN128b hc, ↓xRo128b hc, ↓xWo128b hc, ↓xN129b hc, ↓xRo129b hc, ↓xWo129b hc, ↓xN130b hc, ↓xRo130b hc, ↓xWo130b hc, ↓xN131b hc, ↓xRo131b hc, ↓xWo131b hc, ↓xN132b hc, ↓xRo132b hc, ↓xWo132b hc, ↓xN133b hc, ↓xRo133b hc, ↓xWo133b hc, ↓xN67b hc, ↓xAo67b hc, ↓xN123b hc, ↓xAo123b hc, ↓xN3b hc, ↓xAo3b hc, ↓xN34b hc, ↓xAo34b hc, ↓xN69b hc, ↓xAo69b hc, ↓xQ0_0b hc, ↓xQ0_1b hc, ↓xQ0_2b hc, ↓xQ0_3b hc, ↓xQ0_4b hc, ↓xQ0_5b hc, ↓xQ0_6b hc, ↓xQ1_0b hc, ↓xQ1_1b hc, ↓xQ1_2b hc, ↓xQ1_3b hc, ↓xQ66_0b hc, ↓xQ66_1b hc, ↓xQ68_0b hc, ↓xQ68_1b hc, ↓xQ68_2b hc, ↓xQ68_3b hc, ↓xQ115_0b hc, ↓xQ115_1b hc, ↓xQ115_2b hc, ↓xQ115_3b hc, ↓xQ115_4b hc, ↓xQ115_5b hc, ↓xQ115_6b hc, ↓xQ120_0b hc, ↓xQ120_1b hc, ↓xQ120_2b hc, ↓xQ120_3b hc, ↓xQ125_0b hc, ↓xQ125_1b hc, ↓xQ127_0b hc, ↓xQ127_1b hc, ↓xQ127_2b hc, ↓xQ127_3b hc, ↓xQ127_4b hc, ↓xQ127_5b hc, ↓xD0 hc, ↓xD1 hc, ↓xD66 hc, ↓xD68 hc, ↓xD115 hc, ↓xD120 hc, ↓xD121 hc, ↓xD125 hc, ↓xD127 hc, ↓if_neg, ↓if_pos, ↓bde (ew _), ↓xD125 hc, ↓bde eA', h.f.coins, q2, nD, ↓zbe b1', c1']
        · simp (disch := omega) only [↓zcs, ↓zcn, ↓mD, ↓Option.bind_some, ↓zb_some, ↓zrz0b, ↓zrz1b, ↓zckb, zrz0, zrz1, ↓reduceIte, ↓mIb, ↓mPb, ↓zck_ofb, ↓mPob, ↓mQ1b, ↓mRo1b, ↓mWo1b, ↓mQ3b, ↓mRo2b, ↓mWo2b, ↓mQ4b, ↓mRo3b, ↓mWo3b, ↓mQ8b, ↓mRo4b, ↓mWo4b, ↓mQ9b, ↓mRo5b, ↓mWo5b, ↓mQ10b, ↓mRo6b, ↓mWo6b, ↓mQ11b, ↓mRo7b, ↓mWo7b, ↓mQ12b, ↓mRo8b, ↓mWo8b, ↓mQ13b, ↓mRo9b, ↓mWo9b, ↓mQ14b, ↓mRo10b, ↓mWo10b, ↓mQ17b, ↓mRo11b, ↓mWo11b, ↓mQ19b, ↓mRo12b, ↓mWo12b, ↓mQ20b, ↓mRo13b, ↓mWo13b, ↓mQ23b, ↓mRo14b, ↓mWo14b, ↓mQ24b, ↓mRo15b, ↓mWo15b, ↓mQ26b, ↓mRo16b, ↓mWo16b, ↓mQ27b, ↓mRo17b, ↓mWo17b, ↓mQ28b, ↓mRo18b, ↓mWo18b, ↓mQ29b, ↓mRo19b, ↓mWo19b, ↓mQ30b, ↓mRo20b, ↓mWo20b, ↓mQ32b, ↓mRo21b, ↓mWo21b, ↓mQ33b, ↓mRo22b, ↓mWo22b, ↓mQ34b, ↓mRo23b, ↓mWo23b, ↓mQ35b, ↓mRo24b, ↓mWo24b, ↓mQ36b, ↓mRo25b, ↓mWo25b, ↓mQ37b, ↓mRo26b, ↓mWo26b, ↓mQ38b, ↓mRo27b, ↓mWo27b, ↓mQ39b, ↓mRo28b, ↓mWo28b, ↓mQ40b, ↓mRo29b, ↓mWo29b, ↓mQ41b, ↓mRo30b, ↓mWo30b, ↓mQ43b, ↓mRo31b, ↓mWo31b, ↓mQ44b, ↓mRo32b, ↓mWo32b, ↓mQ45b, ↓mRo33b, ↓mWo33b, ↓mQ46b, ↓mRo34b, ↓mWo34b, ↓mQ47b, ↓mRo35b, ↓mWo35b, ↓mQ48b, ↓mRo36b, ↓mWo36b, ↓mQ50b, ↓mRo37b, ↓mWo37b, ↓mQ51b, ↓mRo38b, ↓mWo38b, ↓mQ52b, ↓mRo39b, ↓mWo39b, ↓if_neg, ↓if_pos, ↓bde (ew2 _), eM', d1', d2', d3']
        · refine h.skip.put (W' := W) (fun a => a == 4 || a == 9) (fun key q q0 qq => ?_) (fun a s q0 qq => ?_) (hh := fun _ => ?_) (f := fun _ => ?_)
          · have z1 : ¬ (key = (0, 125, 0) ∧ q = 2) := fun z => by
              obtain ⟨y1, y2⟩ := z
              subst y1; subst y2
              exact absurd (show true = false from qq) (by decide)
            have z2 : key ≠ (0, 126, 0) := fun z => by subst z; exact q0 rfl
            rw [zku, if_neg z1]
            refine vs key q z2 (fun i _ z => ⟨fun y => ?_, fun y => ?_⟩)
            · subst z; subst y; exact absurd (show true = false from qq) (by decide)
            · subst z; subst y; exact absurd (show true = false from qq) (by decide)
          · by_cases a10' : a = 10
            · subst a10'; exact absurd (show true = false from qq) (by decide)
            · by_cases a35' : a = 35
              · subst a35'; exact absurd (show true = false from qq) (by decide)
              · refine po a s a10' a35' (fun z y => ?_)
                subst z; subst y
                exact absurd (show true = false from qq) (by decide)
          · have vk : ∀ key q, key ≠ (0, 125, 0) → ku V2 (0, 125, 0) 2 (g 0 42 - a1) key q = V2 key q := fun key q z => by rw [ku_row z]
            unfold IH
            rw [po 0 15 (by decide) (by decide) (by simp), vk (0, 66, 0) 2 (by simp), vs (0, 66, 0) 2 (by simp) (fun i _ z => by simp at z)]
            refine ⟨h.h.many, h.h.many0, h.h.at_, h.h.months, fun i hi => ?_, fun i hi hi2 => ?_⟩
            · have hi' : i < n := by omega
              have Q := (h.h.num i hi).skip
              have s8 := w8 i hi'
              have s7 := w7 i hi'
              have g8 := hsh i hi'
              have wbi := wb i hi'
              have tbi := tb i
              have vq : ∀ q, q ≠ 7 → q ≠ 8 → ku V2 (0, 125, 0) 2 (g 0 42 - a1) (1, i, 0) q = V (1, i, 0) q := fun q z1 z2 => by
                rw [vk _ _ (by simp), vs _ _ (by simp) (fun j _ _ => ⟨z2, z1⟩)]
              unfold IHi at Q ⊢
              rw [vq 0 (by decide) (by decide), vq 1 (by decide) (by decide), vq 2 (by decide) (by decide), vq 3 (by decide) (by decide), vq 5 (by decide) (by decide), vq 6 (by decide) (by decide), vq 11 (by decide) (by decide), vq 12 (by decide) (by decide), vq 13 (by decide) (by decide), vq 14 (by decide) (by decide), vk _ 7 (by simp), vk _ 8 (by simp), s8, s7, p35 i hi', p10, o10 i hi', po 4 i (by decide) (by decide) (by simp), po 5 i (by decide) (by decide) (by simp), po 6 i (by decide) (by decide) (by simp), po 7 i (by decide) (by decide) (by simp), po 8 i (by decide) (by decide) (by simp), po 9 i (by decide) (by decide) (by simp), po 31 i (by decide) (by decide) (by simp), po 32 i (by decide) (by decide) (by simp), po 33 i (by decide) (by decide) (by simp), po 34 i (by decide) (by decide) (by simp), po 0 2 (by decide) (by decide) (by simp)]
              obtain ⟨r1, r2, r3, r4, r5, r6, r7, r8, r9, r10, r11, r12, r13, r14, r15, r16, r17, r18, r19, r20, r21, r22⟩ := Q
              exact ⟨r1, r2, r3, r4, r5, r6, r7, r8, r9, r10, r11, r12, rfl, by omega, rfl, by omega, r17, r18, r19, r20, r21, r22⟩
            · have Q := h.h.none_ i hi hi2
              rw [p35b i (by omega), p10, o10b i (by omega), po 8 i (by decide) (by decide) (by simp), po 9 i (by decide) (by decide) (by simp), po 31 i (by decide) (by decide) (by simp), po 32 i (by decide) (by decide) (by simp), po 33 i (by decide) (by decide) (by simp), po 34 i (by decide) (by decide) (by simp)]
              exact Q
          · refine ⟨by rw [ku_at, if_pos rfl, p42], by rw [p42]; omega⟩
    · rw [if_neg q2] at eM'
      refine ⟨-3, zX x c N V R K, zG m N' g, ?_, ?_, INV.intro h.skip⟩
      · simp (disch := omega) only [↓zcs, ↓zcn, ↓Option.bind_some, ↓zb_some, ↓zrz0b, ↓zrz1b, ↓zckb, zrz0, zrz1, ↓reduceIte, ↓xI0b hc, ↓xP0b hc, ↓xI1b hc, ↓xP1b hc, ↓xI66b hc, ↓xP66b hc, ↓xI68b hc, ↓xP68b hc, ↓xI115b hc, ↓xP115b hc, ↓xI120b hc, ↓xP120b hc, ↓xI121b hc, ↓xP121b hc, ↓xI125b hc, ↓xP125b hc, ↓xI127b hc, ↓xP127b hc, ↓xN2b hc, ↓xRo2b hc, ↓xWo2b hc, ↓xN65b hc, ↓xRo65b hc, ↓xWo65b hc, ↓xN113b hc, ↓xRo113b hc, ↓xWo113b hc, ↓xN114b hc, ↓xRo114b hc, ↓xWo114b hc, ↓xN116b hc, ↓xRo116b hc, ↓xWo116b hc, ↓xN117b hc, ↓xRo117b hc, ↓xWo117b hc, ↓xN118b hc, ↓xRo118b hc, ↓xWo118b hc, ↓xN119b hc, ↓xRo119b hc, ↓xWo119b hc, ↓xN122b hc, ↓xRo122b hc, ↓xWo122b hc, ↓xN124b hc, ↓xRo124b hc, ↓xWo124b hc, ↓xN126b hc, ↓xRo126b hc, ↓xWo126b hc, ↓xN128b hc, ↓xRo128b hc, ↓xWo128b hc, ↓xN129b hc, ↓xRo129b hc, ↓xWo129b hc, ↓xN130b hc, ↓xRo130b hc, ↓xWo130b hc, ↓xN131b hc, ↓xRo131b hc, ↓xWo131b hc, ↓xN132b hc, ↓xRo132b hc, ↓xWo132b hc, ↓xN133b hc, ↓xRo133b hc, ↓xWo133b hc, ↓xN67b hc, ↓xAo67b hc, ↓xN123b hc, ↓xAo123b hc, ↓xN3b hc, ↓xAo3b hc, ↓xN34b hc, ↓xAo34b hc, ↓xN69b hc, ↓xAo69b hc, ↓xQ0_0b hc, ↓xQ0_1b hc, ↓xQ0_2b hc, ↓xQ0_3b hc, ↓xQ0_4b hc, ↓xQ0_5b hc, ↓xQ0_6b hc, ↓xQ1_0b hc, ↓xQ1_1b hc, ↓xQ1_2b hc, ↓xQ1_3b hc, ↓xQ66_0b hc, ↓xQ66_1b hc, ↓xQ68_0b hc, ↓xQ68_1b hc, ↓xQ68_2b hc, ↓xQ68_3b hc, ↓xQ115_0b hc, ↓xQ115_1b hc, ↓xQ115_2b hc, ↓xQ115_3b hc, ↓xQ115_4b hc, ↓xQ115_5b hc, ↓xQ115_6b hc, ↓xQ120_0b hc, ↓xQ120_1b hc, ↓xQ120_2b hc, ↓xQ120_3b hc, ↓xQ125_0b hc, ↓xQ125_1b hc, ↓xQ127_0b hc, ↓xQ127_1b hc, ↓xQ127_2b hc, ↓xQ127_3b hc, ↓xQ127_4b hc, ↓xQ127_5b hc, ↓xD0 hc, ↓xD1 hc, ↓xD66 hc, ↓xD68 hc, ↓xD115 hc, ↓xD120 hc, ↓xD121 hc, ↓xD125 hc, ↓xD127 hc, ↓if_neg, ↓if_pos, ↓bde (ew _), ↓xD125 hc, ↓bde eA', h.f.coins, q2]
      · simp (disch := omega) only [↓zcs, ↓zcn, ↓mD, ↓Option.bind_some, ↓zb_some, ↓zrz0b, ↓zrz1b, ↓zckb, zrz0, zrz1, ↓reduceIte, ↓mIb, ↓mPb, ↓zck_ofb, ↓mPob, ↓mQ1b, ↓mRo1b, ↓mWo1b, ↓mQ3b, ↓mRo2b, ↓mWo2b, ↓mQ4b, ↓mRo3b, ↓mWo3b, ↓mQ8b, ↓mRo4b, ↓mWo4b, ↓mQ9b, ↓mRo5b, ↓mWo5b, ↓mQ10b, ↓mRo6b, ↓mWo6b, ↓mQ11b, ↓mRo7b, ↓mWo7b, ↓mQ12b, ↓mRo8b, ↓mWo8b, ↓mQ13b, ↓mRo9b, ↓mWo9b, ↓mQ14b, ↓mRo10b, ↓mWo10b, ↓mQ17b, ↓mRo11b, ↓mWo11b, ↓mQ19b, ↓mRo12b, ↓mWo12b, ↓mQ20b, ↓mRo13b, ↓mWo13b, ↓mQ23b, ↓mRo14b, ↓mWo14b, ↓mQ24b, ↓mRo15b, ↓mWo15b, ↓mQ26b, ↓mRo16b, ↓mWo16b, ↓mQ27b, ↓mRo17b, ↓mWo17b, ↓mQ28b, ↓mRo18b, ↓mWo18b, ↓mQ29b, ↓mRo19b, ↓mWo19b, ↓mQ30b, ↓mRo20b, ↓mWo20b, ↓mQ32b, ↓mRo21b, ↓mWo21b, ↓mQ33b, ↓mRo22b, ↓mWo22b, ↓mQ34b, ↓mRo23b, ↓mWo23b, ↓mQ35b, ↓mRo24b, ↓mWo24b, ↓mQ36b, ↓mRo25b, ↓mWo25b, ↓mQ37b, ↓mRo26b, ↓mWo26b, ↓mQ38b, ↓mRo27b, ↓mWo27b, ↓mQ39b, ↓mRo28b, ↓mWo28b, ↓mQ40b, ↓mRo29b, ↓mWo29b, ↓mQ41b, ↓mRo30b, ↓mWo30b, ↓mQ43b, ↓mRo31b, ↓mWo31b, ↓mQ44b, ↓mRo32b, ↓mWo32b, ↓mQ45b, ↓mRo33b, ↓mWo33b, ↓mQ46b, ↓mRo34b, ↓mWo34b, ↓mQ47b, ↓mRo35b, ↓mWo35b, ↓mQ48b, ↓mRo36b, ↓mWo36b, ↓mQ50b, ↓mRo37b, ↓mWo37b, ↓mQ51b, ↓mRo38b, ↓mWo38b, ↓mQ52b, ↓mRo39b, ↓mWo39b, ↓if_neg, ↓if_pos, ↓bde (ew2 _), eM']
  · refine ⟨-1, zX x c N V R K, zG m N' g, ?_, ?_, INV.intro h.skip⟩
    · simp (disch := omega) only [↓zcs, ↓zcn, ↓Option.bind_some, ↓zb_some, ↓zrz0b, ↓zrz1b, ↓zckb, zrz0, zrz1, ↓reduceIte, ↓xI0b hc, ↓xP0b hc, ↓xI1b hc, ↓xP1b hc, ↓xI66b hc, ↓xP66b hc, ↓xI68b hc, ↓xP68b hc, ↓xI115b hc, ↓xP115b hc, ↓xI120b hc, ↓xP120b hc, ↓xI121b hc, ↓xP121b hc, ↓xI125b hc, ↓xP125b hc, ↓xI127b hc, ↓xP127b hc, ↓xN2b hc, ↓xRo2b hc, ↓xWo2b hc, ↓xN65b hc, ↓xRo65b hc, ↓xWo65b hc, ↓xN113b hc, ↓xRo113b hc, ↓xWo113b hc, ↓xN114b hc, ↓xRo114b hc, ↓xWo114b hc, ↓xN116b hc, ↓xRo116b hc, ↓xWo116b hc, ↓xN117b hc, ↓xRo117b hc, ↓xWo117b hc, ↓xN118b hc, ↓xRo118b hc, ↓xWo118b hc, ↓xN119b hc, ↓xRo119b hc, ↓xWo119b hc, ↓xN122b hc, ↓xRo122b hc, ↓xWo122b hc, ↓xN124b hc, ↓xRo124b hc, ↓xWo124b hc, ↓xN126b hc, ↓xRo126b hc, ↓xWo126b hc, ↓xN128b hc, ↓xRo128b hc, ↓xWo128b hc, ↓xN129b hc, ↓xRo129b hc, ↓xWo129b hc, ↓xN130b hc, ↓xRo130b hc, ↓xWo130b hc, ↓xN131b hc, ↓xRo131b hc, ↓xWo131b hc, ↓xN132b hc, ↓xRo132b hc, ↓xWo132b hc, ↓xN133b hc, ↓xRo133b hc, ↓xWo133b hc, ↓xN67b hc, ↓xAo67b hc, ↓xN123b hc, ↓xAo123b hc, ↓xN3b hc, ↓xAo3b hc, ↓xN34b hc, ↓xAo34b hc, ↓xN69b hc, ↓xAo69b hc, ↓xQ0_0b hc, ↓xQ0_1b hc, ↓xQ0_2b hc, ↓xQ0_3b hc, ↓xQ0_4b hc, ↓xQ0_5b hc, ↓xQ0_6b hc, ↓xQ1_0b hc, ↓xQ1_1b hc, ↓xQ1_2b hc, ↓xQ1_3b hc, ↓xQ66_0b hc, ↓xQ66_1b hc, ↓xQ68_0b hc, ↓xQ68_1b hc, ↓xQ68_2b hc, ↓xQ68_3b hc, ↓xQ115_0b hc, ↓xQ115_1b hc, ↓xQ115_2b hc, ↓xQ115_3b hc, ↓xQ115_4b hc, ↓xQ115_5b hc, ↓xQ115_6b hc, ↓xQ120_0b hc, ↓xQ120_1b hc, ↓xQ120_2b hc, ↓xQ120_3b hc, ↓xQ125_0b hc, ↓xQ125_1b hc, ↓xQ127_0b hc, ↓xQ127_1b hc, ↓xQ127_2b hc, ↓xQ127_3b hc, ↓xQ127_4b hc, ↓xQ127_5b hc, ↓xD0 hc, ↓xD1 hc, ↓xD66 hc, ↓xD68 hc, ↓xD115 hc, ↓xD120 hc, ↓xD121 hc, ↓xD125 hc, ↓xD127 hc, ↓if_neg, ↓if_pos, ↓bde (eB_isWithin _ _ _ _), q1]
    · simp (disch := omega) only [↓zcs, ↓zcn, ↓mD, ↓Option.bind_some, ↓zb_some, ↓zrz0b, ↓zrz1b, ↓zckb, zrz0, zrz1, ↓reduceIte, ↓mIb, ↓mPb, ↓zck_ofb, ↓mPob, ↓mQ1b, ↓mRo1b, ↓mWo1b, ↓mQ3b, ↓mRo2b, ↓mWo2b, ↓mQ4b, ↓mRo3b, ↓mWo3b, ↓mQ8b, ↓mRo4b, ↓mWo4b, ↓mQ9b, ↓mRo5b, ↓mWo5b, ↓mQ10b, ↓mRo6b, ↓mWo6b, ↓mQ11b, ↓mRo7b, ↓mWo7b, ↓mQ12b, ↓mRo8b, ↓mWo8b, ↓mQ13b, ↓mRo9b, ↓mWo9b, ↓mQ14b, ↓mRo10b, ↓mWo10b, ↓mQ17b, ↓mRo11b, ↓mWo11b, ↓mQ19b, ↓mRo12b, ↓mWo12b, ↓mQ20b, ↓mRo13b, ↓mWo13b, ↓mQ23b, ↓mRo14b, ↓mWo14b, ↓mQ24b, ↓mRo15b, ↓mWo15b, ↓mQ26b, ↓mRo16b, ↓mWo16b, ↓mQ27b, ↓mRo17b, ↓mWo17b, ↓mQ28b, ↓mRo18b, ↓mWo18b, ↓mQ29b, ↓mRo19b, ↓mWo19b, ↓mQ30b, ↓mRo20b, ↓mWo20b, ↓mQ32b, ↓mRo21b, ↓mWo21b, ↓mQ33b, ↓mRo22b, ↓mWo22b, ↓mQ34b, ↓mRo23b, ↓mWo23b, ↓mQ35b, ↓mRo24b, ↓mWo24b, ↓mQ36b, ↓mRo25b, ↓mWo25b, ↓mQ37b, ↓mRo26b, ↓mWo26b, ↓mQ38b, ↓mRo27b, ↓mWo27b, ↓mQ39b, ↓mRo28b, ↓mWo28b, ↓mQ40b, ↓mRo29b, ↓mWo29b, ↓mQ41b, ↓mRo30b, ↓mWo30b, ↓mQ43b, ↓mRo31b, ↓mWo31b, ↓mQ44b, ↓mRo32b, ↓mWo32b, ↓mQ45b, ↓mRo33b, ↓mWo33b, ↓mQ46b, ↓mRo34b, ↓mWo34b, ↓mQ47b, ↓mRo35b, ↓mWo35b, ↓mQ48b, ↓mRo36b, ↓mWo36b, ↓mQ50b, ↓mRo37b, ↓mWo37b, ↓mQ51b, ↓mRo38b, ↓mWo38b, ↓mQ52b, ↓mRo39b, ↓mWo39b, ↓if_neg, ↓if_pos, ↓bde (eM_within _ _ _ _), q1]
end SPO
