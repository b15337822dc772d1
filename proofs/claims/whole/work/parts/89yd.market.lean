/-! ===== the market: pulls and takings ===== -/
def pulF (W : Nat → Nat → Int) (l : Int) (a p : Nat) : Int := if W a p < 1000000 then l * 1000 / (1 + W a p) else 0
def allF (W : Nat → Nat → Int) (pl : Nat → Nat) (lk : Nat → Int) (n p : Nat) : Int := zsum (fun t => pulF W (lk t) (pl t) p) n
def takT (W : Nat → Nat → Int) (d : Nat → Int) (e : Int) (pl : Nat → Nat) (lk : Nat → Int) (n s p : Nat) : Int := if pulF W (lk s) (pl s) p ≤ 0 then 0 else d p * e * pulF W (lk s) (pl s) p / allF W pl lk n p
def takF (W : Nat → Nat → Int) (d : Nat → Int) (e : Int) (pl : Nat → Nat) (lk : Nat → Int) (n s P : Nat) : Int := zsum (takT W d e pl lk n s) P
def WK (W : Nat → Nat → Int) : Prop := (∀ a b, 0 ≤ W a b) ∧ (∀ a b, W a b < 1000000 → W a b ≤ 2970) ∧ (∀ a b, W a b = W b a)
theorem WK.nn {W : Nat → Nat → Int} (h : WK W) : ∀ a b, 0 ≤ W a b := h.1
theorem WK.sh {W : Nat → Nat → Int} (h : WK W) : ∀ a b, W a b < 1000000 → W a b ≤ 2970 := h.2.1
theorem WK.sy {W : Nat → Nat → Int} (h : WK W) : ∀ a b, W a b = W b a := h.2.2
def SK (pl : Nat → Nat) (lk : Nat → Int) (n : Nat) : Prop := (∀ t, t < n → pl t < 30) ∧ (∀ t, t < n → 0 ≤ lk t ∧ lk t ≤ 99)
theorem SK.place {pl : Nat → Nat} {lk : Nat → Int} {n : Nat} (h : SK pl lk n) : ∀ t, t < n → pl t < 30 := h.1
theorem SK.like {pl : Nat → Nat} {lk : Nat → Int} {n : Nat} (h : SK pl lk n) : ∀ t, t < n → 0 ≤ lk t ∧ lk t ≤ 99 := h.2
section MKP
variable {W : Nat → Nat → Int} {pl pl' : Nat → Nat} {lk lk' : Nat → Int} {n s : Nat} {d : Nat → Int} {e : Int}
theorem pulF_bd (hW : WK W) {l : Int} (hl : 0 ≤ l ∧ l ≤ 99) (a p : Nat) : 0 ≤ pulF W l a p ∧ pulF W l a p ≤ 99000 := by
  unfold pulF
  have w := hW.nn a p
  by_cases c : W a p < 1000000
  · rw [if_pos c]
    have h1 := Int.ediv_nonneg (show 0 ≤ l * 1000 by omega) (show 0 ≤ 1 + W a p by omega)
    have h2 := Int.ediv_le_self (a := l * 1000) (1 + W a p) (by omega)
    omega
  · rw [if_neg c]; omega
theorem allF_bd (hW : WK W) (h : SK pl lk n) (p : Nat) : 0 ≤ allF W pl lk n p ∧ allF W pl lk n p ≤ 99000 * (n : Int) := zsum_bd (fun t ht => pulF_bd hW (h.like t ht) _ _)
theorem allF_mem (hW : WK W) (h : SK pl lk n) {s : Nat} (hs : s < n) (p : Nat) : pulF W (lk s) (pl s) p ≤ allF W pl lk n p := zsum_mem (f := fun t => pulF W (lk t) (pl t) p) (fun t ht => (pulF_bd hW (h.like t ht) _ _).1) hs
theorem mul3_bd {D E P : Int} (hD : 0 ≤ D ∧ D ≤ 999) (hE : 1 ≤ E ∧ E ≤ 99) (hP : 0 ≤ P ∧ P ≤ 99000) : 0 ≤ D * E ∧ D * E ≤ 98901 ∧ 0 ≤ D * E * P ∧ D * E * P ≤ 9791199000 := by
  have a := Int.mul_nonneg hD.1 (show 0 ≤ E by omega)
  have b := Int.mul_le_mul hD.2 hE.2 (show 0 ≤ E by omega) (show (0 : Int) ≤ 999 by decide)
  have c := Int.mul_nonneg a hP.1
  have q := Int.mul_le_mul (show D * E ≤ 98901 by omega) hP.2 hP.1 (show (0 : Int) ≤ 98901 by decide)
  omega
theorem takT_bd (hW : WK W) (h : SK pl lk n) (hs : s < n) (hd : ∀ p, p < 30 → 0 ≤ d p ∧ d p ≤ 999) (he : 1 ≤ e ∧ e ≤ 99) {p : Nat} (hp : p < 30) : 0 ≤ takT W d e pl lk n s p ∧ takT W d e pl lk n s p ≤ 98901 := by
  unfold takT
  have b := pulF_bd hW (h.like s hs) (pl s) p
  have m := allF_mem hW h hs p
  have m3 := mul3_bd (hd p hp) he b
  by_cases c : pulF W (lk s) (pl s) p ≤ 0
  · rw [if_pos c]; omega
  · rw [if_neg c]
    refine ⟨Int.ediv_nonneg m3.2.2.1 (by omega), ?_⟩
    have := Int.ediv_le_of_le_mul (show 0 < allF W pl lk n p by omega) (Int.mul_le_mul_of_nonneg_left m m3.1)
    omega
theorem takF_bd (hW : WK W) (h : SK pl lk n) (hs : s < n) (hd : ∀ p, p < 30 → 0 ≤ d p ∧ d p ≤ 999) (he : 1 ≤ e ∧ e ≤ 99) {P : Nat} (hP : P ≤ 30) : 0 ≤ takF W d e pl lk n s P ∧ takF W d e pl lk n s P ≤ 98901 * (P : Int) := zsum_bd (fun p hp => takT_bd hW h hs hd he (by omega))
theorem ediv_anti {a b c : Int} (ha : 0 ≤ a) (hb : 0 < b) (hc : b ≤ c) : a / c ≤ a / b := by
  have h1 := Int.ediv_mul_le a (show c ≠ 0 by omega)
  have h0 := Int.ediv_nonneg ha (show 0 ≤ c by omega)
  have h2 := Int.mul_le_mul_of_nonneg_left hc h0
  exact (Int.le_ediv_iff_mul_le hb).mpr (by omega)
/-- one stall more: nobody takes more -/
theorem takF_less (hW : WK W) {n2 : Nat} (h : SK pl lk n) (h2 : SK pl' lk' n2) (hs : s < n) (hn : n ≤ n2) (hpl : ∀ t, t < n → pl' t = pl t ∧ lk' t = lk t) (hd : ∀ p, p < 30 → 0 ≤ d p ∧ d p ≤ 999) (he : 1 ≤ e ∧ e ≤ 99) {P : Nat} (hP : P ≤ 30) : takF W d e pl' lk' n2 s P ≤ takF W d e pl lk n s P := by
  refine zsum_le (fun p hp => ?_)
  have b := pulF_bd hW (h.like s hs) (pl s) p
  have m := allF_mem hW h hs p
  have m3 := mul3_bd (hd p (by omega)) he b
  unfold takT
  rw [(hpl s hs).1, (hpl s hs).2]
  by_cases c : pulF W (lk s) (pl s) p ≤ 0
  · rw [if_pos c, if_pos c]; exact Int.le_refl _
  · rw [if_neg c, if_neg c]
    refine ediv_anti m3.2.2.1 (by omega) ?_
    have e1 : allF W pl lk n p = allF W pl' lk' n p := zsum_eq (fun t ht => by rw [(hpl t ht).1, (hpl t ht).2])
    rw [e1]
    have u := zsum_up (f := fun t => pulF W (lk' t) (pl' t) p) (a := n) (n2 - n) (fun t ht => (pulF_bd hW (h2.like t (by omega)) _ _).1)
    rw [show n + (n2 - n) = n2 by omega] at u
    exact u
theorem takF_eq {n : Nat} (hs : s < n) (hpl : ∀ t, t < n → pl' t = pl t ∧ lk' t = lk t) {P : Nat} : takF W d e pl' lk' n s P = takF W d e pl lk n s P := by
  refine zsum_eq (fun p _ => ?_)
  unfold takT
  have e1 : allF W pl' lk' n p = allF W pl lk n p := zsum_eq (fun t ht => by rw [(hpl t ht).1, (hpl t ht).2])
  rw [(hpl s hs).1, (hpl s hs).2, e1]
/-- beyond the last place nobody pulls -/
theorem takF_far {P : Nat} (hP : P ≤ 30) (hf : ∀ a p, P ≤ p → a < P → W a p = 1000000) (hs : pl s < P) : takF W d e pl lk n s 30 = takF W d e pl lk n s P := by
  have := zsum_0 (f := takT W d e pl lk n s) (n := P) (30 - P) (fun p h1 _ => by
    unfold takT
    have : pulF W (lk s) (pl s) p = 0 := by
      unfold pulF
      rw [hf _ p h1 hs, if_neg (by omega)]
    rw [if_pos (by omega)])
  rw [show P + (30 - P) = 30 by omega] at this
  exact this
end MKP
/-! ===== the class's market ===== -/
def mkey (key : Key) (q : Nat) : Prop := (∃ o, 70 ≤ o ∧ o ≤ 114 ∧ key = (0, o, 0)) ∨ (key = (0, 68, 0) ∧ q = 4)
def mfr (V V' : Key → Nat → Int) : Prop := ∀ key q, ¬ mkey key q → V' key q = V key q
theorem mfr.rfl' {V : Key → Nat → Int} : mfr V V := fun _ _ _ => rfl
theorem mfr.trans {V V1 V2 : Key → Nat → Int} (h1 : mfr V V1) (h2 : mfr V1 V2) : mfr V V2 := fun key q z => by rw [h2 key q z, h1 key q z]
theorem mkey_o {o q : Nat} (h : o < 68 ∨ 114 < o ∨ (o = 68 ∧ q ≠ 4) ∨ o = 69) : ¬ mkey (0, o, 0) q := by
  rintro (⟨o', h1, h2, h3⟩ | ⟨h1, h2⟩)
  · have : o = o' := by simpa using h3
    omega
  · have : o = 68 := by simpa using h1
    omega
theorem mkey_t {key : Key} {q : Nat} (h : key.1 ≠ 0) : ¬ mkey key q := by
  rintro (⟨o', h1, h2, h3⟩ | ⟨h1, h2⟩)
  · rw [h3] at h; exact h rfl
  · rw [h1] at h; exact h rfl
def MK (V : Key → Nat → Int) (W : Nat → Nat → Int) (pl : Nat → Nat) (lk ow : Nat → Int) (n : Nat) : Prop := (V (0, 68, 0) 4 = (n : Int)) ∧ (∀ s p, s < n → p < 30 → V (0, 70 + s, 0) p = pulF W (lk s) (pl s) p) ∧ (∀ p, p < 30 → V (0, 114, 0) p = allF W pl lk n p) ∧ (∀ s, s < n → V (0, 113, 0) s = ow s)
theorem MK.many {V : Key → Nat → Int} {W : Nat → Nat → Int} {pl : Nat → Nat} {lk ow : Nat → Int} {n : Nat} (h : MK V W pl lk ow n) : V (0, 68, 0) 4 = (n : Int) := h.1
theorem MK.pull {V : Key → Nat → Int} {W : Nat → Nat → Int} {pl : Nat → Nat} {lk ow : Nat → Int} {n : Nat} (h : MK V W pl lk ow n) : ∀ s p, s < n → p < 30 → V (0, 70 + s, 0) p = pulF W (lk s) (pl s) p := h.2.1
theorem MK.all {V : Key → Nat → Int} {W : Nat → Nat → Int} {pl : Nat → Nat} {lk ow : Nat → Int} {n : Nat} (h : MK V W pl lk ow n) : ∀ p, p < 30 → V (0, 114, 0) p = allF W pl lk n p := h.2.2.1
theorem MK.own {V : Key → Nat → Int} {W : Nat → Nat → Int} {pl : Nat → Nat} {lk ow : Nat → Int} {n : Nat} (h : MK V W pl lk ow n) : ∀ s, s < n → V (0, 113, 0) s = ow s := h.2.2.2
def MW (V : Key → Nat → Int) (W : Nat → Nat → Int) (d : Nat → Int) (e : Int) : Prop := (∀ a b, a < 30 → b < 30 → V (0, 35 + a, 0) b = wEnc (W a b)) ∧ (∀ p, p < 30 → V (0, 2, 0) p = d p ∧ 0 ≤ d p ∧ d p ≤ 999) ∧ (V (0, 68, 0) 5 = e ∧ 1 ≤ e ∧ e ≤ 99)
theorem MW.way {V : Key → Nat → Int} {W : Nat → Nat → Int} {d : Nat → Int} {e : Int} (h : MW V W d e) : ∀ a b, a < 30 → b < 30 → V (0, 35 + a, 0) b = wEnc (W a b) := h.1
theorem MW.door {V : Key → Nat → Int} {W : Nat → Nat → Int} {d : Nat → Int} {e : Int} (h : MW V W d e) : ∀ p, p < 30 → V (0, 2, 0) p = d p ∧ 0 ≤ d p ∧ d p ≤ 999 := h.2.1
theorem MW.spend {V : Key → Nat → Int} {W : Nat → Nat → Int} {d : Nat → Int} {e : Int} (h : MW V W d e) : V (0, 68, 0) 5 = e ∧ 1 ≤ e ∧ e ≤ 99 := h.2.2
theorem MW.fr {V V' : Key → Nat → Int} {W : Nat → Nat → Int} {d : Nat → Int} {e : Int} (h : MW V W d e) (f : mfr V V') : MW V' W d e :=
  ⟨fun a b ha hb => by rw [f _ _ (mkey_o (by omega))]; exact h.way a b ha hb, fun p hp => by rw [f _ _ (mkey_o (by omega))]; exact h.door p hp, by rw [f _ _ (mkey_o (by omega))]; exact h.spend⟩
section MKX
variable {x N FU n : Nat} {c : Nat → Key} {V : Key → Nat → Int} {R : Key → Nat → Option Nat} {K : Key → Option (Nat × Nat)} {W : Nat → Nat → Int} {pl pl' : Nat → Nat} {lk lk' ow ow' : Nat → Int} {d : Nat → Int} {e : Int}
theorem zdvb {α : Type} {F : Int → Option α} {a b : Int} (h0 : 0 ≤ a ∧ a ≤ 2147483647) (hb : 0 < b) : (zdv a b).bind F = F (a / b) := by
  have e1 := Int.ediv_nonneg h0.1 (show 0 ≤ b by omega)
  have e2 := Int.ediv_le_self (a := a) b h0.1
  unfold zdv
  rw [if_neg (by omega), Int.tdiv_eq_ediv_of_nonneg h0.1, zck_of (by omega)]
  rfl
theorem zdvLb' {α : Type} {F : Int → Option α} {a b : Int} (h0 : 0 ≤ a ∧ a ≤ 9000000000000000000) (hb : 0 < b) : (zdvL a b).bind F = F (a / b) := by
  have e1 := Int.ediv_nonneg h0.1 (show 0 ≤ b by omega)
  have e2 := Int.ediv_le_self (a := a) b h0.1
  unfold zdvL
  rw [if_neg (by omega), Int.tdiv_eq_ediv_of_nonneg h0.1, zckL_of (by omega)]
  rfl
theorem eP_pull (hW : WK W) {l : Int} (hl : 0 ≤ l ∧ l ≤ 99) (a p : Nat) (G : Hp) : FMarket_pullOf FU l (wEnc (W a p)) G = some (pulF W l a p) := by
  have w0 := hW.nn a p
  unfold FMarket_pullOf pulF wEnc
  by_cases c : W a p < 1000000
  · have w1 := hW.sh a p c
    rw [if_pos c, if_pos c, if_neg (by omega), zckb (by omega), zckb (by omega), zdvb (by omega) (by omega)]
  · rw [if_neg c, if_neg c, if_pos (by omega)]
theorem xRr69b {α : Type} {f : Int → Option α} (h : CX x c) {a : Nat} (ha : a < 43) {i : Int} (hi : 0 ≤ i ∧ i < 30) : (zaI (zX x c N V R K) (x + (70 + a)) 20 i).bind f = f (V (0, 70 + a, 0) i.toNat) := by rw [xRr69 h a ha, if_pos hi]; rfl
theorem xWr69b {α : Type} {f : Hp → Option α} (h : CX x c) {a : Nat} (ha : a < 43) {i v : Int} (hi : 0 ≤ i ∧ i < 30) : (zaS (zX x c N V R K) (x + (70 + a)) 20 i v).bind f = f (zX x c N (ku V (0, 70 + a, 0) i.toNat v) R K) := by rw [xWr69 h a ha, if_pos hi]; rfl
theorem xNr69b {α : Type} {f : Int → Option α} (h : CX x c) {a : Nat} (ha : a < 43) : (zaN (zX x c N V R K) (x + (70 + a)) 20).bind f = f 30 := by rw [xNr69 h a ha]; rfl
theorem stall_loop (hc : CX x c) (hW : WK W) (hn : n < 43) {a : Nat} (ha : a < 30) {l o : Int} (hl : 0 ≤ l ∧ l ≤ 99) : ∀ (t p fu : Nat) (V : Key → Nat → Int), p + t = 30 → t < fu → MW V W d e → V (0, 68, 0) 4 = (n : Int) → (∀ q, p ≤ q → q < 30 → 0 ≤ V (0, 114, 0) q ∧ V (0, 114, 0) q ≤ 5000000) → ∃ V', FMarket_addStall_L34 FU fu (x + 68) (a : Int) l o (x + (70 + n)) (p : Int) (zX x c N V R K) = some ((), zX x c N V' R K) ∧ (∀ key q, key ≠ (0, 70 + n, 0) → key ≠ (0, 114, 0) → key ≠ (0, 113, 0) → (key = (0, 68, 0) → q ≠ 4) → V' key q = V key q) ∧ (∀ q, q < 30 → V' (0, 70 + n, 0) q = if p ≤ q then pulF W l a q else V (0, 70 + n, 0) q) ∧ (∀ q, q < 30 → V' (0, 114, 0) q = V (0, 114, 0) q + (if p ≤ q then pulF W l a q else 0)) ∧ V' (0, 68, 0) 4 = (n : Int) + 1 ∧ (∀ q, q < 43 → V' (0, 113, 0) q = if q = n then o else V (0, 113, 0) q) := by
  intro t
  induction t with
  | zero =>
    intro p fu V hp hf hw hm h114
    obtain ⟨fu, rfl⟩ : ∃ fu', fu = fu' + 1 := ⟨fu - 1, by omega⟩
    have a1 := putF (FU := FU) (N := N) (V := V) (R := R) (K := K) hc (o := 113) (by omega) (xK113 hc) (j := n) (by omega) o
    refine ⟨ku (ku V (0, 113, 0) n o) (0, 68, 0) 4 ((n : Int) + 1), ?_, fun key q z1 z2 z3 z4 => ?_, fun q hq => ?_, fun q hq => ?_, ?_, fun q hq => ?_⟩
    · rw [FMarket_addStall_L34, xNr69b hc hn, if_neg (by omega)]
      unfold FMarket_addStall_B92
      rw [xQ68_2b hc, xI68b hc, hm, zbe a1, xI68b hc, ku_row (by simp), hm, zckb (by omega), xP68b hc]
    · rw [zku, if_neg (fun z => z4 z.1 z.2), ku_row z3]
    · rw [if_neg (by omega), ku_row (by simp; omega), ku_row (by simp; omega)]
    · rw [if_neg (by omega), ku_row (by simp), ku_row (by simp), Int.add_zero]
    · rw [ku_at, if_pos rfl]
    · rw [ku_row (by simp), ku_at]
  | succ t ih =>
    intro p fu V hp hf hw hm h114
    obtain ⟨fu, rfl⟩ : ∃ fu', fu = fu' + 1 := ⟨fu - 1, by omega⟩
    have p1 : (p : Int) + 1 = ((p + 1 : Nat) : Int) := by omega
    have tp : (p : Int).toNat = p := by omega
    have ta : (a : Int).toNat = a := by omega
    have ew := eT_way (FU := FU) (N := N) (V := V) (R := R) (K := K) hc (a := (p : Int)) (b := (a : Int)) (by omega) (by omega)
    rw [tp, ta, hw.way p a (by omega) ha, hW.sy p a] at ew
    have b := pulF_bd hW hl a p
    have b1 := h114 p (Nat.le_refl p) (by omega)
    have ne : ((0, 114, 0) : Key) ≠ (0, 70 + n, 0) := by simp; omega
    have ne2 : ((0, 70 + n, 0) : Key) ≠ (0, 114, 0) := by simp; omega
    have ne3 : ((0, 113, 0) : Key) ≠ (0, 70 + n, 0) := by simp; omega
    have fr1 : mfr V (ku (ku V (0, 70 + n, 0) p (pulF W l a p)) (0, 114, 0) p (V (0, 114, 0) p + pulF W l a p)) := fun key q z => by
      rw [ku_row (fun y => z (Or.inl ⟨114, by omega, by omega, y⟩)), ku_row (fun y => z (Or.inl ⟨70 + n, by omega, by omega, y⟩))]
    obtain ⟨V', e1, e2, e3, e4, e5, e6⟩ := ih (p + 1) fu (ku (ku V (0, 70 + n, 0) p (pulF W l a p)) (0, 114, 0) p (V (0, 114, 0) p + pulF W l a p)) (by omega) (by omega) (hw.fr fr1) (by rw [ku_row (by simp), ku_row (by simp; omega)]; exact hm) (fun q q1 hq => by
      rw [ku_at, if_neg (by omega), ku_row ne]
      exact h114 q (by omega) hq)
    refine ⟨V', ?_, fun key q z1 z2 z3 z4 => ?_, fun q hq => ?_, fun q hq => ?_, e5, fun q hq => ?_⟩
    · rw [FMarket_addStall_L34, xNr69b hc hn, if_pos (by omega), xQ68_3b hc, xN114b hc, if_pos (by omega), xQ68_0b hc, bde ew, bde (eP_pull hW hl a p _), xWr69b hc hn (by omega), tp, xQ68_3b hc, xRo114b hc (by omega), tp, ku_row ne, xRr69b hc hn (by omega), tp, ku_at, if_pos rfl, zckb (by omega), xWo114b hc (by omega), tp, zckb (by omega), p1]
      exact e1
    · rw [e2 key q z1 z2 z3 z4, ku_row z2, ku_row z1]
    · rw [e3 q hq, ku_row ne2, ku_at]
      by_cases z : q = p
      · rw [if_neg (by omega), if_pos z, if_pos (by omega), z]
      · rw [if_neg z]
        by_cases z2 : p ≤ q
        · rw [if_pos z2, if_pos (by omega)]
        · rw [if_neg z2, if_neg (by omega)]
    · rw [e4 q hq, ku_at]
      by_cases z : q = p
      · rw [if_pos z, if_neg (show ¬ p + 1 ≤ q by omega), if_pos (show p ≤ q by omega), z, Int.add_zero]
      · rw [if_neg z, ku_row ne]
        by_cases z2 : p ≤ q
        · rw [if_pos z2, if_pos (by omega)]
        · rw [if_neg z2, if_neg (by omega)]
    · rw [e6 q hq, ku_row (by simp), ku_row ne3]
theorem MK.add (hc : CX x c) (hFU : 60 ≤ FU) (hW : WK W) (hw : MW V W d e) (h : MK V W pl lk ow n) (hs : SK pl lk n) (hn : n < 43) {a : Nat} (ha : a < 30) {l o : Int} (hl : 0 ≤ l ∧ l ≤ 99) (hp : ∀ t, t < n → pl' t = pl t ∧ lk' t = lk t ∧ ow' t = ow t) (hp2 : pl' n = a ∧ lk' n = l ∧ ow' n = o) : ∃ V', FMarket_addStall FU (x + 68) (a : Int) l o (zX x c N V R K) = some ((), zX x c N V' R K) ∧ mfr V V' ∧ MK V' W pl' lk' ow' (n + 1) ∧ SK pl' lk' (n + 1) := by
  have hm := h.many
  obtain ⟨V', e1, e2, e3, e4, e5, e6⟩ := stall_loop (FU := FU) (N := N) (R := R) (K := K) (o := o) hc hW hn ha hl 30 0 FU V (by omega) (by omega) hw hm (fun q _ hq => by
    have := allF_bd hW hs q
    rw [h.all q hq]
    omega)
  refine ⟨V', ?_, fun key q z => ?_, ⟨by rw [e5]; omega, fun s p hs1 hp1 => ?_, fun p hp1 => ?_, fun s hs1 => ?_⟩, ⟨fun t ht => ?_, fun t ht => ?_⟩⟩
  · unfold FMarket_addStall FMarket_addStall_b
    rw [xD68 hc, xI68b hc, hm, if_neg (by omega), xI68b hc, hm, xQ68_1b hc, xN69b hc, if_pos (by omega), xQ68_1b hc, xI68b hc, hm, xAo69b hc (by omega), show (n : Int).toNat = n by omega]
    exact e1
  · exact e2 key q (fun y => z (Or.inl ⟨70 + n, by omega, by omega, y⟩)) (fun y => z (Or.inl ⟨114, by omega, by omega, y⟩)) (fun y => z (Or.inl ⟨113, by omega, by omega, y⟩)) (fun y w => z (Or.inr ⟨y, w⟩))
  · by_cases z : s = n
    · subst z
      rw [e3 p hp1, if_pos (by omega), hp2.1, hp2.2.1]
    · rw [e2 _ _ (by simp; omega) (by simp; omega) (by simp; omega) (fun y => by simp at y; omega), h.pull s p (by omega) hp1, (hp s (by omega)).1, (hp s (by omega)).2.1]
  · rw [e4 p hp1, if_pos (by omega), h.all p hp1]
    show allF W pl lk n p + pulF W l a p = allF W pl' lk' n p + pulF W (lk' n) (pl' n) p
    rw [hp2.1, hp2.2.1]
    have : allF W pl lk n p = allF W pl' lk' n p := zsum_eq (fun t ht => by rw [(hp t ht).1, (hp t ht).2.1])
    rw [this]
  · rw [e6 s (by omega)]
    by_cases z : s = n
    · rw [if_pos z, z, hp2.2.2]
    · rw [if_neg z, h.own s (by omega), (hp s (by omega)).2.2]
  · by_cases z : t = n
    · rw [z, hp2.1]; exact ha
    · rw [(hp t (by omega)).1]; exact hs.place t (by omega)
  · by_cases z : t = n
    · rw [z, hp2.2.1]; exact hl
    · rw [(hp t (by omega)).2.1]; exact hs.like t (by omega)
theorem drop_loop (hc : CX x c) (hn : n < 43) {pv : Nat → Int} : ∀ (t p fu : Nat) (V : Key → Nat → Int), p + t = 30 → t < fu → (∀ q, q < 30 → V (0, 70 + n, 0) q = pv q ∧ 0 ≤ pv q ∧ pv q ≤ 99000) → (∀ q, p ≤ q → q < 30 → 0 ≤ V (0, 114, 0) q ∧ V (0, 114, 0) q ≤ 5000000) → ∃ V', FMarket_dropStall_L42 FU fu (x + 68) (x + (70 + n)) (p : Int) (zX x c N V R K) = some ((), zX x c N V' R K) ∧ (∀ key, key ≠ (0, 114, 0) → V' key = V key) ∧ (∀ q, q < 30 → V' (0, 114, 0) q = V (0, 114, 0) q - (if p ≤ q then pv q else 0)) := by
  intro t
  induction t with
  | zero =>
    intro p fu V hp hf hv h114
    obtain ⟨fu, rfl⟩ : ∃ fu', fu = fu' + 1 := ⟨fu - 1, by omega⟩
    refine ⟨V, ?_, fun _ _ => rfl, fun q hq => by rw [if_neg (by omega), Int.sub_zero]⟩
    rw [FMarket_dropStall_L42, xNr69b hc hn, if_neg (by omega)]
  | succ t ih =>
    intro p fu V hp hf hv h114
    obtain ⟨fu, rfl⟩ : ∃ fu', fu = fu' + 1 := ⟨fu - 1, by omega⟩
    have p1 : (p : Int) + 1 = ((p + 1 : Nat) : Int) := by omega
    have tp : (p : Int).toNat = p := by omega
    have b := hv p (by omega)
    have b1 := h114 p (Nat.le_refl p) (by omega)
    have ne2 : ((0, 70 + n, 0) : Key) ≠ (0, 114, 0) := by simp; omega
    obtain ⟨V', e1, e2, e3⟩ := ih (p + 1) fu (ku V (0, 114, 0) p (V (0, 114, 0) p - pv p)) (by omega) (by omega) (fun q hq => by rw [ku_row ne2]; exact hv q hq) (fun q q1 hq => by
      rw [ku_at, if_neg (by omega)]
      exact h114 q (by omega) hq)
    refine ⟨V', ?_, fun key z => by rw [e2 key z, ku_row z], fun q hq => ?_⟩
    · rw [FMarket_dropStall_L42, xNr69b hc hn, if_pos (by omega), xQ68_3b hc, xN114b hc, if_pos (by omega), xQ68_3b hc, xRo114b hc (by omega), tp, xRr69b hc hn (by omega), tp, b.1, zckb (by omega), xWo114b hc (by omega), tp, zckb (by omega), p1]
      exact e1
    · rw [e3 q hq, ku_at]
      by_cases z : q = p
      · rw [if_pos z, if_neg (show ¬ p + 1 ≤ q by omega), if_pos (show p ≤ q by omega), z, Int.sub_zero]
      · rw [if_neg z]
        by_cases z2 : p ≤ q
        · rw [if_pos z2, if_pos (by omega)]
        · rw [if_neg z2, if_neg (by omega)]
end MKX
