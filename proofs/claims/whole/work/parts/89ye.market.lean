/-! ===== the class's market: filling, dropping, takings ===== -/
section MKY
variable {k x N FU n : Nat} {c : Nat → Key} {V : Key → Nat → Int} {R : Key → Nat → Option Nat} {K : Key → Option (Nat × Nat)} {W g : Nat → Nat → Int} {pl pl' : Nat → Nat} {lk lk' ow ow' : Nat → Int} {d : Nat → Int} {e : Int}
theorem MK.drop (hc : CX x c) (hFU : 60 ≤ FU) (hW : WK W) (h : MK V W pl lk ow (n + 1)) (hs : SK pl lk (n + 1)) (hn : n < 43) : ∃ V', FMarket_dropStall FU (x + 68) (zX x c N V R K) = some ((), zX x c N V' R K) ∧ mfr V V' ∧ MK V' W pl lk ow n := by
  have hm := h.many
  have ne : ((0, 114, 0) : Key) ≠ (0, 68, 0) := by simp
  have ne2 : ((0, 70 + n, 0) : Key) ≠ (0, 68, 0) := by simp; omega
  obtain ⟨V', e1, e2, e3⟩ := drop_loop (FU := FU) (N := N) (R := R) (K := K) hc hn (pv := fun q => pulF W (lk n) (pl n) q) 30 0 FU (ku V (0, 68, 0) 4 (n : Int)) (by omega) (by omega) (fun q hq => by
    rw [ku_row ne2, h.pull n q (by omega) hq]
    exact ⟨rfl, pulF_bd hW (hs.like n (by omega)) _ _⟩) (fun q _ hq => by
    have := allF_bd hW hs q
    rw [ku_row ne, h.all q hq]
    omega)
  refine ⟨V', ?_, fun key q z => ?_, ⟨?_, fun s p hs1 hp1 => ?_, fun p hp1 => ?_, fun s hs1 => ?_⟩⟩
  · unfold FMarket_dropStall FMarket_dropStall_b
    rw [xD68 hc, xI68b hc, hm, if_neg (by omega), xI68b hc, hm, xQ68_1b hc, xN69b hc, if_pos (by omega), xI68b hc, hm, zckb (by omega), xP68b hc, show ((n + 1 : Nat) : Int) - 1 = (n : Int) by omega, xQ68_1b hc, xI68b hc, ku_at, if_pos rfl, xAo69b hc (by omega), show (n : Int).toNat = n by omega]
    exact e1
  · rw [e2 key (fun y => z (Or.inl ⟨114, by omega, by omega, y⟩)), zku, if_neg (fun y => z (Or.inr y))]
  · rw [e2 _ (by simp), ku_at, if_pos rfl]
  · rw [e2 _ (by simp; omega), ku_row (by simp; omega)]
    exact h.pull s p (by omega) hp1
  · rw [e3 p hp1, if_pos (by omega), ku_row ne, h.all p hp1]
    show allF W pl lk n p + pulF W (lk n) (pl n) p - pulF W (lk n) (pl n) p = allF W pl lk n p
    omega
  · rw [e2 _ (by simp), ku_row (by simp)]
    exact h.own s (by omega)
theorem eT_doors (hc : CX x c) (hw : MW V W d e) {p : Nat} (hp : p < 30) : FTown_doorsOf FU (x + 1) (p : Int) (zX x c N V R K) = some (d p) := by
  have a := atF (FU := FU) (N := N) (V := V) (R := R) (K := K) hc (o := 2) (by omega) (xK2 hc) (j := p) (by omega)
  rw [(hw.door p hp).1] at a
  unfold FTown_doorsOf FTown_doorsOf_b
  rw [xD1 hc, xQ1_0b hc, bde a]
theorem tak_loop2 (hc : CX x c) (hW : WK W) (hw : MW V W d e) (h : MK V W pl lk ow n) (hs : SK pl lk n) (hn : n ≤ 43) {s : Nat} (hsn : s < n) : ∀ (t p fu : Nat), p + t = 30 → t < fu → FMarket_takingsOf_L35 FU fu (x + 68) (x + (70 + s)) (takF W d e pl lk n s p) (p : Int) (zX x c N V R K) = some (takF W d e pl lk n s 30) := by
  intro t
  induction t with
  | zero =>
    intro p fu hp hf
    obtain ⟨fu, rfl⟩ : ∃ fu', fu = fu' + 1 := ⟨fu - 1, by omega⟩
    have : p = 30 := by omega
    subst this
    rw [FMarket_takingsOf_L35, xNr69b hc (by omega), if_neg (by omega)]
  | succ t ih =>
    intro p fu hp hf
    obtain ⟨fu, rfl⟩ : ∃ fu', fu = fu' + 1 := ⟨fu - 1, by omega⟩
    have p1 : (p : Int) + 1 = ((p + 1 : Nat) : Int) := by omega
    have tp : (p : Int).toNat = p := by omega
    have b := pulF_bd hW (hs.like s hsn) (pl s) p
    have m := allF_mem hW hs hsn p
    have ab := allF_bd hW hs p
    have tb := takT_bd hW hs hsn (fun q hq => (hw.door q hq).2) hw.spend.2 (p := p) (by omega)
    have fb := takF_bd hW hs hsn (fun q hq => (hw.door q hq).2) hw.spend.2 (P := p) (by omega)
    have m3 := mul3_bd (hw.door p (by omega)).2 hw.spend.2 b
    have st : takF W d e pl lk n s (p + 1) = takF W d e pl lk n s p + takT W d e pl lk n s p := rfl
    have ih1 := ih (p + 1) fu (by omega) (by omega)
    rw [st] at ih1
    unfold takT at ih1 tb
    rw [FMarket_takingsOf_L35, xNr69b hc (by omega), if_pos (by omega), xQ68_3b hc, xN114b hc, if_pos (by omega), xQ68_3b hc, xRo114b hc (by omega), tp, xRr69b hc (by omega) (by omega), tp, h.pull s p hsn (by omega), h.all p (by omega)]
    by_cases c1 : pulF W (lk s) (pl s) p = 0
    · rw [if_pos (show pulF W (lk s) (pl s) p ≤ 0 by omega), Int.add_zero] at ih1
      rw [if_pos c1, zckb (by omega), p1]
      exact ih1
    · rw [if_neg (show ¬ pulF W (lk s) (pl s) p ≤ 0 by omega)] at ih1 tb
      rw [if_neg c1, if_neg (by omega), xQ68_0b hc, bde (eT_doors hc hw (p := p) (by omega)), xI68b hc, hw.spend.1, zckLb (by omega), xRr69b hc (by omega) (by omega), tp, h.pull s p hsn (by omega), zckLb (by omega), zdvLb' (by omega) (by omega), zckb (by omega), zckb (by omega), zckb (by omega), p1]
      exact ih1
theorem eK_takings (hc : CX x c) (hFU : 60 ≤ FU) (hW : WK W) (hw : MW V W d e) (h : MK V W pl lk ow n) (hs : SK pl lk n) (hn : n ≤ 43) {s : Nat} (hsn : s < n) : FMarket_takingsOf FU (x + 68) (s : Int) (zX x c N V R K) = some (takF W d e pl lk n s 30) := by
  have l := tak_loop2 (FU := FU) (N := N) (R := R) (K := K) hc hW hw h hs hn hsn 30 0 FU (by omega) (by omega)
  unfold FMarket_takingsOf FMarket_takingsOf_b
  rw [xD68 hc, if_neg (by omega), xI68b hc, h.many, if_pos (by omega), xQ68_1b hc, xN69b hc, if_pos (by omega), xQ68_1b hc, xAo69b hc (by omega), show (s : Int).toNat = s by omega]
  exact l
theorem eK_none (hc : CX x c) (h : MK V W pl lk ow n) {s : Nat} (hsn : n ≤ s) : FMarket_takingsOf FU (x + 68) (s : Int) (zX x c N V R K) = some 0 := by
  unfold FMarket_takingsOf FMarket_takingsOf_b
  rw [xD68 hc, if_neg (by omega), xI68b hc, h.many, if_neg (by omega)]
def ownT (W : Nat → Nat → Int) (d : Nat → Int) (e : Int) (pl : Nat → Nat) (lk ow : Nat → Int) (n : Nat) (o : Int) (s : Nat) : Int := if ow s = o then takF W d e pl lk n s 30 else 0
theorem own_loop (hc : CX x c) (hFU : 60 ≤ FU) (hW : WK W) (hw : MW V W d e) (h : MK V W pl lk ow n) (hs : SK pl lk n) (hn : n ≤ 43) (o : Int) : ∀ (t s fu : Nat), s + t = n → t < fu → FMarket_takingsOfOwner_L4 FU fu (x + 68) o (zsum (ownT W d e pl lk ow n o) s) (s : Int) (zX x c N V R K) = some (zsum (ownT W d e pl lk ow n o) n) := by
  have ob : ∀ s, s < n → 0 ≤ ownT W d e pl lk ow n o s ∧ ownT W d e pl lk ow n o s ≤ 2967030 := fun s hsn => by
    have := takF_bd hW hs hsn (fun q hq => (hw.door q hq).2) hw.spend.2 (P := 30) (by omega)
    unfold ownT
    split <;> omega
  intro t
  induction t with
  | zero =>
    intro s fu hp hf
    obtain ⟨fu, rfl⟩ : ∃ fu', fu = fu' + 1 := ⟨fu - 1, by omega⟩
    have : s = n := by omega
    subst this
    rw [FMarket_takingsOfOwner_L4, xI68b hc, h.many, if_neg (by omega)]
  | succ t ih =>
    intro s fu hp hf
    obtain ⟨fu, rfl⟩ : ∃ fu', fu = fu' + 1 := ⟨fu - 1, by omega⟩
    have s1 : (s : Int) + 1 = ((s + 1 : Nat) : Int) := by omega
    have a := atF (FU := FU) (N := N) (V := V) (R := R) (K := K) hc (o := 113) (by omega) (xK113 hc) (j := s) (by omega)
    rw [h.own s (by omega)] at a
    have sb := zsum_bd (f := ownT W d e pl lk ow n o) (b := 2967030) (n := s) (fun q hq => ob q (by omega))
    have tb := ob s (by omega)
    have ih1 := ih (s + 1) fu (by omega) (by omega)
    have st : zsum (ownT W d e pl lk ow n o) (s + 1) = zsum (ownT W d e pl lk ow n o) s + ownT W d e pl lk ow n o s := rfl
    rw [st] at ih1
    unfold ownT at tb
    rw [FMarket_takingsOfOwner_L4, xI68b hc, h.many, if_pos (by omega), xQ68_2b hc, bde a]
    by_cases c1 : ow s = o
    · have e1 : ownT W d e pl lk ow n o s = takF W d e pl lk n s 30 := if_pos c1
      rw [e1] at ih1
      rw [if_pos c1] at tb
      rw [if_pos c1, bde (eK_takings hc hFU hW hw h hs hn (by omega)), zckb (by omega), zckb (by omega), s1]
      exact ih1
    · have e1 : ownT W d e pl lk ow n o s = 0 := if_neg c1
      rw [e1, Int.add_zero] at ih1
      rw [if_neg c1, zckb (by omega), s1]
      exact ih1
theorem eK_owner (hc : CX x c) (hFU : 60 ≤ FU) (hW : WK W) (hw : MW V W d e) (h : MK V W pl lk ow n) (hs : SK pl lk n) (hn : n ≤ 43) (o : Int) : FMarket_takingsOfOwner FU (x + 68) o (zX x c N V R K) = some (zsum (ownT W d e pl lk ow n o) n) := by
  unfold FMarket_takingsOfOwner FMarket_takingsOfOwner_b
  rw [xD68 hc]
  exact own_loop hc hFU hW hw h hs hn o n 0 FU (by omega) (by omega)
/-! the market filled from the chain -/
def stP (g : Nat → Nat → Int) (s : Nat) : Nat := (g 4 s).toNat
def stL (g : Nat → Nat → Int) (s : Nat) : Int := if g 8 s < 0 then g 6 s else 0
theorem fill_loop (hc : CX x c) (hFU : 60 ≤ FU) (hW : WK W) (h : IH k c V R K g) (hP : g 0 2 ≤ 30) {n : Nat} (hn : (g 0 15).toNat = n) : ∀ (t s fu : Nat) (V1 : Key → Nat → Int), s + t = n → t < fu → mfr V V1 → MW V1 W d e → MK V1 W (stP g) (stL g) (g 5) s → SK (stP g) (stL g) s → ∃ V', FMarket_fillFrom_L31 FU fu (x + 68) (x + 66) (s : Int) (zX x c N V1 R K) = some ((), zX x c N V' R K) ∧ mfr V V' ∧ MK V' W (stP g) (stL g) (g 5) n ∧ SK (stP g) (stL g) n := by
  have n0 := h.many0
  intro t
  induction t with
  | zero =>
    intro s fu V1 hp hf fr hw hk hs
    obtain ⟨fu, rfl⟩ : ∃ fu', fu = fu' + 1 := ⟨fu - 1, by omega⟩
    have : s = n := by omega
    subst this
    refine ⟨V1, ?_, fr, hk, hs⟩
    have e66 : V1 (0, 66, 0) 2 = g 0 15 := by rw [fr _ _ (mkey_o (by omega))]; exact h.many
    rw [FMarket_fillFrom_L31, xI66b hc, e66, if_neg (by omega)]
  | succ t ih =>
    intro s fu V1 hp hf fr hw hk hs
    obtain ⟨fu, rfl⟩ : ∃ fu', fu = fu' + 1 := ⟨fu - 1, by omega⟩
    have s1 : (s : Int) + 1 = ((s + 1 : Nat) : Int) := by omega
    have ts : (s : Int).toNat = s := by omega
    have e66 : V1 (0, 66, 0) 2 = g 0 15 := by rw [fr _ _ (mkey_o (by omega))]; exact h.many
    obtain ⟨a, ha⟩ := h.sa (i := s) (by omega)
    have q := h.num s (by omega)
    have w0 : ∀ j, V1 (1, s, 0) j = V (1, s, 0) j := fun j => fr _ _ (mkey_t (by simp))
    have eo := eS_isOpen (x := x) (FU := FU) (N := N) (V := V1) ha
    rw [w0] at eo
    have q5 := q.closed
    have q5b := q.closed0
    have qp := q.place0
    have ql := q.like0
    have e4 : g 4 s = ((stP g s : Nat) : Int) := by unfold stP; omega
    have pb : stP g s < 30 := by unfold stP; omega
    have lb : 0 ≤ stL g s ∧ stL g s ≤ 99 := by unfold stL; split <;> omega
    obtain ⟨V2, a1, a2, a3, a4⟩ := hk.add (FU := FU) (N := N) (R := R) (K := K) (pl' := stP g) (lk' := stL g) (ow' := g 5) hc hFU hW hw hs (by omega) pb lb (o := g 5 s) (fun _ _ => ⟨rfl, rfl, rfl⟩) ⟨rfl, rfl, rfl⟩
    obtain ⟨V', b1, b2, b3, b4⟩ := ih (s + 1) fu V2 (by omega) (by omega) (fr.trans a2) (hw.fr a2) a3 a4
    refine ⟨V', ?_, b2, b3, b4⟩
    have B : ∀ y, y = stL g s → FMarket_fillFrom_B72 FU (FMarket_fillFrom_L31 FU fu) (x + 68) (x + 66) (s : Int) a (x + 68) (g 4 s) y (zX x c N V1 R K) = some ((), zX x c N V' R K) := by
      intro y hy
      subst hy
      unfold FMarket_fillFrom_B72
      rw [sIb ha, w0, q.owner, e4, zbe a1, zckb (by omega), s1]
      exact b1
    rw [FMarket_fillFrom_L31, xI66b hc, e66, if_pos (by omega), bde (eC_shopAt hc e66 n0 (s : Int)), if_pos (by omega), ts, ha.ref, zcs, sIb ha, w0, q.place]
    by_cases c1 : V (1, s, 0) 5 = -1
    · rw [if_pos c1] at eo
      rw [bde eo, if_neg (by decide), sIb ha, w0, q.like]
      exact B _ (by unfold stL; rw [if_pos (by omega)])
    · rw [if_neg c1] at eo
      rw [bde eo, if_pos rfl]
      exact B _ (by unfold stL; rw [if_neg (by omega)])
theorem clear_loop (hc : CX x c) : ∀ (t p fu : Nat) (V : Key → Nat → Int), p + t = 30 → t < fu → ∃ V', FMarket_fillFrom_L7 FU fu (x + 68) (x + 66) (p : Int) (zX x c N V R K) = FMarket_fillFrom_L31 FU FU (x + 68) (x + 66) 0 (zX x c N V' R K) ∧ (∀ key, key ≠ (0, 114, 0) → V' key = V key) ∧ (∀ q, q < 30 → V' (0, 114, 0) q = if p ≤ q then 0 else V (0, 114, 0) q) := by
  intro t
  induction t with
  | zero =>
    intro p fu V hp hf
    obtain ⟨fu, rfl⟩ : ∃ fu', fu = fu' + 1 := ⟨fu - 1, by omega⟩
    refine ⟨V, ?_, fun _ _ => rfl, fun q hq => by rw [if_neg (by omega)]⟩
    rw [FMarket_fillFrom_L7, xQ68_3b hc, xN114b hc, if_neg (by omega)]
  | succ t ih =>
    intro p fu V hp hf
    obtain ⟨fu, rfl⟩ : ∃ fu', fu = fu' + 1 := ⟨fu - 1, by omega⟩
    have p1 : (p : Int) + 1 = ((p + 1 : Nat) : Int) := by omega
    have tp : (p : Int).toNat = p := by omega
    obtain ⟨V', e1, e2, e3⟩ := ih (p + 1) fu (ku V (0, 114, 0) p 0) (by omega) (by omega)
    refine ⟨V', ?_, fun key z => by rw [e2 key z, ku_row z], fun q hq => ?_⟩
    · rw [FMarket_fillFrom_L7, xQ68_3b hc, xN114b hc, if_pos (by omega), xQ68_3b hc, xWo114b hc (by omega), tp, zckb (by omega), p1]
      exact e1
    · rw [e3 q hq, ku_at]
      by_cases z : q = p
      · rw [if_neg (show ¬ p + 1 ≤ q by omega), if_pos z, if_pos (show p ≤ q by omega)]
      · rw [if_neg z]
        by_cases z2 : p ≤ q
        · rw [if_pos z2, if_pos (by omega)]
        · rw [if_neg z2, if_neg (by omega)]
theorem eK_fill (hc : CX x c) (hFU : 60 ≤ FU) (hW : WK W) (h : IH k c V R K g) (hP : g 0 2 ≤ 30) (hw : MW V W d e) {n : Nat} (hn : (g 0 15).toNat = n) : ∃ V', FMarket_fillFrom FU (x + 68) (x + 66) (zX x c N V R K) = some ((), zX x c N V' R K) ∧ mfr V V' ∧ MK V' W (stP g) (stL g) (g 5) n ∧ SK (stP g) (stL g) n := by
  obtain ⟨V1, a1, a2, a3⟩ := clear_loop (FU := FU) (N := N) (R := R) (K := K) hc 30 0 FU (ku V (0, 68, 0) 4 0) (by omega) (by omega)
  have fr : mfr V V1 := fun key q z => by rw [a2 key (fun y => z (Or.inl ⟨114, by omega, by omega, y⟩)), zku, if_neg (fun y => z (Or.inr y))]
  obtain ⟨V', b1, b2, b3, b4⟩ := fill_loop (FU := FU) (N := N) (d := d) (e := e) hc hFU hW h hP hn n 0 FU V1 (by omega) (by have := h.many0; omega) fr (hw.fr fr) ⟨by rw [a2 _ (by simp), ku_at, if_pos rfl]; rfl, fun s p h1 _ => absurd h1 (by omega), fun p hp => by rw [a3 p hp, if_pos (by omega)]; rfl, fun s h1 => absurd h1 (by omega)⟩ ⟨fun t h1 => absurd h1 (by omega), fun t h1 => absurd h1 (by omega)⟩
  refine ⟨V', ?_, b2, b3, b4⟩
  unfold FMarket_fillFrom FMarket_fillFrom_b
  rw [xD68 hc, xP68b hc]
  have a1' : FMarket_fillFrom_L7 FU FU (x + 68) (x + 66) 0 (zX x c N (ku V (0, 68, 0) 4 0) R K) = _ := a1
  rw [a1']
  exact b1
end MKY
