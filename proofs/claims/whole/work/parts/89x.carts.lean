/-! ===== carts ===== -/
def zV (V : Key → Nat → Int) (i : Nat) : Key → Nat → Int := fun key j => if key = (0, 131, 0) ∧ i ≤ j ∧ j < 10 then 0 else V key j
def kV (V : Key → Nat → Int) (L i : Nat) : Key → Nat → Int := fun key j => if key = (0, 132, 0) ∧ i ≤ j ∧ j < L then V (0, 128, 0) j else if key = (0, 133, 0) ∧ i ≤ j ∧ j < L then V (0, 130, 0) j else V key j
def eG (g : Nat → Nat → Int) (cnt : Nat) (x2 : Int) (s : Nat) : Nat → Nat → Int := fun a t => if a = 0 ∧ t = 49 then 0 else if a = 36 ∧ s ≤ t ∧ t < cnt then 0 else if a = 38 ∧ s ≤ t ∧ t < cnt ∧ x2 ≠ 0 then (if g 36 t ≤ 0 then -1 else g 37 t) else g a t
section CTX
variable {k x m N N' FU : Nat} {c : Nat → Key} {V : Key → Nat → Int} {R : Key → Nat → Option Nat} {K : Key → Option (Nat × Nat)} {g W : Nat → Nat → Int} {L l : Nat} {r : Int} {ld : Nat → Int} {X M : Hp} {sh : Nat → Nat} {cnt : Nat}
theorem zero_loop (hc : CX x c) {kL : Nat → Int → Hp → Option (Int × Hp)} {l : Int} : ∀ (d i fu : Nat) (V : Key → Nat → Int), i + d = 10 → d < fu → FPacker_fewestCarts_L12 FU kL fu (x + 127) l (i : Int) (zX x c N V R K) = (zb (FPacker_canPack_n FU 14 (x + 127) 0 0 l (zX x c N (zV V i) R K)) fun v7 G6 => if v7 = 0 then (zck (l + 1)).bind fun v8 => kL (x + 127) v8 G6 else some (l, G6)) := by
  intro d
  induction d with
  | zero =>
    intro i fu V hi hf
    obtain ⟨fu, rfl⟩ : ∃ fu', fu = fu' + 1 := ⟨fu - 1, by omega⟩
    have e : zV V i = V := by
      funext key j
      unfold zV
      rw [if_neg (by omega)]
    rw [FPacker_fewestCarts_L12, xQ127_3b hc, xN131b hc, if_neg (by omega), e]
  | succ d ih =>
    intro i fu V hi hf
    obtain ⟨fu, rfl⟩ : ∃ fu', fu = fu' + 1 := ⟨fu - 1, by omega⟩
    have i1 : (i : Int) + 1 = ((i + 1 : Nat) : Int) := by omega
    have ti : (i : Int).toNat = i := by omega
    have e : zV (ku V (0, 131, 0) i 0) (i + 1) = zV V i := by
      funext key j
      simp only [zV, ku]
      by_cases k1 : key = (0, 131, 0)
      · by_cases z1 : i + 1 ≤ j ∧ j < 10
        · rw [if_pos ⟨k1, z1⟩, if_pos ⟨k1, by omega⟩]
        · rw [if_neg (fun z => z1 z.2)]
          by_cases z2 : j = i
          · rw [if_pos ⟨k1, z2⟩, if_pos ⟨k1, by omega⟩]
          · rw [if_neg (fun z => z2 z.2), if_neg (fun z => by have := z.2; omega)]
      · rw [if_neg (fun z => k1 z.1), if_neg (fun z => k1 z.1), if_neg (fun z => k1 z.1)]
    rw [FPacker_fewestCarts_L12, xQ127_3b hc, xN131b hc, if_pos (by omega), xQ127_3b hc, xWo131b hc (by omega), ti, zckb (by omega), i1, ih (i + 1) fu _ (by omega) (by omega), e]
theorem few_loop (hc : CX x c) (hL : L ≤ 10) (hr : 1 ≤ r ∧ r ≤ 99) (hld : ∀ q, q < L → 1 ≤ ld q ∧ ld q ≤ 99) (hFU : 60 ≤ FU) : ∀ (d l fu : Nat) (V : Key → Nat → Int), l + d = L + 1 → d < fu → V (0, 127, 0) 6 = (L : Int) → V (0, 127, 0) 8 = r → (∀ q, q < L → V (0, 129, 0) q = ld q) → ∃ V', FPacker_fewestCarts_L2 FU fu (x + 127) (l : Int) (zX x c N V R K) = some ((match fw r ld L d l with | some (l0, _) => (l0 : Int) | none => -4), zX x c N V' R K) ∧ (∀ key, key ≠ (0, 130, 0) → key ≠ (0, 131, 0) → V' key = V key) ∧ (∀ l0 A, fw r ld L d l = some (l0, A) → ∀ q, q < L → V' (0, 130, 0) q = (A q : Int)) := by
  intro d
  induction d with
  | zero =>
    intro l fu V hl hf V6 V8 V9
    obtain ⟨fu, rfl⟩ : ∃ fu', fu = fu' + 1 := ⟨fu - 1, by omega⟩
    refine ⟨V, ?_, fun _ _ _ => rfl, fun l0 A e => absurd e (by simp [fw])⟩
    rw [FPacker_fewestCarts_L2, xI127b hc, V6, if_neg (by omega), fw]
  | succ d ih =>
    intro l fu V hl hf V6 V8 V9
    obtain ⟨fu, rfl⟩ : ∃ fu', fu = fu' + 1 := ⟨fu - 1, by omega⟩
    have l1 : (l : Int) + 1 = ((l + 1 : Nat) : Int) := by omega
    have zo : ∀ key, key ≠ (0, 131, 0) → zV V 0 key = V key := fun key z => by
      funext j
      exact if_neg (fun y => z y.1)
    have z1 : ∀ t, t < 10 → zV V 0 (0, 131, 0) t = 0 := fun t ht => if_pos ⟨rfl, by omega, ht⟩
    have lx : LX (zV V 0) r ld L := ⟨by rw [zo _ (by simp)]; exact V6, by rw [zo _ (by simp)]; exact V8, fun q hq => by rw [zo _ (by simp)]; exact V9 q hq, fun t ht => by rw [z1 t ht]; omega⟩
    obtain ⟨V2, e1, e2, e3, e4, e5⟩ := can_X (FU := FU) (N := N) (R := R) (K := K) (l := l) hc hL hr hld (by omega) (by omega) L 0 0 14 (zV V 0) (by omega) (by omega) (by omega) lx
    have pe : pk r ld L 0 (zV V 0 (0, 131, 0)) 0 l = pk r ld L 0 (fun _ => 0) 0 l := pkk_eq L 0 _ _ 0 (fun t ht => z1 t (by omega))
    rw [pe] at e1 e4 e5
    have zl := zero_loop (FU := FU) (N := N) (R := R) (K := K) hc (kL := FPacker_fewestCarts_L2 FU fu) (l := (l : Int)) 10 0 FU V (by omega) (by omega)
    have zl' : FPacker_fewestCarts_L12 FU (FPacker_fewestCarts_L2 FU fu) FU (x + 127) (l : Int) 0 (zX x c N V R K) = _ := zl
    have e1' : FPacker_canPack_n FU 14 (x + 127) 0 0 (l : Int) (zX x c N (zV V 0) R K) = _ := e1
    rw [FPacker_fewestCarts_L2, xI127b hc, V6, if_pos (by omega), zl', zbe e1', fw]
    cases q : pk r ld L 0 (fun _ => 0) 0 l with
    | some A =>
      rw [q] at e5
      refine ⟨V2, ?_, fun key k1 k2 => by rw [e2 key k1 k2, zo key k2], fun l0 B e q hq => ?_⟩
      · rw [if_neg (by simp)]
      · have eB : (l, A) = (l0, B) := Option.some.inj e
        have eB2 : A = B := (Prod.mk.inj eB).2
        rw [← eB2]
        exact e5 A rfl q (by omega) hq
    | none =>
      obtain ⟨V4, k1, k2, k3⟩ := ih (l + 1) fu V2 (by omega) (by omega) (by rw [e2 _ (by simp) (by simp), zo _ (by simp)]; exact V6) (by rw [e2 _ (by simp) (by simp), zo _ (by simp)]; exact V8) (fun q hq => by rw [e2 _ (by simp) (by simp), zo _ (by simp)]; exact V9 q hq)
      refine ⟨V4, ?_, fun key z2 z3 => by rw [k2 key z2 z3, e2 key z2 z3, zo key z3], k3⟩
      rw [if_pos (by simp), zckb (by omega), l1]
      exact k1
theorem keep_loop (hc : CX x c) (hL : L ≤ 10) : ∀ (d i fu : Nat) (V : Key → Nat → Int), i + d = L → d < fu → V (0, 127, 0) 6 = (L : Int) → FPacker_keepPacking_L10 FU fu (x + 127) (i : Int) (zX x c N V R K) = some ((), zX x c N (kV V L i) R K) := by
  intro d
  induction d with
  | zero =>
    intro i fu V hi hf V6
    obtain ⟨fu, rfl⟩ : ∃ fu', fu = fu' + 1 := ⟨fu - 1, by omega⟩
    have e : kV V L i = V := by
      funext key j
      unfold kV
      rw [if_neg (by omega), if_neg (by omega)]
    rw [FPacker_keepPacking_L10, xI127b hc, V6, if_neg (by omega), e]
  | succ d ih =>
    intro i fu V hi hf V6
    obtain ⟨fu, rfl⟩ : ∃ fu', fu = fu' + 1 := ⟨fu - 1, by omega⟩
    have i1 : (i : Int) + 1 = ((i + 1 : Nat) : Int) := by omega
    have a1 := atF (FU := FU) (N := N) (V := V) (R := R) (K := K) hc (o := 128) (by omega) (xK128 hc) (j := i) (by omega)
    have a2 := putF (FU := FU) (N := N) (V := V) (R := R) (K := K) hc (o := 132) (by omega) (xK132 hc) (j := i) (by omega) (V (0, 128, 0) i)
    have a3 := atF (FU := FU) (N := N) (V := ku V (0, 132, 0) i (V (0, 128, 0) i)) (R := R) (K := K) hc (o := 130) (by omega) (xK130 hc) (j := i) (by omega)
    rw [ku_row (by simp)] at a3
    have a4 := putF (FU := FU) (N := N) (V := ku V (0, 132, 0) i (V (0, 128, 0) i)) (R := R) (K := K) hc (o := 133) (by omega) (xK133 hc) (j := i) (by omega) (V (0, 130, 0) i)
    have e : kV (ku (ku V (0, 132, 0) i (V (0, 128, 0) i)) (0, 133, 0) i (V (0, 130, 0) i)) L (i + 1) = kV V L i := by
      funext key j
      unfold kV
      rw [ku_row (by simp), ku_row (by simp), ku_row (by simp), ku_row (by simp)]
      by_cases k1 : key = (0, 132, 0)
      · subst k1
        rw [if_neg (c := (0, 132, 0) = (0, 133, 0) ∧ _) (by simp), if_neg (c := (0, 132, 0) = (0, 133, 0) ∧ _) (by simp), ku_row (by simp), ku_at]
        by_cases z1 : i + 1 ≤ j ∧ j < L
        · rw [if_pos ⟨rfl, z1⟩, if_pos ⟨rfl, by omega⟩]
        · rw [if_neg (fun z => z1 z.2)]
          by_cases z2 : j = i
          · rw [if_pos z2, if_pos ⟨rfl, by omega⟩, z2]
          · rw [if_neg z2, if_neg (fun z => by have := z.2; omega)]
      · by_cases k2 : key = (0, 133, 0)
        · subst k2
          have n1 : ¬ ((0, 133, 0) : Key) = (0, 132, 0) := by simp
          simp only [n1, false_and, if_false]
          rw [ku_at, ku_row (by simp)]
          by_cases z1 : i + 1 ≤ j ∧ j < L
          · rw [if_pos ⟨trivial, z1⟩, if_pos ⟨trivial, by omega⟩]
          · rw [if_neg (fun z => z1 z.2)]
            by_cases z2 : j = i
            · rw [if_pos z2, if_pos ⟨trivial, by omega⟩, z2]
            · rw [if_neg z2, if_neg (fun z => by have := z.2; omega)]
        · simp only [k1, k2, false_and, if_false]
          rw [ku_row k2, ku_row k1]
    rw [FPacker_keepPacking_L10, xI127b hc, V6, if_pos (by omega), xQ127_4b hc, xQ127_0b hc, bde a1, zbe a2, xQ127_5b hc, xQ127_2b hc, bde a3, zbe a4, zckb (by omega), i1, ih (i + 1) fu _ (by omega) (by omega) (by rw [ku_row (by simp), ku_row (by simp)]; exact V6), e]
theorem flag_loop (hcnt : cnt ≤ 40) (h15 : g 0 15 = (cnt : Int)) : ∀ (e s fu : Nat) (fl : Int), s + e = cnt → e < fu → (fl = 0 ∨ fl = 1) → ∃ fl' : Int, (fl' = 0 ∨ fl' = 1) ∧ (fl' = 1 ↔ fl = 1 ∧ ∀ t, s ≤ t → t < cnt → g 36 t ≤ r) ∧ FM_carts_L31 FU fu m r fl (s : Int) (zG m N g) = FM_carts_L67 FU FU m fl' 1 (zG m N g) := by
  intro e
  induction e with
  | zero =>
    intro s fu fl hs hf hfl
    obtain ⟨fu, rfl⟩ : ∃ fu', fu = fu' + 1 := ⟨fu - 1, by omega⟩
    refine ⟨fl, hfl, ⟨fun z => ⟨z, fun t t1 t2 => by omega⟩, fun z => z.1⟩, ?_⟩
    rw [FM_carts_L31, mIb, h15, if_neg (by omega)]
  | succ e ih =>
    intro s fu fl hs hf hfl
    obtain ⟨fu, rfl⟩ : ∃ fu', fu = fu' + 1 := ⟨fu - 1, by omega⟩
    have s1 : (s : Int) + 1 = ((s + 1 : Nat) : Int) := by omega
    have ts : (s : Int).toNat = s := by omega
    rw [FM_carts_L31, mIb, h15, if_pos (by omega)]
    by_cases c1 : fl = 0
    · obtain ⟨fl', a1, a2, a3⟩ := ih (s + 1) fu 0 (by omega) (by omega) (Or.inl rfl)
      refine ⟨fl', a1, ⟨fun z => absurd (a2.mp z).1 (by decide), fun z => absurd z.1 (by omega)⟩, ?_⟩
      rw [if_pos c1, zckb (by omega), s1, a3]
    · rw [if_neg c1, mQ48b, mRo36b (by omega), ts]
      by_cases c2 : g 36 s ≤ r
      · obtain ⟨fl', a1, a2, a3⟩ := ih (s + 1) fu 1 (by omega) (by omega) (Or.inr rfl)
        refine ⟨fl', a1, ⟨fun z => ⟨by omega, fun t t1 t2 => ?_⟩, fun z => a2.mpr ⟨rfl, fun t t1 t2 => z.2 t (by omega) t2⟩⟩, ?_⟩
        · by_cases e : t = s
          · rw [e]; exact c2
          · exact (a2.mp z).2 t (by omega) t2
        · rw [if_pos c2, zckb (by omega), s1, a3]
      · obtain ⟨fl', a1, a2, a3⟩ := ih (s + 1) fu 0 (by omega) (by omega) (Or.inl rfl)
        refine ⟨fl', a1, ⟨fun z => absurd (a2.mp z).1 (by decide), fun z => absurd (z.2 s (by omega) (by omega)) c2⟩, ?_⟩
        rw [if_neg c2, zckb (by omega), s1, a3]
theorem mfew_loop (hL : L ≤ 10) (hr : 1 ≤ r ∧ r ≤ 99) (hld : ∀ q, q < L → 1 ≤ ld q ∧ ld q ≤ 99) (hFU : 60 ≤ FU) {g36 : Nat → Int} (hcnt : cnt ≤ 40) (hsh : ∀ q, q < L → sh q < cnt ∧ g36 (sh q) = ld q) (hrise : ∀ q t, q < t → t < L → sh q < sh t) (hrest : ∀ i, i < 40 → (∀ q, q < L → sh q ≠ i) → g36 i = 0) {l0 : Nat} {A : Nat → Nat} : ∀ (d l fu : Nat) (g : Nat → Nat → Int), l + d = L + 1 → d < fu → fw r ld L d l = some (l0, A) → g 36 = g36 → g 0 53 = r → g 0 15 = (cnt : Int) → (∀ t, t < 10 → g 39 t = 0) → ∃ g', FM_carts_L67 FU fu m 1 (l : Int) (zG m N g) = FM_carts_L90 FU FU m 1 (l0 : Int) 0 (zG m N g') ∧ (∀ a, a ≠ 37 → g' a = g a) ∧ (∀ q, q < L → g' 37 (sh q) = (A q : Int)) := by
  intro d
  induction d with
  | zero =>
    intro l fu g hl hf e
    exact absurd e (by simp [fw])
  | succ d ih =>
    intro l fu g hl hf e q36 q53 q15 q39
    obtain ⟨fu, rfl⟩ : ∃ fu', fu = fu' + 1 := ⟨fu - 1, by omega⟩
    have l1 : (l : Int) + 1 = ((l + 1 : Nat) : Int) := by omega
    obtain ⟨g2, e1, e2, e3, e5⟩ := pack_M (FU := FU) (m := m) (N := N) (l := l) hL hr hld (by omega) hFU hcnt hsh hrise hrest cnt 0 L 0 0 44 g (by omega) (by omega) (by omega) (fun q hq => by omega) (fun q _ _ => by omega) (by omega) q36 q53 q15 (fun t ht => by rw [q39 t ht]; omega)
    have pe : pk r ld L 0 (g 39) 0 l = pk r ld L 0 (fun _ => 0) 0 l := pkk_eq L 0 _ _ 0 (fun t ht => q39 t (by omega))
    rw [pe] at e1 e5
    have e1' : FM_pack_n FU 44 m 0 0 (l : Int) (zG m N g) = _ := e1
    rw [FM_carts_L67, if_neg (by decide), zbe e1']
    rw [fw] at e
    cases q : pk r ld L 0 (fun _ => 0) 0 l with
    | some B =>
      rw [q] at e e5
      have eB : (l, B) = (l0, A) := Option.some.inj e
      have eB2 : B = A := (Prod.mk.inj eB).2
      have eB1 : l = l0 := (Prod.mk.inj eB).1
      refine ⟨g2, ?_, e2, fun t ht => by rw [← eB2]; exact e5 B rfl t (by omega) ht⟩
      rw [if_neg (by simp), eB1]
    | none =>
      rw [q] at e
      obtain ⟨g4, k1, k2, k3⟩ := ih (l + 1) fu g2 (by omega) (by omega) e (by rw [e2 36 (by decide)]; exact q36) (by rw [e2 0 (by decide)]; exact q53) (by rw [e2 0 (by decide)]; exact q15) (fun t ht => by rw [e2 39 (by decide)]; exact q39 t ht)
      refine ⟨g4, ?_, fun a z => by rw [k2 a z, e2 a z], k3⟩
      rw [if_pos (by simp), zckb (by omega), l1]
      exact k1
theorem end_loop (hcnt : cnt ≤ 40) {x2 x3 : Int} : ∀ (e s fu : Nat) (g : Nat → Nat → Int), s + e = cnt → e < fu → g 0 15 = (cnt : Int) → FM_carts_L90 FU fu m x2 x3 (s : Int) (zG m N g) = some (if x2 = 0 then -4 else x3, zG m N (eG g cnt x2 s)) := by
  intro e
  induction e with
  | zero =>
    intro s fu g hs hf h15
    obtain ⟨fu, rfl⟩ : ∃ fu', fu = fu' + 1 := ⟨fu - 1, by omega⟩
    have e : gu g 0 49 0 = eG g cnt x2 s := by
      funext a t
      unfold eG gu
      by_cases c1 : a = 0 ∧ t = 49
      · rw [if_pos c1, if_pos c1]
      · rw [if_neg c1, if_neg c1, if_neg (by omega), if_neg (fun z => by have := z.2; omega)]
    rw [FM_carts_L90, mIb, h15, if_neg (by omega), mPb, e]
    split <;> rfl
  | succ e ih =>
    intro s fu g hs hf h15
    obtain ⟨fu, rfl⟩ : ∃ fu', fu = fu' + 1 := ⟨fu - 1, by omega⟩
    have s1 : (s : Int) + 1 = ((s + 1 : Nat) : Int) := by omega
    have ts : (s : Int).toNat = s := by omega
    rw [FM_carts_L90, mIb, h15, if_pos (by omega)]
    by_cases c1 : x2 = 0
    · have e : eG (gu g 36 s 0) cnt x2 (s + 1) = eG g cnt x2 s := by
        funext a t
        unfold eG
        by_cases z0 : a = 0 ∧ t = 49
        · rw [if_pos z0, if_pos z0]
        · rw [if_neg z0, if_neg z0]
          by_cases z1 : a = 36 ∧ s + 1 ≤ t ∧ t < cnt
          · rw [if_pos z1, if_pos ⟨z1.1, by omega⟩]
          · rw [if_neg z1]
            by_cases z2 : a = 36 ∧ t = s
            · rw [if_neg (by omega), gu, if_pos z2, if_pos ⟨z2.1, by omega⟩]
            · rw [if_neg (fun z => z.2.2.2 c1), gu, if_neg z2, if_neg (by omega), if_neg (fun z => z.2.2.2 c1)]
      rw [if_pos c1]
      unfold FM_carts_B131
      rw [mQ48b, mWo36b (by omega), ts, zckb (by omega), s1, ih (s + 1) fu _ (by omega) (by omega) (by rw [gu_ne (by omega)]; exact h15), e]
    · have e : ∀ v, (v = if g 36 s ≤ 0 then -1 else g 37 s) → eG (gu (gu g 38 s v) 36 s 0) cnt x2 (s + 1) = eG g cnt x2 s := fun v hv => by
        funext a t
        unfold eG
        by_cases z0 : a = 0 ∧ t = 49
        · rw [if_pos z0, if_pos z0]
        · rw [if_neg z0, if_neg z0]
          by_cases z1 : a = 36 ∧ s + 1 ≤ t ∧ t < cnt
          · rw [if_pos z1, if_pos ⟨z1.1, by omega⟩]
          · rw [if_neg z1]
            by_cases z2 : a = 36 ∧ t = s
            · rw [if_neg (by omega), gu, if_pos z2, if_pos ⟨z2.1, by omega⟩]
            · rw [if_neg (c := a = 36 ∧ s ≤ t ∧ t < cnt) (by omega)]
              by_cases z3 : a = 38 ∧ s + 1 ≤ t ∧ t < cnt ∧ x2 ≠ 0
              · have y1 : gu (gu g 38 s v) 36 s 0 36 t = g 36 t := by rw [gu_ne (by omega), gu_ne (by omega)]
                have y2 : gu (gu g 38 s v) 36 s 0 37 t = g 37 t := by rw [gu_ne (by omega), gu_ne (by omega)]
                rw [if_pos z3, if_pos (show a = 38 ∧ s ≤ t ∧ t < cnt ∧ x2 ≠ 0 from ⟨z3.1, by omega, z3.2.2⟩), y1, y2]
              · rw [if_neg z3]
                by_cases z4 : a = 38 ∧ t = s
                · rw [if_pos ⟨z4.1, by omega, by omega, c1⟩, gu, if_neg (by omega), gu, if_pos z4, hv, z4.2]
                · rw [if_neg (fun z => z3 ⟨z.1, by have := z.2.1; omega, z.2.2⟩), gu_ne z2, gu_ne z4]
      rw [if_neg c1, mQ51b, mQ48b, mRo36b (by omega), ts]
      by_cases c2 : g 36 s ≤ 0
      · rw [if_pos c2]
        unfold FM_carts_B130 FM_carts_B131
        rw [mWo38b (by omega), ts, mQ48b, mWo36b (by omega), ts, zckb (by omega), s1, ih (s + 1) fu _ (by omega) (by omega) (by rw [gu_ne (by omega), gu_ne (by omega)]; exact h15), e _ (by rw [if_pos c2])]
      · rw [if_neg c2, mQ50b, mRo37b (by omega), ts]
        unfold FM_carts_B130 FM_carts_B131
        rw [mWo38b (by omega), ts, mQ48b, mWo36b (by omega), ts, zckb (by omega), s1, ih (s + 1) fu _ (by omega) (by omega) (by rw [gu_ne (by omega), gu_ne (by omega)]; exact h15), e _ (by rw [if_neg c2])]
theorem OP_carts (h : INV k x m X M) (hk : k < 512) (a1 : Int) (h1 : zInI a1) : ∃ (r : Int) (X' M' : Hp), FB_carts zFU x a1 X = some (r, X') ∧ FM_carts zFU m a1 M = some (r, M') ∧ INV (k + 1) x m X' M' := by
  obtain ⟨c, N, V, R, K, N', g, W, rfl, rfl, h⟩ := h
  have hc := h.c.cx
  have p := h.p
  have n0 := p.many0
  have h0 := h.h.many0
  unfold FB_carts FB_carts_b FM_carts FM_carts_b FPacker_pack FPacker_pack_b
  by_cases q1 : 1 ≤ a1 ∧ a1 ≤ 99
  · by_cases q2 : g 0 49 = 0
    · refine ⟨-3, zX x c N V R K, zG m N' g, ?_, ?_, INV.intro h.skip⟩
      · simp (disch := omega) only [↓zcs, ↓zcn, ↓Option.bind_some, ↓zb_some, ↓zrz0b, ↓zrz1b, ↓zckb, zrz0, zrz1, ↓reduceIte, ↓xI0b hc, ↓xP0b hc, ↓xI1b hc, ↓xP1b hc, ↓xI66b hc, ↓xP66b hc, ↓xI68b hc, ↓xP68b hc, ↓xI115b hc, ↓xP115b hc, ↓xI120b hc, ↓xP120b hc, ↓xI121b hc, ↓xP121b hc, ↓xI125b hc, ↓xP125b hc, ↓xI127b hc, ↓xP127b hc, ↓xN2b hc, ↓xRo2b hc, ↓xWo2b hc, ↓xN65b hc, ↓xRo65b hc, ↓xWo65b hc, ↓xN113b hc, ↓xRo113b hc, ↓xWo113b hc, ↓xN114b hc, ↓xRo114b hc, ↓xWo114b hc, ↓xN116b hc, ↓xRo116b hc, ↓xWo116b hc, ↓xN117b hc, ↓xRo117b hc, ↓xWo117b hc, ↓xN118b hc, ↓xRo118b hc, ↓xWo118b hc, ↓xN119b hc, ↓xRo119b hc, ↓xWo119b hc, ↓xN122b hc, ↓xRo122b hc, ↓xWo122b hc, ↓xN124b hc, ↓xRo124b hc, ↓xWo124b hc, ↓xN126b hc, ↓xRo126b hc, ↓xWo126b hc, ↓xN128b hc, ↓xRo128b hc, ↓xWo128b hc, ↓xN129b hc, ↓xRo129b hc, ↓xWo129b hc, ↓xN130b hc, ↓xRo130b hc, ↓xWo130b hc, ↓xN131b hc, ↓xRo131b hc, ↓xWo131b hc, ↓xN132b hc, ↓xRo132b hc, ↓xWo132b hc, ↓xN133b hc, ↓xRo133b hc, ↓xWo133b hc, ↓xN67b hc, ↓xAo67b hc, ↓xN123b hc, ↓xAo123b hc, ↓xN3b hc, ↓xAo3b hc, ↓xN34b hc, ↓xAo34b hc, ↓xN69b hc, ↓xAo69b hc, ↓xQ0_0b hc, ↓xQ0_1b hc, ↓xQ0_2b hc, ↓xQ0_3b hc, ↓xQ0_4b hc, ↓xQ0_5b hc, ↓xQ0_6b hc, ↓xQ1_0b hc, ↓xQ1_1b hc, ↓xQ1_2b hc, ↓xQ1_3b hc, ↓xQ66_0b hc, ↓xQ66_1b hc, ↓xQ68_0b hc, ↓xQ68_1b hc, ↓xQ68_2b hc, ↓xQ68_3b hc, ↓xQ115_0b hc, ↓xQ115_1b hc, ↓xQ115_2b hc, ↓xQ115_3b hc, ↓xQ115_4b hc, ↓xQ115_5b hc, ↓xQ115_6b hc, ↓xQ120_0b hc, ↓xQ120_1b hc, ↓xQ120_2b hc, ↓xQ120_3b hc, ↓xQ125_0b hc, ↓xQ125_1b hc, ↓xQ127_0b hc, ↓xQ127_1b hc, ↓xQ127_2b hc, ↓xQ127_3b hc, ↓xQ127_4b hc, ↓xQ127_5b hc, ↓xD0 hc, ↓xD1 hc, ↓xD66 hc, ↓xD68 hc, ↓xD115 hc, ↓xD120 hc, ↓xD121 hc, ↓xD125 hc, ↓xD127 hc, ↓if_neg, ↓if_pos, ↓bde (eB_isWithin _ _ _ _), q1, p.many, q2]
      · simp (disch := omega) only [↓zcs, ↓zcn, ↓mD, ↓Option.bind_some, ↓zb_some, ↓zrz0b, ↓zrz1b, ↓zckb, zrz0, zrz1, ↓reduceIte, ↓mIb, ↓mPb, ↓zck_ofb, ↓mPob, ↓mQ1b, ↓mRo1b, ↓mWo1b, ↓mQ3b, ↓mRo2b, ↓mWo2b, ↓mQ4b, ↓mRo3b, ↓mWo3b, ↓mQ8b, ↓mRo4b, ↓mWo4b, ↓mQ9b, ↓mRo5b, ↓mWo5b, ↓mQ10b, ↓mRo6b, ↓mWo6b, ↓mQ11b, ↓mRo7b, ↓mWo7b, ↓mQ12b, ↓mRo8b, ↓mWo8b, ↓mQ13b, ↓mRo9b, ↓mWo9b, ↓mQ14b, ↓mRo10b, ↓mWo10b, ↓mQ17b, ↓mRo11b, ↓mWo11b, ↓mQ19b, ↓mRo12b, ↓mWo12b, ↓mQ20b, ↓mRo13b, ↓mWo13b, ↓mQ23b, ↓mRo14b, ↓mWo14b, ↓mQ24b, ↓mRo15b, ↓mWo15b, ↓mQ26b, ↓mRo16b, ↓mWo16b, ↓mQ27b, ↓mRo17b, ↓mWo17b, ↓mQ28b, ↓mRo18b, ↓mWo18b, ↓mQ29b, ↓mRo19b, ↓mWo19b, ↓mQ30b, ↓mRo20b, ↓mWo20b, ↓mQ32b, ↓mRo21b, ↓mWo21b, ↓mQ33b, ↓mRo22b, ↓mWo22b, ↓mQ34b, ↓mRo23b, ↓mWo23b, ↓mQ35b, ↓mRo24b, ↓mWo24b, ↓mQ36b, ↓mRo25b, ↓mWo25b, ↓mQ37b, ↓mRo26b, ↓mWo26b, ↓mQ38b, ↓mRo27b, ↓mWo27b, ↓mQ39b, ↓mRo28b, ↓mWo28b, ↓mQ40b, ↓mRo29b, ↓mWo29b, ↓mQ41b, ↓mRo30b, ↓mWo30b, ↓mQ43b, ↓mRo31b, ↓mWo31b, ↓mQ44b, ↓mRo32b, ↓mWo32b, ↓mQ45b, ↓mRo33b, ↓mWo33b, ↓mQ46b, ↓mRo34b, ↓mWo34b, ↓mQ47b, ↓mRo35b, ↓mWo35b, ↓mQ48b, ↓mRo36b, ↓mWo36b, ↓mQ50b, ↓mRo37b, ↓mWo37b, ↓mQ51b, ↓mRo38b, ↓mWo38b, ↓mQ52b, ↓mRo39b, ↓mWo39b, ↓if_neg, ↓if_pos, ↓bde (eM_within _ _ _ _), q1, q2]
    · obtain ⟨L, eL⟩ : ∃ L : Nat, g 0 49 = (L : Int) := ⟨(g 0 49).toNat, by omega⟩
      obtain ⟨cnt, ec⟩ : ∃ cnt : Nat, g 0 15 = (cnt : Int) := ⟨(g 0 15).toNat, by omega⟩
      have hL : L ≤ 10 := by omega
      have tL : (g 0 49).toNat = L := by omega
      have hcnt : cnt ≤ 40 := by omega
      have hshop : ∀ q, q < L → 0 ≤ V (0, 128, 0) q ∧ V (0, 128, 0) q < (cnt : Int) := fun q hq => by
        have := p.shop q (by omega)
        omega
      have hload : ∀ q, q < L → V (0, 129, 0) q = g 36 (V (0, 128, 0) q).toNat ∧ 1 ≤ V (0, 129, 0) q ∧ V (0, 129, 0) q ≤ 99 := fun q hq => p.load q (by omega)
      have hsh : ∀ q, q < L → (V (0, 128, 0) q).toNat < cnt ∧ g 36 (V (0, 128, 0) q).toNat = V (0, 129, 0) q := fun q hq => ⟨by have := hshop q hq; omega, (hload q hq).1.symm⟩
      have hrise : ∀ q t, q < t → t < L → (V (0, 128, 0) q).toNat < (V (0, 128, 0) t).toNat := fun q t h1 h2 => by
        have := p.rise q t h1 (by omega)
        have := hshop q (by omega)
        have := hshop t h2
        omega
      have hrest : ∀ i, i < 40 → (∀ q, q < L → (V (0, 128, 0) q).toNat ≠ i) → g 36 i = 0 := fun i hi hq => p.rest i hi (fun t ht z => hq t (by omega) (by omega))
      -- the class
      obtain ⟨V2, e1, e2, e3⟩ := few_loop (FU := zFU) (N := N) (R := R) (K := K) hc hL q1 (fun q hq => (hload q hq).2) (by decide) L 1 zFU (ku V (0, 127, 0) 8 a1) (by omega) (by unfold zFU; omega) (by rw [ku_at, if_neg (by decide), p.many, eL]) (by rw [ku_at, if_pos rfl]) (fun q _ => by rw [ku_row (by simp)])
      have e1' : FPacker_fewestCarts_L2 zFU zFU (x + 127) 1 (zX x c N (ku V (0, 127, 0) 8 a1) R K) = _ := e1
      have v6 : V2 (0, 127, 0) 6 = (L : Int) := by rw [e2 _ (by simp) (by simp), ku_at, if_neg (by decide), p.many, eL]
      have v7 : V2 (0, 127, 0) 7 = V (0, 127, 0) 7 := by rw [e2 _ (by simp) (by simp), ku_at, if_neg (by decide)]
      have vr : ∀ o, o ≠ 127 → o ≠ 130 → o ≠ 131 → V2 (0, o, 0) = V (0, o, 0) := fun o z1 z2 z3 => by rw [e2 _ (by simp [z2]) (by simp [z3]), ku_row (by simp [z1])]
      have vk : ∀ key, key ≠ (0, 127, 0) → key ≠ (0, 130, 0) → key ≠ (0, 131, 0) → V2 key = V key := fun key z1 z2 z3 => by rw [e2 key z2 z3, ku_row z1]
      -- the reference
      obtain ⟨fl, f1, f2, f3⟩ := flag_loop (FU := zFU) (m := m) (N := N') (g := gu g 0 53 a1) (r := a1) hcnt (by rw [gu_ne (by omega)]; exact ec) cnt 0 zFU 1 (by omega) (by unfold zFU; omega) (Or.inr rfl)
      have f3' : FM_carts_L31 zFU zFU m a1 1 0 (zG m N' (gu g 0 53 a1)) = _ := f3
      have r36 : gu g 0 53 a1 36 = g 36 := gu_row (by decide)
      have r0 : ∀ t, t ≠ 53 → gu g 0 53 a1 0 t = g 0 t := fun t z => gu_ne (by omega)
      have rr : ∀ a, a ≠ 0 → gu g 0 53 a1 a = g a := fun a z => gu_row z
      by_cases q3 : ∀ q, q < L → V (0, 129, 0) q ≤ a1
      · have fl1 : fl = 1 := f2.mpr ⟨rfl, fun t _ ht => by
          rw [r36]
          by_cases z : ∃ q, q < L ∧ (V (0, 128, 0) q).toNat = t
          · obtain ⟨q, z1, z2⟩ := z
            rw [← z2, (hsh q z1).2]
            exact q3 q z1
          · rw [hrest t (by omega) (fun q hq y => z ⟨q, hq, y⟩)]
            omega⟩
        subst fl1
        obtain ⟨l0, A, w1, w2, w3⟩ := fw_some (r := a1) (ld := V (0, 129, 0)) (L := L) L 1 ⟨L, by omega, by omega, pk_yes L 0 (fun _ => 0) 0 (by omega) (fun _ _ _ => rfl) (fun q _ hq => q3 q (by omega))⟩
        rw [w1] at e1'
        have e4 := e3 l0 A w1
        obtain ⟨g2, k1, k2, k3⟩ := mfew_loop (FU := zFU) (m := m) (N := N') (cnt := cnt) (g36 := g 36) (sh := fun q => (V (0, 128, 0) q).toNat) hL q1 (fun q hq => (hload q hq).2) (by decide) hcnt hsh hrise hrest L 1 zFU (gu g 0 53 a1) (by omega) (by unfold zFU; omega) w1 r36 (by rw [gu_at, if_pos rfl]) (by rw [r0 15 (by decide)]; exact ec) (fun t ht => by rw [rr 39 (by decide)]; exact p.held t ht)
        have k1' : FM_carts_L67 zFU zFU m 1 1 (zG m N' (gu g 0 53 a1)) = _ := k1
        have ke := end_loop (FU := zFU) (m := m) (N := N') (x2 := 1) (x3 := (l0 : Int)) hcnt cnt 0 zFU g2 (by omega) (by unfold zFU; omega) (by rw [k2 0 (by decide), r0 15 (by decide)]; exact ec)
        have ke' : FM_carts_L90 zFU zFU m 1 (l0 : Int) 0 (zG m N' g2) = _ := ke
        rw [if_neg (by decide)] at ke'
        have kl := keep_loop (FU := zFU) (N := N) (R := R) (K := K) hc hL L 0 zFU (ku V2 (0, 127, 0) 7 (L : Int)) (by omega) (by unfold zFU; omega) (by rw [ku_at, if_neg (by decide)]; exact v6)
        have kl' : FPacker_keepPacking_L10 zFU zFU (x + 127) 0 (zX x c N (ku V2 (0, 127, 0) 7 (L : Int)) R K) = _ := kl
        refine ⟨(l0 : Int), zX x c N (ku (kV (ku V2 (0, 127, 0) 7 (L : Int)) L 0) (0, 127, 0) 6 0) R K, zG m N' (eG g2 cnt 1 0), ?_, ?_, INV.intro (W := W) ?_⟩
        · have ew : ∀ G, FB_isWithin zFU a1 1 99 G = some 1 := fun G => by rw [eB_isWithin, if_pos q1]
          have ne : ¬ ((L : Int)) = 0 := by omega
          unfold FPacker_fewestCarts FPacker_fewestCarts_b FPacker_keepPacking FPacker_keepPacking_b
          simp (disch := omega) only [↓zcs, ↓zcn, ↓Option.bind_some, ↓zb_some, ↓zrz0b, ↓zrz1b, ↓zckb, zrz0, zrz1, ↓reduceIte, ↓xI0b hc, ↓xP0b hc, ↓xI1b hc, ↓xP1b hc, ↓xI66b hc, ↓xP66b hc, ↓xI68b hc, ↓xP68b hc, ↓xI115b hc, ↓xP115b hc, ↓xI120b hc, ↓xP120b hc, ↓xI121b hc, ↓xP121b hc, ↓xI125b hc, ↓xP125b hc, ↓xI127b hc, ↓xP127b hc, ↓xN2b hc, ↓xRo2b hc, ↓xWo2b hc, ↓xN65b hc, ↓xRo65b hc, ↓xWo65b hc, ↓xN113b hc, ↓xRo113b hc, ↓xWo113b hc, ↓xN114b hc, ↓xRo114b hc, ↓xWo114b hc, ↓xN116b hc, ↓xRo116b hc, ↓xWo116b hc, ↓xN117b hc, ↓xRo117b hc, ↓xWo117b hc, ↓xN118b hc, ↓xRo118b hc, ↓xWo118b hc, ↓xN119b hc, ↓xRo119b hc, ↓xWo119b hc, ↓xN122b hc, ↓xRo122b hc, ↓xWo122b hc, ↓xN124b hc, ↓xRo124b hc, ↓xWo124b hc, ↓xN126b hc, ↓xRo126b hc, ↓xWo126b hc, ↓xN128b hc, ↓xRo128b hc, ↓xWo128b hc, ↓xN129b hc, ↓xRo129b hc, ↓xWo129b hc, ↓xN130b hc, ↓xRo130b hc, ↓xWo130b hc, ↓xN131b hc, ↓xRo131b hc, ↓xWo131b hc, ↓xN132b hc, ↓xRo132b hc, ↓xWo132b hc, ↓xN133b hc, ↓xRo133b hc, ↓xWo133b hc, ↓xN67b hc, ↓xAo67b hc, ↓xN123b hc, ↓xAo123b hc, ↓xN3b hc, ↓xAo3b hc, ↓xN34b hc, ↓xAo34b hc, ↓xN69b hc, ↓xAo69b hc, ↓xQ0_0b hc, ↓xQ0_1b hc, ↓xQ0_2b hc, ↓xQ0_3b hc, ↓xQ0_4b hc, ↓xQ0_5b hc, ↓xQ0_6b hc, ↓xQ1_0b hc, ↓xQ1_1b hc, ↓xQ1_2b hc, ↓xQ1_3b hc, ↓xQ66_0b hc, ↓xQ66_1b hc, ↓xQ68_0b hc, ↓xQ68_1b hc, ↓xQ68_2b hc, ↓xQ68_3b hc, ↓xQ115_0b hc, ↓xQ115_1b hc, ↓xQ115_2b hc, ↓xQ115_3b hc, ↓xQ115_4b hc, ↓xQ115_5b hc, ↓xQ115_6b hc, ↓xQ120_0b hc, ↓xQ120_1b hc, ↓xQ120_2b hc, ↓xQ120_3b hc, ↓xQ125_0b hc, ↓xQ125_1b hc, ↓xQ127_0b hc, ↓xQ127_1b hc, ↓xQ127_2b hc, ↓xQ127_3b hc, ↓xQ127_4b hc, ↓xQ127_5b hc, ↓xD0 hc, ↓xD1 hc, ↓xD66 hc, ↓xD68 hc, ↓xD115 hc, ↓xD120 hc, ↓xD121 hc, ↓xD125 hc, ↓xD127 hc, ↓if_neg, ↓if_pos, ↓bde (ew _), p.many, eL, ne, ↓xD127 hc, ↓zbe e1', v6, ↓zbe kl']
        · simp (disch := omega) only [↓zcs, ↓zcn, ↓mD, ↓Option.bind_some, ↓zb_some, ↓zrz0b, ↓zrz1b, ↓zckb, zrz0, zrz1, ↓reduceIte, ↓mIb, ↓mPb, ↓zck_ofb, ↓mPob, ↓mQ1b, ↓mRo1b, ↓mWo1b, ↓mQ3b, ↓mRo2b, ↓mWo2b, ↓mQ4b, ↓mRo3b, ↓mWo3b, ↓mQ8b, ↓mRo4b, ↓mWo4b, ↓mQ9b, ↓mRo5b, ↓mWo5b, ↓mQ10b, ↓mRo6b, ↓mWo6b, ↓mQ11b, ↓mRo7b, ↓mWo7b, ↓mQ12b, ↓mRo8b, ↓mWo8b, ↓mQ13b, ↓mRo9b, ↓mWo9b, ↓mQ14b, ↓mRo10b, ↓mWo10b, ↓mQ17b, ↓mRo11b, ↓mWo11b, ↓mQ19b, ↓mRo12b, ↓mWo12b, ↓mQ20b, ↓mRo13b, ↓mWo13b, ↓mQ23b, ↓mRo14b, ↓mWo14b, ↓mQ24b, ↓mRo15b, ↓mWo15b, ↓mQ26b, ↓mRo16b, ↓mWo16b, ↓mQ27b, ↓mRo17b, ↓mWo17b, ↓mQ28b, ↓mRo18b, ↓mWo18b, ↓mQ29b, ↓mRo19b, ↓mWo19b, ↓mQ30b, ↓mRo20b, ↓mWo20b, ↓mQ32b, ↓mRo21b, ↓mWo21b, ↓mQ33b, ↓mRo22b, ↓mWo22b, ↓mQ34b, ↓mRo23b, ↓mWo23b, ↓mQ35b, ↓mRo24b, ↓mWo24b, ↓mQ36b, ↓mRo25b, ↓mWo25b, ↓mQ37b, ↓mRo26b, ↓mWo26b, ↓mQ38b, ↓mRo27b, ↓mWo27b, ↓mQ39b, ↓mRo28b, ↓mWo28b, ↓mQ40b, ↓mRo29b, ↓mWo29b, ↓mQ41b, ↓mRo30b, ↓mWo30b, ↓mQ43b, ↓mRo31b, ↓mWo31b, ↓mQ44b, ↓mRo32b, ↓mWo32b, ↓mQ45b, ↓mRo33b, ↓mWo33b, ↓mQ46b, ↓mRo34b, ↓mWo34b, ↓mQ47b, ↓mRo35b, ↓mWo35b, ↓mQ48b, ↓mRo36b, ↓mWo36b, ↓mQ50b, ↓mRo37b, ↓mWo37b, ↓mQ51b, ↓mRo38b, ↓mWo38b, ↓mQ52b, ↓mRo39b, ↓mWo39b, ↓if_neg, ↓if_pos, ↓bde (eM_within _ _ _ _), q1, q2, f3', k1', ke']
        · have ko : ∀ key, key ≠ (0, 132, 0) → key ≠ (0, 133, 0) → kV (ku V2 (0, 127, 0) 7 (L : Int)) L 0 key = ku V2 (0, 127, 0) 7 (L : Int) key := fun key z1 z2 => by
            funext j
            unfold kV
            rw [if_neg (fun z => z1 z.1), if_neg (fun z => z2 z.1)]
          have k132 : ∀ q, q < L → kV (ku V2 (0, 127, 0) 7 (L : Int)) L 0 (0, 132, 0) q = V (0, 128, 0) q := fun q hq => by
            unfold kV
            rw [if_pos ⟨rfl, by omega, hq⟩, ku_row (by simp), vr 128 (by decide) (by decide) (by decide)]
          have k133 : ∀ q, q < L → kV (ku V2 (0, 127, 0) 7 (L : Int)) L 0 (0, 133, 0) q = (A q : Int) := fun q hq => by
            unfold kV
            rw [if_neg (by simp), if_pos ⟨rfl, by omega, hq⟩, ku_row (by simp)]
            exact e4 q hq
          have go : ∀ a t, a ≠ 36 → a ≠ 37 → a ≠ 38 → (a = 0 → t ≠ 49 ∧ t ≠ 53) → eG g2 cnt 1 0 a t = g a t := fun a t z1 z2 z3 z4 => by
            unfold eG
            rw [if_neg (fun z => (z4 z.1).1 z.2), if_neg (fun z => z1 z.1), if_neg (fun z => z3 z.1), k2 a z2]
            by_cases z : a = 0
            · subst z; exact r0 t (z4 rfl).2
            · rw [rr a z]
          have y49 : eG g2 cnt 1 0 0 49 = 0 := if_pos ⟨rfl, rfl⟩
          have y36 : ∀ t, t < 40 → eG g2 cnt 1 0 36 t = 0 := fun t ht => by
            unfold eG
            rw [if_neg (by omega)]
            by_cases z : t < cnt
            · rw [if_pos ⟨rfl, by omega, z⟩]
            · rw [if_neg (by omega), if_neg (by omega), k2 36 (by decide), r36]
              exact hrest t ht (fun q hq y => by have := (hsh q hq).1; omega)
          have y38 : ∀ t, t < cnt → eG g2 cnt 1 0 38 t = if g 36 t ≤ 0 then -1 else g2 37 t := fun t ht => by
            unfold eG
            rw [if_neg (by omega), if_neg (by omega), if_pos ⟨rfl, by omega, ht, by decide⟩, k2 36 (by decide), r36]
          have y38b : ∀ t, cnt ≤ t → eG g2 cnt 1 0 38 t = g 38 t := fun t ht => by
            unfold eG
            rw [if_neg (by omega), if_neg (by omega), if_neg (by omega), k2 38 (by decide), rr 38 (by decide)]
          refine h.skip.put (W' := W) (fun a => a == 10) (fun key i q0 q => ?_) (fun a t q0 q => ?_) (p := fun _ => ?_)
          · by_cases z1 : key = (0, 127, 0)
            · subst z1
              have i6 : i ≠ 6 := fun z => by subst z; exact absurd (show true = false from q) (by decide)
              have i7 : i ≠ 7 := fun z => by subst z; exact absurd (show true = false from q) (by decide)
              have : cV (0, 127, 0) i = 0 := by
                show (if i = 6 ∨ i = 7 then 10 else 0) = 0
                rw [if_neg (by omega)]
              exact absurd this q0
            · by_cases z2 : key = (0, 132, 0)
              · subst z2; exact absurd (show true = false from q) (by decide)
              · by_cases z3 : key = (0, 133, 0)
                · subst z3; exact absurd (show true = false from q) (by decide)
                · by_cases z4 : key = (0, 130, 0)
                  · subst z4; exact absurd rfl q0
                  · by_cases z5 : key = (0, 131, 0)
                    · subst z5; exact absurd rfl q0
                    · rw [ku_row z1, ko key z2 z3, ku_row z1, vk key z1 z4 z5]
          · refine go a t (fun z => ?_) (fun z => ?_) (fun z => ?_) (fun z => ⟨fun y => ?_, fun y => ?_⟩)
            · subst z; exact absurd (show true = false from q) (by decide)
            · subst z; exact absurd rfl q0
            · subst z; exact absurd (show true = false from q) (by decide)
            · subst z; subst y; exact absurd (show true = false from q) (by decide)
            · subst z; subst y; exact absurd rfl q0
          · unfold IP
            have w6 : ku (kV (ku V2 (0, 127, 0) 7 (L : Int)) L 0) (0, 127, 0) 6 0 (0, 127, 0) 6 = 0 := by rw [ku_at, if_pos rfl]
            have w7 : ku (kV (ku V2 (0, 127, 0) 7 (L : Int)) L 0) (0, 127, 0) 6 0 (0, 127, 0) 7 = (L : Int) := by rw [ku_at, if_neg (by decide), ko _ (by simp) (by simp), ku_at, if_pos rfl]
            have w132 : ku (kV (ku V2 (0, 127, 0) 7 (L : Int)) L 0) (0, 127, 0) 6 0 (0, 132, 0) = kV (ku V2 (0, 127, 0) 7 (L : Int)) L 0 (0, 132, 0) := ku_row (by simp)
            have w133 : ku (kV (ku V2 (0, 127, 0) 7 (L : Int)) L 0) (0, 127, 0) 6 0 (0, 133, 0) = kV (ku V2 (0, 127, 0) 7 (L : Int)) L 0 (0, 133, 0) := ku_row (by simp)
            rw [y49, w6, w7, w132, w133, go 0 15 (by decide) (by decide) (by decide) (by simp)]
            refine ⟨rfl, by omega, fun t ht => absurd ht (by simp), fun s t _ ht => absurd ht (by simp), fun t ht => absurd ht (by simp), fun i hi _ => y36 i hi, by omega, fun t ht => ?_, fun i hi hn => ?_, fun i hi => ?_⟩
            · have ht' : t < L := by omega
              have s := hshop t ht'
              have hs := hsh t ht'
              have l := hload t ht'
              rw [k132 t ht', k133 t ht', y38 _ hs.1, if_neg (by omega)]
              exact ⟨s.1, by omega, k3 t ht'⟩
            · by_cases z : i < cnt
              · rw [y38 i z, if_pos]
                have := hrest i hi (fun q hq y => hn q (by omega) (by rw [k132 q hq]; have := hshop q hq; omega))
                omega
              · rw [y38b i (by omega)]
                exact p.none_ i hi (fun t ht y => by have := (p.cart t ht).2.1; omega)
            · rw [go 39 i (by decide) (by decide) (by decide) (by simp)]
              exact p.held i hi
      · obtain ⟨q, qa, qb⟩ : ∃ q, q < L ∧ a1 < V (0, 129, 0) q := by
          by_cases z : ∃ q, q < L ∧ a1 < V (0, 129, 0) q
          · exact z
          · exact absurd (fun q hq => by
              by_cases y : V (0, 129, 0) q ≤ a1
              · exact y
              · exact absurd ⟨q, hq, by omega⟩ z) q3
        have fl0 : fl = 0 := by
          rcases f1 with z | z
          · exact z
          · have := (f2.mp z).2 (V (0, 128, 0) q).toNat (by omega) (hsh q qa).1
            rw [r36, (hsh q qa).2] at this
            omega
        subst fl0
        have w1 : fw a1 (V (0, 129, 0)) L L 1 = none := fw_none L 1 (fun l' _ hl' => by
          have e := pk_no (r := a1) (ld := fun t => if t < L then V (0, 129, 0) t else 0) (fun t => by
            show 0 ≤ if t < L then V (0, 129, 0) t else 0
            split
            · rename_i z; have := hload t z; omega
            · omega) (l := l') L 0 (fun _ => 0) 0 (fun _ _ => by omega) ⟨q, by omega, by omega, by
            show a1 < if q < L then V (0, 129, 0) q else 0
            rw [if_pos qa]; exact qb⟩
          rw [← e]
          exact pk_ld (fun t ht => by rw [if_pos (by omega)]))
        rw [w1] at e1'
        have ke := end_loop (FU := zFU) (m := m) (N := N') (x2 := 0) (x3 := 1) hcnt cnt 0 zFU (gu g 0 53 a1) (by omega) (by unfold zFU; omega) (by rw [r0 15 (by decide)]; exact ec)
        have ke' : FM_carts_L90 zFU zFU m 0 1 0 (zG m N' (gu g 0 53 a1)) = _ := ke
        have k67 : FM_carts_L67 zFU zFU m 0 1 (zG m N' (gu g 0 53 a1)) = FM_carts_L90 zFU zFU m 0 1 0 (zG m N' (gu g 0 53 a1)) := by
          show FM_carts_L67 zFU (3999 + 1) m 0 1 (zG m N' (gu g 0 53 a1)) = _
          rw [FM_carts_L67, if_pos rfl]
        rw [if_pos rfl] at ke'
        refine ⟨-4, zX x c N (ku V2 (0, 127, 0) 6 0) R K, zG m N' (eG (gu g 0 53 a1) cnt 0 0), ?_, ?_, INV.intro (W := W) ?_⟩
        · have ew : ∀ G, FB_isWithin zFU a1 1 99 G = some 1 := fun G => by rw [eB_isWithin, if_pos q1]
          have ne : ¬ ((L : Int)) = 0 := by omega
          unfold FPacker_fewestCarts FPacker_fewestCarts_b
          simp (disch := omega) only [↓zcs, ↓zcn, ↓Option.bind_some, ↓zb_some, ↓zrz0b, ↓zrz1b, ↓zckb, zrz0, zrz1, ↓reduceIte, ↓xI0b hc, ↓xP0b hc, ↓xI1b hc, ↓xP1b hc, ↓xI66b hc, ↓xP66b hc, ↓xI68b hc, ↓xP68b hc, ↓xI115b hc, ↓xP115b hc, ↓xI120b hc, ↓xP120b hc, ↓xI121b hc, ↓xP121b hc, ↓xI125b hc, ↓xP125b hc, ↓xI127b hc, ↓xP127b hc, ↓xN2b hc, ↓xRo2b hc, ↓xWo2b hc, ↓xN65b hc, ↓xRo65b hc, ↓xWo65b hc, ↓xN113b hc, ↓xRo113b hc, ↓xWo113b hc, ↓xN114b hc, ↓xRo114b hc, ↓xWo114b hc, ↓xN116b hc, ↓xRo116b hc, ↓xWo116b hc, ↓xN117b hc, ↓xRo117b hc, ↓xWo117b hc, ↓xN118b hc, ↓xRo118b hc, ↓xWo118b hc, ↓xN119b hc, ↓xRo119b hc, ↓xWo119b hc, ↓xN122b hc, ↓xRo122b hc, ↓xWo122b hc, ↓xN124b hc, ↓xRo124b hc, ↓xWo124b hc, ↓xN126b hc, ↓xRo126b hc, ↓xWo126b hc, ↓xN128b hc, ↓xRo128b hc, ↓xWo128b hc, ↓xN129b hc, ↓xRo129b hc, ↓xWo129b hc, ↓xN130b hc, ↓xRo130b hc, ↓xWo130b hc, ↓xN131b hc, ↓xRo131b hc, ↓xWo131b hc, ↓xN132b hc, ↓xRo132b hc, ↓xWo132b hc, ↓xN133b hc, ↓xRo133b hc, ↓xWo133b hc, ↓xN67b hc, ↓xAo67b hc, ↓xN123b hc, ↓xAo123b hc, ↓xN3b hc, ↓xAo3b hc, ↓xN34b hc, ↓xAo34b hc, ↓xN69b hc, ↓xAo69b hc, ↓xQ0_0b hc, ↓xQ0_1b hc, ↓xQ0_2b hc, ↓xQ0_3b hc, ↓xQ0_4b hc, ↓xQ0_5b hc, ↓xQ0_6b hc, ↓xQ1_0b hc, ↓xQ1_1b hc, ↓xQ1_2b hc, ↓xQ1_3b hc, ↓xQ66_0b hc, ↓xQ66_1b hc, ↓xQ68_0b hc, ↓xQ68_1b hc, ↓xQ68_2b hc, ↓xQ68_3b hc, ↓xQ115_0b hc, ↓xQ115_1b hc, ↓xQ115_2b hc, ↓xQ115_3b hc, ↓xQ115_4b hc, ↓xQ115_5b hc, ↓xQ115_6b hc, ↓xQ120_0b hc, ↓xQ120_1b hc, ↓xQ120_2b hc, ↓xQ120_3b hc, ↓xQ125_0b hc, ↓xQ125_1b hc, ↓xQ127_0b hc, ↓xQ127_1b hc, ↓xQ127_2b hc, ↓xQ127_3b hc, ↓xQ127_4b hc, ↓xQ127_5b hc, ↓xD0 hc, ↓xD1 hc, ↓xD66 hc, ↓xD68 hc, ↓xD115 hc, ↓xD120 hc, ↓xD121 hc, ↓xD125 hc, ↓xD127 hc, ↓if_neg, ↓if_pos, ↓bde (ew _), p.many, eL, ne, ↓xD127 hc, ↓zbe e1', v6]
        · simp (disch := omega) only [↓zcs, ↓zcn, ↓mD, ↓Option.bind_some, ↓zb_some, ↓zrz0b, ↓zrz1b, ↓zckb, zrz0, zrz1, ↓reduceIte, ↓mIb, ↓mPb, ↓zck_ofb, ↓mPob, ↓mQ1b, ↓mRo1b, ↓mWo1b, ↓mQ3b, ↓mRo2b, ↓mWo2b, ↓mQ4b, ↓mRo3b, ↓mWo3b, ↓mQ8b, ↓mRo4b, ↓mWo4b, ↓mQ9b, ↓mRo5b, ↓mWo5b, ↓mQ10b, ↓mRo6b, ↓mWo6b, ↓mQ11b, ↓mRo7b, ↓mWo7b, ↓mQ12b, ↓mRo8b, ↓mWo8b, ↓mQ13b, ↓mRo9b, ↓mWo9b, ↓mQ14b, ↓mRo10b, ↓mWo10b, ↓mQ17b, ↓mRo11b, ↓mWo11b, ↓mQ19b, ↓mRo12b, ↓mWo12b, ↓mQ20b, ↓mRo13b, ↓mWo13b, ↓mQ23b, ↓mRo14b, ↓mWo14b, ↓mQ24b, ↓mRo15b, ↓mWo15b, ↓mQ26b, ↓mRo16b, ↓mWo16b, ↓mQ27b, ↓mRo17b, ↓mWo17b, ↓mQ28b, ↓mRo18b, ↓mWo18b, ↓mQ29b, ↓mRo19b, ↓mWo19b, ↓mQ30b, ↓mRo20b, ↓mWo20b, ↓mQ32b, ↓mRo21b, ↓mWo21b, ↓mQ33b, ↓mRo22b, ↓mWo22b, ↓mQ34b, ↓mRo23b, ↓mWo23b, ↓mQ35b, ↓mRo24b, ↓mWo24b, ↓mQ36b, ↓mRo25b, ↓mWo25b, ↓mQ37b, ↓mRo26b, ↓mWo26b, ↓mQ38b, ↓mRo27b, ↓mWo27b, ↓mQ39b, ↓mRo28b, ↓mWo28b, ↓mQ40b, ↓mRo29b, ↓mWo29b, ↓mQ41b, ↓mRo30b, ↓mWo30b, ↓mQ43b, ↓mRo31b, ↓mWo31b, ↓mQ44b, ↓mRo32b, ↓mWo32b, ↓mQ45b, ↓mRo33b, ↓mWo33b, ↓mQ46b, ↓mRo34b, ↓mWo34b, ↓mQ47b, ↓mRo35b, ↓mWo35b, ↓mQ48b, ↓mRo36b, ↓mWo36b, ↓mQ50b, ↓mRo37b, ↓mWo37b, ↓mQ51b, ↓mRo38b, ↓mWo38b, ↓mQ52b, ↓mRo39b, ↓mWo39b, ↓if_neg, ↓if_pos, ↓bde (eM_within _ _ _ _), q1, q2, f3', k67, ke']
        · have go : ∀ a t, a ≠ 36 → (a = 0 → t ≠ 49 ∧ t ≠ 53) → eG (gu g 0 53 a1) cnt 0 0 a t = g a t := fun a t z1 z4 => by
            unfold eG
            rw [if_neg (fun z => (z4 z.1).1 z.2), if_neg (fun z => z1 z.1), if_neg (fun z => z.2.2.2 rfl)]
            by_cases z : a = 0
            · subst z; exact r0 t (z4 rfl).2
            · rw [rr a z]
          have y49 : eG (gu g 0 53 a1) cnt 0 0 0 49 = 0 := if_pos ⟨rfl, rfl⟩
          have y36 : ∀ t, t < 40 → eG (gu g 0 53 a1) cnt 0 0 36 t = 0 := fun t ht => by
            unfold eG
            rw [if_neg (by omega)]
            by_cases z : t < cnt
            · rw [if_pos ⟨rfl, by omega, z⟩]
            · rw [if_neg (by omega), if_neg (by omega), r36]
              exact hrest t ht (fun q hq y => by have := (hsh q hq).1; omega)
          refine h.skip.put (W' := W) (fun a => a == 10) (fun key i q0 q => ?_) (fun a t q0 q => ?_) (p := fun _ => ?_)
          · by_cases z1 : key = (0, 127, 0)
            · subst z1
              have i6 : i ≠ 6 := fun z => by subst z; exact absurd (show true = false from q) (by decide)
              have i7 : i ≠ 7 := fun z => by subst z; exact absurd (show true = false from q) (by decide)
              have : cV (0, 127, 0) i = 0 := by
                show (if i = 6 ∨ i = 7 then 10 else 0) = 0
                rw [if_neg (by omega)]
              exact absurd this q0
            · by_cases z4 : key = (0, 130, 0)
              · subst z4; exact absurd rfl q0
              · by_cases z5 : key = (0, 131, 0)
                · subst z5; exact absurd rfl q0
                · rw [ku_row z1, vk key z1 z4 z5]
          · refine go a t (fun z => ?_) (fun z => ⟨fun y => ?_, fun y => ?_⟩)
            · subst z; exact absurd (show true = false from q) (by decide)
            · subst z; subst y; exact absurd (show true = false from q) (by decide)
            · subst z; subst y; exact absurd rfl q0
          · unfold IP
            have w6 : ku V2 (0, 127, 0) 6 0 (0, 127, 0) 6 = 0 := by rw [ku_at, if_pos rfl]
            have w7 : ku V2 (0, 127, 0) 6 0 (0, 127, 0) 7 = V (0, 127, 0) 7 := by rw [ku_at, if_neg (by decide), v7]
            have w132 : ku V2 (0, 127, 0) 6 0 (0, 132, 0) = V (0, 132, 0) := by rw [ku_row (by simp), vr 132 (by decide) (by decide) (by decide)]
            have w133 : ku V2 (0, 127, 0) 6 0 (0, 133, 0) = V (0, 133, 0) := by rw [ku_row (by simp), vr 133 (by decide) (by decide) (by decide)]
            have g38 : eG (gu g 0 53 a1) cnt 0 0 38 = g 38 := funext fun t => go 38 t (by decide) (by simp)
            have g39 : eG (gu g 0 53 a1) cnt 0 0 39 = g 39 := funext fun t => go 39 t (by decide) (by simp)
            rw [y49, w6, w7, w132, w133, g38, g39, go 0 15 (by decide) (by simp)]
            exact ⟨rfl, by omega, fun t ht => absurd ht (by simp), fun s t _ ht => absurd ht (by simp), fun t ht => absurd ht (by simp), fun i hi _ => y36 i hi, p.packed0, p.cart, p.none_, p.held⟩
  · refine ⟨-1, zX x c N V R K, zG m N' g, ?_, ?_, INV.intro h.skip⟩
    · simp (disch := omega) only [↓zcs, ↓zcn, ↓Option.bind_some, ↓zb_some, ↓zrz0b, ↓zrz1b, ↓zckb, zrz0, zrz1, ↓reduceIte, ↓xI0b hc, ↓xP0b hc, ↓xI1b hc, ↓xP1b hc, ↓xI66b hc, ↓xP66b hc, ↓xI68b hc, ↓xP68b hc, ↓xI115b hc, ↓xP115b hc, ↓xI120b hc, ↓xP120b hc, ↓xI121b hc, ↓xP121b hc, ↓xI125b hc, ↓xP125b hc, ↓xI127b hc, ↓xP127b hc, ↓xN2b hc, ↓xRo2b hc, ↓xWo2b hc, ↓xN65b hc, ↓xRo65b hc, ↓xWo65b hc, ↓xN113b hc, ↓xRo113b hc, ↓xWo113b hc, ↓xN114b hc, ↓xRo114b hc, ↓xWo114b hc, ↓xN116b hc, ↓xRo116b hc, ↓xWo116b hc, ↓xN117b hc, ↓xRo117b hc, ↓xWo117b hc, ↓xN118b hc, ↓xRo118b hc, ↓xWo118b hc, ↓xN119b hc, ↓xRo119b hc, ↓xWo119b hc, ↓xN122b hc, ↓xRo122b hc, ↓xWo122b hc, ↓xN124b hc, ↓xRo124b hc, ↓xWo124b hc, ↓xN126b hc, ↓xRo126b hc, ↓xWo126b hc, ↓xN128b hc, ↓xRo128b hc, ↓xWo128b hc, ↓xN129b hc, ↓xRo129b hc, ↓xWo129b hc, ↓xN130b hc, ↓xRo130b hc, ↓xWo130b hc, ↓xN131b hc, ↓xRo131b hc, ↓xWo131b hc, ↓xN132b hc, ↓xRo132b hc, ↓xWo132b hc, ↓xN133b hc, ↓xRo133b hc, ↓xWo133b hc, ↓xN67b hc, ↓xAo67b hc, ↓xN123b hc, ↓xAo123b hc, ↓xN3b hc, ↓xAo3b hc, ↓xN34b hc, ↓xAo34b hc, ↓xN69b hc, ↓xAo69b hc, ↓xQ0_0b hc, ↓xQ0_1b hc, ↓xQ0_2b hc, ↓xQ0_3b hc, ↓xQ0_4b hc, ↓xQ0_5b hc, ↓xQ0_6b hc, ↓xQ1_0b hc, ↓xQ1_1b hc, ↓xQ1_2b hc, ↓xQ1_3b hc, ↓xQ66_0b hc, ↓xQ66_1b hc, ↓xQ68_0b hc, ↓xQ68_1b hc, ↓xQ68_2b hc, ↓xQ68_3b hc, ↓xQ115_0b hc, ↓xQ115_1b hc, ↓xQ115_2b hc, ↓xQ115_3b hc, ↓xQ115_4b hc, ↓xQ115_5b hc, ↓xQ115_6b hc, ↓xQ120_0b hc, ↓xQ120_1b hc, ↓xQ120_2b hc, ↓xQ120_3b hc, ↓xQ125_0b hc, ↓xQ125_1b hc, ↓xQ127_0b hc, ↓xQ127_1b hc, ↓xQ127_2b hc, ↓xQ127_3b hc, ↓xQ127_4b hc, ↓xQ127_5b hc, ↓xD0 hc, ↓xD1 hc, ↓xD66 hc, ↓xD68 hc, ↓xD115 hc, ↓xD120 hc, ↓xD121 hc, ↓xD125 hc, ↓xD127 hc, ↓if_neg, ↓if_pos, ↓bde (eB_isWithin _ _ _ _), q1]
    · simp (disch := omega) only [↓zcs, ↓zcn, ↓mD, ↓Option.bind_some, ↓zb_some, ↓zrz0b, ↓zrz1b, ↓zckb, zrz0, zrz1, ↓reduceIte, ↓mIb, ↓mPb, ↓zck_ofb, ↓mPob, ↓mQ1b, ↓mRo1b, ↓mWo1b, ↓mQ3b, ↓mRo2b, ↓mWo2b, ↓mQ4b, ↓mRo3b, ↓mWo3b, ↓mQ8b, ↓mRo4b, ↓mWo4b, ↓mQ9b, ↓mRo5b, ↓mWo5b, ↓mQ10b, ↓mRo6b, ↓mWo6b, ↓mQ11b, ↓mRo7b, ↓mWo7b, ↓mQ12b, ↓mRo8b, ↓mWo8b, ↓mQ13b, ↓mRo9b, ↓mWo9b, ↓mQ14b, ↓mRo10b, ↓mWo10b, ↓mQ17b, ↓mRo11b, ↓mWo11b, ↓mQ19b, ↓mRo12b, ↓mWo12b, ↓mQ20b, ↓mRo13b, ↓mWo13b, ↓mQ23b, ↓mRo14b, ↓mWo14b, ↓mQ24b, ↓mRo15b, ↓mWo15b, ↓mQ26b, ↓mRo16b, ↓mWo16b, ↓mQ27b, ↓mRo17b, ↓mWo17b, ↓mQ28b, ↓mRo18b, ↓mWo18b, ↓mQ29b, ↓mRo19b, ↓mWo19b, ↓mQ30b, ↓mRo20b, ↓mWo20b, ↓mQ32b, ↓mRo21b, ↓mWo21b, ↓mQ33b, ↓mRo22b, ↓mWo22b, ↓mQ34b, ↓mRo23b, ↓mWo23b, ↓mQ35b, ↓mRo24b, ↓mWo24b, ↓mQ36b, ↓mRo25b, ↓mWo25b, ↓mQ37b, ↓mRo26b, ↓mWo26b, ↓mQ38b, ↓mRo27b, ↓mWo27b, ↓mQ39b, ↓mRo28b, ↓mWo28b, ↓mQ40b, ↓mRo29b, ↓mWo29b, ↓mQ41b, ↓mRo30b, ↓mWo30b, ↓mQ43b, ↓mRo31b, ↓mWo31b, ↓mQ44b, ↓mRo32b, ↓mWo32b, ↓mQ45b, ↓mRo33b, ↓mWo33b, ↓mQ46b, ↓mRo34b, ↓mWo34b, ↓mQ47b, ↓mRo35b, ↓mWo35b, ↓mQ48b, ↓mRo36b, ↓mWo36b, ↓mQ50b, ↓mRo37b, ↓mWo37b, ↓mQ51b, ↓mRo38b, ↓mWo38b, ↓mQ52b, ↓mRo39b, ↓mWo39b, ↓if_neg, ↓if_pos, ↓bde (eM_within _ _ _ _), q1]
end CTX
