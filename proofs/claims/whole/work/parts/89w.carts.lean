/-! ===== carts: the class's packing ===== -/
def CP (x : Nat) (c : Nat → Key) (N : Nat) (R : Key → Nat → Option Nat) (K : Key → Option (Nat × Nat)) (res : Option (Nat → Nat)) (V : Key → Nat → Int) (p L : Nat) (e : Option (Int × Hp)) : Prop := ∃ V' : Key → Nat → Int, e = some (if res.isSome = true then 1 else 0, zX x c N V' R K) ∧ (∀ key, key ≠ (0, 130, 0) → key ≠ (0, 131, 0) → V' key = V key) ∧ (∀ q, q < p → V' (0, 130, 0) q = V (0, 130, 0) q) ∧ (res = none → V' (0, 131, 0) = V (0, 131, 0)) ∧ (∀ A, res = some A → ∀ q, p ≤ q → q < L → V' (0, 130, 0) q = (A q : Int))
def LX (V : Key → Nat → Int) (r : Int) (ld : Nat → Int) (L : Nat) : Prop := V (0, 127, 0) 6 = (L : Int) ∧ V (0, 127, 0) 8 = r ∧ (∀ q, q < L → V (0, 129, 0) q = ld q) ∧ (∀ t, t < 10 → 0 ≤ V (0, 131, 0) t ∧ V (0, 131, 0) t ≤ 99)
section CPX
variable {k x N FU : Nat} {c : Nat → Key} {R : Key → Nat → Option Nat} {K : Key → Option (Nat × Nat)} {L l p u : Nat} {r : Int} {ld : Nat → Int}
theorem zmaxN {a b : Nat} {y z : Int} (hy : y = (a : Int)) (hz : z = (b : Int)) : zmax y z = ((max a b : Nat) : Int) := by
  unfold zmax
  split <;> omega
theorem can_loop (hc : CX x c) (hL : L ≤ 10) (hr : 1 ≤ r ∧ r ≤ 99) (hld : ∀ q, q < L → 1 ≤ ld q ∧ ld q ≤ 99) (hl : l ≤ L) (hp : p < L) (hu : u ≤ 10) {rec : Nat → Int → Int → Int → Hp → Option (Int × Hp)} {f : (Nat → Int) → Nat → Option (Nat → Nat)} (hrec : ∀ (V1 : Key → Nat → Int) (cc : Nat), LX V1 r ld L → cc < l → cc ≤ u → CP x c N R K (f (V1 (0, 131, 0)) cc) V1 (p + 1) L (rec (x + 127) ((p + 1 : Nat) : Int) ((max u (cc + 1) : Nat) : Int) (l : Int) (zX x c N V1 R K))) : ∀ (d cc fu : Nat) (V : Key → Nat → Int), d + cc = min (u + 1) l → d < fu → LX V r ld L → CP x c N R K (pkL r (ld p) (V (0, 131, 0)) p f d cc) V p L (FPacker_canPack_L29 FU rec fu (x + 127) (p : Int) (u : Int) (l : Int) (ld p) (cc : Int) (zX x c N V R K)) := by
  have w := hld p hp
  intro d
  induction d with
  | zero =>
    intro cc fu V hd hf hV
    obtain ⟨fu, rfl⟩ : ∃ fu', fu = fu' + 1 := ⟨fu - 1, by omega⟩
    rw [FPacker_canPack_L29, pkL]
    refine ⟨V, ?_, fun _ _ _ => rfl, fun _ _ => rfl, fun _ => rfl, fun A e => absurd e (by simp)⟩
    by_cases c1 : (cc : Int) ≤ (u : Int)
    · rw [if_pos c1, if_neg (by omega), zrz0b]
      rfl
    · rw [if_neg c1, zrz0b]
      rfl
  | succ d ih =>
    intro cc fu V hd hf hV
    obtain ⟨fu, rfl⟩ : ∃ fu', fu = fu' + 1 := ⟨fu - 1, by omega⟩
    have V6 := hV.1
    have V8 := hV.2.1
    have V9 := hV.2.2.1
    have V1b := hV.2.2.2 cc (by omega)
    have cc1 : (cc : Int) + 1 = ((cc + 1 : Nat) : Int) := by omega
    have pp1 : (p : Int) + 1 = ((p + 1 : Nat) : Int) := by omega
    have a1 := atF (FU := FU) (N := N) (V := V) (R := R) (K := K) hc (o := 131) (by omega) (xK131 hc) (j := cc) (by omega)
    rw [FPacker_canPack_L29, if_pos (by omega), if_pos (by omega), xQ127_3b hc, bde a1, zckb (by omega), xI127b hc, V8, pkL]
    by_cases c1 : V (0, 131, 0) cc + ld p ≤ r
    · have a2 := putF (FU := FU) (N := N) (V := V) (R := R) (K := K) hc (o := 131) (by omega) (xK131 hc) (j := cc) (by omega) (V (0, 131, 0) cc + ld p)
      have a3 := putF (FU := FU) (N := N) (V := ku V (0, 131, 0) cc (V (0, 131, 0) cc + ld p)) (R := R) (K := K) hc (o := 130) (by omega) (xK130 hc) (j := p) (by omega) (cc : Int)
      have r1 : ku (ku V (0, 131, 0) cc (V (0, 131, 0) cc + ld p)) (0, 130, 0) p (cc : Int) (0, 131, 0) = hup (V (0, 131, 0)) cc (V (0, 131, 0) cc + ld p) := by
        funext t
        rw [ku_row (by simp), ku_at]
        rfl
      have lx : LX (ku (ku V (0, 131, 0) cc (V (0, 131, 0) cc + ld p)) (0, 130, 0) p (cc : Int)) r ld L := by
        refine ⟨?_, ?_, fun q hq => ?_, fun t ht => ?_⟩
        · rw [ku_row (by simp), ku_row (by simp)]; exact V6
        · rw [ku_row (by simp), ku_row (by simp)]; exact V8
        · rw [ku_row (by simp), ku_row (by simp)]; exact V9 q hq
        · have := hV.2.2.2 t ht
          rw [r1]
          unfold hup
          split <;> omega
      obtain ⟨V2, e1, e2, e3, e4, e5⟩ := hrec _ cc lx (by omega) (by omega)
      rw [r1] at e1 e4 e5
      rw [if_pos c1, if_pos c1, xQ127_3b hc, xQ127_3b hc, bde a1, zckb (by omega), zbe a2, xQ127_2b hc, zbe a3, zckb (by omega), zckb (by omega), Option.bind_some, cc1, pp1, zmaxN (a := u) (b := cc + 1) rfl rfl, zbe e1]
      cases q : f (hup (V (0, 131, 0)) cc (V (0, 131, 0) cc + ld p)) cc with
      | some A =>
        rw [q] at e4 e5
        refine ⟨V2, ?_, fun key k1 k2 => ?_, fun t ht => ?_, fun e => absurd e (by simp), fun B e t t1 t2 => ?_⟩
        · rw [if_neg (by simp), zrz1b]
          rfl
        · rw [e2 key k1 k2, ku_row k1, ku_row k2]
        · rw [e3 t (by omega), ku_at, if_neg (by omega), ku_row (by simp)]
        · have eB : (fun q => if q = p then cc else A q) = B := Option.some.inj e
          rw [← eB]
          by_cases t3 : t = p
          · subst t3
            rw [e3 t (by omega), ku_at, if_pos rfl]
            show (cc : Int) = ((if t = t then cc else A t : Nat) : Int)
            rw [if_pos rfl]
          · show V2 (0, 130, 0) t = ((if t = p then cc else A t : Nat) : Int)
            rw [if_neg t3]
            exact e5 A rfl t (by omega) t2
      | none =>
        rw [q] at e4
        have r2 := e4 rfl
        have b0 : V2 (0, 131, 0) cc = V (0, 131, 0) cc + ld p := by rw [r2]; exact hup_at
        have a4 := atF (FU := FU) (N := N) (V := V2) (R := R) (K := K) hc (o := 131) (by omega) (xK131 hc) (j := cc) (by omega)
        rw [b0] at a4
        have a5 := putF (FU := FU) (N := N) (V := V2) (R := R) (K := K) hc (o := 131) (by omega) (xK131 hc) (j := cc) (by omega) (V (0, 131, 0) cc + ld p - ld p)
        have r3 : ku V2 (0, 131, 0) cc (V (0, 131, 0) cc + ld p - ld p) (0, 131, 0) = V (0, 131, 0) := by
          funext t
          rw [ku_at, r2]
          by_cases e : t = cc
          · rw [if_pos e, e]; omega
          · rw [if_neg e, hup_o e]
        have lx3 : LX (ku V2 (0, 131, 0) cc (V (0, 131, 0) cc + ld p - ld p)) r ld L := by
          refine ⟨?_, ?_, fun q hq => ?_, fun t ht => ?_⟩
          · rw [ku_row (by simp), e2 _ (by simp) (by simp), ku_row (by simp), ku_row (by simp)]; exact V6
          · rw [ku_row (by simp), e2 _ (by simp) (by simp), ku_row (by simp), ku_row (by simp)]; exact V8
          · rw [ku_row (by simp), e2 _ (by simp) (by simp), ku_row (by simp), ku_row (by simp)]; exact V9 q hq
          · rw [r3]; exact hV.2.2.2 t ht
        obtain ⟨V4, k1, k2, k3, k4, k5⟩ := ih (cc + 1) fu _ (by omega) (by omega) lx3
        rw [r3] at k1 k4 k5
        refine ⟨V4, ?_, fun key z1 z2 => ?_, fun t ht => ?_, fun e => ?_, k5⟩
        · rw [if_pos (by simp), xQ127_3b hc, xQ127_3b hc, bde a4, zckb (by omega), zbe a5, zckb (by omega)]
          exact k1
        · rw [k2 key z1 z2, ku_row z2, e2 key z1 z2, ku_row z1, ku_row z2]
        · rw [k3 t ht, ku_row (by simp), e3 t (by omega), ku_at, if_neg (by omega), ku_row (by simp)]
        · rw [k4 e]
    · obtain ⟨V4, k1, k2, k3, k4, k5⟩ := ih (cc + 1) fu V (by omega) (by omega) hV
      rw [if_neg c1, if_neg c1, zckb (by omega), cc1]
      exact ⟨V4, k1, k2, k3, k4, k5⟩
theorem can_X (hc : CX x c) (hL : L ≤ 10) (hr : 1 ≤ r ∧ r ≤ 99) (hld : ∀ q, q < L → 1 ≤ ld q ∧ ld q ≤ 99) (hl : l ≤ L) (hFU : 20 ≤ FU) : ∀ (n p u D : Nat) (V : Key → Nat → Int), p + n = L → n < D → u ≤ 10 → LX V r ld L → CP x c N R K (pk r ld n p (V (0, 131, 0)) u l) V p L (FPacker_canPack_n FU D (x + 127) (p : Int) (u : Int) (l : Int) (zX x c N V R K)) := by
  intro n
  induction n with
  | zero =>
    intro p u D V hp hD hu hV
    obtain ⟨D, rfl⟩ : ∃ D', D = D' + 1 := ⟨D - 1, by omega⟩
    have V6 := hV.1
    rw [FPacker_canPack_n]
    unfold FPacker_canPack FPacker_canPack_b
    rw [xD127 hc, xI127b hc, V6, if_neg (by omega), zrz1b]
    exact ⟨V, rfl, fun _ _ _ => rfl, fun _ _ => rfl, fun e => absurd e (by simp [pk]), fun A _ q q1 q2 => by omega⟩
  | succ n ih =>
    intro p u D V hp hD hu hV
    obtain ⟨D, rfl⟩ : ∃ D', D = D' + 1 := ⟨D - 1, by omega⟩
    have V6 := hV.1
    have V9 := hV.2.2.1
    have a1 := atF (FU := FU) (N := N) (V := V) (R := R) (K := K) hc (o := 129) (by omega) (xK129 hc) (j := p) (by omega)
    rw [V9 p (by omega)] at a1
    rw [FPacker_canPack_n]
    unfold FPacker_canPack FPacker_canPack_b
    rw [xD127 hc, xI127b hc, V6, if_pos (by omega), if_pos (by omega), xQ127_1b hc, bde a1, pk]
    exact can_loop hc hL hr hld hl (by omega) hu (fun V1 cc h1 h2 h3 => ih (p + 1) (max u (cc + 1)) D V1 (by omega) (by omega) (by omega) h1) (min (u + 1) l) 0 FU V (by omega) (by omega) hV
end CPX
/-! ===== carts: the reference's packing ===== -/
def MP (m N : Nat) (sh : Nat → Nat) (L : Nat) (res : Option (Nat → Nat)) (g : Nat → Nat → Int) (p s : Nat) (e : Option (Int × Hp)) : Prop := ∃ g' : Nat → Nat → Int, e = some (if res.isSome = true then 1 else 0, zG m N g') ∧ (∀ a, a ≠ 37 → g' a = g a) ∧ (∀ t, t < s → g' 37 t = g 37 t) ∧ (∀ A, res = some A → ∀ q, p ≤ q → q < L → g' 37 (sh q) = (A q : Int))
section CPM
variable {m N FU : Nat} {L l p u s : Nat} {r : Int} {ld : Nat → Int} {sh : Nat → Nat}
theorem mpk_loop (hL : L ≤ 10) (hr : 1 ≤ r ∧ r ≤ 99) (hl : l ≤ L) (hu : u ≤ 10) (hs : s < 40) (hsh : sh p = s) (hw : 1 ≤ ld p ∧ ld p ≤ 99) {rec : Nat → Int → Int → Int → Hp → Option (Int × Hp)} {f : (Nat → Int) → Nat → Option (Nat → Nat)} {g36 : Nat → Int} (h36 : g36 s = ld p) {cnt : Int} (hrec : ∀ (g1 : Nat → Nat → Int) (cc : Nat), g1 36 = g36 → g1 0 53 = r → g1 0 15 = cnt → (∀ t, t < 10 → 0 ≤ g1 39 t ∧ g1 39 t ≤ 99) → cc < l → cc ≤ u → MP m N sh L (f (g1 39) cc) g1 (p + 1) (s + 1) (rec m ((s + 1 : Nat) : Int) ((max u (cc + 1) : Nat) : Int) (l : Int) (zG m N g1))) : ∀ (d cc fu : Nat) (g : Nat → Nat → Int), d + cc = min (u + 1) l → d < fu → g 36 = g36 → g 0 53 = r → g 0 15 = cnt → (∀ t, t < 10 → 0 ≤ g 39 t ∧ g 39 t ≤ 99) → MP m N sh L (pkL r (ld p) (g 39) p f d cc) g p s (FM_pack_L32 FU rec fu m (s : Int) (u : Int) (l : Int) (cc : Int) (zG m N g)) := by
  intro d
  induction d with
  | zero =>
    intro cc fu g hd hf q36 q53 q15 hg
    obtain ⟨fu, rfl⟩ : ∃ fu', fu = fu' + 1 := ⟨fu - 1, by omega⟩
    rw [FM_pack_L32, pkL]
    refine ⟨g, ?_, fun _ _ => rfl, fun _ _ => rfl, fun A e => absurd e (by simp)⟩
    by_cases c1 : (cc : Int) ≤ (u : Int)
    · rw [if_pos c1, if_neg (by omega), zrz0b]
      rfl
    · rw [if_neg c1, zrz0b]
      rfl
  | succ d ih =>
    intro cc fu g hd hf q36 q53 q15 hg
    obtain ⟨fu, rfl⟩ : ∃ fu', fu = fu' + 1 := ⟨fu - 1, by omega⟩
    have b1 := hg cc (by omega)
    have cc1 : (cc : Int) + 1 = ((cc + 1 : Nat) : Int) := by omega
    have ss1 : (s : Int) + 1 = ((s + 1 : Nat) : Int) := by omega
    have tc : (cc : Int).toNat = cc := by omega
    have ts : (s : Int).toNat = s := by omega
    have l0 : g 36 s = ld p := by rw [q36]; exact h36
    rw [FM_pack_L32, if_pos (by omega), if_pos (by omega), mQ52b, mRo39b (by omega), tc, mQ48b, mRo36b (by omega), ts, l0, zckb (by omega), mIb, q53, pkL]
    by_cases c1 : g 39 cc + ld p ≤ r
    · have r1 : gu (gu g 39 cc (g 39 cc + ld p)) 37 s (cc : Int) 39 = hup (g 39) cc (g 39 cc + ld p) := by
        funext t
        rw [gu_ne (by omega), gu_at]
        rfl
      have o1 : ∀ a, a ≠ 37 → a ≠ 39 → gu (gu g 39 cc (g 39 cc + ld p)) 37 s (cc : Int) a = g a := fun a z1 z2 => by rw [gu_row z1, gu_row z2]
      obtain ⟨g2, e1, e2, e3, e5⟩ := hrec (gu (gu g 39 cc (g 39 cc + ld p)) 37 s (cc : Int)) cc (by rw [o1 36 (by decide) (by decide)]; exact q36) (by rw [o1 0 (by decide) (by decide)]; exact q53) (by rw [o1 0 (by decide) (by decide)]; exact q15) (fun t ht => by
        have := hg t ht
        rw [r1]
        unfold hup
        split <;> omega) (by omega) (by omega)
      rw [r1] at e1 e5
      have r2 : g2 39 = hup (g 39) cc (g 39 cc + ld p) := by rw [e2 39 (by decide), r1]
      have l2 : g2 36 s = ld p := by rw [e2 36 (by decide), o1 36 (by decide) (by decide)]; exact l0
      have b2 : g2 39 cc = g 39 cc + ld p := by rw [r2]; exact hup_at
      have B : ∀ y2 : Int, y2 = ((max u (cc + 1) : Nat) : Int) → MP m N sh L (match f (hup (g 39) cc (g 39 cc + ld p)) cc with | some A => some (fun q => if q = p then cc else A q) | none => pkL r (ld p) (g 39) p f d (cc + 1)) g p s (FM_pack_B106 FU rec (FM_pack_L32 FU rec fu) m (s : Int) (u : Int) (l : Int) (cc : Int) m ((s + 1 : Nat) : Int) y2 (zG m N (gu (gu g 39 cc (g 39 cc + ld p)) 37 s (cc : Int)))) := by
        intro y2 hy
        subst hy
        have r3 : gu g2 39 cc (g 39 cc + ld p - ld p) 39 = g 39 := by
          funext t
          rw [gu_at, r2]
          by_cases e : t = cc
          · rw [if_pos e, e]; omega
          · rw [if_neg e, hup_o e]
        have o3 : ∀ a, a ≠ 37 → gu g2 39 cc (g 39 cc + ld p - ld p) a = g a := fun a z1 => by
          by_cases z2 : a = 39
          · rw [z2]; exact r3
          · rw [gu_row z2, e2 a z1, o1 a z1 z2]
        unfold FM_pack_B106
        rw [zbe e1, mQ52b, mRo39b (by omega), tc, mQ48b, mRo36b (by omega), ts, l2, b2, zckb (by omega), mWo39b (by omega), tc]
        cases q : f (hup (g 39) cc (g 39 cc + ld p)) cc with
        | some A =>
          rw [q] at e5
          refine ⟨gu g2 39 cc (g 39 cc + ld p - ld p), ?_, o3, fun t ht => ?_, fun B e t t1 t2 => ?_⟩
          · rw [if_neg (by simp), zrz1b]
            rfl
          · rw [gu_row (by decide), e3 t (by omega), gu_at, if_neg (by omega), gu_row (by decide)]
          · have eB : (fun q => if q = p then cc else A q) = B := Option.some.inj e
            rw [← eB, gu_row (by decide)]
            by_cases t3 : t = p
            · subst t3
              rw [hsh, e3 s (by omega), gu_at, if_pos rfl]
              show (cc : Int) = ((if t = t then cc else A t : Nat) : Int)
              rw [if_pos rfl]
            · show g2 37 (sh t) = ((if t = p then cc else A t : Nat) : Int)
              rw [if_neg t3]
              exact e5 A rfl t (by omega) t2
        | none =>
          obtain ⟨g4, k1, k2, k3, k5⟩ := ih (cc + 1) fu (gu g2 39 cc (g 39 cc + ld p - ld p)) (by omega) (by omega) (by rw [o3 36 (by decide)]; exact q36) (by rw [o3 0 (by decide)]; exact q53) (by rw [o3 0 (by decide)]; exact q15) (fun t ht => by rw [r3]; exact hg t ht)
          rw [r3] at k1 k5
          refine ⟨g4, ?_, fun a z => by rw [k2 a z, o3 a z], fun t ht => ?_, k5⟩
          · rw [if_pos (by simp), zckb (by omega), cc1]
            exact k1
          · rw [k3 t ht, gu_row (by decide), e3 t (by omega), gu_at, if_neg (by omega), gu_row (by decide)]
      rw [if_pos c1, if_pos c1, mQ52b, mRo39b (by omega), tc, mQ48b, mRo36b (by omega), ts, l0, zckb (by omega), mWo39b (by omega), tc, mQ50b, mWo37b (by omega), ts, zckb (by omega), ss1]
      by_cases c2 : (cc : Int) = (u : Int)
      · rw [if_pos c2, zckb (by omega)]
        exact B _ (by omega)
      · rw [if_neg c2]
        exact B _ (by omega)
    · obtain ⟨g4, k1, k2, k3, k5⟩ := ih (cc + 1) fu g (by omega) (by omega) q36 q53 q15 hg
      rw [if_neg c1, if_neg c1, zckb (by omega), cc1]
      exact ⟨g4, k1, k2, k3, k5⟩
theorem pack_M (hL : L ≤ 10) (hr : 1 ≤ r ∧ r ≤ 99) (hld : ∀ q, q < L → 1 ≤ ld q ∧ ld q ≤ 99) (hl : l ≤ L) (hFU : 60 ≤ FU) {g36 : Nat → Int} {cnt : Nat} (hcnt : cnt ≤ 40) (hsh : ∀ q, q < L → sh q < cnt ∧ g36 (sh q) = ld q) (hrise : ∀ q t, q < t → t < L → sh q < sh t) (hrest : ∀ i, i < 40 → (∀ q, q < L → sh q ≠ i) → g36 i = 0) : ∀ (e s n p u D : Nat) (g : Nat → Nat → Int), e + s = cnt → e < D → p + n = L → (∀ q, q < p → sh q < s) → (∀ q, p ≤ q → q < L → s ≤ sh q) → u ≤ 10 → g 36 = g36 → g 0 53 = r → g 0 15 = (cnt : Int) → (∀ t, t < 10 → 0 ≤ g 39 t ∧ g 39 t ≤ 99) → MP m N sh L (pk r ld n p (g 39) u l) g p s (FM_pack_n FU D m (s : Int) (u : Int) (l : Int) (zG m N g)) := by
  intro e
  induction e with
  | zero =>
    intro s n p u D g he hD hp h1 h2 hu q36 q53 q15 hg
    obtain ⟨D, rfl⟩ : ∃ D', D = D' + 1 := ⟨D - 1, by omega⟩
    have n0 : n = 0 := by
      by_cases z : p < L
      · have := h2 p (by omega) z
        have := (hsh p z).1
        omega
      · omega
    subst n0
    rw [FM_pack_n]
    unfold FM_pack FM_pack_b
    rw [mD, mIb, q15, if_pos (by omega), zrz1b]
    exact ⟨g, rfl, fun _ _ => rfl, fun _ _ => rfl, fun A _ q q1 q2 => by omega⟩
  | succ e ih =>
    intro s n p u D g he hD hp h1 h2 hu q36 q53 q15 hg
    obtain ⟨D, rfl⟩ : ∃ D', D = D' + 1 := ⟨D - 1, by omega⟩
    have ts : (s : Int).toNat = s := by omega
    have ss1 : (s : Int) + 1 = ((s + 1 : Nat) : Int) := by omega
    rw [FM_pack_n]
    unfold FM_pack FM_pack_b
    rw [mD, mIb, q15, if_neg (by omega), mQ48b, mRo36b (by omega), ts, q36]
    by_cases c1 : p < L ∧ sh p = s
    · have ls := (hsh p c1.1).2
      have lb := hld p c1.1
      rw [c1.2] at ls
      obtain ⟨n, rfl⟩ : ∃ n', n = n' + 1 := ⟨n - 1, by omega⟩
      rw [if_neg (by omega), pk]
      exact mpk_loop hL hr hl hu (by omega) c1.2 lb ls (fun g1 cc z1 z2 z3 z4 z5 z6 => ih (s + 1) n (p + 1) (max u (cc + 1)) D g1 (by omega) (by omega) (by omega) (fun q hq => by
        by_cases z : q = p
        · rw [z, c1.2]; omega
        · have := h1 q (by omega); omega) (fun q q1 q2 => by
        have := hrise p q (by omega) q2
        omega) (by omega) z1 z2 z3 z4) (min (u + 1) l) 0 FU g (by omega) (by omega) q36 q53 q15 hg
    · have ls : g36 s = 0 := hrest s (by omega) (fun q hq z => by
        by_cases z2 : q < p
        · have := h1 q z2; omega
        · by_cases z3 : q = p
          · subst z3; exact c1 ⟨hq, z⟩
          · have := hrise p q (by omega) hq
            have := h2 p (by omega) (by omega)
            omega)
      rw [if_pos ls, zckb (by omega), ss1]
      obtain ⟨g', k1, k2, k3, k4⟩ := ih (s + 1) n p u D g (by omega) (by omega) hp (fun q hq => by have := h1 q hq; omega) (fun q q1 q2 => by
        have := h2 q q1 q2
        by_cases z : sh q = s
        · exfalso
          by_cases z3 : q = p
          · subst z3; exact c1 ⟨q2, z⟩
          · have := hrise p q (by omega) q2
            have := h2 p (by omega) (by omega)
            omega
        · omega) hu q36 q53 q15 hg
      rw [zbe k1]
      refine ⟨g', ?_, k2, fun t ht => k3 t (by omega), k4⟩
      split <;> rfl
end CPM
