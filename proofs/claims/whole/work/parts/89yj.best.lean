/-! ===== best: the reference's search ===== -/
theorem anyB_eq {P Q : Nat → Bool} : ∀ d i, (∀ j, i ≤ j → j < i + d → P j = Q j) → anyB P i d = anyB Q i d
  | 0, _, _ => rfl
  | d + 1, i, h => by
    rw [anyB, anyB, h i (Nat.le_refl i) (by omega), anyB_eq d (i + 1) (fun j h1 h2 => h j (by omega) (by omega))]
theorem landF_eq {a4 a8 a9 b4 b8 b9 : Nat → Int} {W : Nat → Nat → Int} {p : Nat} : ∀ n, (∀ i, i < n → a4 i = b4 i ∧ a8 i = b8 i ∧ a9 i = b9 i) → landF a4 a8 a9 W p n = landF b4 b8 b9 W p n
  | 0, _ => rfl
  | n + 1, h => by
    rw [landF, landF, landF_eq n (fun i hi => h i (by omega))]
    unfold landC
    rw [(h n (by omega)).1, (h n (by omega)).2.1, (h n (by omega)).2.2]
theorem zcmp_le (a b : Int) : zcmp a b ≤ 0 ↔ a ≤ b := by
  unfold zcmp
  repeat' split
  all_goals omega
section BSR
variable {m N FU : Nat} {g g' g0 W : Nat → Nat → Int} {k cnt Z : Nat} {lk o lim : Int} {ch : Nat → Nat} {S : SS}
theorem trial_loop (s0 : MC g0 W k cnt Z lk o lim) (hch : ∀ t, t < k → ch t < Z) : ∀ (d i fu : Nat) (g : Nat → Nat → Int), i + d = k → d < fu → BM g0 g W cnt → (∀ t, t < k → g 12 t = (ch t : Int)) → (∀ j, j < i → g 4 (40 + j) = g0 11 (ch j) ∧ g 5 (40 + j) = o ∧ g 6 (40 + j) = lk) → ∃ g', FM_sumOf_L3 FU fu m (k : Int) o lk lim (i : Int) (zG m N g) = FM_sumOf_L73 FU FU m (k : Int) o lim 0 1 0 (zG m N g') ∧ TR g0 g' W k cnt ch lk o ∧ keepM g g' := by
  have k3 := s0.k3
  intro d
  induction d with
  | zero =>
    intro i fu g hi hf h h12 hp
    obtain ⟨fu, rfl⟩ : ∃ fu', fu = fu' + 1 := ⟨fu - 1, by omega⟩
    have : i = k := by omega
    subst this
    refine ⟨gu g 0 16 (i : Int), ?_, ⟨fun a s z => ?_, h.tg.same (gu_row (by decide)) (gu_row (by decide)) (gu_ne (by omega)) (gu_ne (by omega)), fun s hs => by rw [gu_ne (by omega)]; exact h.base s hs, by rw [gu_at, if_pos rfl], fun j hj => by rw [gu_ne (by omega)]; exact (hp j hj).1, fun j hj => by rw [gu_ne (by omega)]; exact (hp j hj).2.1, fun j hj => by rw [gu_ne (by omega)]; exact (hp j hj).2.2⟩, gu_row (by decide), gu_row (by decide), gu_ne (by omega), gu_ne (by omega)⟩
    · rw [FM_sumOf_L3, if_neg (by omega), mPb]
    · rw [gu_ne (fun e => z (by unfold scrM; omega))]
      exact h.fr a s z
  | succ d ih =>
    intro i fu g hi hf h h12 hp
    obtain ⟨fu, rfl⟩ : ∃ fu', fu = fu' + 1 := ⟨fu - 1, by omega⟩
    have i1 : (i : Int) + 1 = ((i + 1 : Nat) : Int) := by omega
    have ti : (i : Int).toNat = i := by omega
    have t40 : (40 + (i : Int)).toNat = 40 + i := by omega
    have cz := hch i (by omega)
    have z10 := s0.Z10.2
    have si : g 11 (ch i) = g0 11 (ch i) := h.fr 11 _ (by unfold scrM; omega)
    have tc : ((ch i : Nat) : Int).toNat = ch i := by omega
    have fr1 : ∀ a s, ¬ scrM a s → gu (gu (gu g 4 (40 + i) (g0 11 (ch i))) 5 (40 + i) o) 6 (40 + i) lk a s = g a s := fun a s z => by
      rw [gu_ne (fun e => z (by unfold scrM; omega)), gu_ne (fun e => z (by unfold scrM; omega)), gu_ne (fun e => z (by unfold scrM; omega))]
    have h1 : BM g0 (gu (gu (gu g 4 (40 + i) (g0 11 (ch i))) 5 (40 + i) o) 6 (40 + i) lk) W cnt := by
      refine ⟨fun a s z => by rw [fr1 a s z]; exact h.fr a s z, h.tg.same ?_ ?_ ?_ ?_, ?_, fun s hs => ?_⟩
      · rw [gu_row (by decide), gu_row (by decide), gu_row (by decide)]
      · rw [gu_row (by decide), gu_row (by decide), gu_row (by decide)]
      · rw [gu_ne (by omega), gu_ne (by omega), gu_ne (by omega)]
      · rw [gu_ne (by omega), gu_ne (by omega), gu_ne (by omega)]
      · rw [gu_ne (by omega), gu_ne (by omega), gu_ne (by omega)]; exact h.zero
      · rw [gu_ne (by omega), gu_ne (by omega), gu_ne (by omega)]; exact h.base s hs
    obtain ⟨g', e1, e2, e3⟩ := ih (i + 1) fu (gu (gu (gu g 4 (40 + i) (g0 11 (ch i))) 5 (40 + i) o) 6 (40 + i) lk) (by omega) (by omega) h1 (fun t ht => by rw [gu_row (by decide), gu_row (by decide), gu_row (by decide)]; exact h12 t ht) (fun j hj => by
      by_cases z : j = i
      · subst z
        refine ⟨?_, ?_, ?_⟩
        · rw [gu_row (by decide), gu_row (by decide), gu_at, if_pos rfl]
        · rw [gu_row (by decide), gu_at, if_pos rfl]
        · rw [gu_at, if_pos rfl]
      · have q := hp j (by omega)
        refine ⟨?_, ?_, ?_⟩
        · rw [gu_row (by decide), gu_row (by decide), gu_at, if_neg (by omega)]; exact q.1
        · rw [gu_row (by decide), gu_at, if_neg (by omega), gu_row (by decide)]; exact q.2.1
        · rw [gu_at, if_neg (by omega), gu_row (by decide), gu_row (by decide)]; exact q.2.2)
    refine ⟨g', ?_, e2, keepM.trans ⟨?_, ?_, ?_, ?_⟩ e3⟩
    · rw [FM_sumOf_L3, if_pos (by omega), mQ8b, zckb (by omega), mQ17b, mQ19b, mRo12b (by omega), ti, h12 i (by omega), mRo11b (by omega), tc, si, mWo4b (by omega), t40, mQ9b, zckb (by omega), mWo5b (by omega), t40, mQ10b, zckb (by omega), mWo6b (by omega), t40, zckb (by omega), i1]
      exact e1
    · rw [gu_row (by decide), gu_row (by decide), gu_row (by decide)]
    · rw [gu_row (by decide), gu_row (by decide), gu_row (by decide)]
    · rw [gu_ne (by omega), gu_ne (by omega), gu_ne (by omega)]
    · rw [gu_ne (by omega), gu_ne (by omega), gu_ne (by omega)]
theorem eM_sumOf (hFU : 60 ≤ FU) (s0 : MC g0 W k cnt Z lk o lim) (hch : ∀ t, t < k → ch t < Z) (h : BM g0 g W cnt) (h12 : ∀ t, t < k → g 12 t = (ch t : Int)) : ∃ g', FM_sumOf FU m (k : Int) o lk lim (zG m N g) = some (if okB (bOk g0 W cnt ch lk o lim (cnt + k)) cnt = true then bSum g0 W cnt ch lk o (cnt + k) else -1, zG m N g') ∧ BM g0 g' W cnt ∧ keepM g g' := by
  have k3 := s0.k3
  obtain ⟨g1, e1, e2, e3⟩ := trial_loop (m := m) (N := N) (FU := FU) s0 hch k 0 FU g (by omega) (by omega) h h12 (fun j hj => absurd hj (by omega))
  obtain ⟨g2, k1, k2, k3'⟩ := sum_loop (m := m) (N := N) (FU := FU) hFU s0 hch (40 + k) 0 FU g1 (by omega) (by omega) e2 (by rw [show min 0 cnt = 0 by omega]; rfl)
  refine ⟨g2, ?_, k2, e3.trans k3'⟩
  unfold FM_sumOf FM_sumOf_b
  have e1' : FM_sumOf_L3 FU FU m (k : Int) o lk lim 0 (zG m N g) = _ := e1
  rw [mD, e1']
  exact k1
theorem found_loop (s0 : MC g0 W k cnt Z lk o lim) (hch : ∀ t, t < k → ch t < Z) {rec : Nat → Int → Int → Int → Int → Int → Int → Hp → Option (Unit × Hp)} : ∀ (d i fu : Nat) (g : Nat → Nat → Int), i + d = k → d < fu → (∀ t, t < k → g 12 t = (ch t : Int)) → (∀ y, g 11 y = g0 11 y) → ∃ g', FM_goSites_L42 FU rec fu m (k : Int) (i : Int) (zG m N g) = some ((), zG m N g') ∧ (∀ a, a ≠ 13 → g' a = g a) ∧ (∀ t, t < k → g' 13 t = if i ≤ t then g0 11 (ch t) else g 13 t) := by
  have k3 := s0.k3
  intro d
  induction d with
  | zero =>
    intro i fu g hi hf h12 h11
    obtain ⟨fu, rfl⟩ : ∃ fu', fu = fu' + 1 := ⟨fu - 1, by omega⟩
    refine ⟨g, ?_, fun _ _ => rfl, fun t ht => by rw [if_neg (by omega)]⟩
    rw [FM_goSites_L42, if_neg (by omega)]
  | succ d ih =>
    intro i fu g hi hf h12 h11
    obtain ⟨fu, rfl⟩ : ∃ fu', fu = fu' + 1 := ⟨fu - 1, by omega⟩
    have i1 : (i : Int) + 1 = ((i + 1 : Nat) : Int) := by omega
    have ti : (i : Int).toNat = i := by omega
    have cz := hch i (by omega)
    have z10 := s0.Z10.2
    have tc : ((ch i : Nat) : Int).toNat = ch i := by omega
    obtain ⟨g', e1, e2, e3⟩ := ih (i + 1) fu (gu g 13 i (g0 11 (ch i))) (by omega) (by omega) (fun t ht => by rw [gu_row (by decide)]; exact h12 t ht) (fun y => by rw [gu_row (by decide)]; exact h11 y)
    refine ⟨g', ?_, fun a z => by rw [e2 a z, gu_row z], fun t ht => ?_⟩
    · rw [FM_goSites_L42, if_pos (by omega), mQ20b, mQ17b, mQ19b, mRo12b (by omega), ti, h12 i (by omega), mRo11b (by omega), tc, h11, mWo13b (by omega), ti, zckb (by omega), i1]
      exact e1
    · rw [e3 t ht, gu_at]
      by_cases z : t = i
      · rw [if_neg (show ¬ i + 1 ≤ t by omega), if_pos z, if_pos (show i ≤ t by omega), z]
      · rw [if_neg z]
        by_cases z2 : i ≤ t
        · rw [if_pos z2, if_pos (by omega)]
        · rw [if_neg z2, if_neg (by omega)]
theorem leaf_M (hFU : 60 ≤ FU) (s0 : MC g0 W k cnt Z lk o lim) (hch : ∀ t, t < k → ch t < Z) (h : BM g0 g W cnt) (hS : SM g0 g k S) (h12 : ∀ t, t < k → g 12 t = (ch t : Int)) {rec : Nat → Int → Int → Int → Int → Int → Int → Hp → Option (Unit × Hp)} {y : Int} : ∃ g', FM_goSites_b FU rec m (k : Int) y (k : Int) o lk lim (zG m N g) = some ((), zG m N g') ∧ BM g0 g' W cnt ∧ SM g0 g' k (bUp g0 W cnt k lk o lim ch S) ∧ g' 12 = g 12 := by
  have c4 := s0.cnt.2
  have k3 := s0.k3
  have hs : SK (bP g0 cnt ch) (bL g0 cnt lk) (cnt + k) := bSK s0.sk s0.like (fun t ht => by have := s0.site _ (hch t ht); have := s0.P; omega)
  have sb := bSum_bd (o := o) s0.wk hs s0.door s0.spend (by omega)
  obtain ⟨g1, e1, e2, e3⟩ := eM_sumOf (m := m) (N := N) (FU := FU) hFU s0 hch h h12
  have f22 : g1 0 22 = sV S (-1) := by rw [e3.2.2.2, hS.best]
  have hS1 : SM g0 g1 k S := ⟨f22, fun z => by rw [e3.2.2.1, e3.2.1]; exact hS.none_ z, fun r z => by rw [e3.2.2.1, e3.2.1]; exact hS.some_ r z⟩
  have s1 : -1 ≤ sV S (-1) := by
    cases S with
    | none => exact Int.le_refl _
    | some r => have := (hS.some_ r rfl).1; show -1 ≤ r.1; omega
  unfold FM_goSites_b bUp
  rw [if_pos rfl, zbe e1, mIb, f22, Option.bind_some]
  generalize bSum g0 W cnt ch lk o (cnt + k) = v at sb
  by_cases ok : okB (bOk g0 W cnt ch lk o lim (cnt + k)) cnt = true
  · rw [if_pos ok]
    have New : ∃ g', (zpI (zG m N g1) m 12 22 v).bind (fun G5 => (zpI G5 m 12 21 (k : Int)).bind fun G6 => FM_goSites_L42 FU rec FU m (k : Int) 0 G6) = some ((), zG m N g') ∧ BM g0 g' W cnt ∧ SM g0 g' k (some (v, ch)) ∧ g' 12 = g 12 := by
      obtain ⟨g', k1, k2, k3'⟩ := found_loop (m := m) (N := N) (FU := FU) s0 hch (rec := rec) k 0 FU (gu (gu g1 0 22 v) 0 21 (k : Int)) (by omega) (by omega) (fun t ht => by rw [gu_row (by decide), gu_row (by decide), e3.1]; exact h12 t ht) (fun y => by rw [gu_row (by decide), gu_row (by decide)]; exact e2.fr 11 y (by unfold scrM; omega))
      have r0 : ∀ s, s ≠ 21 → s ≠ 22 → g' 0 s = g1 0 s := fun s z1 z2 => by rw [k2 0 (by decide), gu_at, if_neg z1, gu_at, if_neg z2]
      have rr : ∀ a, a ≠ 0 → a ≠ 13 → g' a = g1 a := fun a z1 z2 => by rw [k2 a z2, gu_row z1, gu_row z1]
      refine ⟨g', ?_, ⟨fun a s z => ?_, e2.tg.same (rr 2 (by decide) (by decide)) (rr 3 (by decide) (by decide)) (r0 2 (by decide) (by decide)) (r0 5 (by decide) (by decide)), by rw [r0 16 (by decide) (by decide)]; exact e2.zero, fun s hs => by rw [rr 14 (by decide) (by decide)]; exact e2.base s hs⟩, ⟨?_, fun z => absurd z (by simp), fun r z => ?_⟩, ?_⟩
      · rw [mPb, mPb]
        exact k1
      · rw [← e2.fr a s z]
        by_cases y : a = 0
        · subst y
          exact r0 s (fun e => z (by unfold scrM; omega)) (fun e => z (by unfold scrM; omega))
        · rw [rr a y (fun e => z (by unfold scrM; omega))]
      · rw [k2 0 (by decide), gu_at, if_neg (by decide), gu_at, if_pos rfl]
        rfl
      · have er : (v, ch) = r := Option.some.inj z
        subst er
        refine ⟨sb, by rw [k2 0 (by decide), gu_at, if_pos rfl], fun t ht => by rw [k3' t ht, if_pos (by omega)]⟩
      · rw [rr 12 (by decide) (by decide), e3.1]
    unfold upS
    rw [ok, if_pos rfl]
    cases S with
    | none =>
      have z : ¬ zcmp v (sV none (-1)) ≤ 0 := fun z => by
        have := (zcmp_le _ _).mp z
        have e : sV none (-1) = -1 := rfl
        omega
      rw [if_neg z]
      exact New
    | some r =>
      by_cases c1 : v ≤ r.1
      · have z : zcmp v (sV (some r) (-1)) ≤ 0 := (zcmp_le _ _).mpr c1
        rw [if_pos z]
        refine ⟨g1, rfl, e2, ?_, e3.1⟩
        show SM g0 g1 k (if v ≤ r.1 then some r else some (v, ch))
        rw [if_pos c1]; exact hS1
      · have z : ¬ zcmp v (sV (some r) (-1)) ≤ 0 := fun z => c1 ((zcmp_le _ _).mp z)
        rw [if_neg z]
        obtain ⟨g', n1, n2, n3, n4⟩ := New
        refine ⟨g', n1, n2, ?_, n4⟩
        show SM g0 g' k (if v ≤ r.1 then some r else some (v, ch))
        rw [if_neg c1]; exact n3
  · have z : zcmp (-1) (sV S (-1)) ≤ 0 := (zcmp_le _ _).mpr s1
    rw [if_neg ok, if_pos z]
    refine ⟨g1, rfl, e2, ?_, e3.1⟩
    unfold upS
    rw [if_neg ok]
    exact hS1
theorem BM.hg (h : BM g0 g W cnt) (s0 : MC g0 W k cnt Z lk o lim) : HG g := by
  have c := s0.cnt
  have n15 : g 0 15 = g0 0 15 := h.fr 0 15 (by unfold scrM; omega)
  refine ⟨by rw [n15]; omega, fun i hi => ?_⟩
  rw [n15] at hi
  rw [h.fr 4 i (by unfold scrM; omega), h.fr 0 2 (by unfold scrM; omega)]
  exact s0.place i (by omega)
theorem go_loop (hFU : 60 ≤ FU) (s0 : MC g0 W k cnt Z lk o lim) {q : Nat} (hq : q < k) {rec : Nat → Int → Int → Int → Int → Int → Int → Hp → Option (Unit × Hp)} {f : Nat → SS → SS} (hrec : ∀ (y : Nat) (g : Nat → Nat → Int) (S : SS), y < Z → BM g0 g W cnt → SM g0 g k S → (∀ t, t < q + 1 → g 12 t = (chu ch q y t : Int)) → ∃ g', rec m ((q + 1 : Nat) : Int) ((y + 1 : Nat) : Int) (k : Int) o lk lim (zG m N g) = some ((), zG m N g') ∧ BM g0 g' W cnt ∧ SM g0 g' k (f y S) ∧ (∀ t, t < q + 1 → g' 12 t = g 12 t)) : ∀ (d y fu : Nat) (g : Nat → Nat → Int) (S : SS), y + d = Z → d < fu → BM g0 g W cnt → SM g0 g k S → (∀ t, t < q → g 12 t = (ch t : Int)) → ∃ g', FM_goSites_L77 FU rec fu m (q : Int) (k : Int) o lk lim (y : Int) (zG m N g) = some ((), zG m N g') ∧ BM g0 g' W cnt ∧ SM g0 g' k (goL f (bFree g0 W cnt o) d y S) ∧ (∀ t, t < q → g' 12 t = g 12 t) := by
  have c := s0.cnt
  have k3 := s0.k3
  have Z10 := s0.Z10
  intro d
  induction d with
  | zero =>
    intro y fu g S hy hf h hS h12
    obtain ⟨fu, rfl⟩ : ∃ fu', fu = fu' + 1 := ⟨fu - 1, by omega⟩
    have n18 : g 0 18 = (Z : Int) := by rw [h.fr 0 18 (by unfold scrM; omega)]; exact Z10.1
    refine ⟨g, ?_, h, hS, fun _ _ => rfl⟩
    rw [FM_goSites_L77, mIb, n18, if_neg (by omega)]
  | succ d ih =>
    intro y fu g S hy hf h hS h12
    obtain ⟨fu, rfl⟩ : ∃ fu', fu = fu' + 1 := ⟨fu - 1, by omega⟩
    have n18 : g 0 18 = (Z : Int) := by rw [h.fr 0 18 (by unfold scrM; omega)]; exact Z10.1
    have n15 : g 0 15 = (cnt : Int) := by rw [h.fr 0 15 (by unfold scrM; omega)]; exact c.1
    have r11 : ∀ y, g 11 y = g0 11 y := fun y => h.fr 11 y (by unfold scrM; omega)
    have y1 : (y : Int) + 1 = ((y + 1 : Nat) : Int) := by omega
    have ty : (y : Int).toNat = y := by omega
    have q1 : (q : Int) + 1 = ((q + 1 : Nat) : Int) := by omega
    have si := s0.site y (by omega)
    have n2 : g 0 2 = g0 0 2 := h.fr 0 2 (by unfold scrM; omega)
    obtain ⟨r, t2, t3⟩ := eM_openAt (m := m) (N := N) (FU := FU) (h.hg s0) (by omega) (g0 11 y)
    have ae : anyB (takP (g 4) (g 8) (g0 11 y)) 0 (g 0 15).toNat = anyB (takP (g0 4) (g0 8) (g0 11 y)) 0 cnt := by
      rw [n15, Int.toNat_natCast]
      refine anyB_eq cnt 0 (fun j _ hj => ?_)
      unfold takP
      rw [h.fr 4 j (by unfold scrM; omega), h.fr 8 j (by unfold scrM; omega)]
    rw [ae] at t3
    rw [FM_goSites_L77, mIb, n18, if_pos (by omega), mQ17b, mRo11b (by omega), ty, r11, bde t2]
    by_cases c1 : anyB (takP (g0 4) (g0 8) (g0 11 y)) 0 cnt = false
    · have r0 : r < 0 := t3.mpr c1
      obtain ⟨g1, b2, b3, b4⟩ := eM_others (m := m) (N := N) (FU := FU) (h.hg s0) h.tg (by omega) (p := g0 11 y) (by rw [n2]; exact si) o
      have le : landF (g 4) (g 8) (g 9) W (g0 11 y).toNat (g 0 15).toNat = landF (g0 4) (g0 8) (g0 9) W (g0 11 y).toNat cnt := by
        rw [n15, Int.toNat_natCast]
        exact landF_eq cnt (fun i hi => ⟨h.fr 4 i (by unfold scrM; omega), h.fr 8 i (by unfold scrM; omega), h.fr 9 i (by unfold scrM; omega)⟩)
      rw [le] at b2
      have lb := landF_bd (g0 4) (g0 8) (g0 9) W (g0 11 y).toNat cnt
      have h1 := h.gw b3 b4
      have hS1 := hS.gw b3
      have r12 : g1 12 = g 12 := b3.row 12 (by decide) (by decide)
      rw [if_pos r0, mQ17b, mRo11b (by omega), ty, r11]
      by_cases c2 : (landF (g0 4) (g0 8) (g0 9) W (g0 11 y).toNat cnt).1 < 0 ∨ g0 5 (landF (g0 4) (g0 8) (g0 9) W (g0 11 y).toNat cnt).1.toNat = o
      · have fr : bFree g0 W cnt o y = true := by unfold bFree; rw [c1]; simp [c2]
        have v0 : (if (landF (g0 4) (g0 8) (g0 9) W (g0 11 y).toNat cnt).1 < 0 then (0 : Int) else if g 5 (landF (g0 4) (g0 8) (g0 9) W (g0 11 y).toNat cnt).1.toNat = o then 0 else 1) = 0 := by
          by_cases z : (landF (g0 4) (g0 8) (g0 9) W (g0 11 y).toNat cnt).1 < 0
          · rw [if_pos z]
          · rw [if_neg z, h.fr 5 _ (by unfold scrM; omega), if_pos (by omega)]
        rw [v0] at b2
        have h2 : BM g0 (gu g1 12 q (y : Int)) W cnt := ⟨fun a s z => by rw [gu_ne (fun e => z (by unfold scrM; omega))]; exact h1.fr a s z, h1.tg.same (gu_row (by decide)) (gu_row (by decide)) (gu_ne (by omega)) (gu_ne (by omega)), by rw [gu_ne (by omega)]; exact h1.zero, fun s hs => by rw [gu_ne (by omega)]; exact h1.base s hs⟩
        have hS2 : SM g0 (gu g1 12 q (y : Int)) k S := ⟨by rw [gu_ne (by omega)]; exact hS1.best, fun z => by rw [gu_ne (by omega), gu_row (by decide)]; exact hS1.none_ z, fun r z => by rw [gu_ne (by omega), gu_row (by decide)]; exact hS1.some_ r z⟩
        have c12 : ∀ t, t < q + 1 → gu g1 12 q (y : Int) 12 t = (chu ch q y t : Int) := fun t ht => by
          rw [gu_at]
          unfold chu
          by_cases z : t = q
          · rw [if_pos z, if_pos z]
          · rw [if_neg z, if_neg z, r12]; exact h12 t (by omega)
        obtain ⟨g3, d1, d2, d3, d4⟩ := hrec y (gu g1 12 q (y : Int)) S (by omega) h2 hS2 c12
        have k12 : ∀ t, t < q → g3 12 t = g 12 t := fun t ht => by rw [d4 t (by omega), gu_at, if_neg (by omega), r12]
        obtain ⟨g', m1, m2, m3, m4⟩ := ih (y + 1) fu g3 (f y S) (by omega) (by omega) d2 d3 (fun t ht => by rw [k12 t ht]; exact h12 t ht)
        refine ⟨g', ?_, m2, ?_, fun t ht => by rw [m4 t ht, k12 t ht]⟩
        · rw [zbe b2, if_pos rfl, mQ19b, mWo12b (by omega), show (q : Int).toNat = q by omega, zckb (by omega), zckb (by omega), q1, y1, zbe d1, zckb (by omega)]
          exact m1
        · rw [goL, if_pos fr]
          exact m3
      · have fr : ¬ bFree g0 W cnt o y = true := by unfold bFree; rw [c1]; simp; omega
        have v0 : (if (landF (g0 4) (g0 8) (g0 9) W (g0 11 y).toNat cnt).1 < 0 then (0 : Int) else if g 5 (landF (g0 4) (g0 8) (g0 9) W (g0 11 y).toNat cnt).1.toNat = o then 0 else 1) = 1 := by
          rw [if_neg (by omega), h.fr 5 _ (by unfold scrM; omega), if_neg (by omega)]
        rw [v0] at b2
        obtain ⟨g', m1, m2, m3, m4⟩ := ih (y + 1) fu g1 S (by omega) (by omega) h1 hS1 (fun t ht => by rw [r12]; exact h12 t ht)
        refine ⟨g', ?_, m2, ?_, fun t ht => by rw [m4 t ht, r12]⟩
        · rw [zbe b2, if_neg (by decide), zckb (by omega), y1]
          exact m1
        · rw [goL, if_neg fr]
          exact m3
    · have r0 : ¬ r < 0 := fun z => c1 (t3.mp z)
      have fr : ¬ bFree g0 W cnt o y = true := by
        unfold bFree
        have : anyB (takP (g0 4) (g0 8) (g0 11 y)) 0 cnt = true := by simpa using c1
        rw [this]
        simp
      obtain ⟨g', m1, m2, m3, m4⟩ := ih (y + 1) fu g S (by omega) (by omega) h hS h12
      refine ⟨g', ?_, m2, ?_, m4⟩
      · rw [if_neg r0, zckb (by omega), y1]
        exact m1
      · rw [goL, if_neg fr]
        exact m3
theorem go_M (hFU : 60 ≤ FU) (s0 : MC g0 W k cnt Z lk o lim) : ∀ (r q y D : Nat) (ch : Nat → Nat) (g : Nat → Nat → Int) (S : SS), q + r = k → r < D → y ≤ Z → (∀ t, t < q → ch t < Z) → BM g0 g W cnt → SM g0 g k S → (∀ t, t < q → g 12 t = (ch t : Int)) → ∃ g', FM_goSites_n FU D m (q : Int) (y : Int) (k : Int) o lk lim (zG m N g) = some ((), zG m N g') ∧ BM g0 g' W cnt ∧ SM g0 g' k (goZ (bUp g0 W cnt k lk o lim) (bFree g0 W cnt o) Z k r y ch S) ∧ (∀ t, t < q → g' 12 t = g 12 t) := by
  have k3 := s0.k3
  intro r
  induction r with
  | zero =>
    intro q y D ch g S hq hD hy hch h hS h12
    obtain ⟨D, rfl⟩ : ∃ D', D = D' + 1 := ⟨D - 1, by omega⟩
    have : q = k := by omega
    subst this
    obtain ⟨g', e1, e2, e3, e4⟩ := leaf_M (m := m) (N := N) (FU := FU) hFU s0 hch h hS h12 (rec := FM_goSites_n FU D) (y := (y : Int))
    refine ⟨g', ?_, e2, e3, fun t _ => by rw [e4]⟩
    rw [FM_goSites_n]
    unfold FM_goSites
    rw [mD]
    exact e1
  | succ r ih =>
    intro q y D ch g S hq hD hy hch h hS h12
    obtain ⟨D, rfl⟩ : ∃ D', D = D' + 1 := ⟨D - 1, by omega⟩
    have kq : k - (r + 1) = q := by omega
    obtain ⟨g', e1, e2, e3, e4⟩ := go_loop (m := m) (N := N) (FU := FU) (ch := ch) hFU s0 (q := q) (by omega) (rec := FM_goSites_n FU D) (f := fun y S => goZ (bUp g0 W cnt k lk o lim) (bFree g0 W cnt o) Z k r (y + 1) (chu ch q y) S) (fun y g S h1 h2 h3 h4 => ih (q + 1) (y + 1) D (chu ch q y) g S (by omega) (by omega) (by omega) (fun t ht => by
      unfold chu
      by_cases z : t = q
      · rw [if_pos z]; omega
      · rw [if_neg z]; exact hch t (by omega)) h2 h3 h4) (Z - y) y FU g S (by omega) (by have := s0.Z10; omega) h hS h12
    refine ⟨g', ?_, e2, ?_, e4⟩
    · rw [FM_goSites_n]
      unfold FM_goSites FM_goSites_b
      rw [mD, if_neg (by omega)]
      exact e1
    · rw [goZ, kq]
      exact e3
end BSR
