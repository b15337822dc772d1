/-! ===== best ===== -/
def bfr (V V' : Key → Nat → Int) : Prop := ∀ key q, ¬ mkey key q → ¬ (∃ o, 115 ≤ o ∧ o ≤ 119 ∧ key = (0, o, 0)) → V' key q = V key q
theorem cV_b {key : Key} (h : ∃ o, 115 ≤ o ∧ o ≤ 119 ∧ key = (0, o, 0)) (q : Nat) : cV key q = 0 ∨ cV key q = 11 := by
  obtain ⟨o, h1, h2, h3⟩ := h
  have : o = 115 ∨ o = 116 ∨ o = 117 ∨ o = 118 ∨ o = 119 := by omega
  subst h3
  rcases this with rfl | rfl | rfl | rfl | rfl
  · show (if q = 8 then 11 else 0) = 0 ∨ (if q = 8 then 11 else 0) = 11
    split <;> simp
  · exact Or.inl rfl
  · exact Or.inl rfl
  · exact Or.inl rfl
  · exact Or.inr rfl
theorem zcmp_lt (a b : Int) : zcmp a b < 0 ↔ a < b := by
  unfold zcmp
  repeat' split
  all_goals omega
theorem b_o {o : Nat} (h : o < 115 ∨ 119 < o) : ¬ (∃ o', 115 ≤ o' ∧ o' ≤ 119 ∧ ((0, o, 0) : Key) = (0, o', 0)) := by
  rintro ⟨o', h1, h2, h3⟩
  have : o = o' := by simpa using h3
  omega
theorem b_t {key : Key} (h : key.1 ≠ 0) : ¬ (∃ o', 115 ≤ o' ∧ o' ≤ 119 ∧ key = (0, o', 0)) := by
  rintro ⟨o', h1, h2, h3⟩
  rw [h3] at h
  exact h rfl
section BSB
variable {kk k x m N N' FU : Nat} {c : Nat → Key} {V V' : Key → Nat → Int} {R : Key → Nat → Option Nat} {K : Key → Option (Nat × Nat)} {g g' g0 W : Nat → Nat → Int} {cnt Z : Nat} {lk o lim : Int} {X M : Hp}
theorem bfr.ih (f : bfr V V') (h : IH kk c V R K g) : IH kk c V' R K g :=
  h.fr (fun key i e => f key i (fun z => by have := cV_mk z; omega) (fun z => by have := cV_b z i; omega)) (fun _ _ _ => rfl)
theorem bfr.it (f : bfr V V') (h : IT V g W) : IT V' g W :=
  h.fr (fun key i e => f key i (fun z => by have := cV_mk z; omega) (fun z => by have := cV_b z i; omega)) (fun _ _ _ => rfl)
theorem bfr.mw (f : bfr V V') {d : Nat → Int} {e : Int} (h : MW V W d e) : MW V' W d e :=
  ⟨fun a b ha hb => by rw [f _ _ (mkey_o (by omega)) (b_o (by omega))]; exact h.way a b ha hb, fun p hp => by rw [f _ _ (mkey_o (by omega)) (b_o (by omega))]; exact h.door p hp, by rw [f _ _ (mkey_o (by omega)) (b_o (by omega))]; exact h.spend⟩
theorem bfr.trans {V2 : Key → Nat → Int} (f : bfr V V') (f2 : bfr V' V2) : bfr V V2 := fun key q z1 z2 => by rw [f2 key q z1 z2, f key q z1 z2]
theorem bfr.of_m (f : mfr V V') : bfr V V' := fun key q z1 _ => f key q z1
theorem base_loop (hc : CX x c) (hFU : 60 ≤ FU) (hW : WK W) {d : Nat → Int} {e : Int} {pl : Nat → Nat} {lks ow : Nat → Int} (hs : SK pl lks cnt) (hn : cnt ≤ 40) : ∀ (t i fu : Nat) (V : Key → Nat → Int), i + t = 40 → t < fu → MW V W d e → MK V W pl lks ow cnt → ∃ V', FSearch_findBest_L46 FU fu (x + 115) (i : Int) (zX x c N V R K) = (zb (FSearch_collectFree FU (x + 115) (zX x c N V' R K)) fun _ G8 => zb (FSearch_choose_n FU 8 (x + 115) 0 0 G8) fun _ G9 => (zgI G9 (x + 115) 8 13).bind fun v10 => some (v10, G9)) ∧ (∀ key, key ≠ (0, 117, 0) → V' key = V key) ∧ (∀ s, i ≤ s → s < cnt → V' (0, 117, 0) s = takF W d e pl lks cnt s 30) ∧ (∀ s, s < i → V' (0, 117, 0) s = V (0, 117, 0) s) := by
  intro t
  induction t with
  | zero =>
    intro i fu V hi hf hw hk
    obtain ⟨fu, rfl⟩ : ∃ fu', fu = fu' + 1 := ⟨fu - 1, by omega⟩
    refine ⟨V, ?_, fun _ _ => rfl, fun s h1 h2 => by omega, fun _ _ => rfl⟩
    rw [FSearch_findBest_L46, xQ115_4b hc, xN117b hc, if_neg (by omega)]
  | succ t ih =>
    intro i fu V hi hf hw hk
    obtain ⟨fu, rfl⟩ : ∃ fu', fu = fu' + 1 := ⟨fu - 1, by omega⟩
    have i1 : (i : Int) + 1 = ((i + 1 : Nat) : Int) := by omega
    have ti : (i : Int).toNat = i := by omega
    obtain ⟨v, ev, hv⟩ : ∃ v, FMarket_takingsOf FU (x + 68) (i : Int) (zX x c N V R K) = some v ∧ (i < cnt → v = takF W d e pl lks cnt i 30) := by
      by_cases z : i < cnt
      · exact ⟨_, eK_takings (FU := FU) (N := N) (R := R) (K := K) hc hFU hW hw hk hs (by omega) z, fun _ => rfl⟩
      · exact ⟨0, eK_none hc hk (by omega), fun y => absurd y z⟩
    have hw1 : MW (ku V (0, 117, 0) i v) W d e := ⟨fun a b ha hb => by rw [ku_row (by simp; omega)]; exact hw.way a b ha hb, fun p hp => by rw [ku_row (by simp)]; exact hw.door p hp, by rw [ku_row (by simp)]; exact hw.spend⟩
    have hk1 : MK (ku V (0, 117, 0) i v) W pl lks ow cnt := hk.keep (by omega) (fun key q z => by rw [ku_row (fun e => by rw [e] at z; exact mkey_no (by omega) z)])
    obtain ⟨V', a1, a2, a3, a4⟩ := ih (i + 1) fu _ (by omega) (by omega) hw1 hk1
    refine ⟨V', ?_, fun key z => by rw [a2 key z, ku_row z], fun s h1 h2 => ?_, fun s h1 => ?_⟩
    · rw [FSearch_findBest_L46, xQ115_4b hc, xN117b hc, if_pos (by omega), xQ115_4b hc, xQ115_2b hc, bde ev, xWo117b hc (by omega), ti, zckb (by omega), i1]
      exact a1
    · by_cases z : s = i
      · subst z
        rw [a4 s (by omega), ku_at, if_pos rfl]
        exact hv h2
      · exact a3 s (by omega) h2
    · rw [a4 s (by omega), ku_at, if_neg (by omega)]
theorem collect_loop (hc : CX x c) (hFU : 60 ≤ FU) {V0 : Key → Nat → Int} (ih0 : IH kk c V0 R K g) (it0 : IT V0 g W) (hcn : g 0 15 = (cnt : Int)) (hZ : V0 (0, 1, 0) 5 = (Z : Int) ∧ Z ≤ 10) (h65 : ∀ y, y < Z → V0 (0, 65, 0) y = g 11 y ∧ 0 ≤ g 11 y ∧ g 11 y < g 0 2) (h10 : V0 (0, 115, 0) 10 = o) : ∀ (d y fu : Nat) (V : Key → Nat → Int), y + d = Z → d < fu → (∀ key q, key ≠ (0, 116, 0) → (key = (0, 115, 0) → q ≠ 7) → V key q = V0 key q) → V (0, 115, 0) 7 = (cf (bFree g W cnt o) y : Int) → (∀ t, t < y → bFree g W cnt o t = true → V (0, 116, 0) (cf (bFree g W cnt o) t) = g 11 t) → ∃ V', FSearch_collectFree_L7 FU fu (x + 115) (y : Int) (zX x c N V R K) = some ((), zX x c N V' R K) ∧ (∀ key q, key ≠ (0, 116, 0) → (key = (0, 115, 0) → q ≠ 7) → V' key q = V0 key q) ∧ V' (0, 115, 0) 7 = (cf (bFree g W cnt o) Z : Int) ∧ (∀ t, t < Z → bFree g W cnt o t = true → V' (0, 116, 0) (cf (bFree g W cnt o) t) = g 11 t) := by
  intro d
  induction d with
  | zero =>
    intro y fu V hy hf fr h7 hfr
    obtain ⟨fu, rfl⟩ : ∃ fu', fu = fu' + 1 := ⟨fu - 1, by omega⟩
    have : y = Z := by omega
    subst this
    have v5 : V (0, 1, 0) 5 = (y : Int) := by rw [fr _ _ (by simp) (by simp)]; exact hZ.1
    refine ⟨V, ?_, fr, h7, hfr⟩
    rw [FSearch_collectFree_L7, xQ115_0b hc, xI1b hc, v5, if_neg (by omega)]
  | succ d ih =>
    intro y fu V hy hf fr h7 hfr
    obtain ⟨fu, rfl⟩ : ∃ fu', fu = fu' + 1 := ⟨fu - 1, by omega⟩
    have y1 : (y : Int) + 1 = ((y + 1 : Nat) : Int) := by omega
    have v5 : V (0, 1, 0) 5 = (Z : Int) := by rw [fr _ _ (by simp) (by simp)]; exact hZ.1
    have v10 : V (0, 115, 0) 10 = o := by rw [fr _ _ (by simp) (by simp)]; exact h10
    have si := h65 y (by omega)
    have bf : bfr V0 V := fun key q z1 z2 => fr key q (fun e => z2 ⟨116, by omega, by omega, e⟩) (fun e => absurd ⟨115, by omega, by omega, e⟩ z2)
    have ihV := bf.ih ih0
    have itV := bf.it it0
    have cl := cf_le (fre := bFree g W cnt o) y
    have a1 := atF (FU := FU) (N := N) (V := V) (R := R) (K := K) hc (o := 65) (by omega) (xK65 hc) (j := y) (by omega)
    rw [fr _ _ (by simp) (by simp), si.1] at a1
    have es : FTown_siteAt FU (x + 1) (y : Int) (zX x c N V R K) = some (g 11 y) := by
      unfold FTown_siteAt FTown_siteAt_b
      rw [xD1 hc, xQ1_3b hc, bde a1]
    have et := eC_taken (N := N) (FU := FU) hc ihV (by omega) (g 11 y)
    have eb := eC_barred (N := N) (FU := FU) hc ihV itV (by omega) si.2 o
    rw [hcn, Int.toNat_natCast] at et eb
    have skip : ¬ bFree g W cnt o y = true → ∃ V', FSearch_collectFree_L7 FU fu (x + 115) ((y + 1 : Nat) : Int) (zX x c N V R K) = some ((), zX x c N V' R K) ∧ (∀ key q, key ≠ (0, 116, 0) → (key = (0, 115, 0) → q ≠ 7) → V' key q = V0 key q) ∧ V' (0, 115, 0) 7 = (cf (bFree g W cnt o) Z : Int) ∧ (∀ t, t < Z → bFree g W cnt o t = true → V' (0, 116, 0) (cf (bFree g W cnt o) t) = g 11 t) := fun nf => by
      have s1 : cf (bFree g W cnt o) (y + 1) = cf (bFree g W cnt o) y := if_neg nf
      exact ih (y + 1) fu V (by omega) (by omega) fr (by rw [s1]; exact h7) (fun t ht tf => by
        by_cases z : t = y
        · rw [z] at tf; exact absurd tf nf
        · exact hfr t (by omega) tf)
    rw [FSearch_collectFree_L7, xQ115_0b hc, xI1b hc, v5, if_pos (by omega), xQ115_0b hc, bde es, xQ115_1b hc]
    by_cases c1 : anyB (takP (g 4) (g 8) (g 11 y)) 0 cnt = true
    · rw [if_pos c1] at et
      obtain ⟨V', e1, e2⟩ := skip (by unfold bFree; rw [c1]; simp)
      refine ⟨V', ?_, e2⟩
      rw [bde et, if_neg (by decide), zckb (by omega), y1]
      exact e1
    · rw [if_neg c1] at et
      have c1' : anyB (takP (g 4) (g 8) (g 11 y)) 0 cnt = false := by simpa using c1
      rw [bde et, if_pos rfl, xQ115_1b hc, xI115b hc, v10]
      by_cases c2 : (landF (g 4) (g 8) (g 9) W (g 11 y).toNat cnt).1 < 0 ∨ g 5 (landF (g 4) (g 8) (g 9) W (g 11 y).toNat cnt).1.toNat = o
      · have fe : bFree g W cnt o y = true := by unfold bFree; rw [c1']; simp [c2]
        have v0 : (if (landF (g 4) (g 8) (g 9) W (g 11 y).toNat cnt).1 < 0 then (0 : Int) else if g 5 (landF (g 4) (g 8) (g 9) W (g 11 y).toNat cnt).1.toNat = o then 0 else 1) = 0 := by
          by_cases z : (landF (g 4) (g 8) (g 9) W (g 11 y).toNat cnt).1 < 0
          · rw [if_pos z]
          · rw [if_neg z, if_pos (by omega)]
        rw [v0] at eb
        have s1 : cf (bFree g W cnt o) (y + 1) = cf (bFree g W cnt o) y + 1 := if_pos fe
        have a2 := putF (FU := FU) (N := N) (V := V) (R := R) (K := K) hc (o := 116) (by omega) (xK116 hc) (j := cf (bFree g W cnt o) y) (by omega) (g 11 y)
        obtain ⟨V', e1, e2⟩ := ih (y + 1) fu (ku (ku V (0, 116, 0) (cf (bFree g W cnt o) y) (g 11 y)) (0, 115, 0) 7 ((cf (bFree g W cnt o) y : Int) + 1)) (by omega) (by omega) (fun key q z1 z2 => by rw [zku, if_neg (fun e => z2 e.1 e.2), ku_row z1]; exact fr key q z1 z2) (by rw [ku_at, if_pos rfl, s1]; omega) (fun t ht tf => by
          rw [ku_row (by simp), ku_at]
          by_cases z : t = y
          · rw [z, if_pos rfl]
          · have := cf_lt (fre := bFree g W cnt o) (x := t) (Z := y) (by omega) tf
            rw [if_neg (by omega)]
            exact hfr t (by omega) tf)
        refine ⟨V', ?_, e2⟩
        rw [bde eb, if_pos rfl, xQ115_3b hc, xI115b hc, h7, zbe a2, xI115b hc, ku_row (by simp), h7, zckb (by omega), xP115b hc, zckb (by omega), y1]
        exact e1
      · have v0 : (if (landF (g 4) (g 8) (g 9) W (g 11 y).toNat cnt).1 < 0 then (0 : Int) else if g 5 (landF (g 4) (g 8) (g 9) W (g 11 y).toNat cnt).1.toNat = o then 0 else 1) = 1 := by
          rw [if_neg (by omega), if_neg (by omega)]
        rw [v0] at eb
        obtain ⟨V', e1, e2⟩ := skip (by unfold bFree; rw [c1']; simp; omega)
        refine ⟨V', ?_, e2⟩
        rw [bde eb, if_neg (by decide), zckb (by omega), y1]
        exact e1
theorem fh0 (fr : ∀ a s, ¬ scrM a s → g a s = g0 a s) (tg : TG g W) (zero : g 0 16 = 0) (s0 : MC g0 W k cnt Z lk o lim) : FH g W cnt 0 := by
  have c := s0.cnt
  refine ⟨⟨by rw [fr 0 15 (by unfold scrM; omega)]; exact c.1, c.2⟩, ⟨by rw [zero]; rfl, by omega⟩, fun t ht => ?_, fun t ht => ?_, tg, fun p hp => by rw [fr 1 p (by unfold scrM; omega)]; exact s0.door p hp, by rw [fr 0 6 (by unfold scrM; omega)]; exact s0.spend⟩
  · rw [ixM_lt (by omega), fr 4 t (by unfold scrM; omega), fr 0 2 (by unfold scrM; omega)]
    exact s0.place t (by omega)
  · have := s0.likes t (by omega)
    rw [ixM_lt (by omega), fr 6 t (by unfold scrM; omega)]
    omega
theorem mbase_loop (hFU : 60 ≤ FU) (s0 : MC g0 W k cnt Z lk o lim) {a1 a2 a3 : Int} : ∀ (d s fu : Nat) (g : Nat → Nat → Int), s + d = cnt → d < fu → (∀ a t, a ≠ 3 → a ≠ 14 → (a = 0 → t ≠ 5) → g a t = g0 a t) → TG g W → g 0 16 = 0 → (∀ t, t < s → g 14 t = bBase g0 W cnt t) → ∃ g', FM_best_L37 FU fu m a1 a2 a3 (s : Int) (zG m N g) = ((zpI (zG m N g') m 12 22 (-1)).bind fun G10 => (zdv a2 100).bind fun v11 => (zrm a2 100).bind fun v12 => zb (FM_goSites_n FU 6 m 0 0 a1 v11 v12 a3 G10) fun _ G13 => (zgI G13 m 12 22).bind fun v14 => (some (zcmp v14 0)).bind fun v15 => if v15 < 0 then some (-4, G13) else (zgI G13 m 12 22).bind fun v16 => (zck v16).bind fun v17 => some (v17, G13)) ∧ (∀ a t, a ≠ 3 → a ≠ 14 → (a = 0 → t ≠ 5) → g' a t = g0 a t) ∧ TG g' W ∧ g' 0 16 = 0 ∧ (∀ t, t < cnt → g' 14 t = bBase g0 W cnt t) := by
  have c := s0.cnt
  intro d
  induction d with
  | zero =>
    intro s fu g hs hf fr tg z16 hb
    obtain ⟨fu, rfl⟩ : ∃ fu', fu = fu' + 1 := ⟨fu - 1, by omega⟩
    have : s = cnt := by omega
    subst this
    have n15 : g 0 15 = (s : Int) := by rw [fr 0 15 (by decide) (by decide) (by simp)]; exact c.1
    refine ⟨g, ?_, fr, tg, z16, hb⟩
    rw [FM_best_L37, mIb, n15, if_neg (by omega)]
  | succ d ih =>
    intro s fu g hs hf fr tg z16 hb
    obtain ⟨fu, rfl⟩ : ∃ fu', fu = fu' + 1 := ⟨fu - 1, by omega⟩
    have s1 : (s : Int) + 1 = ((s + 1 : Nat) : Int) := by omega
    have ts : (s : Int).toNat = s := by omega
    have n15 : g 0 15 = (cnt : Int) := by rw [fr 0 15 (by decide) (by decide) (by simp)]; exact c.1
    have eo := eM_isOpen (FU := FU) (m := m) (N := N) (g := g) (i := (s : Int)) (by omega)
    rw [ts, fr 8 s (by decide) (by decide) (by simp)] at eo
    have go : ∀ (g1 : Nat → Nat → Int), (∀ a t, a ≠ 3 → a ≠ 14 → (a = 0 → t ≠ 5) → g1 a t = g0 a t) → TG g1 W → (∀ t, t < s → g1 14 t = bBase g0 W cnt t) → ∃ g', FM_best_L37 FU fu m a1 a2 a3 ((s + 1 : Nat) : Int) (zG m N (gu g1 14 s (bBase g0 W cnt s))) = ((zpI (zG m N g') m 12 22 (-1)).bind fun G10 => (zdv a2 100).bind fun v11 => (zrm a2 100).bind fun v12 => zb (FM_goSites_n FU 6 m 0 0 a1 v11 v12 a3 G10) fun _ G13 => (zgI G13 m 12 22).bind fun v14 => (some (zcmp v14 0)).bind fun v15 => if v15 < 0 then some (-4, G13) else (zgI G13 m 12 22).bind fun v16 => (zck v16).bind fun v17 => some (v17, G13)) ∧ (∀ a t, a ≠ 3 → a ≠ 14 → (a = 0 → t ≠ 5) → g' a t = g0 a t) ∧ TG g' W ∧ g' 0 16 = 0 ∧ (∀ t, t < cnt → g' 14 t = bBase g0 W cnt t) := fun g1 f1 t1 b1 => by
      refine ih (s + 1) fu _ (by omega) (by omega) (fun a t z1 z2 z3 => by rw [gu_ne (fun e => z2 e.1)]; exact f1 a t z1 z2 z3) (t1.same (gu_row (by decide)) (gu_row (by decide)) (gu_ne (by omega)) (gu_ne (by omega))) (by rw [gu_ne (by omega), f1 0 16 (by decide) (by decide) (by simp), ← fr 0 16 (by decide) (by decide) (by simp)]; exact z16) (fun t ht => ?_)
      rw [gu_at]
      by_cases z : t = s
      · rw [if_pos z, z]
      · rw [if_neg z]; exact b1 t (by omega)
    rw [FM_best_L37, mIb, n15, if_pos (by omega), mQ23b, bde eo]
    by_cases c1 : g0 8 s < 0
    · have frS : ∀ a t, ¬ scrM a t → g a t = g0 a t := fun a t z => fr a t (fun e => z (by unfold scrM; omega)) (fun e => z (by unfold scrM; omega)) (fun e1 e2 => z (by unfold scrM; omega))
      have fh := fh0 frS tg z16 s0
      obtain ⟨g1, e1, e2, e3⟩ := eM_told (m := m) (N := N) (FU := FU) hFU fh (s := s) (by omega)
      have te : takF W (g 1) (g 0 6) (rsP g cnt) (rsL g cnt) (cnt + 0) s 30 = bBase g0 W cnt s := by
        rw [show g 1 = g0 1 from funext fun p => fr 1 p (by decide) (by decide) (by simp), fr 0 6 (by decide) (by decide) (by simp)]
        refine takF_eq (n := cnt) (by omega) (fun t ht => ?_)
        have r := rs_eq (g := g) ht
        rw [r.1, r.2]
        unfold stP stL
        rw [fr 4 t (by decide) (by decide) (by simp), fr 8 t (by decide) (by decide) (by simp), fr 6 t (by decide) (by decide) (by simp)]
        exact ⟨rfl, rfl⟩
      rw [te, ixM_lt (by omega)] at e1
      obtain ⟨g', k1, k2⟩ := go g1 (fun a t z1 z2 z3 => by
        rw [← fr a t z1 z2 z3]
        by_cases y : a = 0
        · subst y; exact e2.num t (z3 rfl)
        · rw [e2.row a z1 y]) e3 (fun t ht => by rw [e2.row 14 (by decide) (by decide)]; exact hb t ht)
      refine ⟨g', ?_, k2⟩
      rw [if_pos c1, if_neg (by decide), zbe e1, mWo14b (by omega), ts, zckb (by omega), s1]
      exact k1
    · have bz : bBase g0 W cnt s = 0 := takF_0 (by unfold stL; rw [if_neg c1])
      obtain ⟨g', k1, k2⟩ := go g fr tg hb
      rw [bz] at k1
      refine ⟨g', ?_, k2⟩
      rw [if_neg c1, if_pos rfl, mWo14b (by omega), ts, zckb (by omega), s1]
      exact k1
end BSB
