/-! ===== the reference's market ===== -/
def ixM (cnt s : Nat) : Nat := if s < cnt then s else 40 + (s - cnt)
def rsP (g : Nat → Nat → Int) (cnt s : Nat) : Nat := (g 4 (ixM cnt s)).toNat
def rsL (g : Nat → Nat → Int) (cnt s : Nat) : Int := if s < cnt then stL g s else g 6 (ixM cnt s)
def dL (g : Nat → Nat → Int) (cnt k t : Nat) : Int := if t < cnt then (if g 8 t < 0 then g 6 t else 0) else if t < 40 then 0 else if t < 40 + k then g 6 t else 0
def dM (W : Nat → Nat → Int) (g : Nat → Nat → Int) (cnt k p t : Nat) : Int := pulF W (dL g cnt k t) (g 4 t).toNat p
def FH (g W : Nat → Nat → Int) (cnt k : Nat) : Prop := (g 0 15 = (cnt : Int) ∧ cnt ≤ 40) ∧ (g 0 16 = (k : Int) ∧ k ≤ 3) ∧ (∀ s, s < cnt + k → 0 ≤ g 4 (ixM cnt s) ∧ g 4 (ixM cnt s) < g 0 2) ∧ (∀ s, s < cnt + k → 0 ≤ g 6 (ixM cnt s) ∧ g 6 (ixM cnt s) ≤ 99) ∧ (TG g W) ∧ (∀ p, p < 30 → 0 ≤ g 1 p ∧ g 1 p ≤ 999) ∧ (1 ≤ g 0 6 ∧ g 0 6 ≤ 99)
theorem FH.cnt {g W : Nat → Nat → Int} {cnt k : Nat} (h : FH g W cnt k) : g 0 15 = (cnt : Int) ∧ cnt ≤ 40 := h.1
theorem FH.tried {g W : Nat → Nat → Int} {cnt k : Nat} (h : FH g W cnt k) : g 0 16 = (k : Int) ∧ k ≤ 3 := h.2.1
theorem FH.place {g W : Nat → Nat → Int} {cnt k : Nat} (h : FH g W cnt k) : ∀ s, s < cnt + k → 0 ≤ g 4 (ixM cnt s) ∧ g 4 (ixM cnt s) < g 0 2 := h.2.2.1
theorem FH.like {g W : Nat → Nat → Int} {cnt k : Nat} (h : FH g W cnt k) : ∀ s, s < cnt + k → 0 ≤ g 6 (ixM cnt s) ∧ g 6 (ixM cnt s) ≤ 99 := h.2.2.2.1
theorem FH.town {g W : Nat → Nat → Int} {cnt k : Nat} (h : FH g W cnt k) : TG g W := h.2.2.2.2.1
theorem FH.door {g W : Nat → Nat → Int} {cnt k : Nat} (h : FH g W cnt k) : ∀ p, p < 30 → 0 ≤ g 1 p ∧ g 1 p ≤ 999 := h.2.2.2.2.2.1
theorem FH.spend {g W : Nat → Nat → Int} {cnt k : Nat} (h : FH g W cnt k) : 1 ≤ g 0 6 ∧ g 0 6 ≤ 99 := h.2.2.2.2.2.2
section FTL
variable {m N FU cnt k : Nat} {g g' W : Nat → Nat → Int}
theorem ixM_lt {s : Nat} (h : s < cnt) : ixM cnt s = s := if_pos h
theorem ixM_ge {s : Nat} (h : cnt ≤ s) : ixM cnt s = 40 + (s - cnt) := if_neg (by omega)
theorem FH.gw (h : FH g W cnt k) (w : gW g g') (t : TG g' W) : FH g' W cnt k := by
  have r1 := w.row 1 (by decide) (by decide)
  have r4 := w.row 4 (by decide) (by decide)
  have r6 := w.row 6 (by decide) (by decide)
  have n2 := w.num 2 (by decide)
  refine ⟨by rw [w.num 15 (by decide)]; exact h.cnt, by rw [w.num 16 (by decide)]; exact h.tried, fun s hs => by rw [r4, n2]; exact h.place s hs, fun s hs => by rw [r6]; exact h.like s hs, t, fun p hp => by rw [r1]; exact h.door p hp, by rw [w.num 6 (by decide)]; exact h.spend⟩
theorem FH.wk (h : FH g W cnt k) : WK W := ⟨fun a b => (h.town.W0 a b).1, fun a b => (h.town.W0 a b).2.2, fun a b => h.town.sym a b⟩
theorem gW.dle (w : gW g g') (t : Nat) : dL g' cnt k t = dL g cnt k t := by
  unfold dL
  rw [w.row 8 (by decide) (by decide), w.row 6 (by decide) (by decide)]
theorem gW.rp (w : gW g g') : rsP g' cnt = rsP g cnt := by
  funext s
  unfold rsP
  rw [w.row 4 (by decide) (by decide)]
theorem gW.rl (w : gW g g') : rsL g' cnt = rsL g cnt := by
  funext s
  unfold rsL stL
  rw [w.row 8 (by decide) (by decide), w.row 6 (by decide) (by decide)]
theorem gW.dme (w : gW g g') (p : Nat) : dM W g' cnt k p = dM W g cnt k p := by
  funext t
  unfold dM
  rw [w.dle, w.row 4 (by decide) (by decide)]
theorem dL_ix (hc : cnt ≤ 40) {s : Nat} (hs : s < cnt + k) : dL g cnt k (ixM cnt s) = rsL g cnt s := by
  unfold dL rsL stL
  by_cases z : s < cnt
  · rw [ixM_lt z, if_pos z, if_pos z]
  · rw [ixM_ge (by omega), if_neg (by omega), if_neg (by omega), if_pos (by omega), if_neg z]
theorem FH.sk (h : FH g W cnt k) : SK (rsP g cnt) (rsL g cnt) (cnt + k) := by
  have t := h.town.many0
  refine ⟨fun s hs => ?_, fun s hs => ?_⟩
  · have := h.place s hs
    unfold rsP
    omega
  · have l := h.like s hs
    unfold rsL stL
    by_cases z : s < cnt
    · rw [ixM_lt z] at l
      rw [if_pos z]
      split <;> omega
    · rw [if_neg z]; exact l
theorem FH.dl_bd (h : FH g W cnt k) {t : Nat} (ht : t < 43) : 0 ≤ dL g cnt k t ∧ dL g cnt k t ≤ 99 := by
  have c := h.cnt.2
  unfold dL
  by_cases z : t < cnt
  · have l := h.like t (by omega)
    rw [ixM_lt z] at l
    rw [if_pos z]
    split <;> omega
  · rw [if_neg z]
    by_cases z2 : t < 40
    · rw [if_pos z2]; omega
    · rw [if_neg z2]
      by_cases z3 : t < 40 + k
      · have l := h.like (cnt + (t - 40)) (by omega)
        rw [ixM_ge (by omega), show 40 + (cnt + (t - 40) - cnt) = t by omega] at l
        rw [if_pos z3]; exact l
      · rw [if_neg z3]; omega
theorem zsum_split {f : Nat → Int} {a : Nat} : ∀ b, zsum f (a + b) = zsum f a + zsum (fun j => f (a + j)) b
  | 0 => by show zsum f a = zsum f a + 0; omega
  | b + 1 => by
    show zsum f (a + b) + f (a + b) = zsum f a + (zsum (fun j => f (a + j)) b + f (a + b))
    rw [zsum_split b]
    omega
theorem pulF_0 (a p : Nat) : pulF W 0 a p = 0 := by
  unfold pulF
  split
  · rw [Int.zero_mul, Int.zero_ediv]
  · rfl
theorem FH.all (h : FH g W cnt k) (p : Nat) : zsum (dM W g cnt k p) 43 = allF W (rsP g cnt) (rsL g cnt) (cnt + k) p := by
  have c := h.cnt.2
  have t := h.tried.2
  have e1 : zsum (dM W g cnt k p) 43 = zsum (dM W g cnt k p) (40 + k) := by
    have := zsum_0 (f := dM W g cnt k p) (n := 40 + k) (3 - k) (fun j h1 h2 => by
      unfold dM dL
      rw [if_neg (by omega), if_neg (by omega), if_neg (by omega)]
      exact pulF_0 _ _)
    rw [show 40 + k + (3 - k) = 43 by omega] at this
    exact this
  have e2 : zsum (dM W g cnt k p) 40 = zsum (dM W g cnt k p) cnt := by
    have := zsum_0 (f := dM W g cnt k p) (n := cnt) (40 - cnt) (fun j h1 h2 => by
      unfold dM dL
      rw [if_neg (by omega), if_pos (by omega)]
      exact pulF_0 _ _)
    rw [show cnt + (40 - cnt) = 40 by omega] at this
    exact this
  rw [e1, zsum_split, e2]
  unfold allF
  rw [zsum_split]
  have e3 : zsum (dM W g cnt k p) cnt = zsum (fun t => pulF W (rsL g cnt t) (rsP g cnt t) p) cnt := zsum_eq (fun s hs => by
    unfold dM rsP
    have := dL_ix (g := g) (k := k) c (s := s) (by omega)
    rw [ixM_lt hs] at this ⊢
    rw [this])
  have e4 : zsum (fun j => dM W g cnt k p (40 + j)) k = zsum (fun j => pulF W (rsL g cnt (cnt + j)) (rsP g cnt (cnt + j)) p) k := zsum_eq (fun j hj => by
    unfold dM rsP
    have := dL_ix (g := g) (k := k) c (s := cnt + j) (by omega)
    rw [ixM_ge (by omega), show 40 + (cnt + j - cnt) = 40 + j by omega] at this ⊢
    rw [this])
  rw [e3, e4]
theorem eM_draws (h : FH g W cnt k) {t : Nat} (ht : t < 43) : FM_draws FU m (t : Int) (zG m N g) = some (if (t < cnt ∧ g 8 t < 0) ∨ (40 ≤ t ∧ t < 40 + k) then 1 else 0) := by
  have c := h.cnt
  have d := h.tried
  have tt : (t : Int).toNat = t := by omega
  unfold FM_draws FM_draws_b
  rw [mD, mIb, c.1]
  by_cases z : t < cnt
  · rw [if_pos (by omega), bde (eM_isOpen (i := (t : Int)) (by omega)), tt]
    by_cases z2 : g 8 t < 0
    · rw [if_pos z2, if_pos (Or.inl ⟨z, z2⟩)]; rfl
    · rw [if_neg z2, if_neg (by omega)]; rfl
  · rw [if_neg (show ¬ (t : Int) < (cnt : Int) by omega)]
    by_cases z2 : t < 40
    · rw [if_pos (show (t : Int) < 40 by omega), if_neg (show ¬ ((t < cnt ∧ g 8 t < 0) ∨ (40 ≤ t ∧ t < 40 + k)) by omega)]; rfl
    · rw [if_neg (show ¬ (t : Int) < 40 by omega), mIb, d.1, zckb (by omega)]
      by_cases z3 : t < 40 + k
      · rw [if_pos (show (t : Int) < 40 + (k : Int) by omega), if_pos (show (t < cnt ∧ g 8 t < 0) ∨ (40 ≤ t ∧ t < 40 + k) by omega)]; rfl
      · rw [if_neg (show ¬ (t : Int) < 40 + (k : Int) by omega), if_neg (show ¬ ((t < cnt ∧ g 8 t < 0) ∨ (40 ≤ t ∧ t < 40 + k)) by omega)]; rfl
theorem eM_pull (h : FH g W cnt k) (hFU : 60 ≤ FU) {t p : Nat} (ht : t < 43) (hp : (p : Int) < g 0 2) : ∃ (v : Int) (g' : Nat → Nat → Int), FM_pull FU m (t : Int) (p : Int) (zG m N g) = some (v, zG m N g') ∧ gW g g' ∧ TG g' W ∧ (v < 0 → dM W g cnt k p t = 0) ∧ (0 ≤ v → v = dM W g cnt k p t) := by
  have c := h.cnt.2
  have ed := eM_draws (FU := FU) (m := m) (N := N) h ht
  have tt : (t : Int).toNat = t := by omega
  unfold FM_pull FM_pull_b
  by_cases z : (t < cnt ∧ g 8 t < 0) ∨ (40 ≤ t ∧ t < 40 + k)
  · rw [if_pos z] at ed
    have pl : 0 ≤ g 4 t ∧ g 4 t < g 0 2 := by
      rcases z with z | z
      · have := h.place t (by omega)
        rw [ixM_lt z.1] at this
        exact this
      · have := h.place (cnt + (t - 40)) (by omega)
        rw [ixM_ge (by omega), show 40 + (cnt + (t - 40) - cnt) = t by omega] at this
        exact this
    have dl : dL g cnt k t = g 6 t := by
      unfold dL
      rcases z with z | z
      · rw [if_pos z.1, if_pos z.2]
      · rw [if_neg (by omega), if_neg (by omega), if_pos z.2]
    have lb := h.dl_bd ht
    rw [dl] at lb
    obtain ⟨g', e1, e2, e3⟩ := h.town.wayOf (m := m) (N := N) (FU := FU) (by omega) pl (b := (p : Int)) ⟨by omega, hp⟩
    rw [show (p : Int).toNat = p by omega] at e1
    have w0 := h.town.W0 (g 4 t).toNat p
    have g6 : g' 6 = g 6 := e2.row 6 (by decide) (by decide)
    rw [mD, bde ed, if_neg (by decide), mQ8b, mRo4b (by omega), tt, zbe e1]
    unfold FM_pull_B24
    have dm : dM W g cnt k p t = pulF W (g 6 t) (g 4 t).toNat p := by unfold dM; rw [dl]
    unfold pulF at dm
    by_cases c1 : W (g 4 t).toNat p < 1000000
    · rw [if_pos c1] at dm
      have w1 := w0.2.2 c1
      have nn := Int.ediv_nonneg (show 0 ≤ g 6 t * 1000 by omega) (show 0 ≤ 1 + W (g 4 t).toNat p by omega)
      refine ⟨g 6 t * 1000 / (1 + W (g 4 t).toNat p), g', ?_, e2, e3, fun y => by omega, fun _ => dm.symm⟩
      rw [if_pos c1, mQ10b, mRo6b (by omega), tt, g6, zckb (by omega), zckb (by omega), zdvb (by omega) (by omega)]
    · rw [if_neg c1] at dm
      refine ⟨-1, g', ?_, e2, e3, fun _ => dm, fun y => absurd y (by decide)⟩
      rw [if_neg c1]
  · rw [if_neg z] at ed
    have dl : dL g cnt k t = 0 := by
      unfold dL
      by_cases y : t < cnt
      · rw [if_pos y, if_neg (by omega)]
      · rw [if_neg y]
        by_cases y2 : t < 40
        · rw [if_pos y2]
        · rw [if_neg y2, if_neg (by omega)]
    refine ⟨-1, g, ?_, gW.rfl', h.town, fun _ => by unfold dM; rw [dl]; exact pulF_0 _ _, fun y => absurd y (by decide)⟩
    rw [mD, bde ed, if_pos rfl]
    unfold FM_pull_B24
    rw [if_neg (by decide)]
/-- what a shop takes of one place, and then the next place -/
theorem told_loop (hFU : 60 ≤ FU) {s : Nat} (hs : s < cnt + k) {acc : Int} (hacc : 0 ≤ acc ∧ acc ≤ 5000000) {kL : Nat → Int → Int → Int → Hp → Option (Int × Hp)} {p : Nat} : ∀ (d t fu : Nat) (g : Nat → Nat → Int), t + d = 43 → d < fu → FH g W cnt k → (p : Int) < g 0 2 → ∃ g', FM_foretoldOf_L20 FU kL fu m (ixM cnt s : Nat) acc (p : Int) (zsum (dM W g cnt k p) t) (t : Int) (zG m N g) = kL m (ixM cnt s : Nat) (acc + takT W (g 1) (g 0 6) (rsP g cnt) (rsL g cnt) (cnt + k) s p) ((p + 1 : Nat) : Int) (zG m N g') ∧ gW g g' ∧ TG g' W := by
  intro d
  induction d with
  | zero =>
    intro t fu g ht hf h hp
    obtain ⟨fu, rfl⟩ : ∃ fu', fu = fu' + 1 := ⟨fu - 1, by omega⟩
    have : t = 43 := by omega
    subst this
    have c := h.cnt.2
    have k3 := h.tried.2
    have tm := h.town.many0
    have ix43 : ixM cnt s < 43 := by
      unfold ixM
      split <;> omega
    have p1 : (p : Int) + 1 = ((p + 1 : Nat) : Int) := by omega
    obtain ⟨v, g', e1, e2, e3, e4, e5⟩ := eM_pull (m := m) (N := N) (FU := FU) h hFU ix43 hp
    have sk := h.sk
    have wk := h.wk
    have dms : dM W g cnt k p (ixM cnt s) = pulF W (rsL g cnt s) (rsP g cnt s) p := by
      unfold dM rsP
      rw [dL_ix c hs]
    rw [dms] at e4 e5
    have b := pulF_bd wk (sk.like s hs) (rsP g cnt s) p
    have mm := allF_mem wk sk hs p
    have ab := allF_bd wk sk p
    have m3 := mul3_bd (h.door p (by omega)) h.spend b
    have tb := takT_bd wk sk hs h.door h.spend (p := p) (by omega)
    refine ⟨g', ?_, e2, e3⟩
    unfold takT at tb ⊢
    rw [FM_foretoldOf_L20, if_neg (show ¬ (((43 : Nat) : Int) < 43) by decide), zbe e1, h.all p]
    by_cases c1 : v ≤ 0
    · have z : pulF W (rsL g cnt s) (rsP g cnt s) p ≤ 0 := by
        by_cases y : v < 0
        · have := e4 y; omega
        · have := e5 (by omega); omega
      rw [if_pos c1, if_pos z, Int.add_zero, zckb (by omega), p1]
    · have ev := e5 (by omega)
      rw [if_neg (show ¬ pulF W (rsL g cnt s) (rsP g cnt s) p ≤ 0 by omega)] at tb
      rw [if_neg c1, if_neg (show ¬ pulF W (rsL g cnt s) (rsP g cnt s) p ≤ 0 by omega), mQ1b, mRo1b (by omega), show (p : Int).toNat = p by omega, mIb, e2.row 1 (by decide) (by decide), e2.num 6 (by decide), ev, zckLb (by omega), zckLb (by omega), zdvLb' (by omega) (by omega), zckLb (by omega), zckb (by omega), p1]
  | succ d ih =>
    intro t fu g ht hf h hp
    obtain ⟨fu, rfl⟩ : ∃ fu', fu = fu' + 1 := ⟨fu - 1, by omega⟩
    have t1 : (t : Int) + 1 = ((t + 1 : Nat) : Int) := by omega
    have tm := h.town.many0
    obtain ⟨v, g1, e1, e2, e3, e4, e5⟩ := eM_pull (m := m) (N := N) (FU := FU) h hFU (t := t) (by omega) hp
    obtain ⟨g', k1, k2, k3⟩ := ih (t + 1) fu g1 (by omega) (by omega) (h.gw e2 e3) (by rw [e2.num 2 (by decide)]; exact hp)
    have sb := zsum_bd (f := dM W g cnt k p) (b := 99000) (n := t) (fun j hj => pulF_bd h.wk (h.dl_bd (by omega)) _ _)
    have db := pulF_bd h.wk (h.dl_bd (t := t) (by omega)) (g 4 t).toNat p
    have st : zsum (dM W g cnt k p) (t + 1) = zsum (dM W g cnt k p) t + dM W g cnt k p t := rfl
    rw [e2.dme, e2.rp, e2.rl, e2.row 1 (by decide) (by decide), e2.num 6 (by decide), st] at k1
    refine ⟨g', ?_, e2.trans k2, k3⟩
    rw [FM_foretoldOf_L20, if_pos (by omega), zbe e1]
    by_cases c1 : v < 0
    · rw [e4 c1, Int.add_zero] at k1
      rw [if_pos c1, zckLb (by omega), Int.add_zero, zckb (by omega), t1]
      exact k1
    · have ev := e5 (by omega)
      have dme : dM W g cnt k p t = pulF W (dL g cnt k t) (g 4 t).toNat p := rfl
      rw [← ev] at k1
      rw [if_neg c1, zckLb (by omega), zckb (by omega), t1]
      exact k1
theorem place_loop (hFU : 60 ≤ FU) {s : Nat} (hs : s < cnt + k) {P : Nat} : ∀ (d p fu : Nat) (g : Nat → Nat → Int), p + d = P → d < fu → FH g W cnt k → (g 0 2).toNat = P → ∃ g', FM_foretoldOf_L5 FU fu m (ixM cnt s : Nat) (takF W (g 1) (g 0 6) (rsP g cnt) (rsL g cnt) (cnt + k) s p) (p : Int) (zG m N g) = some (takF W (g 1) (g 0 6) (rsP g cnt) (rsL g cnt) (cnt + k) s P, zG m N g') ∧ gW g g' ∧ TG g' W := by
  intro d
  induction d with
  | zero =>
    intro p fu g hp hf h hP
    obtain ⟨fu, rfl⟩ : ∃ fu', fu = fu' + 1 := ⟨fu - 1, by omega⟩
    have : p = P := by omega
    subst this
    refine ⟨g, ?_, gW.rfl', h.town⟩
    rw [FM_foretoldOf_L5, mIb, if_neg (by omega)]
  | succ d ih =>
    intro p fu g hp hf h hP
    obtain ⟨fu, rfl⟩ : ∃ fu', fu = fu' + 1 := ⟨fu - 1, by omega⟩
    have tm := h.town.many0
    have fb := takF_bd h.wk h.sk hs h.door h.spend (P := p) (by omega)
    obtain ⟨g1, e1, e2, e3⟩ := told_loop (m := m) (N := N) (FU := FU) (W := W) (cnt := cnt) (k := k) hFU hs (acc := takF W (g 1) (g 0 6) (rsP g cnt) (rsL g cnt) (cnt + k) s p) (by omega) (kL := FM_foretoldOf_L5 FU fu) (p := p) 43 0 FU g (by omega) (by omega) h (by omega)
    obtain ⟨g', k1, k2, k3⟩ := ih (p + 1) fu g1 (by omega) (by omega) (h.gw e2 e3) (by rw [e2.num 2 (by decide)]; exact hP)
    rw [e2.rp, e2.rl, e2.row 1 (by decide) (by decide), e2.num 6 (by decide)] at k1
    refine ⟨g', ?_, e2.trans k2, k3⟩
    have e1' : FM_foretoldOf_L20 FU (FM_foretoldOf_L5 FU fu) FU m (ixM cnt s : Nat) (takF W (g 1) (g 0 6) (rsP g cnt) (rsL g cnt) (cnt + k) s p) (p : Int) 0 0 (zG m N g) = _ := e1
    rw [FM_foretoldOf_L5, mIb, if_pos (by omega), e1']
    exact k1
theorem eM_told (hFU : 60 ≤ FU) (h : FH g W cnt k) {s : Nat} (hs : s < cnt + k) : ∃ g', FM_foretoldOf FU m (ixM cnt s : Nat) (zG m N g) = some (takF W (g 1) (g 0 6) (rsP g cnt) (rsL g cnt) (cnt + k) s 30, zG m N g') ∧ gW g g' ∧ TG g' W := by
  have tm := h.town.many0
  obtain ⟨g', e1, e2, e3⟩ := place_loop (m := m) (N := N) (FU := FU) (W := W) (cnt := cnt) (k := k) hFU hs (P := (g 0 2).toNat) (g 0 2).toNat 0 FU g (by omega) (by omega) h rfl
  have pl := h.place s hs
  have far := takF_far (W := W) (pl := rsP g cnt) (lk := rsL g cnt) (n := cnt + k) (s := s) (d := g 1) (e := g 0 6) (P := (g 0 2).toNat) (by omega) (fun a p h1 h2 => by rw [h.town.sym]; exact h.town.far h1 (by omega)) (by unfold rsP; omega)
  refine ⟨g', ?_, e2, e3⟩
  unfold FM_foretoldOf FM_foretoldOf_b
  rw [mD, far]
  exact e1
end FTL
