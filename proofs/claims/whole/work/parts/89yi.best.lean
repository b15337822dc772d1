/-! ===== best: the reference ===== -/
def scrM (a s : Nat) : Prop := a = 3 ∨ a = 12 ∨ a = 13 ∨ a = 14 ∨ (a = 0 ∧ (s = 5 ∨ s = 16 ∨ s = 21 ∨ s = 22)) ∨ ((a = 4 ∨ a = 5 ∨ a = 6) ∧ 40 ≤ s)
def BM (g0 g W : Nat → Nat → Int) (cnt : Nat) : Prop := (∀ a s, ¬ scrM a s → g a s = g0 a s) ∧ (TG g W) ∧ (g 0 16 = 0) ∧ (∀ s, s < cnt → g 14 s = bBase g0 W cnt s)
theorem BM.fr {g0 g W : Nat → Nat → Int} {cnt : Nat} (h : BM g0 g W cnt) : ∀ a s, ¬ scrM a s → g a s = g0 a s := h.1
theorem BM.tg {g0 g W : Nat → Nat → Int} {cnt : Nat} (h : BM g0 g W cnt) : TG g W := h.2.1
theorem BM.zero {g0 g W : Nat → Nat → Int} {cnt : Nat} (h : BM g0 g W cnt) : g 0 16 = 0 := h.2.2.1
theorem BM.base {g0 g W : Nat → Nat → Int} {cnt : Nat} (h : BM g0 g W cnt) : ∀ s, s < cnt → g 14 s = bBase g0 W cnt s := h.2.2.2
def SM (g0 g : Nat → Nat → Int) (k : Nat) (S : SS) : Prop := (g 0 22 = sV S (-1)) ∧ (S = none → g 0 21 = g0 0 21 ∧ g 13 = g0 13) ∧ (∀ r, S = some r → (0 ≤ r.1 ∧ r.1 ≤ 200000000) ∧ g 0 21 = (k : Int) ∧ ∀ t, t < k → g 13 t = g0 11 (r.2 t))
theorem SM.best {g0 g : Nat → Nat → Int} {k : Nat} {S : SS} (h : SM g0 g k S) : g 0 22 = sV S (-1) := h.1
theorem SM.none_ {g0 g : Nat → Nat → Int} {k : Nat} {S : SS} (h : SM g0 g k S) : S = none → g 0 21 = g0 0 21 ∧ g 13 = g0 13 := h.2.1
theorem SM.some_ {g0 g : Nat → Nat → Int} {k : Nat} {S : SS} (h : SM g0 g k S) : ∀ r, S = some r → (0 ≤ r.1 ∧ r.1 ≤ 200000000) ∧ g 0 21 = (k : Int) ∧ ∀ t, t < k → g 13 t = g0 11 (r.2 t) := h.2.2
def MC (g0 W : Nat → Nat → Int) (k cnt Z : Nat) (lk o lim : Int) : Prop := (g0 0 15 = (cnt : Int) ∧ cnt ≤ 40) ∧ (g0 0 18 = (Z : Int) ∧ Z ≤ 10) ∧ (1 ≤ k ∧ k ≤ 3) ∧ (0 ≤ lk ∧ lk ≤ 99) ∧ (0 ≤ lim ∧ lim ≤ 1000) ∧ (∀ y, y < Z → 0 ≤ g0 11 y ∧ g0 11 y < g0 0 2) ∧ (∀ s, s < cnt → 0 ≤ g0 4 s ∧ g0 4 s < g0 0 2) ∧ (∀ s, s < cnt → 1 ≤ g0 6 s ∧ g0 6 s ≤ 99) ∧ (∀ p, p < 30 → 0 ≤ g0 1 p ∧ g0 1 p ≤ 999) ∧ (1 ≤ g0 0 6 ∧ g0 0 6 ≤ 99) ∧ (WK W) ∧ (0 ≤ g0 0 2 ∧ g0 0 2 ≤ 30)
theorem MC.cnt {g0 W : Nat → Nat → Int} {k cnt Z : Nat} {lk o lim : Int} (h : MC g0 W k cnt Z lk o lim) : g0 0 15 = (cnt : Int) ∧ cnt ≤ 40 := h.1
theorem MC.Z10 {g0 W : Nat → Nat → Int} {k cnt Z : Nat} {lk o lim : Int} (h : MC g0 W k cnt Z lk o lim) : g0 0 18 = (Z : Int) ∧ Z ≤ 10 := h.2.1
theorem MC.k3 {g0 W : Nat → Nat → Int} {k cnt Z : Nat} {lk o lim : Int} (h : MC g0 W k cnt Z lk o lim) : 1 ≤ k ∧ k ≤ 3 := h.2.2.1
theorem MC.like {g0 W : Nat → Nat → Int} {k cnt Z : Nat} {lk o lim : Int} (h : MC g0 W k cnt Z lk o lim) : 0 ≤ lk ∧ lk ≤ 99 := h.2.2.2.1
theorem MC.lim0 {g0 W : Nat → Nat → Int} {k cnt Z : Nat} {lk o lim : Int} (h : MC g0 W k cnt Z lk o lim) : 0 ≤ lim ∧ lim ≤ 1000 := h.2.2.2.2.1
theorem MC.site {g0 W : Nat → Nat → Int} {k cnt Z : Nat} {lk o lim : Int} (h : MC g0 W k cnt Z lk o lim) : ∀ y, y < Z → 0 ≤ g0 11 y ∧ g0 11 y < g0 0 2 := h.2.2.2.2.2.1
theorem MC.place {g0 W : Nat → Nat → Int} {k cnt Z : Nat} {lk o lim : Int} (h : MC g0 W k cnt Z lk o lim) : ∀ s, s < cnt → 0 ≤ g0 4 s ∧ g0 4 s < g0 0 2 := h.2.2.2.2.2.2.1
theorem MC.likes {g0 W : Nat → Nat → Int} {k cnt Z : Nat} {lk o lim : Int} (h : MC g0 W k cnt Z lk o lim) : ∀ s, s < cnt → 1 ≤ g0 6 s ∧ g0 6 s ≤ 99 := h.2.2.2.2.2.2.2.1
theorem MC.door {g0 W : Nat → Nat → Int} {k cnt Z : Nat} {lk o lim : Int} (h : MC g0 W k cnt Z lk o lim) : ∀ p, p < 30 → 0 ≤ g0 1 p ∧ g0 1 p ≤ 999 := h.2.2.2.2.2.2.2.2.1
theorem MC.spend {g0 W : Nat → Nat → Int} {k cnt Z : Nat} {lk o lim : Int} (h : MC g0 W k cnt Z lk o lim) : 1 ≤ g0 0 6 ∧ g0 0 6 ≤ 99 := h.2.2.2.2.2.2.2.2.2.1
theorem MC.wk {g0 W : Nat → Nat → Int} {k cnt Z : Nat} {lk o lim : Int} (h : MC g0 W k cnt Z lk o lim) : WK W := h.2.2.2.2.2.2.2.2.2.2.1
theorem MC.P {g0 W : Nat → Nat → Int} {k cnt Z : Nat} {lk o lim : Int} (h : MC g0 W k cnt Z lk o lim) : 0 ≤ g0 0 2 ∧ g0 0 2 ≤ 30 := h.2.2.2.2.2.2.2.2.2.2.2
section BSM
variable {m N FU : Nat} {g g' g0 W : Nat → Nat → Int} {k cnt Z : Nat} {lk o lim : Int} {ch : Nat → Nat} {S : SS}
theorem BM.gw (h : BM g0 g W cnt) (w : gW g g') (t : TG g' W) : BM g0 g' W cnt := by
  refine ⟨fun a s z => ?_, t, by rw [w.num 16 (by decide)]; exact h.zero, fun s hs => by rw [w.row 14 (by decide) (by decide)]; exact h.base s hs⟩
  rw [← h.fr a s z]
  by_cases y : a = 0
  · subst y
    exact w.num s (fun e => z (by unfold scrM; omega))
  · rw [w.row a (fun e => z (by unfold scrM; omega)) y]
theorem SM.gw (h : SM g0 g k S) (w : gW g g') : SM g0 g' k S := by
  have r13 := w.row 13 (by decide) (by decide)
  refine ⟨by rw [w.num 22 (by decide)]; exact h.best, fun z => by rw [w.num 21 (by decide), r13]; exact h.none_ z, fun r z => by rw [w.num 21 (by decide), r13]; exact h.some_ r z⟩
theorem MC.sk (s : MC g0 W k cnt Z lk o lim) : SK (stP g0) (stL g0) cnt := by
  have p := s.P
  refine ⟨fun t ht => ?_, fun t ht => ?_⟩
  · have := s.place t ht
    unfold stP; omega
  · have := s.likes t ht
    unfold stL
    split <;> omega
theorem takF_0 {d : Nat → Int} {e : Int} {pl : Nat → Nat} {lk : Nat → Int} {n s P : Nat} (h : lk s = 0) : takF W d e pl lk n s P = 0 := by
  have := zsum_0 (f := takT W d e pl lk n s) (n := 0) P (fun p _ _ => by
    unfold takT
    rw [h, pulF_0, if_pos (by omega)])
  rw [show 0 + P = P by omega] at this
  exact this
/-- with the sites of a choice opened for trial -/
def TR (g0 g W : Nat → Nat → Int) (k cnt : Nat) (ch : Nat → Nat) (lk o : Int) : Prop := (∀ a s, ¬ scrM a s → g a s = g0 a s) ∧ (TG g W) ∧ (∀ s, s < cnt → g 14 s = bBase g0 W cnt s) ∧ (g 0 16 = (k : Int)) ∧ (∀ j, j < k → g 4 (40 + j) = g0 11 (ch j)) ∧ (∀ j, j < k → g 5 (40 + j) = o) ∧ (∀ j, j < k → g 6 (40 + j) = lk)
theorem TR.fr {g0 g W : Nat → Nat → Int} {k cnt : Nat} {ch : Nat → Nat} {lk o : Int} (h : TR g0 g W k cnt ch lk o) : ∀ a s, ¬ scrM a s → g a s = g0 a s := h.1
theorem TR.tg {g0 g W : Nat → Nat → Int} {k cnt : Nat} {ch : Nat → Nat} {lk o : Int} (h : TR g0 g W k cnt ch lk o) : TG g W := h.2.1
theorem TR.base {g0 g W : Nat → Nat → Int} {k cnt : Nat} {ch : Nat → Nat} {lk o : Int} (h : TR g0 g W k cnt ch lk o) : ∀ s, s < cnt → g 14 s = bBase g0 W cnt s := h.2.2.1
theorem TR.tried {g0 g W : Nat → Nat → Int} {k cnt : Nat} {ch : Nat → Nat} {lk o : Int} (h : TR g0 g W k cnt ch lk o) : g 0 16 = (k : Int) := h.2.2.2.1
theorem TR.p4 {g0 g W : Nat → Nat → Int} {k cnt : Nat} {ch : Nat → Nat} {lk o : Int} (h : TR g0 g W k cnt ch lk o) : ∀ j, j < k → g 4 (40 + j) = g0 11 (ch j) := h.2.2.2.2.1
theorem TR.p5 {g0 g W : Nat → Nat → Int} {k cnt : Nat} {ch : Nat → Nat} {lk o : Int} (h : TR g0 g W k cnt ch lk o) : ∀ j, j < k → g 5 (40 + j) = o := h.2.2.2.2.2.1
theorem TR.p6 {g0 g W : Nat → Nat → Int} {k cnt : Nat} {ch : Nat → Nat} {lk o : Int} (h : TR g0 g W k cnt ch lk o) : ∀ j, j < k → g 6 (40 + j) = lk := h.2.2.2.2.2.2
theorem TR.gw (h : TR g0 g W k cnt ch lk o) (w : gW g g') (t : TG g' W) : TR g0 g' W k cnt ch lk o := by
  refine ⟨fun a s z => ?_, t, fun s hs => by rw [w.row 14 (by decide) (by decide)]; exact h.base s hs, by rw [w.num 16 (by decide)]; exact h.tried, by rw [w.row 4 (by decide) (by decide)]; exact h.p4, by rw [w.row 5 (by decide) (by decide)]; exact h.p5, by rw [w.row 6 (by decide) (by decide)]; exact h.p6⟩
  rw [← h.fr a s z]
  by_cases y : a = 0
  · subst y
    exact w.num s (fun e => z (by unfold scrM; omega))
  · rw [w.row a (fun e => z (by unfold scrM; omega)) y]
theorem TR.fh (h : TR g0 g W k cnt ch lk o) (s : MC g0 W k cnt Z lk o lim) (hch : ∀ t, t < k → ch t < Z) : FH g W cnt k := by
  have c := s.cnt
  have e2 : g 0 2 = g0 0 2 := h.fr 0 2 (by unfold scrM; omega)
  refine ⟨⟨by rw [h.fr 0 15 (by unfold scrM; omega)]; exact c.1, c.2⟩, ⟨h.tried, s.k3.2⟩, fun t ht => ?_, fun t ht => ?_, h.tg, fun p hp => by rw [h.fr 1 p (by unfold scrM; omega)]; exact s.door p hp, by rw [h.fr 0 6 (by unfold scrM; omega)]; exact s.spend⟩
  · rw [e2]
    by_cases z : t < cnt
    · rw [ixM_lt z, h.fr 4 t (by unfold scrM; omega)]; exact s.place t z
    · rw [ixM_ge (by omega), h.p4 _ (by omega)]; exact s.site _ (hch _ (by omega))
  · by_cases z : t < cnt
    · rw [ixM_lt z, h.fr 6 t (by unfold scrM; omega)]
      have := s.likes t z
      omega
    · rw [ixM_ge (by omega), h.p6 _ (by omega)]; exact s.like
theorem TR.tak (h : TR g0 g W k cnt ch lk o) (s : MC g0 W k cnt Z lk o lim) {t : Nat} (ht : t < cnt + k) : takF W (g 1) (g 0 6) (rsP g cnt) (rsL g cnt) (cnt + k) t 30 = bTak g0 W cnt ch lk (cnt + k) t := by
  have c := s.cnt.2
  have r1 : g 1 = g0 1 := funext fun p => h.fr 1 p (by unfold scrM; omega)
  rw [r1, h.fr 0 6 (by unfold scrM; omega)]
  refine takF_eq ht (fun q hq => ⟨?_, ?_⟩)
  · unfold rsP bP stP
    by_cases z : q < cnt
    · rw [if_pos z, ixM_lt z, h.fr 4 q (by unfold scrM; omega)]
    · rw [if_neg z, ixM_ge (by omega), h.p4 _ (by omega)]
  · unfold rsL bL stL
    by_cases z : q < cnt
    · rw [if_pos z, if_pos z, h.fr 8 q (by unfold scrM; omega), h.fr 6 q (by unfold scrM; omega)]
    · rw [if_neg z, if_neg z, ixM_ge (by omega), h.p6 _ (by omega)]
/-- what the reference has added up before its stall t -/
def cM (g W : Nat → Nat → Int) (cnt k : Nat) (ch : Nat → Nat) (lk o : Int) (t : Nat) : Int := if t < cnt then (if g 5 t = o then bTak g W cnt ch lk (cnt + k) t else 0) else if t < 40 then 0 else bTak g W cnt ch lk (cnt + k) (cnt + (t - 40))
theorem cM_sum (s : MC g0 W k cnt Z lk o lim) : zsum (cM g0 W cnt k ch lk o) (40 + k) = bSum g0 W cnt ch lk o (cnt + k) := by
  have c := s.cnt.2
  have e2 : zsum (cM g0 W cnt k ch lk o) 40 = zsum (cM g0 W cnt k ch lk o) cnt := by
    have := zsum_0 (f := cM g0 W cnt k ch lk o) (n := cnt) (40 - cnt) (fun j h1 h2 => by
      unfold cM
      rw [if_neg (by omega), if_pos (by omega)])
    rw [show cnt + (40 - cnt) = 40 by omega] at this
    exact this
  unfold bSum
  rw [zsum_split, e2, zsum_split]
  have e3 : zsum (cM g0 W cnt k ch lk o) cnt = zsum (ownT W (g0 1) (g0 0 6) (bP g0 cnt ch) (bL g0 cnt lk) (bO g0 cnt o) (cnt + k) o) cnt := zsum_eq (fun t ht => by
    unfold cM ownT bO
    rw [if_pos ht, if_pos ht]
    rfl)
  have e4 : zsum (fun j => cM g0 W cnt k ch lk o (40 + j)) k = zsum (fun j => ownT W (g0 1) (g0 0 6) (bP g0 cnt ch) (bL g0 cnt lk) (bO g0 cnt o) (cnt + k) o (cnt + j)) k := zsum_eq (fun j hj => by
    unfold cM ownT bO
    rw [if_neg (by omega), if_neg (by omega), if_neg (show ¬ cnt + j < cnt by omega), if_pos rfl, show cnt + (40 + j - 40) = cnt + j by omega]
    rfl)
  rw [e3, e4]
def keepM (g g' : Nat → Nat → Int) : Prop := g' 12 = g 12 ∧ g' 13 = g 13 ∧ g' 0 21 = g 0 21 ∧ g' 0 22 = g 0 22
theorem keepM.gw (w : gW g g') : keepM g g' := ⟨w.row 12 (by decide) (by decide), w.row 13 (by decide) (by decide), w.num 21 (by decide), w.num 22 (by decide)⟩
theorem keepM.trans {g2 : Nat → Nat → Int} (h : keepM g g') (h2 : keepM g' g2) : keepM g g2 := ⟨by rw [h2.1, h.1], by rw [h2.2.1, h.2.1], by rw [h2.2.2.1, h.2.2.1], by rw [h2.2.2.2, h.2.2.2]⟩
theorem TR.done (h : TR g0 g W k cnt ch lk o) : BM g0 (gu g 0 16 0) W cnt ∧ keepM g (gu g 0 16 0) := by
  refine ⟨⟨fun a s z => ?_, h.tg.same (gu_row (by decide)) (gu_row (by decide)) (gu_ne (by omega)) (gu_ne (by omega)), by rw [gu_at, if_pos rfl], fun s hs => by rw [gu_ne (by omega)]; exact h.base s hs⟩, gu_row (by decide), gu_row (by decide), gu_ne (by omega), gu_ne (by omega)⟩
  rw [gu_ne (fun e => z (by unfold scrM; omega))]
  exact h.fr a s z
theorem sum_loop (hFU : 60 ≤ FU) (s0 : MC g0 W k cnt Z lk o lim) (hch : ∀ t, t < k → ch t < Z) : ∀ (d t fu : Nat) (g : Nat → Nat → Int), t + d = 40 + k → d < fu → TR g0 g W k cnt ch lk o → okB (bOk g0 W cnt ch lk o lim (cnt + k)) (min t cnt) = true → ∃ g', FM_sumOf_L73 FU fu m (k : Int) o lim (zsum (cM g0 W cnt k ch lk o) t) 1 (t : Int) (zG m N g) = some (if okB (bOk g0 W cnt ch lk o lim (cnt + k)) cnt = true then bSum g0 W cnt ch lk o (cnt + k) else -1, zG m N g') ∧ BM g0 g' W cnt ∧ keepM g g' := by
  have c4 := s0.cnt.2
  have k3 := s0.k3
  have hs : SK (bP g0 cnt ch) (bL g0 cnt lk) (cnt + k) := bSK s0.sk s0.like (fun t ht => by have := s0.site _ (hch t ht); have := s0.P; omega)
  have tb : ∀ s, s < cnt + k → 0 ≤ bTak g0 W cnt ch lk (cnt + k) s ∧ bTak g0 W cnt ch lk (cnt + k) s ≤ 2967030 := fun s hsn => by
    have := takF_bd s0.wk hs hsn s0.door s0.spend (P := 30) (by omega)
    unfold bTak
    omega
  have cb : ∀ t, t < 40 + k → 0 ≤ cM g0 W cnt k ch lk o t ∧ cM g0 W cnt k ch lk o t ≤ 2967030 := fun t ht => by
    unfold cM
    by_cases z : t < cnt
    · have := tb t (by omega)
      rw [if_pos z]
      split <;> omega
    · rw [if_neg z]
      by_cases z2 : t < 40
      · rw [if_pos z2]; omega
      · rw [if_neg z2]; exact tb _ (by omega)
  intro d
  induction d with
  | zero =>
    intro t fu g ht hf h ok
    obtain ⟨fu, rfl⟩ : ∃ fu', fu = fu' + 1 := ⟨fu - 1, by omega⟩
    have : t = 40 + k := by omega
    subst this
    have dn := h.done
    rw [show min (40 + k) cnt = cnt by omega] at ok
    refine ⟨gu g 0 16 0, ?_, dn.1, dn.2⟩
    rw [FM_sumOf_L73, zckb (by omega), if_neg (by omega), if_pos ok, cM_sum s0]
    unfold FM_sumOf_B155
    rw [mPb, if_neg (by decide)]
  | succ d ih =>
    intro t fu g ht hf h ok
    obtain ⟨fu, rfl⟩ : ∃ fu', fu = fu' + 1 := ⟨fu - 1, by omega⟩
    have t1 : (t : Int) + 1 = ((t + 1 : Nat) : Int) := by omega
    have tt : (t : Int).toNat = t := by omega
    have fh := h.fh s0 hch
    have ed := eM_draws (FU := FU) (m := m) (N := N) fh (t := t) (by omega)
    have sb := zsum_bd (f := cM g0 W cnt k ch lk o) (b := 2967030) (n := t) (fun j hj => cb j (by omega))
    have st : zsum (cM g0 W cnt k ch lk o) (t + 1) = zsum (cM g0 W cnt k ch lk o) t + cM g0 W cnt k ch lk o t := rfl
    have ct := cb t (by omega)
    rw [h.fr 8 t (by unfold scrM; omega)] at ed
    rw [FM_sumOf_L73, zckb (by omega), if_pos (by omega), if_neg (by decide)]
    by_cases dr : (t < cnt ∧ g0 8 t < 0) ∨ (40 ≤ t ∧ t < 40 + k)
    · rw [if_pos dr] at ed
      obtain ⟨s, hs1, hs2⟩ : ∃ s, s < cnt + k ∧ ixM cnt s = t := by
        rcases dr with z | z
        · exact ⟨t, by omega, ixM_lt z.1⟩
        · refine ⟨cnt + (t - 40), by omega, ?_⟩
          rw [ixM_ge (by omega)]; omega
      obtain ⟨g1, e1, e2, e3⟩ := eM_told (m := m) (N := N) (FU := FU) hFU fh hs1
      rw [hs2, h.tak s0 hs1] at e1
      have h1 := h.gw e2 e3
      have w5 : g1 5 t = g 5 t := by rw [e2.row 5 (by decide) (by decide)]
      have w14 : g1 14 t = g 14 t := by rw [e2.row 14 (by decide) (by decide)]
      rw [bde ed, if_neg (by decide), zbe e1, mQ9b, mRo5b (by omega), tt, w5]
      have tbs := tb s hs1
      by_cases zc : t < cnt
      · have es : s = t := by
          by_cases y : s < cnt
          · rw [ixM_lt y] at hs2; exact hs2
          · rw [ixM_ge (by omega)] at hs2; omega
        subst es
        have o5 : g 5 s = g0 5 s := h.fr 5 s (by unfold scrM; omega)
        have mn : min (s + 1) cnt = s + 1 := by omega
        rw [show min s cnt = s by omega] at ok
        rw [o5]
        by_cases c1 : g0 5 s = o
        · have ec : cM g0 W cnt k ch lk o s = bTak g0 W cnt ch lk (cnt + k) s := by unfold cM; rw [if_pos zc, if_pos c1]
          have ok1 : okB (bOk g0 W cnt ch lk o lim (cnt + k)) (min (s + 1) cnt) = true := by
            rw [mn]
            show (okB (bOk g0 W cnt ch lk o lim (cnt + k)) s && bOk g0 W cnt ch lk o lim (cnt + k) s) = true
            rw [ok]
            unfold bOk
            simp [c1]
          obtain ⟨g', k1, k2, k3'⟩ := ih (s + 1) fu g1 (by omega) (by omega) h1 ok1
          rw [st, ec] at k1
          refine ⟨g', ?_, k2, (keepM.gw e2).trans k3'⟩
          rw [if_pos c1, zckLb (by omega), zckb (by omega), t1]
          exact k1
        · have ec : cM g0 W cnt k ch lk o s = 0 := by unfold cM; rw [if_pos zc, if_neg c1]
          have bb := bTak_bd (ch := ch) (lk := lk) (k := k) s0.wk s0.sk hs s0.door s0.spend zc
          have el := eM_harmBy (FU := FU) (zG m N g1) (a := bTak g0 W cnt ch lk (cnt + k) s) (b := bBase g0 W cnt s) (by omega)
          rw [if_neg c1, mQ23b, mRo14b (by omega), tt, w14, h.base s zc, bde el]
          by_cases c2 : lossF (bBase g0 W cnt s) (bTak g0 W cnt ch lk (cnt + k) s) ≤ lim
          · have ok1 : okB (bOk g0 W cnt ch lk o lim (cnt + k)) (min (s + 1) cnt) = true := by
              rw [mn]
              show (okB (bOk g0 W cnt ch lk o lim (cnt + k)) s && bOk g0 W cnt ch lk o lim (cnt + k) s) = true
              rw [ok]
              unfold bOk
              simp [c2]
            obtain ⟨g', k1, k2, k3'⟩ := ih (s + 1) fu g1 (by omega) (by omega) h1 ok1
            rw [st, ec, Int.add_zero] at k1
            refine ⟨g', ?_, k2, (keepM.gw e2).trans k3'⟩
            rw [if_pos c2, zckb (by omega), t1]
            exact k1
          · have no : bOk g0 W cnt ch lk o lim (cnt + k) s = false := by unfold bOk; simp [c1]; omega
            have dn := h1.done
            obtain ⟨fu, rfl⟩ : ∃ fu', fu = fu' + 1 := ⟨fu - 1, by omega⟩
            refine ⟨gu g1 0 16 0, ?_, dn.1, (keepM.gw e2).trans dn.2⟩
            have B : FM_sumOf_B155 FU m (zsum (cM g0 W cnt k ch lk o) s) 0 (zG m N g1) = some (-1, zG m N (gu g1 0 16 0)) := by
              unfold FM_sumOf_B155
              rw [mPb, if_pos rfl]
            rw [if_neg c2, zckb (by omega), t1, okB_no (n := cnt) (s := s) zc no, FM_sumOf_L73, zckb (by omega), if_neg (show ¬ (false = true) by decide)]
            by_cases c3 : ((s + 1 : Nat) : Int) < 40 + (k : Int)
            · rw [if_pos c3, if_pos rfl, B]
            · rw [if_neg c3, B]
      · have o5 : g 5 t = o := by
          have := h.p5 (t - 40) (by omega)
          rw [show 40 + (t - 40) = t by omega] at this
          exact this
        have es : s = cnt + (t - 40) := by
          by_cases y : s < cnt
          · rw [ixM_lt y] at hs2; omega
          · rw [ixM_ge (by omega)] at hs2; omega
        have ec : cM g0 W cnt k ch lk o t = bTak g0 W cnt ch lk (cnt + k) s := by unfold cM; rw [if_neg zc, if_neg (by omega), es]
        have ok1 : okB (bOk g0 W cnt ch lk o lim (cnt + k)) (min (t + 1) cnt) = true := by
          rw [show min (t + 1) cnt = min t cnt by omega]; exact ok
        obtain ⟨g', k1, k2, k3'⟩ := ih (t + 1) fu g1 (by omega) (by omega) h1 ok1
        rw [st, ec] at k1
        refine ⟨g', ?_, k2, (keepM.gw e2).trans k3'⟩
        rw [if_pos o5, zckLb (by omega), zckb (by omega), t1]
        exact k1
    · rw [if_neg dr] at ed
      have cz : cM g0 W cnt k ch lk o t = 0 := by
        unfold cM
        by_cases zc : t < cnt
        · have cl : bL g0 cnt lk t = 0 := by unfold bL stL; rw [if_pos zc, if_neg (by omega)]
          have : bTak g0 W cnt ch lk (cnt + k) t = 0 := takF_0 cl
          rw [if_pos zc, this]
          split <;> rfl
        · rw [if_neg zc, if_pos (by omega)]
      have ok1 : okB (bOk g0 W cnt ch lk o lim (cnt + k)) (min (t + 1) cnt) = true := by
        by_cases zc : t < cnt
        · rw [show min t cnt = t by omega] at ok
          rw [show min (t + 1) cnt = t + 1 by omega]
          show (okB (bOk g0 W cnt ch lk o lim (cnt + k)) t && bOk g0 W cnt ch lk o lim (cnt + k) t) = true
          rw [ok]
          have b0 : bBase g0 W cnt t = 0 := takF_0 (by unfold stL; rw [if_neg (by omega)])
          have l0 : lossF 0 (bTak g0 W cnt ch lk (cnt + k) t) = 0 := if_pos (by omega)
          unfold bOk
          rw [b0, l0]
          have := s0.lim0.1
          simp [this]
        · rw [show min (t + 1) cnt = min t cnt by omega]; exact ok
      obtain ⟨g', k1, k2, k3'⟩ := ih (t + 1) fu g (by omega) (by omega) h ok1
      rw [st, cz, Int.add_zero] at k1
      refine ⟨g', ?_, k2, k3'⟩
      rw [bde ed, if_pos rfl, zckb (by omega), t1]
      exact k1
end BSM
