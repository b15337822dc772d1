/-! ===== month: a month told ===== -/
theorem zsum_chg {f h : Nat → Int} {j0 : Nat} : ∀ {n : Nat}, (∀ j, j < n → j ≠ j0 → h j = f j) → j0 < n → zsum h n = zsum f n + (h j0 - f j0)
  | 0, _, hj => absurd hj (by omega)
  | n + 1, e, hj => by
    show zsum h n + h n = zsum f n + f n + (h j0 - f j0)
    by_cases c : j0 = n
    · subst c
      rw [zsum_eq (f := h) (h := f) (fun j hj => e j (by omega) (by omega))]
      omega
    · rw [zsum_chg (f := f) (h := h) (j0 := j0) (n := n) (fun j hj => e j (by omega)) (by omega), e n (by omega) (by omega)]
      omega
theorem zsum_all0 {f : Nat → Int} : ∀ {n : Nat}, (∀ j, j < n → 0 ≤ f j) → zsum f n = 0 → ∀ j, j < n → f j = 0
  | 0, _, _, j, hj => absurd hj (by omega)
  | n + 1, h, e, j, hj => by
    have e' : zsum f n + f n = 0 := e
    have a := zsum_nn (f := f) (n := n) (fun j hj => h j (by omega))
    have b := h n (by omega)
    by_cases c : j = n
    · subst c; omega
    · exact zsum_all0 (f := f) (n := n) (fun j hj => h j (by omega)) (by omega) j (by omega)
theorem kuu {V : Key → Nat → Int} {key : Key} {q : Nat} {v w : Int} : ku (ku V key q v) key q w = ku V key q w := by
  funext a b
  simp only [ku]
  split <;> rfl
theorem ku_self {V : Key → Nat → Int} {key : Key} {q : Nat} {v : Int} (h : V key q = v) : ku V key q v = V := by
  funext a b
  simp only [ku]
  split
  · rename_i z; rw [z.1, z.2, h]
  · rfl
section MNT
variable {k x m N N' : Nat} {c : Nat → Key} {V V' : Key → Nat → Int} {R : Key → Nat → Option Nat} {K : Key → Option (Nat × Nat)} {g g' gb W : Nat → Nat → Int} {X M : Hp} {i j a : Nat}
theorem lastU_eq {kd d kn : Int} (h18 : gb 18 = g 18) (h19 : gb 19 = g 19) (h20 : gb 20 = g 20) : ∀ n, lastU gb kd d kn n = lastU g kd d kn n
  | 0 => rfl
  | n + 1 => by
    rw [lastU, lastU, lastU_eq h18 h19 h20 n]
    unfold forceC
    rw [h18, h19, h20]
theorem wF_eq {t : Nat} {d : Int} (hr : ∀ a, a ≠ 0 → a ≠ 21 → a ≠ 26 → a ≠ 27 → gb a = g a) (h15 : gb 0 15 = g 0 15) : wF gb t i d = wF g t i d := by
  have e : nmF gb i d = nmF g i d := by
    funext q
    unfold nmF
    rw [hr 22 (by decide) (by decide) (by decide) (by decide), hr 23 (by decide) (by decide) (by decide) (by decide), hr 24 (by decide) (by decide) (by decide) (by decide), hr 7 (by decide) (by decide) (by decide) (by decide), hr 5 (by decide) (by decide) (by decide) (by decide), h15]
    have f : fOn gb (g 5 i) d = fOn g (g 5 i) d := by
      funext z
      unfold fOn
      rw [hr 5 (by decide) (by decide) (by decide) (by decide), hr 7 (by decide) (by decide) (by decide) (by decide), hr 8 (by decide) (by decide) (by decide) (by decide)]
    rw [f]
  unfold wF
  rw [e]
  unfold tx
  rw [hr 16 (by decide) (by decide) (by decide) (by decide), hr 17 (by decide) (by decide) (by decide) (by decide)]
/-- what is due for a month: the class's worth and the reference's due -/
theorem ST.due (h : ST k x c N V R K g W) (hD : ∀ a q, a ≠ 26 → a ≠ 27 → gb a q = g a q) (hi : i < (g 0 15).toNat) (ha : SA c R K i a) (hj : j < 333) (kd : Int) : ∃ (lu v : Int) (V' : Key → Nat → Int) (R' : Key → Nat → Option Nat) (g' gb' : Nat → Nat → Int), (0 ≤ v ∧ v ≤ 1000000) ∧ FShelf_numberInForce zFU (x + 120) kd (30 * (j : Int) + 29) (g 0 0) (zX x c N V R K) = some lu ∧ FShelf_worth zFU (x + 120) lu a (30 * (j : Int) + 29) (zX x c N V R K) = some (v, zX x c N V' R' K) ∧ FM_due zFU m kd (i : Int) (j : Int) (zG m N' gb) = some (v, zG m N' gb') ∧ ST k x c N V' R' K g' W ∧ (∀ key q, key ≠ (0, 121, 0) → V' key q = V key q) ∧ (∀ key q, key ≠ (0, 121, 0) → R' key q = R key q) ∧ (∀ a q, a ≠ 26 → a ≠ 27 → gb' a q = g' a q) ∧ (gb' 26 = gb 26 ∧ gb' 27 = gb 27) ∧ (∀ a q, a ≠ 21 → (a = 0 → q < 54 ∨ 59 < q) → g' a q = g a q) := by
  have hc := h.c.cx
  have x0 := h.x.many0
  have n0 := h.h.many0
  have rw_ : ∀ a, a ≠ 26 → a ≠ 27 → gb a = g a := fun a z1 z2 => funext fun q => hD a q z1 z2
  have eF := eX_force (FU := zFU) (N := N) hc h.x (by decide) kd (30 * (j : Int) + 29) (g 0 0)
  have eF2 := eM_force (FU := zFU) (m := m) (N := N') (g := gb) (by rw [hD 0 31 (by decide) (by decide)]; exact x0) (by decide) kd (30 * (j : Int) + 29) (g 0 0)
  rw [hD 0 31 (by decide) (by decide), lastU_eq (rw_ 18 (by decide) (by decide)) (rw_ 19 (by decide) (by decide)) (rw_ 20 (by decide) (by decide))] at eF2
  have lb := lastU_bd g kd (30 * (j : Int) + 29) (g 0 0) (g 0 31).toNat
  have g00 : gb 0 0 = g 0 0 := hD 0 0 (by decide) (by decide)
  have eL : ∀ G, FM_lastOf zFU (j : Int) G = some (30 * (j : Int) + 29) := fun G => eM_last G (by omega)
  generalize hlu : lastU g kd (30 * (j : Int) + 29) (g 0 0) (g 0 31).toNat = lu at eF eF2 lb
  by_cases q5 : lu < 0
  · have eT := eX_textAt (FU := zFU) (N := N) hc h.x lu
    rw [if_neg (by omega)] at eT
    have eW : FShelf_worth zFU (x + 120) lu a (30 * (j : Int) + 29) (zX x c N V R K) = some (0, zX x c N V R K) := by
      unfold FShelf_worth FShelf_worth_b
      rw [xD120 hc, bde eT, zcn]
    refine ⟨lu, 0, V, R, g, gb, by omega, eF, eW, ?_, h, fun _ _ _ => rfl, fun _ _ _ => rfl, hD, ⟨rfl, rfl⟩, fun _ _ _ _ => rfl⟩
    unfold FM_due FM_due_b
    rw [mD, bde (eL _), mIb, g00, bde eF2, if_pos q5]
  · obtain ⟨t, rfl⟩ : ∃ t : Nat, lu = (t : Int) := ⟨lu.toNat, by omega⟩
    have ht : t < (g 0 31).toNat := by omega
    obtain ⟨b, hb⟩ := h.h.ma hi
    have hd : 0 ≤ 30 * (j : Int) + 29 ∧ 30 * (j : Int) + 29 ≤ 9999 := by omega
    obtain ⟨V', A, e1, e2, e3⟩ := eX_worth (N := N) (FU := zFU) hc h.h h.m h.x (by decide) ht hi ha hb hd
    obtain ⟨gb', k1, k2, k3⟩ := eM_given (m := m) (N := N') (FU := zFU) (g := gb) (t := t) (i := i) (d := 30 * (j : Int) + 29) (by rw [hD 0 15 (by decide) (by decide)]; exact n0) (by rw [hD 0 31 (by decide) (by decide)]; exact x0) (by decide) (by rw [hD 0 31 (by decide) (by decide)]; exact ht) (by rw [hD 0 15 (by decide) (by decide)]; exact hi) (by rw [hD 17 t (by decide) (by decide)]; exact (h.x.len t ht).2) (fun q hq => by
      rw [hD 17 t (by decide) (by decide)] at hq
      rw [hD 16 _ (by decide) (by decide)]
      exact (h.x.byte t q ht hq).2) (by
      unfold tx
      rw [rw_ 16 (by decide) (by decide), hD 17 t (by decide) (by decide)]
      exact h.x.good t ht) (fun s hs => by rw [hD 22 s (by decide) (by decide)]; exact h.m.flag s hs) (by rw [hD 7 i (by decide) (by decide)]; exact (h.h.num i hi).opened0) hd
    have wv : wF gb t i (30 * (j : Int) + 29) = wF g t i (30 * (j : Int) + 29) := wF_eq (fun a _ _ z1 z2 => rw_ a z1 z2) (hD 0 15 (by decide) (by decide))
    have nv : nmF gb i (30 * (j : Int) + 29) = nmF g i (30 * (j : Int) + 29) := by
      funext q
      unfold nmF
      rw [rw_ 22 (by decide) (by decide), rw_ 23 (by decide) (by decide), rw_ 24 (by decide) (by decide), rw_ 7 (by decide) (by decide), rw_ 5 (by decide) (by decide), hD 0 15 (by decide) (by decide)]
      have f : fOn gb (g 5 i) (30 * (j : Int) + 29) = fOn g (g 5 i) (30 * (j : Int) + 29) := by
        funext z
        unfold fOn
        rw [rw_ 5 (by decide) (by decide), rw_ 7 (by decide) (by decide), rw_ 8 (by decide) (by decide)]
      rw [f]
    rw [wv] at k1
    rw [nv] at k3
    have ed : (30 * (j : Int) + 29) / 30 = (j : Int) := by omega
    rw [ed] at k1
    have fr : ∀ a q, a ≠ 21 → (a = 0 → q < 54 ∨ 59 < q) → (fun a q => if a = 26 ∨ a = 27 then g a q else gb' a q) a q = g a q := fun a q z1 z2 => by
      show (if a = 26 ∨ a = 27 then g a q else gb' a q) = g a q
      by_cases c1 : a = 26 ∨ a = 27
      · rw [if_pos c1]
      · rw [if_neg c1, k2 a q z1 z2, hD a q (by omega) (by omega)]
    have st := h.named (A := some A) (g' := fun a q => if a = 26 ∨ a = 27 then g a q else gb' a q) e2 e3 fr (fun q hq => by
      show (if 21 = 26 ∨ 21 = 27 then g 21 q else gb' 21 q) = _
      rw [if_neg (by decide)]
      exact k3 q hq) (fun q _ => h.nmIn hi hd q)
    refine ⟨(t : Int), wF g t i (30 * (j : Int) + 29), V', _, _, gb', wF_bd _ _ _ _, eF, e1, ?_, st, e2, fun key q hk => ru_ne hk, fun a q z1 z2 => by
      show gb' a q = if a = 26 ∨ a = 27 then g a q else gb' a q
      rw [if_neg (by omega)], ⟨funext fun q => k2 26 q (by decide) (by simp), funext fun q => k2 27 q (by decide) (by simp)⟩, fr⟩
    unfold FM_due FM_due_b
    rw [mD, bde (eL _), mIb, g00, bde eF2, if_neg q5, bde (eL _), zbe k1]
/-- the month's cell, and its numbers -/
def mtV (V : Key → Nat → Int) (i j : Nat) (p q r : Int) : Key → Nat → Int := ku (ku (ku (vu V (2, i, j)) (2, i, j) 0 p) (2, i, j) 1 q) (2, i, j) 2 r
def mtR (R : Key → Nat → Option Nat) (i j N : Nat) : Key → Nat → Option Nat := ru (rnu R (2, i, j)) (5, i, 0) j (some N)
def mtG (g : Nat → Nat → Int) (s : Nat) (p q r : Int) : Nat → Nat → Int := gu (gu (gu (gu g 22 s 1) 23 s p) 24 s q) 25 s r
theorem IC.freshM (h : IC x c N g) (h0 : g 22 (333 * i + j) = 0) : ∀ q, c q ≠ (2, i, j) := by
  intro q z
  have u := h.used q
  rw [z] at u
  simp at u
  omega
theorem ST.told (h : ST k x c N V R K g W) (hi : i < (g 0 15).toNat) (hj : j < 333) (h0 : g 22 (333 * i + j) = 0) {p q r : Int} (hp : 0 ≤ p ∧ p ≤ 99999) (hq : 0 ≤ q ∧ q ≤ 9999) (hr : 0 ≤ r ∧ r ≤ 9999) : ST k x (cu c N (2, i, j)) (N + 1) (mtV V i j p q r) (mtR R i j N) (knu K (2, i, j) 3 0) (mtG g (333 * i + j) p q r) W := by
  have f := h.c.freshM h0
  have n0 := h.h.many0
  have hN : (c N).1 = 9 := h.c.new N (Nat.le_refl N)
  have ih := h.h.more (t := 3) (l := 0) (key := (2, i, j)) (by simp) hN f
  have im := h.m.more (t := 3) (l := 0) (key := (2, i, j)) h.h hN f
  have iu := h.u.more (key := (2, i, j)) h.h f
  have ix := h.x.more (t := 3) (l := 0) (key := (2, i, j)) (by simp) hN f
  have vo : ∀ key, key ≠ (2, i, j) → mtV V i j p q r key = vu V (2, i, j) key := fun key e => by
    unfold mtV
    rw [ku_row e, ku_row e, ku_row e]
  have go : ∀ a s, (22 ≤ a → a ≤ 25 → s ≠ 333 * i + j) → mtG g (333 * i + j) p q r a s = g a s := fun a s z => by
    unfold mtG
    simp only [zgu]
    rw [if_neg (fun e => z (by omega) (by omega) e.2), if_neg (fun e => z (by omega) (by omega) e.2), if_neg (fun e => z (by omega) (by omega) e.2), if_neg (fun e => z (by omega) (by omega) e.2)]
  have gr : ∀ a, (a < 22 ∨ 25 < a) → mtG g (333 * i + j) p q r a = g a := fun a z => funext fun s => go a s (fun _ _ => by omega)
  have fV : ∀ key u, cV key u ≠ 5 → cV key u ≠ 16 → mtV V i j p q r key u = vu V (2, i, j) key u := fun key u z1 z2 => by
    rw [vo key (fun e => by
      subst e
      have : cV (2, i, j) u = 5 ∨ cV (2, i, j) u = 16 := by
        show (if u ≤ 2 then 5 else 16) = 5 ∨ (if u ≤ 2 then 5 else 16) = 16
        split <;> simp
      omega)]
  have fG : ∀ a s, cG a s ≠ 14 → cG a s ≠ 5 → mtG g (333 * i + j) p q r a s = g a s := fun a s z1 z2 => go a s (fun w1 w2 _ => by
    have : a = 22 ∨ a = 23 ∨ a = 24 ∨ a = 25 := by omega
    rcases this with rfl | rfl | rfl | rfl
    · exact z1 rfl
    · exact z2 rfl
    · exact z2 rfl
    · exact z2 rfl)
  have rr : ∀ key, key ≠ (5, i, 0) → mtR R i j N key = rnu R (2, i, j) key := fun key z1 => funext fun q => by
    unfold mtR
    rw [ru_ne z1]
  have g15 : mtG g (333 * i + j) p q r 0 15 = g 0 15 := go 0 15 (by omega)
  refine ⟨?_, ?_, ?_, ?_, ?_, ?_, ?_, ?_, ?_, ?_, ?_, ?_⟩
  · exact (h.s.more (key := (2, i, j)) (by simp)).fr (fun key i e => fV key i (by omega) (by omega)) (fun a s e => fG a s (by omega) (by omega))
  · exact (h.t.more (key := (2, i, j)) (by simp)).fr (fun key i e => fV key i (by omega) (by omega)) (fun a s e => fG a s (by omega) (by omega))
  · exact (h.z.more (key := (2, i, j)) (by simp)).fr (fun key i e => fV key i (by omega) (by omega)) (fun a s e => fG a s (by omega) (by omega))
  · have z := ih.fr (V' := mtV V i j p q r) (g' := mtG g (333 * i + j) p q r) (fun key i e => fV key i (by omega) (by omega)) (fun a s e => fG a s (by omega) (by omega))
    have r1 : ∀ t, mtR R i j N (1, t, 0) = rnu R (2, i, j) (1, t, 0) := fun t => rr _ (by simp)
    have r2 : mtR R i j N (0, 67, 0) = rnu R (2, i, j) (0, 67, 0) := rr _ (by simp)
    unfold IH at z ⊢
    simp only [r1, r2]
    exact z
  · have z0 := h.m.zero (333 * i + j) (by omega) h0
    have d0 := h.m.due0 (333 * i + j) (by omega)
    have r5 : ∀ t u, (t = i → u ≠ j) → mtR R i j N (5, t, 0) u = rnu R (2, i, j) (5, t, 0) u := fun t u e => by
      unfold mtR ru
      rw [if_neg (fun z => by
        have z1 : t = i := by simpa using z.1
        exact e z1 z.2)]
    have s22 : mtG g (333 * i + j) p q r 22 (333 * i + j) = 1 := by unfold mtG; simp [zgu]
    unfold IM
    rw [g15, gr 26 (by omega), gr 27 (by omega), gr 28 (by omega), gr 29 (by omega)]
    refine ⟨fun s hs => ?_, fun t u ht hu e => ?_, fun t u ht hu e => ?_, fun t u ht hu e => ?_, h.m.due0, fun s hs e => ?_, fun s hs hs2 => ?_⟩
    · by_cases e : s = 333 * i + j
      · rw [e, s22]; exact Or.inr rfl
      · rw [go 22 s (fun _ _ => e)]; exact h.m.flag s hs
    · have ne : 333 * t + u ≠ 333 * i + j := fun z => by rw [z, s22] at e; exact absurd e (by decide)
      rw [go 22 _ (fun _ _ => ne)] at e
      rw [r5 t u (fun z => by omega)]
      exact im.none_ t u ht hu e
    · by_cases ne : 333 * t + u = 333 * i + j
      · have et : t = i := by omega
        have eu : u = j := by omega
        subst et
        subst eu
        exact ⟨N, by unfold mtR; simp [ru], cu_at, knu_at⟩
      · rw [go 22 _ (fun _ _ => ne)] at e
        rw [r5 t u (fun z => by omega)]
        exact im.some_ t u ht hu e
    · by_cases ne : 333 * t + u = 333 * i + j
      · have et : t = i := by omega
        have eu : u = j := by omega
        subst et
        subst eu
        unfold IMs
        rw [gr 26 (by omega), gr 27 (by omega), gr 28 (by omega), gr 29 (by omega)]
        simp [mtV, mtG, zku, zgu, vu]
        omega
      · rw [go 22 _ (fun _ _ => ne)] at e
        exact (im.num t u ht hu e).fr (fun w _ => by rw [vo _ (fun z => by simp at z; omega)]) (fun a _ => go a _ (fun _ _ => ne))
    · by_cases e2 : s = 333 * i + j
      · rw [e2, s22] at e; exact absurd e (by decide)
      · rw [go 22 s (fun _ _ => e2)] at e
        exact h.m.zero s hs e
    · rw [go 22 s (fun _ _ => by omega)]; exact h.m.later s hs hs2
  · exact iu.fr (fun key i e => fV key i (by omega) (by omega)) (fun a s e => go a s (fun w1 w2 _ => by
      have : a = 22 ∨ a = 23 ∨ a = 24 ∨ a = 25 := by omega
      rcases this with rfl | rfl | rfl | rfl <;> (rcases e with e | e | e | e <;> exact absurd e (by simp [cG]))))
  · have z := ix.fr (V' := mtV V i j p q r) (g' := mtG g (333 * i + j) p q r) (fun key i e => fV key i (by omega) (by omega)) (fun a s e => fG a s (by omega) (by omega))
    have r1 : ∀ t, mtR R i j N (3, t, 0) = rnu R (2, i, j) (3, t, 0) := fun t => rr _ (by simp)
    have r2 : mtR R i j N (0, 123, 0) = rnu R (2, i, j) (0, 123, 0) := rr _ (by simp)
    unfold IX at z ⊢
    simp only [r1, r2]
    exact z
  · exact (h.n.more (key := (2, i, j)) (by simp)).fr (fun key i e => fV key i (by omega) (by omega)) (fun a s e => fG a s (by omega) (by omega))
  · exact (h.f.more (key := (2, i, j)) (by simp)).fr (fun key i e => fV key i (by omega) (by omega)) (fun a s e => fG a s (by omega) (by omega))
  · exact (h.p.more (key := (2, i, j)) (by simp)).fr (fun key i e => fV key i (by omega) (by omega)) (fun a s e => fG a s (by omega) (by omega))
  · exact (h.d.more (key := (2, i, j)) (by simp)).fr (fun key i e => fV key i (by omega) (by omega)) (fun a s e => fG a s (by omega) (by omega))
  · have s22 : mtG g (333 * i + j) p q r 22 (333 * i + j) = 1 := by unfold mtG; simp [zgu]
    unfold IC
    rw [g15, go 0 31 (by omega)]
    refine ⟨cu_cx h.c.cx hN f, fun t ht => by rw [cu_old (by omega)]; exact h.c.new t (by omega), fun t => ?_⟩
    by_cases z1 : t = N
    · rw [z1, cu_at]
      exact .inr (.inr (.inr (.inr (.inl ⟨rfl, hi, hj, s22⟩))))
    · rw [cu_old z1]
      have u := h.c.used t
      rcases u with u | u | u | u | u | u | u
      · exact .inl u
      · exact .inr (.inl u)
      · exact .inr (.inr (.inl u))
      · exact .inr (.inr (.inr (.inl u)))
      · refine .inr (.inr (.inr (.inr (.inl ⟨u.1, u.2.1, u.2.2.1, ?_⟩))))
        by_cases e : 333 * (c t).2.1 + (c t).2.2 = 333 * i + j
        · rw [e, s22]
        · rw [go 22 _ (fun _ _ => e)]; exact u.2.2.2
      · exact .inr (.inr (.inr (.inr (.inr (.inl u)))))
      · exact .inr (.inr (.inr (.inr (.inr (.inr u)))))
end MNT
