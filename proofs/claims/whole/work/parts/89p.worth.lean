/-! ===== what a text gives a shop on a day: names and reading, both sides ===== -/
theorem ku_ne {V : Key → Nat → Int} {k0 key : Key} {j q : Nat} {v : Int} (h : key ≠ k0) : ku V k0 j v key q = V key q := if_neg (fun e => h e.1)
theorem zdv30 {a : Int} (h : 0 ≤ a ∧ a ≤ 2147483647) : zdv a 30 = some (a / 30) := by
  unfold zdv
  rw [if_neg (by decide), Int.tdiv_eq_ediv_of_nonneg h.1, zck_of (by omega)]
theorem zdv360 {a : Int} (h : 0 ≤ a ∧ a ≤ 2147483647) : zdv a 360 = some (a / 360) := by
  unfold zdv
  rw [if_neg (by decide), Int.tdiv_eq_ediv_of_nonneg h.1, zck_of (by omega)]
theorem clamp_eq (v : Int) : zmax 0 (zmin 1000000 v) = if v < 0 then 0 else if v ≤ 1000000 then v else 1000000 := by
  unfold zmax zmin
  repeat' split
  all_goals omega
def fOn (g : Nat → Nat → Int) (o d : Int) (j : Nat) : Int := if g 5 j = o ∧ g 7 j ≤ d ∧ (g 8 j < 0 ∨ d < g 8 j) then 1 else 0
theorem fOn_bd (g : Nat → Nat → Int) (o d : Int) (n : Nat) (hn : n ≤ 40) : 0 ≤ zsum (fOn g o d) n ∧ zsum (fOn g o d) n ≤ 40 := by
  have := zsum_bd (f := fOn g o d) (b := 1) (n := n) (fun i _ => by unfold fOn; split <;> omega)
  omega
def nmF (g : Nat → Nat → Int) (i : Nat) (d : Int) (j : Nat) : Int :=
  if j = 0 then (if d < 9990 ∧ g 22 (333 * i + (d / 30).toNat) = 1 then g 23 (333 * i + (d / 30).toNat) else 0)
  else if j = 1 then (if d < 9990 ∧ g 22 (333 * i + (d / 30).toNat) = 1 then g 24 (333 * i + (d / 30).toNat) else 0)
  else if j = 2 then d / 30
  else if j = 3 then (if d < g 7 i then 0 else (d - g 7 i) / 360)
  else zsum (fOn g (g 5 i) d) (g 0 15).toNat
def tx (g : Nat → Nat → Int) (t : Nat) : Nat → Int := fun j => g 16 (120 * t + j)
def wF (g : Nat → Nat → Int) (t i : Nat) (d : Int) : Int := zmax 0 (zmin 1000000 ((pRead (tx g t) (g 17 t).toNat).1 (nmF g i d)).1)
theorem wF_bd (g : Nat → Nat → Int) (t i : Nat) (d : Int) : 0 ≤ wF g t i d ∧ wF g t i d ≤ 1000000 := by
  unfold wF
  rw [clamp_eq]
  repeat' split
  all_goals omega
section WRX
variable {k x N FU : Nat} {c : Nat → Key} {V V' : Key → Nat → Int} {R : Key → Nat → Option Nat} {K : Key → Option (Nat × Nat)} {g : Nat → Nat → Int}
theorem xPR121 {A : Nat} (hc : CX x c) : zpR (zX x c N V R K) (x + 121) 5 0 A = some (zX x c N V (ru R (0, 121, 0) 0 (some A)) K) := by
  unfold zpR
  rw [if_pos (xK121 hc), zX_sr hc (hc.2 121 (by omega)) 0 (some A) (fun _ => rfl)]
theorem xPZ0b {α : Type} {f : Hp → Option α} (hc : CX x c) : (zpZ (zX x c N V R K) (x + 121) 5 3 0).bind f = f (zX x c N (ku V (0, 121, 0) 3 0) R K) := by
  rw [xPZ121 hc, if_pos (by simp)]; rfl
theorem eX_read {A n : Nat} {bk : Key} {b nm : Nat → Int} (hc : CX x c) (hA : c A = bk) (hk : (if bk.1 = 0 then kfix bk.2.1 else K bk) = some (20, 120)) (hne : bk ≠ (0, 121, 0)) (hn : n ≤ 120) (hb : ∀ i, i < n → V bk i = b i ∧ 0 ≤ b i ∧ b i ≤ 255) (hnm : ∀ i, i < 5 → V (0, 121, 0) (4 + i) = nm i) (hFU : 200 ≤ FU) : ∃ v : Int, FReader_read FU (x + 121) A (n : Int) (zX x c N V R K) = some (v, zX x c N (rX (ku V (0, 121, 0) 1 (n : Int)) (pRead b n).2.1 (if (pRead b n).2.2 = true then 1 else 0)) (ru R (0, 121, 0) 0 (some A)) K) ∧ ((pRead b n).2.2 = false → v = ((pRead b n).1 nm).1) := by
  have hX : XB x c (ku V (0, 121, 0) 1 (n : Int)) (ru R (0, 121, 0) 0 (some A)) K b nm n A bk :=
    ⟨hc, if_pos ⟨rfl, rfl⟩, hA, hk, hne, if_pos ⟨rfl, rfl⟩, hn, fun i hi => by rw [ku_ne hne]; exact hb i hi, fun i hi => by
      unfold ku
      rw [if_neg (by omega)]
      exact hnm i hi⟩
  have e := hX.text (FU := FU) (N := N) (by omega) (n + 1) (fun _ => (0, 0)) 0 0 FU 0 0 rfl (Or.inl rfl) (by omega) (by omega) (by omega) (by omega)
  unfold FReader_read FReader_read_b
  rw [xD121 hc, bde (xPR121 hc), xP121b hc, xP121b hc, xPZ0b hc]
  exact e
theorem IH.nm (h : IH k c V R K g) (hv : ∀ key q, key ≠ (0, 121, 0) → V' key q = V key q) : IH k c V' R K g := by
  refine h.fr (fun key i hk => hv key i (fun e => ?_)) (fun _ _ _ => rfl)
  subst e
  have : cV (0, 121, 0) i = 8 ∨ cV (0, 121, 0) i = 0 := by
    show (if 4 ≤ i then 8 else 0) = 8 ∨ (if 4 ≤ i then 8 else 0) = 0
    split <;> simp
  omega
theorem IH.on_loop (hc : CX x c) (h : IH k c V R K g) (o d : Int) : ∀ (e i n : Nat), i + e = (g 0 15).toNat → e < n → FChain_openOn_L5 FU n (x + 66) o d (zsum (fOn g o d) i) (i : Int) (zX x c N V R K) = some (zsum (fOn g o d) (g 0 15).toNat) := by
  have n0 := h.many0
  intro e
  induction e with
  | zero =>
    intro i n hi hn
    obtain ⟨n, rfl⟩ : ∃ n', n = n' + 1 := ⟨n - 1, by omega⟩
    have : i = (g 0 15).toNat := by omega
    subst this
    rw [FChain_openOn_L5, xI66b hc, h.many, if_neg (by omega)]
  | succ e ih =>
    intro i n hi hn
    obtain ⟨n, rfl⟩ : ∃ n', n = n' + 1 := ⟨n - 1, by omega⟩
    obtain ⟨a, ha⟩ := h.sa (i := i) (by omega)
    have q := h.num i (by omega)
    have q1 := q.opened
    have q2 := q.closed
    have q3 := q.closed0
    have b1 := fOn_bd g o d i (by omega)
    have hi1 : ((i : Int) + 1) = ((i + 1 : Nat) : Int) := by omega
    have ti : (i : Int).toNat = i := by omega
    have ih1 := ih (i + 1) n (by omega) (by omega)
    have hs : zsum (fOn g o d) (i + 1) = zsum (fOn g o d) i + fOn g o d i := rfl
    rw [hs] at ih1
    rw [FChain_openOn_L5, xI66b hc, h.many, if_pos (by omega), bde (h.shopAt hc (i : Int)), if_pos (by omega), ti, ha.ref, zcs, sIb ha, q.owner]
    by_cases c1 : g 5 i = o
    · have ew := eS_wasOpen (x := x) (FU := FU) (N := N) (V := V) ha d
      by_cases c2 : g 7 i ≤ d ∧ (g 8 i < 0 ∨ d < g 8 i)
      · have f1 : fOn g o d i = 1 := if_pos ⟨c1, c2⟩
        rw [f1] at ih1
        rw [if_pos (show V (1, i, 0) 3 ≤ d ∧ (V (1, i, 0) 5 = -1 ∨ d < V (1, i, 0) 5) by omega)] at ew
        rw [if_pos c1, bde ew, if_neg (by decide), zckb (by omega), zckb (by omega), hi1]
        exact ih1
      · have f1 : fOn g o d i = 0 := if_neg (fun z => c2 z.2)
        rw [f1, Int.add_zero] at ih1
        rw [if_neg (show ¬ (V (1, i, 0) 3 ≤ d ∧ (V (1, i, 0) 5 = -1 ∨ d < V (1, i, 0) 5)) by omega)] at ew
        rw [if_pos c1, bde ew, if_pos rfl, zckb (by omega), hi1]
        exact ih1
    · have f1 : fOn g o d i = 0 := if_neg (fun z => c1 z.1)
      rw [f1, Int.add_zero] at ih1
      rw [if_neg c1, zckb (by omega), hi1]
      exact ih1
theorem eC_openOn (hc : CX x c) (h : IH k c V R K g) (hFU : 41 ≤ FU) (o d : Int) : FChain_openOn FU (x + 66) o d (zX x c N V R K) = some (zsum (fOn g o d) (g 0 15).toNat) := by
  have n0 := h.many0
  unfold FChain_openOn FChain_openOn_b
  rw [xD66 hc]
  exact h.on_loop hc o d (g 0 15).toNat 0 FU (by omega) (by omega)
theorem tQ4 {α : Type} {f : Nat → Option α} {t a A : Nat} (h : TA c R K t a) (hA : R (3, t, 0) 4 = some A) : (zgQ (zX x c N V R K) a 9 4).bind f = f A := by
  unfold zgQ
  rw [if_pos (xKo h.key (by simp) h.kind), xRo h.key (by simp), hA]
  rfl
theorem eX_worth (hc : CX x c) (hh : IH k c V R K g) (hm : IM c V R K g) (hx : IX c V R K g) (hFU : 400 ≤ FU) {t i a b : Nat} (ht : t < (g 0 31).toNat) (hi : i < (g 0 15).toNat) (ha : SA c R K i a) (hb : MA c R K i b) {d : Int} (hd : 0 ≤ d ∧ d ≤ 9999) : ∃ (V' : Key → Nat → Int) (A : Nat), FShelf_worth FU (x + 120) (t : Int) a d (zX x c N V R K) = some (wF g t i d, zX x c N V' (ru R (0, 121, 0) 0 (some A)) K) ∧ (∀ key q, key ≠ (0, 121, 0) → V' key q = V key q) ∧ (∀ j, j < 5 → V' (0, 121, 0) (4 + j) = nmF g i d j) := by
  have n0 := hh.many0
  have x0 := hx.many0
  obtain ⟨a9, ta⟩ := hx.ta ht
  obtain ⟨A, hA1, hA2, hA3⟩ := hx.bytes t ht
  have ln := hx.len t ht
  have q := hh.num i hi
  have op0 := q.opened0
  have tt : (t : Int).toNat = t := by omega
  have lt : ((g 17 t).toNat : Int) = g 17 t := by omega
  have B : ∀ (W1 : Key → Nat → Int), (∀ key q, key ≠ (0, 121, 0) → W1 key q = V key q) → W1 (0, 121, 0) 4 = nmF g i d 0 → W1 (0, 121, 0) 5 = nmF g i d 1 → W1 (0, 121, 0) 6 = nmF g i d 2 → FShelf_worth_B103 FU (x + 120) a d a9 (x + 121) (nmF g i d 3) (zX x c N W1 R K) = FShelf_worth_B103 FU (x + 120) a d a9 (x + 121) (nmF g i d 3) (zX x c N W1 R K) → ∃ (V' : Key → Nat → Int) (A : Nat), FShelf_worth_B103 FU (x + 120) a d a9 (x + 121) (nmF g i d 3) (zX x c N W1 R K) = some (wF g t i d, zX x c N V' (ru R (0, 121, 0) 0 (some A)) K) ∧ (∀ key q, key ≠ (0, 121, 0) → V' key q = V key q) ∧ (∀ j, j < 5 → V' (0, 121, 0) (4 + j) = nmF g i d j) := by
    intro W1 w0 w4 w5 w6 _
    have w1 : ∀ key q, key ≠ (0, 121, 0) → ku W1 (0, 121, 0) 7 (nmF g i d 3) key q = V key q := fun key q hk => by rw [ku_ne hk, w0 key q hk]
    have hh1 : IH k c (ku W1 (0, 121, 0) 7 (nmF g i d 3)) R K g := hh.nm w1
    have ow := hh1.num i hi
    have key4 : ((4, t, 0) : Key) ≠ (0, 121, 0) := by simp
    have key3 : ((3, t, 0) : Key) ≠ (0, 121, 0) := by simp
    have nm4 : nmF g i d 4 = zsum (fOn g (g 5 i) d) (g 0 15).toNat := rfl
    unfold FShelf_worth_B103
    rw [xP121b hc, xQ120_1b hc, xQ120_0b hc, sIb ha, ow.owner, bde (eC_openOn hc hh1 (by omega) (g 5 i) d), xP121b hc, xQ120_1b hc, tQ4 ta hA1, tI ta, ku_ne key3, w1 _ _ key3, ln.1]
    obtain ⟨v, e1, e2⟩ := eX_read (FU := FU) (N := N) (R := R) (K := K) (V := ku (ku W1 (0, 121, 0) 7 (nmF g i d 3)) (0, 121, 0) 8 (zsum (fOn g (g 5 i) d) (g 0 15).toNat)) (n := (g 17 t).toNat) (b := tx g t) (nm := nmF g i d) hc hA2 (by rw [if_neg (by simp)]; exact hA3) key4 (by omega) (fun j hj => by
      rw [ku_ne key4, w1 _ _ key4]
      exact hx.byte t j ht hj) (fun j hj => by
      have : j = 0 ∨ j = 1 ∨ j = 2 ∨ j = 3 ∨ j = 4 := by omega
      unfold ku
      rcases this with rfl | rfl | rfl | rfl | rfl
      · rw [if_neg (by omega), if_neg (by omega)]; exact w4
      · rw [if_neg (by omega), if_neg (by omega)]; exact w5
      · rw [if_neg (by omega), if_neg (by omega)]; exact w6
      · rw [if_neg (by omega), if_pos ⟨rfl, rfl⟩]
      · rw [if_pos ⟨rfl, rfl⟩]; rfl) (by omega)
    have gd : (pRead (tx g t) (g 17 t).toNat).2.2 = false := hx.good t ht
    rw [lt] at e1
    rw [zbe e1, Option.bind_some, Option.bind_some, e2 gd]
    refine ⟨_, A, rfl, fun key q hk => ?_, fun j hj => ?_⟩
    · rw [rX_k _ _ _ hk, ku_ne hk, ku_ne hk, w1 key q hk]
    · rw [rX_o _ _ (by omega) (by omega)]
      have : j = 0 ∨ j = 1 ∨ j = 2 ∨ j = 3 ∨ j = 4 := by omega
      unfold ku
      rcases this with rfl | rfl | rfl | rfl | rfl
      · rw [if_neg (by omega), if_neg (by omega), if_neg (by omega)]; exact w4
      · rw [if_neg (by omega), if_neg (by omega), if_neg (by omega)]; exact w5
      · rw [if_neg (by omega), if_neg (by omega), if_neg (by omega)]; exact w6
      · rw [if_neg (by omega), if_neg (by omega), if_pos ⟨rfl, rfl⟩]
      · rw [if_neg (by omega), if_pos ⟨rfl, rfl⟩]; rfl
  have k1 : ((1, i, 0) : Key) ≠ (0, 121, 0) := by simp
  have C : ∀ (W1 : Key → Nat → Int), (∀ key q, key ≠ (0, 121, 0) → W1 key q = V key q) → W1 (0, 121, 0) 4 = nmF g i d 0 → ∃ (V' : Key → Nat → Int) (A : Nat), FShelf_worth_B63 FU (x + 120) a d a9 (x + 121) (nmF g i d 1) (zX x c N W1 R K) = some (wF g t i d, zX x c N V' (ru R (0, 121, 0) 0 (some A)) K) ∧ (∀ key q, key ≠ (0, 121, 0) → V' key q = V key q) ∧ (∀ j, j < 5 → V' (0, 121, 0) (4 + j) = nmF g i d j) := by
    intro W1 w0 w4
    have z0 : ∀ key q, key ≠ (0, 121, 0) → ku (ku W1 (0, 121, 0) 5 (nmF g i d 1)) (0, 121, 0) 6 (d / 30) key q = V key q := fun key q hk => by rw [ku_ne hk, ku_ne hk, w0 key q hk]
    have z4 : ku (ku W1 (0, 121, 0) 5 (nmF g i d 1)) (0, 121, 0) 6 (d / 30) (0, 121, 0) 4 = nmF g i d 0 := by unfold ku; rw [if_neg (by omega), if_neg (by omega)]; exact w4
    have z5 : ku (ku W1 (0, 121, 0) 5 (nmF g i d 1)) (0, 121, 0) 6 (d / 30) (0, 121, 0) 5 = nmF g i d 1 := by unfold ku; rw [if_neg (by omega), if_pos ⟨rfl, rfl⟩]
    have z6 : ku (ku W1 (0, 121, 0) 5 (nmF g i d 1)) (0, 121, 0) 6 (d / 30) (0, 121, 0) 6 = nmF g i d 2 := by unfold ku; rw [if_pos ⟨rfl, rfl⟩]; rfl
    have nm3 : nmF g i d 3 = if d < g 7 i then 0 else (d - g 7 i) / 360 := rfl
    have T := B _ z0 z4 z5 z6 rfl
    unfold FShelf_worth_B63
    rw [xP121b hc, xQ120_1b hc, bde (zdv30 (by omega)), xP121b hc, xQ120_1b hc, sIb ha, z0 _ _ k1, q.opened]
    by_cases e : d < g 7 i
    · rw [if_pos e] at nm3
      rw [if_pos e, ← nm3]
      exact T
    · rw [if_neg e] at nm3
      rw [if_neg e, sIb ha, z0 _ _ k1, q.opened, zckb (by omega), bde (zdv360 (by omega)), ← nm3]
      exact T
  unfold FShelf_worth FShelf_worth_b
  rw [xD120 hc, bde (eX_textAt hc hx (t : Int)), if_pos (by omega), tt, ta.ref, zcs, bde (zdv30 (by omega)), bde (eS_monthAt ha hb (d / 30)), xQ120_1b hc]
  have nm0 : nmF g i d 0 = if d < 9990 ∧ g 22 (333 * i + (d / 30).toNat) = 1 then g 23 (333 * i + (d / 30).toNat) else 0 := rfl
  have nm1 : nmF g i d 1 = if d < 9990 ∧ g 22 (333 * i + (d / 30).toNat) = 1 then g 24 (333 * i + (d / 30).toNat) else 0 := rfl
  have none_ : ¬ (d < 9990 ∧ g 22 (333 * i + (d / 30).toNat) = 1) → ∃ (V' : Key → Nat → Int) (A : Nat), FShelf_worth_B42 FU (x + 120) a d a9 none (x + 121) 0 (zX x c N V R K) = some (wF g t i d, zX x c N V' (ru R (0, 121, 0) 0 (some A)) K) ∧ (∀ key q, key ≠ (0, 121, 0) → V' key q = V key q) ∧ (∀ j, j < 5 → V' (0, 121, 0) (4 + j) = nmF g i d j) := by
    intro e
    rw [if_neg e] at nm0 nm1
    unfold FShelf_worth_B42
    rw [xP121b hc, xQ120_1b hc, zcn]
    have T := C (ku V (0, 121, 0) 4 (nmF g i d 0)) (fun key q hk => ku_ne hk) (if_pos ⟨rfl, rfl⟩)
    rw [nm0, nm1] at T
    exact T
  by_cases c1 : 0 ≤ d / 30 ∧ d / 30 ≤ 332
  · rw [if_pos c1]
    rcases hm.ask n0 hi (j := (d / 30).toNat) (by omega) with ⟨f1, f2⟩ | ⟨f1, b', f2, ms, f4⟩
    · rw [f2, zcn]
      exact none_ (by omega)
    · have e : d < 9990 ∧ g 22 (333 * i + (d / 30).toNat) = 1 := ⟨by omega, f1⟩
      have k2 : ((2, i, (d / 30).toNat) : Key) ≠ (0, 121, 0) := by simp
      rw [if_pos e] at nm0 nm1
      rw [f2, zcs, oI ms, f4.takings]
      unfold FShelf_worth_B42
      rw [xP121b hc, xQ120_1b hc, zcs, oI ms, ku_ne k2, f4.flour, ← nm0, ← nm1]
      exact C (ku V (0, 121, 0) 4 (nmF g i d 0)) (fun key q hk => ku_ne hk) (if_pos ⟨rfl, rfl⟩)
  · rw [if_neg c1, zcn]
    exact none_ (by omega)
end WRX
/-! ===== the reference's side ===== -/
section WRM
variable {m N FU : Nat} {g : Nat → Nat → Int}
theorem guu {j i : Nat} {v w : Int} : gu (gu g j i v) j i w = gu g j i w := by
  funext a b
  simp only [gu]
  repeat' split
  all_goals first | rfl | omega
theorem gu_ne {j i a b : Nat} {v : Int} (h : ¬ (a = j ∧ b = i)) : gu g j i v a b = g a b := if_neg h
theorem eM_workOut {n : Nat} {base : Int} {b nm : Nat → Int} (h : MB (gu (gu g 0 54 base) 0 56 (n : Int)) b nm n) (hFU : 200 ≤ FU) : ∃ (v a o z : Int), FM_workOut FU m base (n : Int) (zG m N g) = some (v, zG m N (mG (gu (gu (gu g 0 54 base) 0 56 (n : Int)) 0 59 z) a (if (pRead b n).2.2 = true then ((pRead b n).2.1 : Int) else -1) o)) ∧ ((pRead b n).2.2 = false → v = ((pRead b n).1 nm).1) := by
  have e := MB.text (FU := FU) (m := m) (N := N) (by omega) (n + 1) _ h (fun _ => (0, 0)) 0 FU 0 0 rfl (Or.inl rfl) (by omega) (by omega) (by have := h.max; omega)
  have s : gu (gu (gu (gu (gu g 0 54 base) 0 55 0) 0 56 (n : Int)) 0 57 (-1)) 0 58 0 = mG (gu (gu g 0 54 base) 0 56 (n : Int)) ((0 : Nat) : Int) (-1) 0 := by
    funext a b
    simp only [mG, gu]
    repeat' split
    all_goals first | rfl | omega
  unfold FM_workOut FM_workOut_b
  rw [mD, mPb, mPb, mPb, mPb, mPb, s]
  obtain ⟨v, a, o', z, e1, e2⟩ := e
  exact ⟨v, a, o', z, e1, e2⟩
theorem mon_loop {G0 : Nat → Nat → Int} {t i : Nat} {d : Int} (n0 : 0 ≤ g 0 15 ∧ g 0 15 ≤ 40) (hi : i < 40) (h15 : G0 0 15 = g 0 15) (h5 : G0 5 = g 5) (h7 : G0 7 = g 7) (h8 : G0 8 = g 8) : ∀ (e j n : Nat), j + e = (g 0 15).toNat → e < n → ∃ n', FM_given_L134 FU n m (t : Int) (i : Int) d (j : Int) (zG m N (gu G0 21 4 (zsum (fOn g (g 5 i) d) j))) = FM_given_L134 FU (n' + 1) m (t : Int) (i : Int) d (g 0 15) (zG m N (gu G0 21 4 (zsum (fOn g (g 5 i) d) (g 0 15).toNat))) := by
  intro e
  induction e with
  | zero =>
    intro j n hj hn
    obtain ⟨n, rfl⟩ : ∃ n', n = n' + 1 := ⟨n - 1, by omega⟩
    have : j = (g 0 15).toNat := by omega
    subst this
    rw [show (((g 0 15).toNat : Nat) : Int) = g 0 15 by omega]
    exact ⟨n, rfl⟩
  | succ e ih =>
    intro j n hj hn
    obtain ⟨n, rfl⟩ : ∃ n', n = n' + 1 := ⟨n - 1, by omega⟩
    have b1 := fOn_bd g (g 5 i) d j (by omega)
    have hj1 : ((j : Int) + 1) = ((j + 1 : Nat) : Int) := by omega
    have tj : (j : Int).toNat = j := by omega
    have ti : (i : Int).toNat = i := by omega
    have t4 : (4 : Int).toNat = 4 := rfl
    obtain ⟨n', ih1⟩ := ih (j + 1) n (by omega) (by omega)
    have hs : zsum (fOn g (g 5 i) d) (j + 1) = zsum (fOn g (g 5 i) d) j + fOn g (g 5 i) d j := rfl
    rw [hs] at ih1
    have r5 : ∀ v, gu G0 21 4 v 5 = g 5 := fun v => by rw [← h5]; funext q; exact gu_ne (by omega)
    have r7 : ∀ v, gu G0 21 4 v 7 = g 7 := fun v => by rw [← h7]; funext q; exact gu_ne (by omega)
    have r8 : ∀ v, gu G0 21 4 v 8 = g 8 := fun v => by rw [← h8]; funext q; exact gu_ne (by omega)
    have r0 : ∀ v, gu G0 21 4 v 0 15 = g 0 15 := fun v => by rw [← h15]; exact gu_ne (by omega)
    have r4 : ∀ v, gu G0 21 4 v 21 4 = v := fun v => if_pos ⟨rfl, rfl⟩
    refine ⟨n', ?_⟩
    rw [← ih1, FM_given_L134, mIb, r0, if_pos (by omega), mQ32b, mRo21b (by omega), t4, r4, mQ9b, mRo5b (by omega), mQ9b, mRo5b (by omega), r5, tj, ti]
    by_cases c1 : g 5 j = g 5 i
    · rw [if_pos c1, bde (eM_wasOpen (by omega) d), r7, r8, tj]
      by_cases c2 : g 7 j ≤ d ∧ (g 8 j < 0 ∨ d < g 8 j)
      · have f1 : fOn g (g 5 i) d j = 1 := if_pos ⟨c1, c2⟩
        rw [if_pos c2, if_neg (by decide), zckb (by omega), mWo21b (by omega), t4, guu, zckb (by omega), hj1, f1]
      · have f1 : fOn g (g 5 i) d j = 0 := if_neg (fun z => c2 z.2)
        rw [if_neg c2, if_pos rfl, zckb (by omega), mWo21b (by omega), t4, guu, zckb (by omega), hj1, f1]
    · have f1 : fOn g (g 5 i) d j = 0 := if_neg (fun z => c1 z.1)
      rw [if_neg c1, zckb (by omega), mWo21b (by omega), t4, guu, zckb (by omega), hj1, f1]
theorem eM_given (n0 : 0 ≤ g 0 15 ∧ g 0 15 ≤ 40) (x0 : 0 ≤ g 0 31 ∧ g 0 31 ≤ 20) (hFU : 400 ≤ FU) {t i : Nat} (ht : t < (g 0 31).toNat) (hi : i < (g 0 15).toNat) (hl : 0 ≤ g 17 t ∧ g 17 t ≤ 120) (hbt : ∀ j, j < (g 17 t).toNat → 0 ≤ g 16 (120 * t + j) ∧ g 16 (120 * t + j) ≤ 255) (hgd : (pRead (tx g t) (g 17 t).toNat).2.2 = false) (hfl : ∀ s, s < 13320 → g 22 s = 0 ∨ g 22 s = 1) (h7 : 0 ≤ g 7 i ∧ g 7 i ≤ 9999) {d : Int} (hd : 0 ≤ d ∧ d ≤ 9999) : ∃ g', FM_given FU m (t : Int) (i : Int) (d / 30) d (zG m N g) = some (wF g t i d, zG m N g') ∧ (∀ j q, j ≠ 21 → (j = 0 → q < 54 ∨ 59 < q) → g' j q = g j q) ∧ (∀ j, j < 5 → g' 21 j = nmF g i d j) := by
  have ti : (i : Int).toNat = i := by omega
  have tt : (t : Int).toNat = t := by omega
  have t0 : (0 : Int).toNat = 0 := rfl
  have t1 : (1 : Int).toNat = 1 := rfl
  have t2 : (2 : Int).toNat = 2 := rfl
  have t3 : (3 : Int).toNat = 3 := rfl
  have t4 : (4 : Int).toNat = 4 := rfl
  have ts : (333 * (i : Int) + d / 30).toNat = 333 * i + (d / 30).toNat := by omega
  have ln : ((g 17 t).toNat : Int) = g 17 t := by omega
  have L : ∀ G1 : Nat → Nat → Int, (∀ j q, j ≠ 21 → G1 j q = g j q) → G1 21 0 = nmF g i d 0 → G1 21 1 = nmF g i d 1 → G1 21 2 = nmF g i d 2 → G1 21 3 = nmF g i d 3 → ∃ g', FM_given_L134 FU FU m (t : Int) (i : Int) d 0 (zG m N (gu G1 21 4 0)) = some (wF g t i d, zG m N g') ∧ (∀ j q, j ≠ 21 → (j = 0 → q < 54 ∨ 59 < q) → g' j q = g j q) ∧ (∀ j, j < 5 → g' 21 j = nmF g i d j) := by
    intro G1 go g0 g1 g2 g3
    obtain ⟨n', e⟩ := mon_loop (FU := FU) (m := m) (N := N) (G0 := G1) (t := t) (i := i) (d := d) n0 (by omega) (go 0 15 (by decide)) (funext fun q => go 5 q (by decide)) (funext fun q => go 7 q (by decide)) (funext fun q => go 8 q (by decide)) (g 0 15).toNat 0 FU (by omega) (by omega)
    have e' : FM_given_L134 FU FU m (t : Int) (i : Int) d 0 (zG m N (gu G1 21 4 0)) = FM_given_L134 FU (n' + 1) m (t : Int) (i : Int) d (g 0 15) (zG m N (gu G1 21 4 (zsum (fOn g (g 5 i) d) (g 0 15).toNat))) := e
    have r0 : ∀ j q, j ≠ 21 → gu G1 21 4 (zsum (fOn g (g 5 i) d) (g 0 15).toNat) j q = g j q := fun j q hj => by rw [gu_ne (fun z => hj z.1), go j q hj]
    have rn : ∀ j, j < 5 → gu G1 21 4 (zsum (fOn g (g 5 i) d) (g 0 15).toNat) 21 j = nmF g i d j := fun j hj => by
      have : j = 0 ∨ j = 1 ∨ j = 2 ∨ j = 3 ∨ j = 4 := by omega
      rcases this with rfl | rfl | rfl | rfl | rfl
      · rw [gu_ne (by omega)]; exact g0
      · rw [gu_ne (by omega)]; exact g1
      · rw [gu_ne (by omega)]; exact g2
      · rw [gu_ne (by omega)]; exact g3
      · exact if_pos ⟨rfl, rfl⟩
    rw [e', FM_given_L134, mIb, r0 0 15 (by decide), if_neg (by omega), zckb (by omega), mQ27b, mRo17b (by omega), tt, r0 17 t (by decide)]
    generalize gu G1 21 4 (zsum (fOn g (g 5 i) d) (g 0 15).toNat) = G2 at r0 rn
    have hB : MB (gu (gu G2 0 54 (120 * (t : Int))) 0 56 ((g 17 t).toNat : Int)) (tx g t) (nmF g i d) (g 17 t).toNat := by
      refine ⟨if_pos ⟨rfl, rfl⟩, by omega, ?_, fun p hp => ?_, fun j hj => ?_⟩
      · rw [gu_ne (by omega), zgu, if_pos ⟨rfl, rfl⟩]; omega
      · have e54 : gu (gu G2 0 54 (120 * (t : Int))) 0 56 ((g 17 t).toNat : Int) 0 54 = 120 * (t : Int) := by rw [gu_ne (by omega), zgu, if_pos ⟨rfl, rfl⟩]
        have tb : (120 * (t : Int)).toNat = 120 * t := by omega
        rw [e54, if_neg (by omega), tb, gu_ne (by omega), gu_ne (by omega), r0 16 _ (by decide)]
        exact ⟨rfl, hbt p hp⟩
      · rw [gu_ne (by omega), gu_ne (by omega)]; exact rn j hj
    obtain ⟨v, a, o, z, e1, e2⟩ := eM_workOut (FU := FU) (m := m) (N := N) hB (by omega)
    rw [ln] at e1
    have ev := e2 hgd
    have fr : ∀ (f : Int), (∀ j q, j ≠ 21 → (j = 0 → q < 54 ∨ 59 < q) → mG (gu (gu (gu G2 0 54 (120 * (t : Int))) 0 56 (g 17 t)) 0 59 z) a f o j q = g j q) ∧ (∀ j, j < 5 → mG (gu (gu (gu G2 0 54 (120 * (t : Int))) 0 56 (g 17 t)) 0 59 z) a f o 21 j = nmF g i d j) := by
      intro f
      refine ⟨fun j q hj hq => ?_, fun j hj => ?_⟩
      · by_cases j0 : j = 0
        · subst j0
          have := hq rfl
          rw [mG_o _ _ _ (by omega) (by omega) (by omega), gu_ne (by omega), gu_ne (by omega), gu_ne (by omega), r0 0 q hj]
        · rw [mG_k _ _ _ _ j0, gu_ne (fun z => j0 z.1), gu_ne (fun z => j0 z.1), gu_ne (fun z => j0 z.1), r0 j q hj]
      · rw [mG_k _ _ _ _ (by decide), gu_ne (by omega), gu_ne (by omega), gu_ne (by omega), rn j hj]
    rw [zbe e1]
    have wv : wF g t i d = if v < 0 then 0 else if v ≤ 1000000 then v else 1000000 := by
      unfold wF
      rw [clamp_eq, ev]
    rw [wv]
    by_cases c1 : v < 0
    · rw [if_pos c1, if_pos c1]
      exact ⟨_, rfl, fr _⟩
    · by_cases c2 : v ≤ 1000000
      · rw [if_neg c1, if_neg c1, if_pos c2, if_pos c2]
        exact ⟨_, rfl, fr _⟩
      · rw [if_neg c1, if_neg c1, if_neg c2, if_neg c2]
        exact ⟨_, rfl, fr _⟩
  have nm3 : nmF g i d 3 = if d < g 7 i then 0 else (d - g 7 i) / 360 := rfl
  have nm0 : nmF g i d 0 = if d < 9990 ∧ g 22 (333 * i + (d / 30).toNat) = 1 then g 23 (333 * i + (d / 30).toNat) else 0 := rfl
  have nm1 : nmF g i d 1 = if d < 9990 ∧ g 22 (333 * i + (d / 30).toNat) = 1 then g 24 (333 * i + (d / 30).toNat) else 0 := rfl
  have P : ∀ (y0 : Int), y0 = nmF g i d 0 → ∀ (x5 : Int), (x5 = if d < 9990 ∧ g 22 (333 * i + (d / 30).toNat) = 1 then 1 else 0) → ∃ g', FM_given_B55 FU m (t : Int) (i : Int) (d / 30) d x5 (m + 21) 0 y0 (zG m N g) = some (wF g t i d, zG m N g') ∧ (∀ j q, j ≠ 21 → (j = 0 → q < 54 ∨ 59 < q) → g' j q = g j q) ∧ (∀ j, j < 5 → g' 21 j = nmF g i d j) := by
    intro y0 hy0 x5 hx5
    subst hy0
    unfold FM_given_B55
    rw [mWo21b (by omega), t0, mQ32b]
    have Q : ∃ g', FM_given_B82 FU m (t : Int) (i : Int) (d / 30) d (m + 21) 1 (nmF g i d 1) (zG m N (gu g 21 0 (nmF g i d 0))) = some (wF g t i d, zG m N g') ∧ (∀ j q, j ≠ 21 → (j = 0 → q < 54 ∨ 59 < q) → g' j q = g j q) ∧ (∀ j, j < 5 → g' 21 j = nmF g i d j) := by
      have r7 : ∀ v1 v2 v3, gu (gu (gu g 21 0 v1) 21 1 v2) 21 2 v3 7 i = g 7 i := fun v1 v2 v3 => by rw [gu_ne (by omega), gu_ne (by omega), gu_ne (by omega)]
      have T := L (gu (gu (gu (gu g 21 0 (nmF g i d 0)) 21 1 (nmF g i d 1)) 21 2 (d / 30)) 21 3 (nmF g i d 3)) (fun j q hj => by rw [gu_ne (fun z => hj z.1), gu_ne (fun z => hj z.1), gu_ne (fun z => hj z.1), gu_ne (fun z => hj z.1)]) (by rw [gu_ne (by omega), gu_ne (by omega), gu_ne (by omega), zgu, if_pos ⟨rfl, rfl⟩]) (by rw [gu_ne (by omega), gu_ne (by omega), zgu, if_pos ⟨rfl, rfl⟩]) (by rw [gu_ne (by omega), zgu, if_pos ⟨rfl, rfl⟩]; rfl) (by rw [zgu, if_pos ⟨rfl, rfl⟩])
      unfold FM_given_B82
      rw [mWo21b (by omega), t1, mQ32b, mWo21b (by omega), t2, mQ32b, mQ11b, mRo7b (by omega), ti, r7]
      unfold FM_given_B123
      by_cases c3 : d ≤ g 7 i
      · have e3 : nmF g i d 3 = 0 := by
          rw [nm3]
          split
          · rfl
          · have : d - g 7 i = 0 := by omega
            rw [this]; rfl
        rw [e3] at T
        rw [if_pos c3, mWo21b (by omega), t3, mQ32b, mWo21b (by omega), t4]
        exact T
      · rw [if_neg (by omega)] at nm3
        rw [if_neg c3, mQ11b, mRo7b (by omega), ti, r7, zckb (by omega), bde (zdv360 (by omega)), mWo21b (by omega), t3, mQ32b, mWo21b (by omega), t4, ← nm3]
        exact T
    by_cases e : d < 9990 ∧ g 22 (333 * i + (d / 30).toNat) = 1
    · rw [if_pos e] at hx5 nm1
      rw [if_neg (by omega), mQ35b, zckb (by omega), zckb (by omega), mRo24b (by omega), ts, gu_ne (by omega), ← nm1]
      exact Q
    · rw [if_neg e] at hx5 nm1
      rw [if_pos hx5, ← nm1]
      exact Q
  have N0 : ¬ (d < 9990 ∧ g 22 (333 * i + (d / 30).toNat) = 1) → ∃ g', FM_given_B26 FU m (t : Int) (i : Int) (d / 30) d (zG m N g) = some (wF g t i d, zG m N g') ∧ (∀ j q, j ≠ 21 → (j = 0 → q < 54 ∨ 59 < q) → g' j q = g j q) ∧ (∀ j, j < 5 → g' 21 j = nmF g i d j) := by
    intro e
    rw [if_neg e] at nm0
    unfold FM_given_B26 FM_given_B27
    rw [mQ32b, if_pos rfl]
    exact P 0 nm0.symm 0 (by rw [if_neg e])
  unfold FM_given FM_given_b
  rw [mD]
  by_cases c1 : d / 30 < 333
  · rw [if_pos c1, mQ33b, zckb (by omega), zckb (by omega), mRo22b (by omega), ts]
    by_cases c2 : g 22 (333 * i + (d / 30).toNat) = 0
    · rw [if_pos c2]
      exact N0 (by omega)
    · have e : d < 9990 ∧ g 22 (333 * i + (d / 30).toNat) = 1 := ⟨by omega, by have := hfl (333 * i + (d / 30).toNat) (by omega); omega⟩
      rw [if_pos e] at nm0
      rw [if_neg c2]
      unfold FM_given_B27
      rw [mQ32b, if_neg (by decide), mQ34b, zckb (by omega), zckb (by omega), mRo23b (by omega), ts]
      exact P _ nm0.symm 1 (by rw [if_pos e])
  · rw [if_neg c1]
    exact N0 (by omega)
end WRM
