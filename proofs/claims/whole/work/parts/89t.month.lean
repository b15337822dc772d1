/-! ===== month: what is charged, and the old credit led to it ===== -/
section MNU
variable {k x m N N' : Nat} {c : Nat → Key} {V V' : Key → Nat → Int} {R : Key → Nat → Option Nat} {K : Key → Option (Nat × Nat)} {g g' gb W : Nat → Nat → Int} {X M : Hp} {i j a : Nat}
def chV (V : Key → Nat → Int) (i j : Nat) (p q : Int) : Key → Nat → Int := ku (ku (ku (ku V (2, i, j) 3 p) (2, i, j) 4 q) (1, i, 0) 9 (V (1, i, 0) 9 + (p + q))) (1, i, 0) 10 0
def chG (g : Nat → Nat → Int) (i s : Nat) (p q : Int) : Nat → Nat → Int := gu (gu (gu g 26 s p) 27 s q) 30 i 0
theorem ST.charged (h : ST k x c N V R K g W) (hi : i < (g 0 15).toNat) (hj : j < 333) (h1 : g 22 (333 * i + j) = 1) (h26 : g 26 (333 * i + j) = 0) (h27 : g 27 (333 * i + j) = 0) {p q : Int} (hp : 0 ≤ p ∧ p ≤ 1000000) (hq : 0 ≤ q ∧ q ≤ 1000000) : ST (k + 1) x c N (chV V i j p q) R K (chG g i (333 * i + j) p q) W ∧ chV V i j p q (1, i, 0) 9 = V (1, i, 0) 9 + (p + q) := by
  have n0 := h.h.many0
  have d0 := h.m.due0 (333 * i + j) (by omega)
  have u := h.skip.u
  have go : ∀ a s, a ≠ 26 → a ≠ 27 → a ≠ 30 → chG g i (333 * i + j) p q a s = g a s := fun a s z1 z2 z3 => by
    unfold chG
    rw [gu_ne (fun z => z3 z.1), gu_ne (fun z => z2 z.1), gu_ne (fun z => z1 z.1)]
  have gr : ∀ a, a ≠ 26 → a ≠ 27 → a ≠ 30 → chG g i (333 * i + j) p q a = g a := fun a z1 z2 z3 => funext fun s => go a s z1 z2 z3
  have g26 : ∀ s, chG g i (333 * i + j) p q 26 s = if s = 333 * i + j then p else g 26 s := fun s => by
    unfold chG
    rw [gu_ne (by omega), gu_ne (by omega), gu_at]
  have g27 : ∀ s, chG g i (333 * i + j) p q 27 s = if s = 333 * i + j then q else g 27 s := fun s => by
    unfold chG
    rw [gu_ne (by omega), gu_at, gu_ne (by omega)]
  have g30 : ∀ s, chG g i (333 * i + j) p q 30 s = if s = i then 0 else g 30 s := fun s => by
    unfold chG
    rw [gu_at, gu_ne (by omega), gu_ne (by omega)]
  have vo : ∀ key t, key ≠ (1, i, 0) → key ≠ (2, i, j) → chV V i j p q key t = V key t := fun key t z1 z2 => by
    unfold chV
    rw [ku_row z1, ku_row z1, ku_row z2, ku_row z2]
  have v1 : ∀ t, t ≠ 9 → t ≠ 10 → chV V i j p q (1, i, 0) t = V (1, i, 0) t := fun t z1 z2 => by
    unfold chV
    rw [ku_at, if_neg z2, ku_at, if_neg z1, ku_row (by simp), ku_row (by simp)]
  have v9 : chV V i j p q (1, i, 0) 9 = V (1, i, 0) 9 + (p + q) := by
    unfold chV
    rw [ku_at, if_neg (by decide), ku_at, if_pos rfl]
  have v10 : chV V i j p q (1, i, 0) 10 = 0 := by
    unfold chV
    rw [ku_at, if_pos rfl]
  have v2 : ∀ t, chV V i j p q (2, i, j) t = if t = 4 then q else if t = 3 then p else V (2, i, j) t := fun t => by
    unfold chV
    rw [ku_row (by simp), ku_row (by simp), ku_at, ku_at]
  refine ⟨?_, v9⟩
  have md : ∀ s, s ≠ 333 * i + j → mDue (chG g i (333 * i + j) p q) s = mDue g s := fun s e => by
    unfold mDue
    rw [g26, g27, if_neg e, if_neg e, go 28 s (by decide) (by decide) (by decide), go 29 s (by decide) (by decide) (by decide)]
  have mj : mDue (chG g i (333 * i + j) p q) (333 * i + j) = p + q ∧ mDue g (333 * i + j) = 0 := by
    unfold mDue
    rw [g26, g27, if_pos rfl, if_pos rfl, go 28 _ (by decide) (by decide) (by decide), go 29 _ (by decide) (by decide) (by decide)]
    omega
  have sm : zsum (fun t => mDue (chG g i (333 * i + j) p q) (333 * i + t)) 333 = zsum (fun t => mDue g (333 * i + t)) 333 + (p + q) := by
    rw [zsum_chg (f := fun t => mDue g (333 * i + t)) (h := fun t => mDue (chG g i (333 * i + j) p q) (333 * i + t)) (j0 := j) (fun t _ e => md _ (by omega)) hj, mj.1, mj.2]
    omega
  have so : ∀ t, t ≠ i → zsum (fun u => mDue (chG g i (333 * i + j) p q) (333 * t + u)) 333 = zsum (fun u => mDue g (333 * t + u)) 333 := fun t e => zsum_eq (fun u hu => md _ (by omega))
  refine h.skip.put (W' := W) (fun a => a == 6 || a == 16) (fun key t q0 qq => ?_) (fun a s q0 qq => ?_) (m := fun _ => ?_) (u := fun _ => ?_)
  · by_cases e1 : key = (1, i, 0)
    · subst e1
      refine v1 t (fun z => ?_) (fun z => ?_)
      all_goals
        subst z
        exact absurd (show true = false from qq) (by decide)
    · by_cases e2 : key = (2, i, j)
      · subst e2
        rw [v2]
        by_cases t4 : t = 4
        · subst t4; exact absurd (show true = false from qq) (by decide)
        · rw [if_neg t4]
          by_cases t3 : t = 3
          · subst t3; exact absurd (show true = false from qq) (by decide)
          · rw [if_neg t3]
      · exact vo key t e1 e2
  · refine go a s (fun z => ?_) (fun z => ?_) (fun z => ?_)
    all_goals
      subst z
      exact absurd (show true = false from qq) (by decide)
  · unfold IM
    rw [go 0 15 (by decide) (by decide) (by decide), gr 22 (by decide) (by decide) (by decide), gr 28 (by decide) (by decide) (by decide), gr 29 (by decide) (by decide) (by decide)]
    refine ⟨h.m.flag, h.m.none_, h.m.some_, fun t u ht hu e => ?_, fun s hs => ?_, fun s hs e => ?_, h.m.later⟩
    · have Q := h.m.num t u ht hu e
      by_cases ne : 333 * t + u = 333 * i + j
      · have et : t = i := by omega
        have eu : u = j := by omega
        subst et
        subst eu
        unfold IMs at Q ⊢
        rw [gr 23 (by decide) (by decide) (by decide), gr 24 (by decide) (by decide) (by decide), gr 25 (by decide) (by decide) (by decide), gr 28 (by decide) (by decide) (by decide), gr 29 (by decide) (by decide) (by decide), g26, g27, if_pos rfl, if_pos rfl, v2, v2, v2, v2, v2, v2, v2]
        simp
        omega
      · refine Q.fr (fun w _ => vo _ w (by simp) (fun z => by simp at z; omega)) (fun b hb => ?_)
        by_cases b26 : b = 26
        · rw [b26, g26, if_neg ne]
        · by_cases b27 : b = 27
          · rw [b27, g27, if_neg ne]
          · exact go b _ b26 b27 (by omega)
    · have D := h.m.due0 s hs
      rw [g26, g27]
      by_cases e : s = 333 * i + j
      · rw [if_pos e, if_pos e]
        subst e
        omega
      · rw [if_neg e, if_neg e]
        exact D
    · have e2 : s ≠ 333 * i + j := fun z => by rw [z, h1] at e; exact absurd e (by decide)
      rw [g26, g27, if_neg e2, if_neg e2]
      exact h.m.zero s hs e
  · have ui := h.u.unpaid i hi
    unfold IU
    rw [go 0 15 (by decide) (by decide) (by decide), gr 31 (by decide) (by decide) (by decide), gr 33 (by decide) (by decide) (by decide)]
    refine ⟨fun t ht => ?_, fun t ht => ?_, fun t ht => ?_, fun t ht => ?_, fun t ht ht2 => ?_⟩
    · rw [g30]
      by_cases e : t = i
      · subst e; rw [v10, if_pos rfl]; omega
      · rw [vo _ _ (by simp [e]) (by simp), if_neg e]; exact u.credit t ht
    · by_cases e : t = i
      · subst e; rw [v9, sm]; omega
      · rw [vo _ _ (by simp [e]) (by simp), so t e]; exact u.unpaid t ht
    · rw [g30]
      by_cases e : t = i
      · subst e; rw [if_pos rfl]; intro z; exact absurd z (by decide)
      · rw [vo _ _ (by simp [e]) (by simp), if_neg e]; exact u.one t ht
    · by_cases e : t = i
      · subst e
        rw [v9]
        intro z1 z2
        have := h.u.runs t ht z1 z2
        omega
      · rw [vo _ _ (by simp [e]) (by simp)]; exact u.runs t ht
    · rw [g30, if_neg (by omega)]; exact u.later t ht ht2
/-- the old credit led to the month just charged -/
theorem ST.settle0 (h : ST k x c N V R K g W) (hk : k ≤ 512) (hi : i < (g 0 15).toNat) (ha : SA c R K i a) {b : Nat} (hb : MA c R K i b) (h10 : V (1, i, 0) 10 = 0) (h30 : g 30 i = 0) {C : Int} (hC : 0 ≤ C ∧ C ≤ 1000000 * (k : Int)) (hF : zsum (fF g i C) 333 ≤ 1000000 * (k : Int) - g 0 42) : ∃ (V' : Key → Nat → Int) (g' : Nat → Nat → Int), FShop_settle zFU a 0 (g 0 0) (zX x c N (ku V (1, i, 0) 10 C) R K) = some (zsum (fF g i C) 333, zX x c N V' R K) ∧ FM_settle zFU m (i : Int) C (zG m N' g) = some ((), zG m N' g') ∧ ST k x c N (ku V' (0, 125, 0) 2 (g 0 42 + zsum (fF g i C) 333)) R K g' W ∧ (∀ s, g' 26 s = g 26 s ∧ g' 27 s = g 27 s) ∧ 0 ≤ zsum (fF g i C) 333 := by
  have hc := h.c.cx
  have n0 := h.h.many0
  have f0 := h.f.coins0
  have hi2 : i < 40 := by omega
  have hd : dueOk g := h.m.due0
  have ui := h.u.unpaid i hi
  have mon := h.money hk hi
  have hn := h.h.num i hi
  have hC0 : 0 ≤ C := hC.1
  have eM := eM_settle (m := m) (N := N') (FU := zFU) (by decide) hd hi2 (p := C) (by omega) (by omega) (by omega)
  have hm : IM c (ku V (1, i, 0) 10 C) R K g := h.m.fr (fun key q hq => by
    rw [zku, if_neg (fun z => by rw [z.1, z.2] at hq; rcases hq with hq | hq <;> exact absurd hq (by simp [cV]))]) (fun _ _ _ => rfl)
  have k10 : ku V (1, i, 0) 10 C (1, i, 0) 10 = C := by rw [ku_at, if_pos rfl]
  have k9 : ku V (1, i, 0) 10 C (1, i, 0) 9 = V (1, i, 0) 9 := by rw [ku_at, if_neg (by decide)]
  have eX := eS_settle (N := N) (FU := zFU) (V := ku V (1, i, 0) 10 C) hc hm n0 (by decide) hi ha hb (coins := 0) (day := g 0 0) (by rw [k10]; omega) (by rw [k9]; omega)
  rw [eS_B113 hc ha, k10, Int.add_zero, kuu] at eX
  rw [h30, Int.zero_add, ← ui.1, Int.sub_zero] at eM
  have pp := potF_nn hd hi2 hC0 333 (by omega)
  have dl := due_left (g := g) i C 333 (by omega)
  have da := due_all hd hi2 hC0
  have fl := fund_le hd hi2 hC0 333 (by omega)
  have nn : 0 ≤ V (1, i, 0) 9 - (C - potF g i C 333) := by
    rw [ui.1, ← dl]
    exact zsum_nn (fun t ht => by
      have b := part_bd hd hi2 hC0 (j := t) ht
      show 0 ≤ mDue (setG g i C 333) (333 * i + t)
      unfold mDue
      rw [setG_28 ht, setG_29 ht, setG_o (a := 26) (by decide) (by decide) (by simp), setG_o (a := 27) (by decide) (by decide) (by simp)]
      omega)
  have iff : (V (1, i, 0) 9 - (C - potF g i C 333) = 0) ↔ V (1, i, 0) 9 - C ≤ 0 := by
    constructor
    · intro z; omega
    · intro z
      by_cases w : 0 < potF g i C 333
      · have := da w 333 (by omega)
        rw [ui.1]; omega
      · omega
  generalize hV1 : setV (ku V (1, i, 0) 10 C) g i C 333 = V1 at eX
  have w9 : V1 (1, i, 0) 9 = V (1, i, 0) 9 - (C - potF g i C 333) := by rw [← hV1, setV_shop, if_neg (by decide), if_pos rfl, ku_at, if_neg (by decide)]
  have w10 : V1 (1, i, 0) 10 = potF g i C 333 := by rw [← hV1, setV_shop, if_pos rfl]
  have wq : ∀ q, q ≠ 9 → q ≠ 10 → V1 (1, i, 0) q = V (1, i, 0) q := fun q z1 z2 => by rw [← hV1, setV_shop, if_neg z2, if_neg z1, ku_at, if_neg z2]
  have wm : ∀ j q, j < 333 → V1 (2, i, j) q = if q = 5 then V (2, i, j) 5 + rF g i C j else if q = 6 then V (2, i, j) 6 + fF g i C j else V (2, i, j) q := fun j q hj => by rw [← hV1, setV_month, if_pos hj, ku_row (by simp)]
  have wo : ∀ key q, key ≠ (1, i, 0) → (∀ j, j < 333 → key ≠ (2, i, j)) → V1 key q = V key q := fun key q z1 z2 => by
    rw [← hV1]
    unfold setV
    by_cases z3 : key.1 = 2 ∧ key.2.1 = i ∧ key.2.2 < 333
    · exact absurd (by obtain ⟨ka, kb, kd⟩ := key; simp only at z3; rw [z3.1, z3.2.1]) (z2 key.2.2 z3.2.2)
    · rw [if_neg z3, if_neg z1, ku_row z1]
  clear hV1
  rw [w9, wq 11 (by decide) (by decide), wq 13 (by decide) (by decide), hn.nday, hn.nstate] at eX
  unfold endG at eM
  have r31 : gu (setG g i C 333) 30 i (potF g i C 333) 31 i = g 31 i := by rw [gu_row (by decide)]; exact setG_o (by decide) (by decide) (by simp)
  have r33 : gu (setG g i C 333) 30 i (potF g i C 333) 33 i = g 33 i := by rw [gu_row (by decide)]; exact setG_o (by decide) (by decide) (by simp)
  have r00 : gu (setG g i C 333) 30 i (potF g i C 333) 0 0 = g 0 0 := by rw [gu_row (by decide)]; exact setG_o (by decide) (by decide) (by simp)
  rw [r31, r33, r00] at eM
  have so : ∀ a s, a ≠ 28 → a ≠ 29 → (a = 0 → s ≠ 42) → setG g i C 333 a s = g a s := fun a s z1 z2 z3 => setG_o z1 z2 z3
  have s42 : setG g i C 333 0 42 = g 0 42 + zsum (fF g i C) 333 := by
    unfold setG; rw [if_neg (by omega), if_neg (by omega), if_pos ⟨rfl, rfl⟩]
  have b31 := hn.nday0
  have hk1 : potF g i C 333 ≤ 1000000 * (k : Int) := by omega
  have hF1 : 0 ≤ g 0 42 + zsum (fF g i C) 333 ∧ g 0 42 + zsum (fF g i C) 333 ≤ 1000000 * (k : Int) := by omega
  by_cases run : (0 ≤ g 31 i ∧ g 33 i = 0) ∧ V (1, i, 0) 9 - C ≤ 0
  · rw [if_pos ⟨iff.mpr run.2, by omega, run.1.2⟩] at eX
    rw [if_pos ⟨run.1.1, run.1.2, run.2⟩] at eM
    refine ⟨_, _, eX, eM, ?_, fun s => ?_, fl.1⟩
    · refine h.led hi hC0 hk1 hF1 ?_ ?_ ?_ ?_ (fun q z1 z2 z3 z4 => ?_) (fun j q hj => ?_) ?_ (fun key q z1 z2 z3 => ?_) (fun s => ?_) ?_ (fun s => ?_) (fun s hs => ?_) (fun a' s z1 z2 z3 z4 z5 z6 => ?_) ?_
      · rw [ku_row (by simp), ku_at, if_neg (by decide), ku_at, if_neg (by decide), w9]
      · rw [ku_row (by simp), ku_at, if_neg (by decide), ku_at, if_neg (by decide), w10]
      · simp [zku, zgu]
      · simp [zku, zgu]
      · rw [ku_row (by simp), ku_at, if_neg z4, ku_at, if_neg z3, wq q z1 z2]
      · rw [ku_row (by simp), ku_row (by simp), ku_row (by simp), wm j q hj]
      · rw [ku_at, if_pos rfl]
      · simp only [zku]
        rw [if_neg (fun z => z3 z.1 z.2), if_neg (fun z => z1 z.1), if_neg (fun z => z1 z.1), wo key q z1 z2]
      · rw [gu_row (by decide), gu_row (by decide), gu_row (by decide), gu_row (by decide), gu_row (by decide), gu_row (by decide)]
        exact ⟨rfl, rfl⟩
      · rw [gu_row (by decide), gu_row (by decide), gu_row (by decide), s42]
      · rw [gu_row (by decide), gu_row (by decide), gu_at, so 30 s (by decide) (by decide) (by simp)]
      · rw [gu_row (by decide), gu_at, if_neg hs, gu_row (by decide), gu_at, if_neg hs, gu_row (by decide), gu_row (by decide)]
        exact ⟨so 33 s (by decide) (by decide) (by simp), so 34 s (by decide) (by decide) (by simp)⟩
      · rw [gu_row z5, gu_row z4, gu_row z3, so a' s z1 z2 z6]
      · intro _ z
        simp [zgu] at z
    · rw [gu_row (by decide), gu_row (by decide), gu_row (by decide), gu_row (by decide), gu_row (by decide), gu_row (by decide)]
      exact ⟨so 26 s (by decide) (by decide) (by simp), so 27 s (by decide) (by decide) (by simp)⟩
  · have e1 : ¬ (V (1, i, 0) 9 - (C - potF g i C 333) = 0 ∧ g 31 i ≠ -1 ∧ g 33 i = 0) := fun z => run ⟨⟨by have := z.2.1; omega, z.2.2⟩, iff.mp z.1⟩
    rw [if_neg e1] at eX
    rw [if_neg (fun z => run ⟨⟨z.1, z.2.1⟩, z.2.2⟩)] at eM
    refine ⟨_, _, eX, eM, ?_, fun s => ?_, fl.1⟩
    · refine h.led hi hC0 hk1 hF1 ?_ ?_ ?_ ?_ (fun q z1 z2 z3 z4 => ?_) (fun j q hj => ?_) ?_ (fun key q z1 z2 z3 => ?_) (fun s => ?_) ?_ (fun s => ?_) (fun s hs => ?_) (fun a' s z1 z2 z3 z4 z5 z6 => ?_) ?_
      · rw [ku_row (by simp), w9]
      · rw [ku_row (by simp), w10]
      · rw [ku_row (by simp), wq 13 (by decide) (by decide), hn.nstate, r33]
      · rw [ku_row (by simp), wq 14 (by decide) (by decide), hn.nend, gu_row (by decide), so 34 i (by decide) (by decide) (by simp)]
      · rw [ku_row (by simp), wq q z1 z2]
      · rw [ku_row (by simp), wm j q hj]
      · rw [ku_at, if_pos rfl]
      · simp only [zku]
        rw [if_neg (fun z => z3 z.1 z.2), wo key q z1 z2]
      · rw [gu_row (by decide), gu_row (by decide)]
        exact ⟨rfl, rfl⟩
      · rw [gu_row (by decide), s42]
      · rw [gu_at, so 30 s (by decide) (by decide) (by simp)]
      · rw [gu_row (by decide), gu_row (by decide)]
        exact ⟨so 33 s (by decide) (by decide) (by simp), so 34 s (by decide) (by decide) (by simp)⟩
      · rw [gu_row z3, so a' s z1 z2 z6]
      · intro z1 z2
        rw [r33] at z2
        have : ¬ (V (1, i, 0) 9 - (C - potF g i C 333) = 0) := fun z => run ⟨⟨z1, z2⟩, iff.mp z⟩
        omega
    · rw [gu_row (by decide), gu_row (by decide)]
      exact ⟨so 26 s (by decide) (by decide) (by simp), so 27 s (by decide) (by decide) (by simp)⟩
end MNU
