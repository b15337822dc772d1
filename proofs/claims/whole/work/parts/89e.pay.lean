/-! ===== pay ===== -/
section LED
variable {k x N : Nat} {c : Nat → Key} {V V' : Key → Nat → Int} {R : Key → Nat → Option Nat} {K : Key → Option (Nat × Nat)} {g g' W : Nat → Nat → Int}
theorem ST.led (h : ST k x c N V R K g W) {i : Nat} (hi : i < (g 0 15).toNat) {C : Int} (hC : 0 ≤ C) (hCk : potF g i C 333 ≤ 1000000 * (k : Int)) (hF : 0 ≤ g 0 42 + zsum (fF g i C) 333 ∧ g 0 42 + zsum (fF g i C) 333 ≤ 1000000 * (k : Int))
    (v9 : V' (1, i, 0) 9 = V (1, i, 0) 9 - (C - potF g i C 333)) (v10 : V' (1, i, 0) 10 = potF g i C 333) (v13 : V' (1, i, 0) 13 = g' 33 i) (v14 : V' (1, i, 0) 14 = g' 34 i) (vq : ∀ q, q ≠ 9 → q ≠ 10 → q ≠ 13 → q ≠ 14 → V' (1, i, 0) q = V (1, i, 0) q)
    (vm : ∀ j q, j < 333 → V' (2, i, j) q = if q = 5 then V (2, i, j) 5 + rF g i C j else if q = 6 then V (2, i, j) 6 + fF g i C j else V (2, i, j) q)
    (vf : V' (0, 125, 0) 2 = g 0 42 + zsum (fF g i C) 333) (vo : ∀ key q, key ≠ (1, i, 0) → (∀ j, j < 333 → key ≠ (2, i, j)) → (key = (0, 125, 0) → q ≠ 2) → V' key q = V key q)
    (gs : ∀ s, g' 28 s = setG g i C 333 28 s ∧ g' 29 s = setG g i C 333 29 s) (g42 : g' 0 42 = g 0 42 + zsum (fF g i C) 333) (g30 : ∀ s, g' 30 s = if s = i then potF g i C 333 else g 30 s) (g33 : ∀ s, s ≠ i → g' 33 s = g 33 s ∧ g' 34 s = g 34 s) (go : ∀ a s, a ≠ 28 → a ≠ 29 → a ≠ 30 → a ≠ 33 → a ≠ 34 → (a = 0 → s ≠ 42) → g' a s = g a s)
    (hr : 0 ≤ g 31 i → g' 33 i = 0 → 0 < V (1, i, 0) 9 - (C - potF g i C 333)) : ST k x c N V' R K g' W := by
  have n0 := h.h.many0
  have hd : dueOk g := h.m.due0
  have hi4 : i < 40 := by omega
  have row : ∀ a, a ≠ 0 → a ≠ 28 → a ≠ 29 → a ≠ 30 → a ≠ 33 → a ≠ 34 → g' a = g a := fun a h0 h1 h2 h3 h4 h5 => funext fun s => go a s h1 h2 h3 h4 h5 (fun z => absurd z h0)
  have g15 : g' 0 15 = g 0 15 := go 0 15 (by decide) (by decide) (by decide) (by decide) (by decide) (by simp)
  have pp := potF_nn hd hi4 hC 333 (by omega)
  have dl := due_left (g := g) i C 333 (by omega)
  have md : ∀ s, mDue g' s = mDue (setG g i C 333) s := fun s => by
    unfold mDue
    rw [(gs s).1, (gs s).2, row 26 (by decide) (by decide) (by decide) (by decide) (by decide) (by decide), row 27 (by decide) (by decide) (by decide) (by decide) (by decide) (by decide), setG_o (a := 26) (by decide) (by decide) (by simp), setG_o (a := 27) (by decide) (by decide) (by simp)]
  refine h.put (W' := W) (fun a => a == 4 || a == 6 || a == 9 || a == 15 || a == 16) (fun key q q0 hq => ?_) (fun a s q0 hq => ?_) (hh := fun _ => ?_) (m := fun _ => ?_) (u := fun _ => ?_) (f := fun _ => ?_)
  · by_cases k1 : key = (1, i, 0)
    · subst k1
      refine vq q (fun z => ?_) (fun z => ?_) (fun z => ?_) (fun z => ?_)
      all_goals
        subst z
        exact absurd (show true = false from hq) (by decide)
    · by_cases k2 : ∃ j, j < 333 ∧ key = (2, i, j)
      · obtain ⟨j, hj, rfl⟩ := k2
        rw [vm j q hj]
        by_cases e5 : q = 5
        · subst e5; exact absurd (show true = false from hq) (by decide)
        · rw [if_neg e5]
          by_cases e6 : q = 6
          · subst e6; exact absurd (show true = false from hq) (by decide)
          · rw [if_neg e6]
      · refine vo key q k1 (fun j hj z => k2 ⟨j, hj, z⟩) (fun z e2 => ?_)
        subst z; subst e2
        exact absurd (show true = false from hq) (by decide)
  · refine go a s (fun z => ?_) (fun z => ?_) (fun z => ?_) (fun z => ?_) (fun z => ?_) (fun z z2 => ?_)
    all_goals
      subst z
      first
        | exact absurd (show true = false from hq) (by decide)
        | (subst z2; exact absurd (show true = false from hq) (by decide))
  · have vs : ∀ j q, j ≠ i → V' (1, j, 0) q = V (1, j, 0) q := fun j q hj => vo _ q (by simp [hj]) (fun t _ => by simp) (by simp)
    unfold IH
    rw [g15, vo (0, 66, 0) 2 (by simp) (fun t _ => by simp) (by simp)]
    refine ⟨h.h.many, h.h.many0, h.h.at_, h.h.months, fun j hj => ?_, fun j hj hj2 => ?_⟩
    · have q := h.h.num j hj
      have r2 := go 0 2 (by decide) (by decide) (by decide) (by decide) (by decide) (by simp)
      by_cases e : j = i
      · subst e
        unfold IHi at q ⊢
        rw [vq 0 (by decide) (by decide) (by decide) (by decide), vq 1 (by decide) (by decide) (by decide) (by decide), vq 2 (by decide) (by decide) (by decide) (by decide), vq 3 (by decide) (by decide) (by decide) (by decide), vq 5 (by decide) (by decide) (by decide) (by decide), vq 6 (by decide) (by decide) (by decide) (by decide), vq 7 (by decide) (by decide) (by decide) (by decide), vq 8 (by decide) (by decide) (by decide) (by decide), vq 11 (by decide) (by decide) (by decide) (by decide), vq 12 (by decide) (by decide) (by decide) (by decide), v13, v14, r2, row 4 (by decide) (by decide) (by decide) (by decide) (by decide) (by decide), row 5 (by decide) (by decide) (by decide) (by decide) (by decide) (by decide), row 6 (by decide) (by decide) (by decide) (by decide) (by decide) (by decide), row 7 (by decide) (by decide) (by decide) (by decide) (by decide) (by decide), row 8 (by decide) (by decide) (by decide) (by decide) (by decide) (by decide), row 9 (by decide) (by decide) (by decide) (by decide) (by decide) (by decide), row 10 (by decide) (by decide) (by decide) (by decide) (by decide) (by decide), row 31 (by decide) (by decide) (by decide) (by decide) (by decide) (by decide), row 32 (by decide) (by decide) (by decide) (by decide) (by decide) (by decide), row 35 (by decide) (by decide) (by decide) (by decide) (by decide) (by decide)]
        obtain ⟨a1, a2, a3, a4, a5, a6, a7, a8, a9, b1, b2, b3, b4, b5, b6, b7, b8, b9, c1, c2, _, _⟩ := q
        exact ⟨a1, a2, a3, a4, a5, a6, a7, a8, a9, b1, b2, b3, b4, b5, b6, b7, b8, b9, c1, c2, rfl, rfl⟩
      · refine q.fr (fun t _ _ => vs j t e) (fun t ht => ?_) r2
        by_cases t33 : t = 33
        · subst t33; exact (g33 j e).1
        · by_cases t34 : t = 34
          · subst t34; exact (g33 j e).2
          · rw [row t (by omega) (by omega) (by omega) (by omega) t33 t34]
    · have e : j ≠ i := by omega
      rw [row 8 (by decide) (by decide) (by decide) (by decide) (by decide) (by decide), row 9 (by decide) (by decide) (by decide) (by decide) (by decide) (by decide), row 35 (by decide) (by decide) (by decide) (by decide) (by decide) (by decide), row 10 (by decide) (by decide) (by decide) (by decide) (by decide) (by decide), row 31 (by decide) (by decide) (by decide) (by decide) (by decide) (by decide), row 32 (by decide) (by decide) (by decide) (by decide) (by decide) (by decide), (g33 j e).1, (g33 j e).2]
      exact h.h.none_ j hj hj2
  · unfold IM
    rw [g15, row 22 (by decide) (by decide) (by decide) (by decide) (by decide) (by decide), row 26 (by decide) (by decide) (by decide) (by decide) (by decide) (by decide), row 27 (by decide) (by decide) (by decide) (by decide) (by decide) (by decide)]
    refine ⟨h.m.flag, h.m.none_, h.m.some_, fun j t hj ht hf => ?_, fun s hs => ?_, h.m.zero, h.m.later⟩
    · have q := h.m.num j t hj ht hf
      by_cases e : j = i
      · subst e
        unfold IMs at q ⊢
        rw [row 23 (by decide) (by decide) (by decide) (by decide) (by decide) (by decide), row 24 (by decide) (by decide) (by decide) (by decide) (by decide) (by decide), row 25 (by decide) (by decide) (by decide) (by decide) (by decide) (by decide), row 26 (by decide) (by decide) (by decide) (by decide) (by decide) (by decide), row 27 (by decide) (by decide) (by decide) (by decide) (by decide) (by decide), (gs _).1, (gs _).2, setG_28 ht, setG_29 ht, vm t 0 ht, vm t 1 ht, vm t 2 ht, vm t 3 ht, vm t 4 ht, vm t 5 ht, vm t 6 ht]
        simp
        omega
      · have vt : ∀ q, V' (2, j, t) q = V (2, j, t) q := fun q => vo _ q (by simp) (fun u _ => by simp [e]) (by simp)
        refine q.fr (fun a _ => vt a) (fun a ha => ?_)
        by_cases a28 : a = 28
        · subst a28; rw [(gs _).1, setG_n (by decide) (by omega)]
        · by_cases a29 : a = 29
          · subst a29; rw [(gs _).2, setG_n (by decide) (by omega)]
          · rw [row a (by omega) a28 a29 (by omega) (by omega) (by omega)]
    · have d := hd s hs
      rw [(gs s).1, (gs s).2]
      by_cases z : 333 * i ≤ s ∧ s < 333 * i + 333
      · obtain ⟨j, rfl⟩ : ∃ j, s = 333 * i + j := ⟨s - 333 * i, by omega⟩
        have b := part_bd hd hi4 hC (j := j) (by omega)
        rw [setG_28 (by omega), setG_29 (by omega)]
        omega
      · rw [setG_n (by decide) (by omega), setG_n (by decide) (by omega)]
        exact d
  · have u := h.u
    have vs : ∀ j q, j ≠ i → V' (1, j, 0) q = V (1, j, 0) q := fun j q hj => vo _ q (by simp [hj]) (fun t _ => by simp) (by simp)
    have mo : ∀ j, j ≠ i → zsum (fun t => mDue g' (333 * j + t)) 333 = zsum (fun t => mDue g (333 * j + t)) 333 := fun j hj => zsum_eq (fun t ht => by
      rw [md]
      unfold mDue
      rw [setG_n (a := 26) (by decide) (by omega), setG_n (a := 27) (by decide) (by omega), setG_n (a := 28) (by decide) (by omega), setG_n (a := 29) (by decide) (by omega)])
    have mi : zsum (fun t => mDue g' (333 * i + t)) 333 = zsum (fun t => mDue g (333 * i + t)) 333 - (C - potF g i C 333) := by
      rw [← dl]; exact zsum_eq (fun t _ => md _)
    have nn := zsum_nn (f := fun t => mDue g' (333 * i + t)) (n := 333) (fun t ht => by
      have d := hd (333 * i + t) (by omega)
      have b := part_bd hd hi4 hC (j := t) ht
      show 0 ≤ mDue g' (333 * i + t)
      rw [md]
      unfold mDue
      rw [setG_28 ht, setG_29 ht, setG_o (a := 26) (by decide) (by decide) (by simp), setG_o (a := 27) (by decide) (by decide) (by simp)]
      omega)
    have ui := u.unpaid i hi
    unfold IU
    rw [g15, row 31 (by decide) (by decide) (by decide) (by decide) (by decide) (by decide)]
    refine ⟨fun j hj => ?_, fun j hj => ?_, fun j hj => ?_, fun j hj => ?_, fun j hj hj2 => ?_⟩
    · rw [g30]
      by_cases e : j = i
      · subst e; rw [v10, if_pos rfl]; omega
      · rw [vs j 10 e, if_neg e]; exact u.credit j hj
    · by_cases e : j = i
      · subst e; rw [v9, mi]; omega
      · rw [vs j 9 e, mo j e]; exact u.unpaid j hj
    · rw [g30]
      by_cases e : j = i
      · subst e
        rw [if_pos rfl, v9]
        intro z
        have := due_all hd hi4 hC z 333 (by omega)
        omega
      · rw [vs j 9 e, if_neg e]; exact u.one j hj
    · by_cases e : j = i
      · subst e; rw [v9]; exact hr
      · rw [vs j 9 e, (g33 j e).1]; exact u.runs j hj
    · rw [g30, if_neg (by omega)]; exact u.later j hj hj2
  · refine ⟨by rw [vf, g42], by rw [g42]; exact hF⟩
end LED
