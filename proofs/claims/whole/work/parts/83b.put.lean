/-! ===== which part of what holds a cell belongs to ===== -/
def cV (key : Key) (i : Nat) : Nat := match key.1 with
  | 0 => match key.2.1 with
    | 0 => 1
    | 1 => if i = 4 then 12 else 3
    | 65 => 3
    | 66 => 13
    | 68 => if i = 5 then 1 else 0
    | 115 => if i = 8 then 11 else 0
    | 119 => 11
    | 120 => if i = 4 then 17 else 7
    | 121 => if 4 ≤ i then 8 else 0
    | 124 => 7
    | 125 => if i = 2 then 9 else 0
    | 127 => if i = 6 ∨ i = 7 then 10 else 0
    | 128 => 10
    | 129 => 10
    | 132 => 10
    | 133 => 10
    | o => if o ≤ 64 then 2 else 0
  | 1 => if i = 9 ∨ i = 10 then 6 else if i = 11 ∨ i = 13 then 15 else 4
  | 2 => if i ≤ 2 then 5 else 16
  | 3 => 7
  | 4 => 7
  | _ => 0
def cG (j i : Nat) : Nat := match j with
  | 0 => match i with
    | 0 => 1
    | 2 => 12
    | 5 => 2
    | 6 => 1
    | 7 => 1
    | 15 => 13
    | 16 => 1
    | 18 => 3
    | 21 => 11
    | 25 => 7
    | 31 => 17
    | 42 => 9
    | 49 => 10
    | _ => 0
  | 1 => 2
  | 2 => 2
  | 3 => 2
  | 4 => if i < 40 then 4 else 0
  | 5 => if i < 40 then 4 else 0
  | 6 => if i < 40 then 4 else 0
  | 7 => 4
  | 8 => 4
  | 9 => 4
  | 10 => 4
  | 11 => 3
  | 13 => 11
  | 15 => 7
  | 16 => 7
  | 17 => 7
  | 18 => 7
  | 19 => 7
  | 20 => 7
  | 21 => 8
  | 22 => 14
  | 23 => 5
  | 24 => 5
  | 25 => 5
  | 26 => 16
  | 27 => 16
  | 28 => 16
  | 29 => 16
  | 30 => 6
  | 31 => 15
  | 32 => 4
  | 33 => 15
  | 34 => 4
  | 35 => 4
  | 36 => 10
  | 38 => 10
  | 39 => 10
  | _ => 0
theorem cV_town (a : Nat) (ha : a < 30) (i : Nat) : cV (0, 4 + a, 0) i = 2 ∧ cV (0, 35 + a, 0) i = 2 := by
  have h : ∀ a, a < 30 → ∀ i, (cV (0, 4 + a, 0) i = 2 ∧ cV (0, 35 + a, 0) i = 2) := by
    intro a ha i
    have h3 : ∀ o, 2 ≤ o → o ≤ 64 → cV (0, o, 0) i = 2 := fun o h1 h2 => by
      unfold cV
      simp only
      split <;> first | omega | (rw [if_pos h2])
    exact ⟨h3 _ (by omega) (by omega), h3 _ (by omega) (by omega)⟩
  exact h a ha i
section PUT
variable {k x N : Nat} {c : Nat → Key} {V V' : Key → Nat → Int} {R : Key → Nat → Option Nat} {K : Key → Option (Nat × Nat)} {g g' W W' : Nat → Nat → Int}
theorem IS.fr (h : IS V g) (hV : ∀ key i, cV key i = 1 → V' key i = V key i) (hg : ∀ j i, cG j i = 1 → g' j i = g j i) : IS V' g' := by
  unfold IS
  rw [hV _ _ (show cV (0, 0, 0) 7 = 1 from rfl), hV _ _ (show cV (0, 0, 0) 8 = 1 from rfl), hV _ _ (show cV (0, 68, 0) 5 = 1 from rfl), hg _ _ (show cG 0 0 = 1 from rfl), hg _ _ (show cG 0 6 = 1 from rfl), hg _ _ (show cG 0 7 = 1 from rfl), hg _ _ (show cG 0 16 = 1 from rfl)]
  exact h
theorem IT.fr (h : IT V g W) (hV : ∀ key i, cV key i = 2 ∨ cV key i = 12 → V' key i = V key i) (hg : ∀ j i, cG j i = 2 ∨ cG j i = 12 → g' j i = g j i) : IT V' g' W := by
  have g1 : g' 1 = g 1 := funext fun i => hg 1 i (.inl rfl)
  have g2 : g' 2 = g 2 := funext fun i => hg 2 i (.inl rfl)
  have g3 : g' 3 = g 3 := funext fun i => hg 3 i (.inl rfl)
  have gP : g' 0 2 = g 0 2 := hg 0 2 (.inr rfl)
  have gF : g' 0 5 = g 0 5 := hg 0 5 (.inl rfl)
  unfold IT
  rw [g1, g2, g3, gP, gF, mE_row g2, hV _ _ (.inr (show cV (0, 1, 0) 4 = 12 from rfl))]
  refine ⟨h.many, h.many0, fun i hi => ?_, fun a b ha hb => ?_, ?_, h.clo, fun a b ha hb => ?_, h.flag, h.kept⟩
  · rw [hV _ _ (.inl rfl)]; exact h.doors i hi
  · rw [hV _ _ (.inl (cV_town a ha b).1)]; exact h.len a b ha hb
  · unfold mEok; rw [g2]; exact h.ok
  · rw [hV _ _ (.inl (cV_town a ha b).2)]; exact h.ways a b ha hb
theorem IZ.fr (h : IZ V g) (hV : ∀ key i, cV key i = 3 → V' key i = V key i) (hg : ∀ j i, cG j i = 3 ∨ cG j i = 12 → g' j i = g j i) : IZ V' g' := by
  have g1 : g' 11 = g 11 := funext fun i => hg 11 i (.inl rfl)
  unfold IZ
  rw [g1, hg 0 18 (.inl rfl), hg 0 2 (.inr rfl), hV _ _ (show cV (0, 1, 0) 5 = 3 from rfl)]
  refine ⟨h.many, h.many0, fun i hi => ?_⟩
  rw [hV _ _ (show cV (0, 65, 0) i = 3 from rfl)]; exact h.site i hi
theorem IHi.fr {i : Nat} (q : IHi k V g i) (hV : ∀ j, j ≠ 9 → j ≠ 10 → V' (1, i, 0) j = V (1, i, 0) j) (hg : ∀ j, (4 ≤ j ∧ j ≤ 10) ∨ (31 ≤ j ∧ j ≤ 35) → g' j i = g j i) (h2 : g' 0 2 = g 0 2) : IHi k V' g' i := by
  unfold IHi
  rw [hV 0 (by decide) (by decide), hV 1 (by decide) (by decide), hV 2 (by decide) (by decide), hV 3 (by decide) (by decide), hV 5 (by decide) (by decide), hV 6 (by decide) (by decide), hV 7 (by decide) (by decide), hV 8 (by decide) (by decide), hV 11 (by decide) (by decide), hV 12 (by decide) (by decide), hV 13 (by decide) (by decide), hV 14 (by decide) (by decide), hg 4 (by omega), hg 5 (by omega), hg 6 (by omega), hg 7 (by omega), hg 8 (by omega), hg 9 (by omega), hg 10 (by omega), hg 31 (by omega), hg 32 (by omega), hg 33 (by omega), hg 34 (by omega), hg 35 (by omega), h2]
  exact q
theorem hG_row {i j : Nat} (hi : i < 40) (hj : (4 ≤ j ∧ j ≤ 10) ∨ (31 ≤ j ∧ j ≤ 35)) : cG j i = 4 ∨ cG j i = 15 := by
  have : j = 4 ∨ j = 5 ∨ j = 6 ∨ j = 7 ∨ j = 8 ∨ j = 9 ∨ j = 10 ∨ j = 31 ∨ j = 32 ∨ j = 33 ∨ j = 34 ∨ j = 35 := by omega
  rcases this with rfl | rfl | rfl | rfl | rfl | rfl | rfl | rfl | rfl | rfl | rfl | rfl <;> first | exact .inl rfl | exact .inr rfl | exact .inl (if_pos hi)
theorem hV_row {i j : Nat} (h9 : j ≠ 9) (h10 : j ≠ 10) : cV (1, i, 0) j = 4 ∨ cV (1, i, 0) j = 15 := by
  show (if j = 9 ∨ j = 10 then 6 else if j = 11 ∨ j = 13 then 15 else 4) = 4 ∨ (if j = 9 ∨ j = 10 then 6 else if j = 11 ∨ j = 13 then 15 else 4) = 15
  rw [if_neg (by omega)]
  split
  · exact .inr rfl
  · exact .inl rfl
theorem IH.fr (h : IH k c V R K g) (hV : ∀ key i, cV key i = 4 ∨ cV key i = 15 ∨ cV key i = 13 → V' key i = V key i) (hg : ∀ j i, cG j i = 4 ∨ cG j i = 15 ∨ cG j i = 13 ∨ cG j i = 12 → g' j i = g j i) : IH k c V' R K g' := by
  have gR : ∀ i j, i < 40 → ((4 ≤ j ∧ j ≤ 10) ∨ (31 ≤ j ∧ j ≤ 35)) → g' j i = g j i := fun i j hi hj => hg j i (by have := hG_row hi hj; omega)
  have n0 := h.many0
  unfold IH
  rw [hg 0 15 (.inr (.inr (.inl rfl))), hV _ _ (.inr (.inr (show cV (0, 66, 0) 2 = 13 from rfl)))]
  refine ⟨h.many, h.many0, h.at_, h.months, fun i hi => (h.num i hi).fr (fun j h9 h10 => hV _ _ (by have := hV_row (i := i) h9 h10; omega)) (fun j hj => gR i j (by omega) hj) (hg 0 2 (.inr (.inr (.inr rfl)))), fun i hi hi2 => ?_⟩
  rw [gR i 8 hi2 (by omega), gR i 9 hi2 (by omega), gR i 35 hi2 (by omega), gR i 10 hi2 (by omega), gR i 31 hi2 (by omega), gR i 32 hi2 (by omega), gR i 33 hi2 (by omega), gR i 34 hi2 (by omega)]
  exact h.none_ i hi hi2
theorem IMs.fr {key : Key} {s : Nat} (q : IMs V g key s) (hV : ∀ i, i ≤ 6 → V' key i = V key i) (hg : ∀ j, 23 ≤ j ∧ j ≤ 29 → g' j s = g j s) : IMs V' g' key s := by
  unfold IMs
  rw [hV 0 (by omega), hV 1 (by omega), hV 2 (by omega), hV 3 (by omega), hV 4 (by omega), hV 5 (by omega), hV 6 (by omega), hg 23 (by omega), hg 24 (by omega), hg 25 (by omega), hg 26 (by omega), hg 27 (by omega), hg 28 (by omega), hg 29 (by omega)]
  exact q
theorem IM.fr (h : IM c V R K g) (hV : ∀ key i, cV key i = 5 ∨ cV key i = 16 → V' key i = V key i) (hg : ∀ j i, cG j i = 5 ∨ cG j i = 16 ∨ cG j i = 14 ∨ cG j i = 13 → g' j i = g j i) : IM c V' R K g' := by
  have r22 : g' 22 = g 22 := funext fun i => hg 22 i (by first | exact .inl rfl | exact .inr (.inl rfl) | exact .inr (.inr (.inl rfl)) | exact .inr (.inr (.inr rfl)))
  have r26 : g' 26 = g 26 := funext fun i => hg 26 i (by first | exact .inl rfl | exact .inr (.inl rfl) | exact .inr (.inr (.inl rfl)) | exact .inr (.inr (.inr rfl)))
  have r27 : g' 27 = g 27 := funext fun i => hg 27 i (by first | exact .inl rfl | exact .inr (.inl rfl) | exact .inr (.inr (.inl rfl)) | exact .inr (.inr (.inr rfl)))
  have r28 : g' 28 = g 28 := funext fun i => hg 28 i (by first | exact .inl rfl | exact .inr (.inl rfl) | exact .inr (.inr (.inl rfl)) | exact .inr (.inr (.inr rfl)))
  have r29 : g' 29 = g 29 := funext fun i => hg 29 i (by first | exact .inl rfl | exact .inr (.inl rfl) | exact .inr (.inr (.inl rfl)) | exact .inr (.inr (.inr rfl)))
  unfold IM
  rw [hg 0 15 (by first | exact .inl rfl | exact .inr (.inl rfl) | exact .inr (.inr (.inl rfl)) | exact .inr (.inr (.inr rfl))), r22, r26, r27, r28, r29]
  exact ⟨h.flag, h.none_, h.some_, fun i j hi hj hf => (h.num i j hi hj hf).fr (fun a ha => hV _ _ (by
    show (if a ≤ 2 then 5 else 16) = 5 ∨ (if a ≤ 2 then 5 else 16) = 16
    split <;> omega)) (fun a ha => hg _ _ (by
    have : a = 23 ∨ a = 24 ∨ a = 25 ∨ a = 26 ∨ a = 27 ∨ a = 28 ∨ a = 29 := by omega
    rcases this with rfl | rfl | rfl | rfl | rfl | rfl | rfl <;> first | exact .inl rfl | exact .inr (.inl rfl))), h.due0, h.zero, h.later⟩
theorem IU.fr (h : IU k V g) (hV : ∀ key i, cV key i = 6 → V' key i = V key i) (hg : ∀ j i, cG j i = 6 ∨ cG j i = 15 ∨ cG j i = 16 ∨ cG j i = 13 → g' j i = g j i) : IU k V' g' := by
  have r26 : g' 26 = g 26 := funext fun i => hg 26 i (by first | exact .inl rfl | exact .inr (.inl rfl) | exact .inr (.inr (.inl rfl)) | exact .inr (.inr (.inr rfl)))
  have r27 : g' 27 = g 27 := funext fun i => hg 27 i (by first | exact .inl rfl | exact .inr (.inl rfl) | exact .inr (.inr (.inl rfl)) | exact .inr (.inr (.inr rfl)))
  have r28 : g' 28 = g 28 := funext fun i => hg 28 i (by first | exact .inl rfl | exact .inr (.inl rfl) | exact .inr (.inr (.inl rfl)) | exact .inr (.inr (.inr rfl)))
  have r29 : g' 29 = g 29 := funext fun i => hg 29 i (by first | exact .inl rfl | exact .inr (.inl rfl) | exact .inr (.inr (.inl rfl)) | exact .inr (.inr (.inr rfl)))
  have r30 : g' 30 = g 30 := funext fun i => hg 30 i (by first | exact .inl rfl | exact .inr (.inl rfl) | exact .inr (.inr (.inl rfl)) | exact .inr (.inr (.inr rfl)))
  have r31 : g' 31 = g 31 := funext fun i => hg 31 i (by first | exact .inl rfl | exact .inr (.inl rfl) | exact .inr (.inr (.inl rfl)) | exact .inr (.inr (.inr rfl)))
  have r33 : g' 33 = g 33 := funext fun i => hg 33 i (by first | exact .inl rfl | exact .inr (.inl rfl) | exact .inr (.inr (.inl rfl)) | exact .inr (.inr (.inr rfl)))
  have rd : mDue g' = mDue g := funext fun s => by unfold mDue; rw [r26, r27, r28, r29]
  have v9 : ∀ i, V' (1, i, 0) 9 = V (1, i, 0) 9 := fun i => hV _ _ rfl
  have v10 : ∀ i, V' (1, i, 0) 10 = V (1, i, 0) 10 := fun i => hV _ _ rfl
  unfold IU
  rw [hg 0 15 (by first | exact .inl rfl | exact .inr (.inl rfl) | exact .inr (.inr (.inl rfl)) | exact .inr (.inr (.inr rfl))), rd, r30, r31, r33]
  simp only [v9, v10]
  exact h
theorem IX.fr (h : IX c V R K g) (hV : ∀ key i, cV key i = 7 ∨ cV key i = 17 → V' key i = V key i) (hg : ∀ j i, cG j i = 7 ∨ cG j i = 17 → g' j i = g j i) : IX c V' R K g' := by
  have r15 : g' 15 = g 15 := funext fun i => hg 15 i (.inl rfl)
  have r16 : g' 16 = g 16 := funext fun i => hg 16 i (.inl rfl)
  have r17 : g' 17 = g 17 := funext fun i => hg 17 i (.inl rfl)
  have r18 : g' 18 = g 18 := funext fun i => hg 18 i (.inl rfl)
  have r19 : g' 19 = g 19 := funext fun i => hg 19 i (.inl rfl)
  have r20 : g' 20 = g 20 := funext fun i => hg 20 i (.inl rfl)
  have v3 : ∀ i j, V' (3, i, 0) j = V (3, i, 0) j := fun i j => hV _ _ (.inl rfl)
  have v4 : ∀ i j, V' (4, i, 0) j = V (4, i, 0) j := fun i j => hV _ _ (.inl rfl)
  have vt : ∀ j, V' (0, 124, 0) j = V (0, 124, 0) j := fun j => hV _ _ (.inl rfl)
  unfold IX
  rw [hg 0 31 (.inr rfl), hg 0 25 (.inl rfl), r15, r16, r17, r18, r19, r20, hV _ _ (.inr (show cV (0, 120, 0) 4 = 17 from rfl)), hV _ _ (.inl (show cV (0, 120, 0) 5 = 7 from rfl))]
  simp only [v3, v4, vt]
  exact h
theorem IN.fr (h : IN V g) (hV : ∀ key i, cV key i = 8 → V' key i = V key i) (hg : ∀ j i, cG j i = 8 → g' j i = g j i) : IN V' g' := by
  have r21 : g' 21 = g 21 := funext fun i => hg 21 i rfl
  intro i hi
  rw [r21, hV _ _ (show cV (0, 121, 0) (4 + i) = 8 from if_pos (by omega))]
  exact h i hi
theorem IF.fr (h : IF k V g) (hV : ∀ key i, cV key i = 9 → V' key i = V key i) (hg : ∀ j i, cG j i = 9 → g' j i = g j i) : IF k V' g' := by
  unfold IF
  rw [hg 0 42 rfl, hV _ _ (show cV (0, 125, 0) 2 = 9 from rfl)]
  exact h
theorem IP.fr (h : IP V g) (hV : ∀ key i, cV key i = 10 → V' key i = V key i) (hg : ∀ j i, cG j i = 10 ∨ cG j i = 13 → g' j i = g j i) : IP V' g' := by
  have r36 : g' 36 = g 36 := funext fun i => hg 36 i (.inl rfl)
  have r38 : g' 38 = g 38 := funext fun i => hg 38 i (.inl rfl)
  have r39 : g' 39 = g 39 := funext fun i => hg 39 i (.inl rfl)
  have v128 : V' (0, 128, 0) = V (0, 128, 0) := funext fun i => hV _ _ rfl
  have v129 : V' (0, 129, 0) = V (0, 129, 0) := funext fun i => hV _ _ rfl
  have v132 : V' (0, 132, 0) = V (0, 132, 0) := funext fun i => hV _ _ rfl
  have v133 : V' (0, 133, 0) = V (0, 133, 0) := funext fun i => hV _ _ rfl
  unfold IP
  rw [hg 0 49 (.inl rfl), hg 0 15 (.inr rfl), r36, r38, r39, v128, v129, v132, v133, hV _ _ (show cV (0, 127, 0) 6 = 10 from rfl), hV _ _ (show cV (0, 127, 0) 7 = 10 from rfl)]
  exact h
theorem ID.fr (h : ID V g) (hV : ∀ key i, cV key i = 11 → V' key i = V key i) (hg : ∀ j i, cG j i = 11 → g' j i = g j i) : ID V' g' := by
  have r13 : g' 13 = g 13 := funext fun i => hg 13 i rfl
  have v119 : V' (0, 119, 0) = V (0, 119, 0) := funext fun i => hV _ _ rfl
  unfold ID
  rw [hg 0 21 rfl, r13, v119, hV _ _ (show cV (0, 115, 0) 8 = 11 from rfl)]
  exact h
theorem IC.fr (h : IC x c N g) (hg : ∀ j i, cG j i = 13 ∨ cG j i = 14 ∨ cG j i = 17 → g' j i = g j i) : IC x c N g' := by
  have r22 : g' 22 = g 22 := funext fun i => hg 22 i (.inr (.inl rfl))
  unfold IC
  rw [hg 0 15 (.inl rfl), hg 0 31 (.inr (.inr rfl)), r22]
  exact h
/-- all that holds, when only cells of the parts in S (and cells of no part) have changed -/
theorem ST.put (S : Nat → Bool) (h : ST k x c N V R K g W) (hV : ∀ key i, cV key i ≠ 0 → S (cV key i) = false → V' key i = V key i) (hg : ∀ j i, cG j i ≠ 0 → S (cG j i) = false → g' j i = g j i)
    (s : S 1 = true → IS V' g' := by intro q; exact absurd q (by decide))
    (t : (S 2 || S 12) = true → IT V' g' W' := by intro q; exact absurd q (by decide))
    (hW : (S 2 || S 12) = false → W' = W := by intro _; rfl)
    (z : (S 3 || S 12) = true → IZ V' g' := by intro q; exact absurd q (by decide))
    (hh : (S 4 || S 12 || S 13 || S 15) = true → IH k c V' R K g' := by intro q; exact absurd q (by decide))
    (m : (S 5 || S 13 || S 14 || S 16) = true → IM c V' R K g' := by intro q; exact absurd q (by decide))
    (u : (S 6 || S 13 || S 15 || S 16) = true → IU k V' g' := by intro q; exact absurd q (by decide))
    (hx : (S 7 || S 17) = true → IX c V' R K g' := by intro q; exact absurd q (by decide))
    (n : S 8 = true → IN V' g' := by intro q; exact absurd q (by decide))
    (f : S 9 = true → IF k V' g' := by intro q; exact absurd q (by decide))
    (p : (S 10 || S 13) = true → IP V' g' := by intro q; exact absurd q (by decide))
    (d : S 11 = true → ID V' g' := by intro q; exact absurd q (by decide))
    (hc : (S 13 || S 14 || S 17) = true → IC x c N g' := by intro q; exact absurd q (by decide)) : ST k x c N V' R K g' W' := by
  have vv : ∀ a, a ≠ 0 → S a = false → ∀ key i, cV key i = a → V' key i = V key i := fun a h0 hs key i e => hV key i (by rw [e]; exact h0) (by rw [e]; exact hs)
  have gg : ∀ a, a ≠ 0 → S a = false → ∀ j i, cG j i = a → g' j i = g j i := fun a h0 hs j i e => hg j i (by rw [e]; exact h0) (by rw [e]; exact hs)
  refine ⟨?_, ?_, ?_, ?_, ?_, ?_, ?_, ?_, ?_, ?_, ?_, ?_⟩
  · cases e : S 1
    · exact h.s.fr (vv 1 (by decide) e) (gg 1 (by decide) e)
    · exact s e
  · cases e : (S 2 || S 12)
    · rw [hW e]
      rw [Bool.or_eq_false_iff] at e
      exact h.t.fr (fun key i q => q.elim (vv 2 (by decide) e.1 key i) (vv 12 (by decide) e.2 key i)) (fun j i q => q.elim (gg 2 (by decide) e.1 j i) (gg 12 (by decide) e.2 j i))
    · exact t e
  · cases e : (S 3 || S 12)
    · rw [Bool.or_eq_false_iff] at e
      exact h.z.fr (vv 3 (by decide) e.1) (fun j i q => q.elim (gg 3 (by decide) e.1 j i) (gg 12 (by decide) e.2 j i))
    · exact z e
  · cases e : (S 4 || S 12 || S 13 || S 15)
    · simp only [Bool.or_eq_false_iff] at e
      obtain ⟨⟨⟨e1, e2⟩, e3⟩, e4⟩ := e
      exact h.h.fr (fun key i q => q.elim (vv 4 (by decide) e1 key i) (fun q => q.elim (vv 15 (by decide) e4 key i) (vv 13 (by decide) e3 key i))) (fun j i q => q.elim (gg 4 (by decide) e1 j i) (fun q => q.elim (gg 15 (by decide) e4 j i) (fun q => q.elim (gg 13 (by decide) e3 j i) (gg 12 (by decide) e2 j i))))
    · exact hh e
  · cases e : (S 5 || S 13 || S 14 || S 16)
    · simp only [Bool.or_eq_false_iff] at e
      obtain ⟨⟨⟨e1, e2⟩, e3⟩, e4⟩ := e
      exact h.m.fr (fun key i q => q.elim (vv 5 (by decide) e1 key i) (vv 16 (by decide) e4 key i)) (fun j i q => q.elim (gg 5 (by decide) e1 j i) (fun q => q.elim (gg 16 (by decide) e4 j i) (fun q => q.elim (gg 14 (by decide) e3 j i) (gg 13 (by decide) e2 j i))))
    · exact m e
  · cases e : (S 6 || S 13 || S 15 || S 16)
    · simp only [Bool.or_eq_false_iff] at e
      obtain ⟨⟨⟨e1, e2⟩, e3⟩, e4⟩ := e
      exact h.u.fr (vv 6 (by decide) e1) (fun j i q => q.elim (gg 6 (by decide) e1 j i) (fun q => q.elim (gg 15 (by decide) e3 j i) (fun q => q.elim (gg 16 (by decide) e4 j i) (gg 13 (by decide) e2 j i))))
    · exact u e
  · cases e : (S 7 || S 17)
    · rw [Bool.or_eq_false_iff] at e
      exact h.x.fr (fun key i q => q.elim (vv 7 (by decide) e.1 key i) (vv 17 (by decide) e.2 key i)) (fun j i q => q.elim (gg 7 (by decide) e.1 j i) (gg 17 (by decide) e.2 j i))
    · exact hx e
  · cases e : S 8
    · exact h.n.fr (vv 8 (by decide) e) (gg 8 (by decide) e)
    · exact n e
  · cases e : S 9
    · exact h.f.fr (vv 9 (by decide) e) (gg 9 (by decide) e)
    · exact f e
  · cases e : (S 10 || S 13)
    · rw [Bool.or_eq_false_iff] at e
      exact h.p.fr (vv 10 (by decide) e.1) (fun j i q => q.elim (gg 10 (by decide) e.1 j i) (gg 13 (by decide) e.2 j i))
    · exact p e
  · cases e : S 11
    · exact h.d.fr (vv 11 (by decide) e) (gg 11 (by decide) e)
    · exact d e
  · cases e : (S 13 || S 14 || S 17)
    · simp only [Bool.or_eq_false_iff] at e
      obtain ⟨⟨e1, e2⟩, e3⟩ := e
      exact h.c.fr (fun j i q => q.elim (gg 13 (by decide) e1 j i) (fun q => q.elim (gg 14 (by decide) e2 j i) (gg 17 (by decide) e3 j i)))
    · exact hc e
end PUT
