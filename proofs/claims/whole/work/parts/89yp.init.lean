/-! ===== the beginning: the picture ===== -/
def yC (x : Nat) (q : Nat) : Key := if x ≤ q ∧ q ≤ x + 133 then (0, q - x, 0) else (9, q, 0)
def yV (key : Key) (i : Nat) : Int := if key.1 = 0 then gxM key.2.1 i else 0
def yRr (x : Nat) (key : Key) (k : Nat) : Option Nat := if key.1 = 0 then (rx6 key.2.1 k).map (fun o => x + o) else none
theorem rfix_rx6 {j k o : Nat} (h : rfix j k = some o) : rx6 j k = some o := by
  unfold rfix at h
  split at h
  all_goals first
    | (cases h; rfl)
    | cases h
    | skip
  · split at h
    · rename_i hk
      cases h
      show (if _ < 30 then some (3 + 1 + _) else none) = some (4 + _)
      rw [if_pos hk]
    · cases h
  · split at h
    · rename_i hk
      cases h
      show (if _ < 30 then some (34 + 1 + _) else none) = some (35 + _)
      rw [if_pos hk]
    · cases h
  · split at h
    · rename_i hk
      cases h
      show (if _ < 43 then some (69 + 1 + _) else none) = some (70 + _)
      rw [if_pos hk]
    · cases h
theorem zY_zX {x : Nat} (h : YH 134 rx6 gxM) : zY x 134 rx6 gxM = zX x (yC x) (x + 134) yV (yRr x) (fun _ => none) := by
  refine Prod.ext ?_ (Prod.ext ?_ (Prod.ext ?_ rfl))
  · funext q i
    show (if x ≤ q then gxM (q - x) i else 0) = yV (yC x q) i
    unfold yV yC
    by_cases e : x ≤ q ∧ q ≤ x + 133
    · rw [if_pos e, if_pos e.1, if_pos rfl]
    · rw [if_neg e, if_neg (show ¬ (9 : Nat) = 0 by decide)]
      by_cases e2 : x ≤ q
      · rw [if_pos e2, h.2 _ _ (by omega)]
      · rw [if_neg e2]
  · funext q k
    show (if x ≤ q then (rx6 (q - x) k).map (fun o => x + o) else none) = if (yC x q).1 = 0 then (match rfix (yC x q).2.1 k with | some o => some (x + o) | none => yRr x (yC x q) k) else yRr x (yC x q) k
    unfold yRr yC
    by_cases e : x ≤ q ∧ q ≤ x + 133
    · rw [if_pos e, if_pos e.1, if_pos rfl, if_pos rfl]
      show (rx6 (q - x) k).map (fun o => x + o) = match rfix (q - x) k with | some o => some (x + o) | none => (rx6 (q - x) k).map (fun o => x + o)
      cases hr : rfix (q - x) k with
      | none => rfl
      | some o =>
        rw [rfix_rx6 hr]
        rfl
    · rw [if_neg e, if_neg (show ¬ (9 : Nat) = 0 by decide), if_neg (show ¬ (9 : Nat) = 0 by decide)]
      by_cases e2 : x ≤ q
      · rw [if_pos e2, h.1 _ _ (by omega)]
        rfl
      · rw [if_neg e2]
  · funext q
    show (if x ≤ q ∧ q < x + 134 then kfix (q - x) else none) = if (yC x q).1 = 0 then kfix (yC x q).2.1 else none
    unfold yC
    by_cases e : x ≤ q ∧ q ≤ x + 133
    · rw [if_pos e, if_pos (show x ≤ q ∧ q < x + 134 by omega), if_pos rfl]
    · rw [if_neg e, if_neg (show ¬ (x ≤ q ∧ q < x + 134) by omega), if_neg (show ¬ (9 : Nat) = 0 by decide)]
theorem eB_init' (x : Nat) : FB_init zFU x (znw (zE x) 11 0) = some ((), zX x (yC x) (x + 134) yV (yRr x) (fun _ => none)) := by
  have st : znw (zE x) 11 0 = zY x 1 rxN (fun _ _ => 0) := by
    refine Prod.ext ?_ (Prod.ext ?_ (Prod.ext ?_ rfl))
    · funext a i
      show (if a = x then (0 : Int) else 0) = if x ≤ a then 0 else 0
      rw [ite_self, ite_self]
    · funext a k
      show (if a = x then (none : Option Nat) else none) = if x ≤ a then (none : Option Nat).map _ else none
      rw [ite_self, Option.map_none, ite_self]
    · funext a
      show (if a = x then some (11, 0) else none) = if x ≤ a ∧ a < x + 1 then kfix (a - x) else none
      by_cases e : a = x
      · rw [if_pos e, if_pos (by omega), e, show x - x = 0 by omega]
        rfl
      · rw [if_neg e, if_neg (by omega)]
  rw [st, ← zY_zX (eB_init x).2]
  exact (eB_init x).1
theorem g1z {a s : Nat} (h : a ≠ 8 ∧ a ≠ 31 ∧ a ≠ 38 ∧ a ≠ 0) : g1M 40 a s = 0 := by
  unfold g1M g0M
  rw [if_neg (by omega), gu_ne (by omega), gu_ne (by omega)]
theorem g1m {a s : Nat} (h : a = 8 ∨ a = 31 ∨ a = 38) (hs : s < 40) : g1M 40 a s = -1 := by
  unfold g1M
  rw [if_pos ⟨h, hs⟩]
theorem gxMz {o i : Nat} (h : o < 35 ∨ 65 ≤ o) (h1 : o ≠ 0) (h2 : o ≠ 68) : gxM o i = 0 := by
  unfold gxM gxT wJ gx0
  rw [gu_ne (by omega), if_neg (by omega), gu_ne (by omega)]
theorem gxMw {a b : Nat} (ha : a < 30) (hb : b < 30) : gxM (35 + a) b = if a = b then 0 else -1 := by
  unfold gxM gxT wJ
  rw [gu_ne (by omega), if_pos (by omega)]
  by_cases e : a = b
  · rw [if_pos e, if_pos (by omega)]
  · rw [if_neg e, if_neg (by omega)]
def yW (a b : Nat) : Int := if a = b then 0 else 1000000
theorem yClo : Clo (mE (g1M 40)) yW := by
  have e : ∀ a b, mE (g1M 40) a b = 1000000 := fun a b => by
    unfold mE
    rw [if_neg (by rw [g1z (by decide)]; omega)]
  refine ⟨fun a => if_pos rfl, fun a b => ?_, fun a b => ?_, fun a b c => ?_, fun φ hr _ a b => ?_⟩
  · unfold yW; split <;> omega
  · rw [e]; unfold yW; split <;> omega
  · unfold yW
    repeat' split
    all_goals omega
  · have h1 := hr a
    have h2 := hr b
    unfold yW
    split
    · rename_i q; rw [q]; omega
    · omega
theorem yC0 {x j : Nat} (h : j ≤ 133) : yC x (x + j) = (0, j, 0) := by
  unfold yC
  rw [if_pos (by omega), show x + j - x = j by omega]
theorem yCX (x : Nat) : CX x (yC x) := by
  refine ⟨fun a b h => ?_, fun j hj => yC0 hj⟩
  unfold yC at h
  by_cases e1 : x ≤ a ∧ a ≤ x + 133
  · by_cases e2 : x ≤ b ∧ b ≤ x + 133
    · rw [if_pos e1, if_pos e2] at h
      have := congrArg (fun k : Key => k.2.1) h
      have : a - x = b - x := this
      omega
    · rw [if_pos e1, if_neg e2] at h
      exact absurd (congrArg (fun k : Key => k.1) h) (show ¬ (0 : Nat) = 9 by decide)
  · by_cases e2 : x ≤ b ∧ b ≤ x + 133
    · rw [if_neg e1, if_pos e2] at h
      exact absurd (congrArg (fun k : Key => k.1) h) (show ¬ (9 : Nat) = 0 by decide)
    · rw [if_neg e1, if_neg e2] at h
      exact congrArg (fun k : Key => k.2.1) h
theorem yIC (x : Nat) : IC x (yC x) (x + 134) (g1M 40) := by
  refine ⟨yCX x, fun q hq => ?_, fun q => ?_⟩
  · unfold yC
    rw [if_neg (by omega)]
  · unfold yC
    split
    · exact Or.inl rfl
    · exact Or.inr (Or.inl rfl)
theorem yN0 {i : Nat} {p : Prop} (h : i < (0 : Int).toNat) : p := absurd h (Nat.not_lt_zero i)
theorem yST (x : Nat) : ST 0 x (yC x) (x + 134) yV (yRr x) (fun _ => none) (g1M 40) yW := by
  refine ⟨?_, ?_, ?_, ?_, ?_, ?_, ?_, ?_, ?_, ?_, ?_, yIC x⟩
  · exact ⟨rfl, by decide, rfl, by decide, rfl, by decide, rfl⟩
  · refine ⟨rfl, by decide, fun i _ => ?_, fun a b ha hb => ?_, fun a b _ _ => ?_, yClo, fun a b ha hb => ?_, Or.inl rfl, fun h => absurd h (by decide)⟩
    · show gxM 2 i = g1M 40 1 i ∧ 0 ≤ g1M 40 1 i ∧ g1M 40 1 i ≤ 999
      rw [gxMz (by decide) (by decide) (by decide), g1z (by decide)]
      decide
    · show gxM (4 + a) b = g1M 40 2 (30 * a + b)
      rw [gxMz (by omega) (by omega) (by omega), g1z (by decide)]
    · rw [g1z (by decide), g1z (by decide)]
      exact ⟨by decide, by decide, rfl, fun h => absurd rfl h⟩
    · show gxM (35 + a) b = wEnc (yW a b)
      rw [gxMw ha hb]
      unfold wEnc yW
      by_cases e : a = b
      · rw [if_pos e, if_pos e, if_pos (by decide)]
      · rw [if_neg e, if_neg e, if_neg (by decide)]
  · exact ⟨rfl, by decide, fun i hi => yN0 hi⟩
  · refine ⟨rfl, by decide, fun i hi => yN0 hi, fun i hi => yN0 hi, fun i hi => yN0 hi, fun i _ hi => ?_⟩
    exact ⟨g1m (by decide) hi, g1z (by decide), g1z (by decide), g1z (by decide), g1m (by decide) hi, g1z (by decide), g1z (by decide), g1z (by decide)⟩
  · refine ⟨fun s _ => Or.inl (g1z (by decide)), fun i j hi => yN0 hi, fun i j hi => yN0 hi, fun i j hi => yN0 hi, fun s _ => ?_, fun s _ _ => ⟨g1z (by decide), g1z (by decide)⟩, fun s _ _ => g1z (by decide)⟩
    rw [g1z (by decide), g1z (by decide), g1z (by decide), g1z (by decide)]
    decide
  · exact ⟨fun i hi => yN0 hi, fun i hi => yN0 hi, fun i hi => yN0 hi, fun i hi => yN0 hi, fun i _ _ => g1z (by decide)⟩
  · exact ⟨rfl, by decide, fun i hi => yN0 hi, fun i hi => yN0 hi, fun i hi => yN0 hi, fun i hi => yN0 hi, fun i hi => yN0 hi, fun i hi => yN0 hi, fun i j hi => yN0 hi, rfl, by decide, fun i hi => yN0 hi, fun i hi => yN0 hi⟩
  · refine fun i _ => ?_
    show gxM 121 (4 + i) = g1M 40 21 i ∧ zInI (g1M 40 21 i)
    rw [gxMz (by decide) (by decide) (by decide), g1z (by decide)]
    exact ⟨rfl, by show zInI 0; decide⟩
  · exact ⟨rfl, by decide⟩
  · exact ⟨rfl, by decide, fun i hi => yN0 hi, fun s t _ hi => yN0 hi, fun i hi => yN0 hi, fun i _ _ => g1z (by decide), by decide, fun i hi => yN0 hi, fun i hi _ => g1m (by decide) hi, fun i _ => g1z (by decide)⟩
  · exact ⟨rfl, by decide, fun i hi => yN0 hi⟩
theorem INV_init (n : Nat) : ∃ X1, FB_init zFU n (znw (zE n) 11 0) = some ((), X1) ∧ ∀ n2, zn X1 ≤ n2 → ∃ M1, FM_init zFU n2 (znw (zE n2) 12 0) = some ((), M1) ∧ INV 0 n n2 X1 M1 :=
  ⟨_, eB_init' n, fun n2 _ => ⟨_, eM_init n2, yC n, n + 134, yV, yRr n, fun _ => none, n2 + 40, g1M 40, yW, rfl, rfl, yST n⟩⟩
