/-! ===== the beginning: the class ===== -/
/-- the class's heap while it is made: j cells are there -/
def zY (x j : Nat) (r : Nat → Nat → Option Nat) (g : Nat → Nat → Int) : Hp := (fun q i => if x ≤ q then g (q - x) i else 0, fun q k => if x ≤ q then (r (q - x) k).map (fun o => x + o) else none, fun q => if x ≤ q ∧ q < x + j then kfix (q - x) else none, x + j)
def rk2 (r : Nat → Nat → Option Nat) (o k v : Nat) : Nat → Nat → Option Nat := fun a b => if a = o ∧ b = k then some v else r a b
def rkm (r : Nat → Nat → Option Nat) (j n : Nat) : Nat → Nat → Option Nat := fun a b => if a = j then (if b < n then some (j + 1 + b) else none) else r a b
def YH (j : Nat) (r : Nat → Nat → Option Nat) (g : Nat → Nat → Int) : Prop := (∀ o k, j ≤ o → r o k = none) ∧ ∀ o i, j ≤ o → g o i = 0
section INY
variable {α : Type} {x j o : Nat} {r : Nat → Nat → Option Nat} {g : Nat → Nat → Int}
theorem YH_up (h : YH j r g) {j' : Nat} (hj : j ≤ j') : YH j' r g := ⟨fun o k z => h.1 o k (by omega), fun o i z => h.2 o i (by omega)⟩
theorem YH_rk (h : YH j r g) {k v : Nat} (ho : o < j) : YH j (rk2 r o k v) g := ⟨fun a b z => by unfold rk2; rw [if_neg (by omega)]; exact h.1 a b z, h.2⟩
theorem YH_gv (h : YH j r g) {k : Nat} {v : Int} (ho : o < j) : YH j r (gu g o k v) := ⟨h.1, fun a i z => by rw [gu_ne (by omega)]; exact h.2 a i z⟩
theorem YH_rm (h : YH j r g) {n : Nat} : YH (j + 1 + n) (rkm r j n) g := ⟨fun a b z => by unfold rkm; rw [if_neg (by omega)]; exact h.1 a b (by omega), fun a i z => h.2 a i (by omega)⟩
theorem yA {F : Nat → Hp → Option α} (h : YH j r g) {t n : Nat} (hk : kfix j = some (t, n)) : zbA (zY x j r g) t n F = F (x + j) (zY x (j + 1) r g) := by
  have e : znw (zY x j r g) t n = zY x (j + 1) r g := by
    refine Prod.ext ?_ (Prod.ext ?_ (Prod.ext ?_ rfl))
    · funext a i
      show (if a = x + j then 0 else if x ≤ a then g (a - x) i else 0) = if x ≤ a then g (a - x) i else 0
      by_cases e : a = x + j
      · rw [if_pos e, if_pos (by omega), h.2 _ _ (by omega)]
      · rw [if_neg e]
    · funext a k
      show (if a = x + j then none else if x ≤ a then (r (a - x) k).map (fun o => x + o) else none) = if x ≤ a then (r (a - x) k).map (fun o => x + o) else none
      by_cases e : a = x + j
      · rw [if_pos e, if_pos (by omega), h.1 _ _ (by omega)]; rfl
      · rw [if_neg e]
    · funext a
      show (if a = x + j then some (t, n) else if x ≤ a ∧ a < x + j then kfix (a - x) else none) = if x ≤ a ∧ a < x + (j + 1) then kfix (a - x) else none
      by_cases e : a = x + j
      · rw [if_pos e, if_pos (by omega), e, show x + j - x = j by omega, hk]
      · rw [if_neg e]
        by_cases e2 : x ≤ a ∧ a < x + j
        · rw [if_pos e2, if_pos (by omega)]
        · rw [if_neg e2, if_neg (by omega)]
  unfold zbA
  rw [e]
  rfl
theorem yM {F : Nat → Hp → Option α} (h : YH j r g) {n k : Nat} (hk : kfix j = some (26, n)) (hr : ∀ i, i < n → kfix (j + 1 + i) = some (20, k)) : zbM (zY x j r g) n k F = F (x + j) (zY x (j + 1 + n) (rkm r j n) g) := by
  have e : znw2 (zY x j r g) n k = zY x (j + 1 + n) (rkm r j n) g := by
    refine Prod.ext ?_ (Prod.ext ?_ (Prod.ext ?_ ?_))
    · funext a i
      show (if x + j ≤ a then 0 else if x ≤ a then g (a - x) i else 0) = if x ≤ a then g (a - x) i else 0
      by_cases e : x + j ≤ a
      · rw [if_pos e, if_pos (by omega), h.2 _ _ (by omega)]
      · rw [if_neg e]
    · funext a b
      show (if a = x + j then (if b < n then some (x + j + 1 + b) else none) else if x + j < a then none else if x ≤ a then (r (a - x) b).map (fun o => x + o) else none) = if x ≤ a then (rkm r j n (a - x) b).map (fun o => x + o) else none
      unfold rkm
      by_cases e : a = x + j
      · rw [if_pos e, if_pos (show x ≤ a by omega), if_pos (show a - x = j by omega)]
        by_cases e2 : b < n
        · rw [if_pos e2, if_pos e2]
          show some (x + j + 1 + b) = some (x + (j + 1 + b))
          rw [show x + j + 1 + b = x + (j + 1 + b) by omega]
        · rw [if_neg e2, if_neg e2]; rfl
      · rw [if_neg e]
        by_cases e2 : x + j < a
        · rw [if_pos e2, if_pos (by omega), if_neg (by omega), h.1 _ _ (by omega)]; rfl
        · rw [if_neg e2]
          by_cases e3 : x ≤ a
          · rw [if_pos e3, if_pos e3, if_neg (by omega)]
          · rw [if_neg e3, if_neg e3]
    · funext a
      show (if a = x + j then some (26, n) else if x + j < a ∧ a ≤ x + j + n then some (20, k) else if x ≤ a ∧ a < x + j then kfix (a - x) else none) = if x ≤ a ∧ a < x + (j + 1 + n) then kfix (a - x) else none
      by_cases e : a = x + j
      · rw [if_pos e, if_pos (by omega), e, show x + j - x = j by omega, hk]
      · rw [if_neg e]
        by_cases e2 : x + j < a ∧ a ≤ x + j + n
        · have := hr (a - x - j - 1) (by omega)
          rw [show j + 1 + (a - x - j - 1) = a - x by omega] at this
          rw [if_pos e2, if_pos (by omega), this]
        · rw [if_neg e2]
          by_cases e3 : x ≤ a ∧ a < x + j
          · rw [if_pos e3, if_pos (by omega)]
          · rw [if_neg e3, if_neg (by omega)]
    · show x + j + 1 + n = x + (j + 1 + n)
      omega
  unfold zbM
  rw [e]
  rfl
theorem yK (ho : o < j) : zk (zY x j r g) (x + o) = kfix o := by
  show (if x ≤ x + o ∧ x + o < x + j then kfix (x + o - x) else none) = kfix o
  rw [if_pos (by omega), show x + o - x = o by omega]
theorem yR {F : Hp → Option α} {t k v : Nat} (ho : o < j) (hk : kfix o = some (t, 0)) : (zpR (zY x j r g) (x + o) t k (x + v)).bind F = F (zY x j (rk2 r o k v) g) := by
  unfold zpR
  rw [if_pos (by rw [yK ho, hk])]
  show F (zsr (zY x j r g) (x + o) k (some (x + v))) = _
  refine congrArg F (Prod.ext rfl (Prod.ext ?_ rfl))
  funext a b
  show (if a = x + o ∧ b = k then some (x + v) else if x ≤ a then (r (a - x) b).map (fun o => x + o) else none) = if x ≤ a then (rk2 r o k v (a - x) b).map (fun o => x + o) else none
  unfold rk2
  by_cases e1 : a = x + o ∧ b = k
  · rw [if_pos e1, if_pos (by omega), if_pos (by omega)]; rfl
  · rw [if_neg e1]
    by_cases e2 : x ≤ a
    · rw [if_pos e2, if_pos e2, if_neg (by omega)]
    · rw [if_neg e2, if_neg e2]
theorem yI {F : Hp → Option α} {t k : Nat} {v : Int} (ho : o < j) (hk : kfix o = some (t, 0)) : (zpI (zY x j r g) (x + o) t k v).bind F = F (zY x j r (gu g o k v)) := by
  unfold zpI
  rw [if_pos (by rw [yK ho, hk])]
  show F (zsv (zY x j r g) (x + o) k v) = _
  refine congrArg F (Prod.ext ?_ rfl)
  funext a b
  show (if a = x + o ∧ b = k then v else if x ≤ a then g (a - x) b else 0) = if x ≤ a then gu g o k v (a - x) b else 0
  by_cases e1 : a = x + o ∧ b = k
  · rw [if_pos e1, if_pos (by omega), zgu, if_pos (by omega)]
  · rw [if_neg e1]
    by_cases e2 : x ≤ a
    · rw [if_pos e2, if_pos e2, zgu, if_neg (by omega)]
    · rw [if_neg e2, if_neg e2]
theorem yQ {F : Nat → Option α} {t k v : Nat} (ho : o < j) (hk : kfix o = some (t, 0)) (hr : r o k = some v) : (zgQ (zY x j r g) (x + o) t k).bind F = F (x + v) := by
  unfold zgQ
  rw [if_pos (by rw [yK ho, hk])]
  show (if x ≤ x + o then (r (x + o - x) k).map (fun o => x + o) else none).bind F = _
  rw [if_pos (by omega), show x + o - x = o by omega, hr]
  rfl
theorem yN {F : Int → Option α} {t n : Nat} (ho : o < j) (hk : kfix o = some (t, n)) : (zaN (zY x j r g) (x + o) t).bind F = F (n : Int) := by
  unfold zaN
  rw [yK ho, hk]
  show (if t = t then some (n : Int) else none).bind F = _
  rw [if_pos rfl]
  rfl
theorem yat {t n : Nat} {i : Int} (ho : o < j) (hk : kfix o = some (t, n)) (hi : 0 ≤ i ∧ i < (n : Int)) : zat (zY x j r g) (x + o) t i = true := by
  unfold zat
  rw [yK ho, hk]
  exact decide_eq_true ⟨rfl, hi⟩
theorem yS {F : Hp → Option α} {t n : Nat} {i v : Int} (ho : o < j) (hk : kfix o = some (t, n)) (hi : 0 ≤ i ∧ i < (n : Int)) : (zaS (zY x j r g) (x + o) t i v).bind F = F (zY x j r (gu g o i.toNat v)) := by
  unfold zaS
  rw [if_pos (yat ho hk hi)]
  show F (zsv (zY x j r g) (x + o) i.toNat v) = _
  refine congrArg F (Prod.ext ?_ rfl)
  funext a b
  show (if a = x + o ∧ b = i.toNat then v else if x ≤ a then g (a - x) b else 0) = if x ≤ a then gu g o i.toNat v (a - x) b else 0
  by_cases e1 : a = x + o ∧ b = i.toNat
  · rw [if_pos e1, if_pos (by omega), zgu, if_pos (by omega)]
  · rw [if_neg e1]
    by_cases e2 : x ≤ a
    · rw [if_pos e2, if_pos e2, zgu, if_neg (by omega)]
    · rw [if_neg e2, if_neg e2]
theorem yq {F : Nat → Option α} {t n v : Nat} {i : Int} (ho : o < j) (hk : kfix o = some (t, n)) (hi : 0 ≤ i ∧ i < (n : Int)) (hr : r o i.toNat = some v) : (zaQ (zY x j r g) (x + o) t i).bind F = F (x + v) := by
  unfold zaQ
  rw [if_pos (yat ho hk hi)]
  show (if x ≤ x + o then (r (x + o - x) i.toNat).map (fun o => x + o) else none).bind F = _
  rw [if_pos (by omega), show x + o - x = o by omega, hr]
  rfl
theorem kf35 {a : Nat} (h : a < 30) : kfix (35 + a) = some (20, 30) := by
  unfold kfix
  rw [if_neg (by omega), if_pos (by omega)]
def wI (g : Nat → Nat → Int) (a b : Nat) : Nat → Nat → Int := fun o i => if o = 35 + a ∧ b ≤ i ∧ i < 30 then (if a = i then 0 else -1) else g o i
def wJ (g : Nat → Nat → Int) (a : Nat) : Nat → Nat → Int := fun o i => if 35 + a ≤ o ∧ o < 65 ∧ i < 30 then (if o = 35 + i then 0 else -1) else g o i
theorem row_loop {FU : Nat} {kL : Nat → Int → Hp → Option (Unit × Hp)} {a : Nat} (ha : a < 30) (hj : 65 ≤ j) : ∀ (d b fu : Nat) (g : Nat → Nat → Int), b + d = 30 → d < fu → FTown_init_L64 FU kL fu (x + 1) (a : Int) (x + (35 + a)) (b : Int) (zY x j r g) = kL (x + 1) ((a + 1 : Nat) : Int) (zY x j r (wI g a b)) := by
  intro d
  induction d with
  | zero =>
    intro b fu g hb hf
    obtain ⟨fu, rfl⟩ : ∃ fu', fu = fu' + 1 := ⟨fu - 1, by omega⟩
    have e : wI g a b = g := by
      funext o i
      unfold wI
      rw [if_neg (by omega)]
    rw [FTown_init_L64, yN (by omega) (kf35 ha), if_neg (by omega), zckb (by omega), e, show (a : Int) + 1 = ((a + 1 : Nat) : Int) by omega]
  | succ d ih =>
    intro b fu g hb hf
    obtain ⟨fu, rfl⟩ : ∃ fu', fu = fu' + 1 := ⟨fu - 1, by omega⟩
    have b1 : (b : Int) + 1 = ((b + 1 : Nat) : Int) := by omega
    have tb : (b : Int).toNat = b := by omega
    have e : ∀ v, (v = if a = b then 0 else -1) → wI (gu g (35 + a) b v) a (b + 1) = wI g a b := fun v hv => by
      funext o i
      unfold wI
      rw [zgu, hv]
      repeat' split
      all_goals first | rfl | omega
    rw [FTown_init_L64, yN (by omega) (kf35 ha), if_pos (by omega)]
    by_cases c : (a : Int) = (b : Int)
    · rw [if_pos c, yS (by omega) (kf35 ha) (by omega), tb, zckb (by omega), b1, ih (b + 1) fu _ (by omega) (by omega), e _ (by rw [if_pos (by omega)])]
    · rw [if_neg c, yS (by omega) (kf35 ha) (by omega), tb, zckb (by omega), b1, ih (b + 1) fu _ (by omega) (by omega), e _ (by rw [if_neg (by omega)])]
theorem mat_loop {FU : Nat} (hFU : 40 ≤ FU) (hj : 65 ≤ j) (h2 : r 1 2 = some 34) (h34 : ∀ a, a < 30 → r 34 a = some (35 + a)) : ∀ (d a fu : Nat) (g : Nat → Nat → Int), a + d = 30 → d < fu → FTown_init_L46 FU fu (x + 1) (a : Int) (zY x j r g) = some ((), zY x j r (wJ g a)) := by
  intro d
  induction d with
  | zero =>
    intro a fu g ha hf
    obtain ⟨fu, rfl⟩ : ∃ fu', fu = fu' + 1 := ⟨fu - 1, by omega⟩
    have e : wJ g a = g := by
      funext o i
      unfold wJ
      rw [if_neg (by omega)]
    rw [FTown_init_L46, yQ (by omega) rfl h2, yN (t := 26) (n := 30) (by omega) rfl, if_neg (by omega), e]
  | succ d ih =>
    intro a fu g ha hf
    obtain ⟨fu, rfl⟩ : ∃ fu', fu = fu' + 1 := ⟨fu - 1, by omega⟩
    have ta : (a : Int).toNat = a := by omega
    have l := row_loop (x := x) (j := j) (r := r) (FU := FU) (kL := FTown_init_L46 FU fu) (a := a) (by omega) hj 30 0 FU g (by omega) (by omega)
    have l' : FTown_init_L64 FU (FTown_init_L46 FU fu) FU (x + 1) (a : Int) (x + (35 + a)) 0 (zY x j r g) = _ := l
    have e : wJ (wI g a 0) (a + 1) = wJ g a := by
      funext o i
      unfold wJ wI
      repeat' split
      all_goals first | rfl | omega
    rw [FTown_init_L46, yQ (by omega) rfl h2, yN (t := 26) (n := 30) (by omega) rfl, if_pos (by omega), yQ (by omega) rfl h2, yq (t := 26) (n := 30) (by omega) rfl (by omega) (by rw [ta]; exact h34 a (by omega)), l', ih (a + 1) fu _ (by omega) (by omega), e]
end INY
