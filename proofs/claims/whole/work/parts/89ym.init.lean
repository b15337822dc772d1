/-! ===== the beginning: the reference ===== -/
def rk1 (r : Nat → Option Nat) (k o : Nat) : Nat → Option Nat := fun a => if a = k then some o else r a
/-- the reference's heap while it is made: j cells are there -/
def zMk (m j : Nat) (r : Nat → Option Nat) (g : Nat → Nat → Int) : Hp := (fun q i => if m ≤ q then g (q - m) i else 0, fun q k => if q = m then (r k).map (fun o => m + o) else none, fun q => if m ≤ q ∧ q < m + j then mkd (q - m) else none, m + j)
section INM
variable {α : Type} {m j : Nat} {r : Nat → Option Nat} {g : Nat → Nat → Int}
theorem mS {F : Hp → Option α} {t n k : Nat} (hj : 0 < j) (hk : mkd j = some (t, n)) (hg : ∀ i, g j i = 0) : zbA (zMk m j r g) t n (fun a G => (zpR G m 12 k a).bind F) = F (zMk m (j + 1) (rk1 r k j) g) := by
  have e : znw (zMk m j r g) t n = zMk m (j + 1) r g := by
    refine Prod.ext ?_ (Prod.ext ?_ (Prod.ext ?_ rfl))
    · funext a i
      show (if a = m + j then 0 else if m ≤ a then g (a - m) i else 0) = if m ≤ a then g (a - m) i else 0
      by_cases e : a = m + j
      · rw [if_pos e, if_pos (by omega), e, show m + j - m = j by omega, hg]
      · rw [if_neg e]
    · funext a k
      show (if a = m + j then none else if a = m then (r k).map (fun o => m + o) else none) = if a = m then (r k).map (fun o => m + o) else none
      by_cases e : a = m + j
      · rw [if_pos e, if_neg (by omega)]
      · rw [if_neg e]
    · funext a
      show (if a = m + j then some (t, n) else if m ≤ a ∧ a < m + j then mkd (a - m) else none) = if m ≤ a ∧ a < m + (j + 1) then mkd (a - m) else none
      by_cases e : a = m + j
      · rw [if_pos e, if_pos (by omega), e, show m + j - m = j by omega, hk]
      · rw [if_neg e]
        by_cases e2 : m ≤ a ∧ a < m + j
        · rw [if_pos e2, if_pos (by omega)]
        · rw [if_neg e2, if_neg (by omega)]
  have k0 : zk (zMk m (j + 1) r g) m = some (12, 0) := by
    show (if m ≤ m ∧ m < m + (j + 1) then mkd (m - m) else none) = some (12, 0)
    rw [if_pos (by omega), show m - m = 0 by omega]
    rfl
  unfold zbA
  show (zpR (znw (zMk m j r g) t n) m 12 k (m + j)).bind F = _
  rw [e]
  unfold zpR
  rw [if_pos k0]
  show F (zsr (zMk m (j + 1) r g) m k (some (m + j))) = _
  refine congrArg F (Prod.ext rfl (Prod.ext ?_ rfl))
  funext a b
  show (if a = m ∧ b = k then some (m + j) else if a = m then (r b).map (fun o => m + o) else none) = if a = m then (rk1 r k j b).map (fun o => m + o) else none
  unfold rk1
  by_cases e1 : a = m
  · by_cases e2 : b = k
    · rw [if_pos ⟨e1, e2⟩, if_pos e1, if_pos e2]; rfl
    · rw [if_neg (fun z => e2 z.2), if_pos e1, if_pos e1, if_neg e2]
  · rw [if_neg (fun z => e1 z.1), if_neg e1, if_neg e1]
theorem mT {F : Hp → Option α} {k : Nat} {v : Int} (hj : 0 < j) : (zpI (zMk m j r g) m 12 k v).bind F = F (zMk m j r (gu g 0 k v)) := by
  have k0 : zk (zMk m j r g) m = some (12, 0) := by
    show (if m ≤ m ∧ m < m + j then mkd (m - m) else none) = some (12, 0)
    rw [if_pos (by omega), show m - m = 0 by omega]
    rfl
  unfold zpI
  rw [if_pos k0]
  show F (zsv (zMk m j r g) m k v) = _
  refine congrArg F (Prod.ext ?_ rfl)
  funext a b
  show (if a = m ∧ b = k then v else if m ≤ a then g (a - m) b else 0) = if m ≤ a then gu g 0 k v (a - m) b else 0
  by_cases e1 : a = m ∧ b = k
  · rw [if_pos e1, if_pos (by omega), zgu, if_pos (by omega)]
  · rw [if_neg e1]
    by_cases e2 : m ≤ a
    · rw [if_pos e2, if_pos e2, zgu, if_neg (by omega)]
    · rw [if_neg e2, if_neg e2]
theorem zMk_end (hr : ∀ k, r k = mrk k) : zMk m 40 r g = zG m (m + 40) g := by
  refine Prod.ext rfl (Prod.ext ?_ (Prod.ext ?_ rfl))
  · funext a k
    show (if a = m then (r k).map (fun o => m + o) else none) = if a = m then (mrk k).map (fun o => m + o) else none
    rw [hr]
  · funext a
    show (if m ≤ a ∧ a < m + 40 then mkd (a - m) else none) = if m ≤ a then mkd (a - m) else none
    by_cases e : m ≤ a
    · by_cases e2 : a < m + 40
      · rw [if_pos ⟨e, e2⟩, if_pos e]
      · rw [if_neg (fun z => e2 z.2), if_pos e]
        obtain ⟨d, hd⟩ : ∃ d, a - m = d + 40 := ⟨a - m - 40, by omega⟩
        rw [hd]
        rfl
    · rw [if_neg (fun z => e z.1), if_neg e]
end INM
def g0M : Nat → Nat → Int := gu (gu (fun _ _ => 0) 0 6 10) 0 7 4
def g1M (i : Nat) : Nat → Nat → Int := fun a s => if (a = 8 ∨ a = 31 ∨ a = 38) ∧ s < i then -1 else g0M a s
theorem init_loop {FU m N : Nat} : ∀ (d i fu : Nat), i + d = 40 → d < fu → FM_init_L337 FU fu m (i : Int) (zG m N (g1M i)) = some ((), zG m N (g1M 40)) := by
  intro d
  induction d with
  | zero =>
    intro i fu hi hf
    obtain ⟨fu, rfl⟩ : ∃ fu', fu = fu' + 1 := ⟨fu - 1, by omega⟩
    have : i = 40 := by omega
    subst this
    rw [FM_init_L337, if_neg (by omega)]
  | succ d ih =>
    intro i fu hi hf
    obtain ⟨fu, rfl⟩ : ∃ fu', fu = fu' + 1 := ⟨fu - 1, by omega⟩
    have i1 : (i : Int) + 1 = ((i + 1 : Nat) : Int) := by omega
    have ti : (i : Int).toNat = i := by omega
    have e : gu (gu (gu (g1M i) 8 i (-1)) 31 i (-1)) 38 i (-1) = g1M (i + 1) := by
      funext a s
      unfold gu g1M
      repeat' split
      all_goals first | rfl | omega
    rw [FM_init_L337, if_pos (by omega), mQ12b, mWo8b (by omega), ti, mQ43b, mWo31b (by omega), ti, mQ51b, mWo38b (by omega), ti, zckb (by omega), i1, e]
    exact ih (i + 1) fu (by omega) (by omega)
theorem mrk_chain : ∀ k, (rk1 (rk1 (rk1 (rk1 (rk1 (rk1 (rk1 (rk1 (rk1 (rk1 (rk1 (rk1 (rk1 (rk1 (rk1 (rk1 (rk1 (rk1 (rk1 (rk1 (rk1 (rk1 (rk1 (rk1 (rk1 (rk1 (rk1 (rk1 (rk1 (rk1 (rk1 (rk1 (rk1 (rk1 (rk1 (rk1 (rk1 (rk1 (rk1 (fun _ => none) 1 1) 3 2) 4 3) 8 4) 9 5) 10 6) 11 7) 12 8) 13 9) 14 10) 17 11) 19 12) 20 13) 23 14) 24 15) 26 16) 27 17) 28 18) 29 19) 30 20) 32 21) 33 22) 34 23) 35 24) 36 25) 37 26) 38 27) 39 28) 40 29) 41 30) 43 31) 44 32) 45 33) 46 34) 47 35) 48 36) 50 37) 51 38) 52 39) k = mrk k := by
  intro k
  unfold mrk
  split
  all_goals first | rfl | (simp_all [rk1])
theorem eM_init (m : Nat) : FM_init zFU m (znw (zE m) 12 0) = some ((), zG m (m + 40) (g1M 40)) := by
  have Z0 : ∀ j, 0 < j → ∀ i, (fun _ _ => (0 : Int) : Nat → Nat → Int) j i = 0 := fun _ _ _ => rfl
  have Z2 : ∀ j, 0 < j → ∀ i, g0M j i = 0 := fun j hj i => by
    unfold g0M
    rw [gu_ne (by omega), gu_ne (by omega)]
  have st : znw (zE m) 12 0 = zMk m 1 (fun _ => none) (fun _ _ => 0) := by
    refine Prod.ext ?_ (Prod.ext ?_ (Prod.ext ?_ rfl))
    · funext a i
      show (if a = m then (0 : Int) else 0) = if m ≤ a then 0 else 0
      rw [ite_self, ite_self]
    · funext a k
      show (if a = m then (none : Option Nat) else none) = if a = m then (none : Option Nat).map _ else none
      rw [ite_self, Option.map_none, ite_self]
    · funext a
      show (if a = m then some (12, 0) else none) = if m ≤ a ∧ a < m + 1 then mkd (a - m) else none
      by_cases e : a = m
      · rw [if_pos e, if_pos (by omega), e, show m - m = 0 by omega]
        rfl
      · rw [if_neg e, if_neg (by omega)]
  have e0 : g1M 0 = g0M := by
    funext a s
    unfold g1M
    rw [if_neg (by omega)]
  unfold FM_init
  rw [st]
  rw [mS (j := 1) (k := 1) (by decide) rfl (Z0 1 (by decide))]
  rw [mS (j := 2) (k := 3) (by decide) rfl (Z0 2 (by decide))]
  rw [mS (j := 3) (k := 4) (by decide) rfl (Z0 3 (by decide))]
  rw [mT (by decide)]
  rw [mT (by decide)]
  rw [show gu (gu (fun _ _ => (0 : Int)) 0 6 10) 0 7 4 = g0M from rfl]
  rw [mS (j := 4) (k := 8) (by decide) rfl (Z2 4 (by decide))]
  rw [mS (j := 5) (k := 9) (by decide) rfl (Z2 5 (by decide))]
  rw [mS (j := 6) (k := 10) (by decide) rfl (Z2 6 (by decide))]
  rw [mS (j := 7) (k := 11) (by decide) rfl (Z2 7 (by decide))]
  rw [mS (j := 8) (k := 12) (by decide) rfl (Z2 8 (by decide))]
  rw [mS (j := 9) (k := 13) (by decide) rfl (Z2 9 (by decide))]
  rw [mS (j := 10) (k := 14) (by decide) rfl (Z2 10 (by decide))]
  rw [mS (j := 11) (k := 17) (by decide) rfl (Z2 11 (by decide))]
  rw [mS (j := 12) (k := 19) (by decide) rfl (Z2 12 (by decide))]
  rw [mS (j := 13) (k := 20) (by decide) rfl (Z2 13 (by decide))]
  rw [mS (j := 14) (k := 23) (by decide) rfl (Z2 14 (by decide))]
  rw [mS (j := 15) (k := 24) (by decide) rfl (Z2 15 (by decide))]
  rw [mS (j := 16) (k := 26) (by decide) rfl (Z2 16 (by decide))]
  rw [mS (j := 17) (k := 27) (by decide) rfl (Z2 17 (by decide))]
  rw [mS (j := 18) (k := 28) (by decide) rfl (Z2 18 (by decide))]
  rw [mS (j := 19) (k := 29) (by decide) rfl (Z2 19 (by decide))]
  rw [mS (j := 20) (k := 30) (by decide) rfl (Z2 20 (by decide))]
  rw [mS (j := 21) (k := 32) (by decide) rfl (Z2 21 (by decide))]
  rw [mS (j := 22) (k := 33) (by decide) rfl (Z2 22 (by decide))]
  rw [mS (j := 23) (k := 34) (by decide) rfl (Z2 23 (by decide))]
  rw [mS (j := 24) (k := 35) (by decide) rfl (Z2 24 (by decide))]
  rw [mS (j := 25) (k := 36) (by decide) rfl (Z2 25 (by decide))]
  rw [mS (j := 26) (k := 37) (by decide) rfl (Z2 26 (by decide))]
  rw [mS (j := 27) (k := 38) (by decide) rfl (Z2 27 (by decide))]
  rw [mS (j := 28) (k := 39) (by decide) rfl (Z2 28 (by decide))]
  rw [mS (j := 29) (k := 40) (by decide) rfl (Z2 29 (by decide))]
  rw [mS (j := 30) (k := 41) (by decide) rfl (Z2 30 (by decide))]
  rw [mS (j := 31) (k := 43) (by decide) rfl (Z2 31 (by decide))]
  rw [mS (j := 32) (k := 44) (by decide) rfl (Z2 32 (by decide))]
  rw [mS (j := 33) (k := 45) (by decide) rfl (Z2 33 (by decide))]
  rw [mS (j := 34) (k := 46) (by decide) rfl (Z2 34 (by decide))]
  rw [mS (j := 35) (k := 47) (by decide) rfl (Z2 35 (by decide))]
  rw [mS (j := 36) (k := 48) (by decide) rfl (Z2 36 (by decide))]
  rw [mS (j := 37) (k := 50) (by decide) rfl (Z2 37 (by decide))]
  rw [mS (j := 38) (k := 51) (by decide) rfl (Z2 38 (by decide))]
  rw [mS (j := 39) (k := 52) (by decide) rfl (Z2 39 (by decide))]
  rw [zMk_end mrk_chain, ← e0]
  exact init_loop 40 0 zFU (by omega) (by unfold zFU; omega)
