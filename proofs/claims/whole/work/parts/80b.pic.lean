/-! ===== the class's heap, as a picture: fixed cells behind its object, and cells made later, each by a key ===== -/
abbrev Key : Type := Nat × Nat × Nat
def ku (V : Key → Nat → Int) (q : Key) (i : Nat) (v : Int) : Key → Nat → Int := fun a b => if a = q ∧ b = i then v else V a b
def ru (R : Key → Nat → Option Nat) (q : Key) (i : Nat) (v : Option Nat) : Key → Nat → Option Nat := fun a b => if a = q ∧ b = i then v else R a b
def kfix (j : Nat) : Option (Nat × Nat) :=
  if 4 ≤ j ∧ j ≤ 33 then some (20, 30) else if 35 ≤ j ∧ j ≤ 64 then some (20, 30) else if 70 ≤ j ∧ j ≤ 112 then some (20, 30) else match j with
  | 0 => some (11, 0)
  | 1 => some (10, 0)
  | 2 => some (20, 30)
  | 3 => some (26, 30)
  | 34 => some (26, 30)
  | 65 => some (20, 10)
  | 66 => some (0, 0)
  | 67 => some (23, 40)
  | 68 => some (2, 0)
  | 69 => some (26, 43)
  | 113 => some (20, 43)
  | 114 => some (20, 30)
  | 115 => some (8, 0)
  | 116 => some (20, 10)
  | 117 => some (20, 40)
  | 118 => some (20, 3)
  | 119 => some (20, 3)
  | 120 => some (6, 0)
  | 121 => some (5, 0)
  | 122 => some (20, 120)
  | 123 => some (25, 20)
  | 124 => some (20, 120)
  | 125 => some (1, 0)
  | 126 => some (20, 40)
  | 127 => some (4, 0)
  | 128 => some (20, 10)
  | 129 => some (20, 10)
  | 130 => some (20, 10)
  | 131 => some (20, 10)
  | 132 => some (20, 10)
  | 133 => some (20, 10)
  | _ => none
def rfix (j k : Nat) : Option Nat := match j, k with
  | 0, 0 => some 1
  | 0, 1 => some 66
  | 0, 2 => some 68
  | 0, 3 => some 115
  | 0, 4 => some 120
  | 0, 5 => some 125
  | 0, 6 => some 127
  | 1, 0 => some 2
  | 1, 1 => some 3
  | 1, 2 => some 34
  | 1, 3 => some 65
  | 66, 0 => some 1
  | 66, 1 => some 67
  | 68, 0 => some 1
  | 68, 1 => some 69
  | 68, 2 => some 113
  | 68, 3 => some 114
  | 115, 0 => some 1
  | 115, 1 => some 66
  | 115, 2 => some 68
  | 115, 3 => some 116
  | 115, 4 => some 117
  | 115, 5 => some 118
  | 115, 6 => some 119
  | 120, 0 => some 66
  | 120, 1 => some 121
  | 120, 2 => some 123
  | 120, 3 => some 124
  | 125, 0 => some 66
  | 125, 1 => some 126
  | 127, 0 => some 128
  | 127, 1 => some 129
  | 127, 2 => some 130
  | 127, 3 => some 131
  | 127, 4 => some 132
  | 127, 5 => some 133
  | 3, k => if k < 30 then some (4 + k) else none
  | 34, k => if k < 30 then some (35 + k) else none
  | 69, k => if k < 43 then some (70 + k) else none
  | _, _ => none
def zX (x : Nat) (c : Nat → Key) (N : Nat) (V : Key → Nat → Int) (R : Key → Nat → Option Nat) (K : Key → Option (Nat × Nat)) : Hp :=
  (fun q i => V (c q) i, fun q k => if (c q).1 = 0 then (match rfix (c q).2.1 k with | some o => some (x + o) | none => R (c q) k) else R (c q) k, fun q => if (c q).1 = 0 then kfix (c q).2.1 else K (c q), N)
def CX (x : Nat) (c : Nat → Key) : Prop := (∀ a b, c a = c b → a = b) ∧ ∀ j, j ≤ 133 → c (x + j) = (0, j, 0)
section XP
variable {x N : Nat} {c : Nat → Key} {V : Key → Nat → Int} {R : Key → Nat → Option Nat} {K : Key → Option (Nat × Nat)}
theorem zX_up (N' : Nat) : zup (zX x c N V R K) N' = zX x c N' V R K := rfl
theorem zX_v (q i : Nat) : zv (zX x c N V R K) q i = V (c q) i := rfl
theorem zX_k (q : Nat) : zk (zX x c N V R K) q = if (c q).1 = 0 then kfix (c q).2.1 else K (c q) := rfl
theorem zX_r (q k : Nat) : zr (zX x c N V R K) q k = if (c q).1 = 0 then (match rfix (c q).2.1 k with | some o => some (x + o) | none => R (c q) k) else R (c q) k := rfl
theorem zX_sv (h : CX x c) {q : Nat} {key : Key} (hq : c q = key) (i : Nat) (v : Int) : zsv (zX x c N V R K) q i v = zX x c N (ku V key i v) R K := by
  subst hq
  unfold zsv
  refine Prod.ext ?_ rfl
  funext a b
  show (if a = q ∧ b = i then v else V (c a) b) = if c a = c q ∧ b = i then v else V (c a) b
  by_cases e : a = q
  · subst e; simp
  · have e2 : ¬ c a = c q := fun z => e (h.1 _ _ z)
    simp [e, e2]
theorem zX_sr (h : CX x c) {q : Nat} {key : Key} (hq : c q = key) (i : Nat) (v : Option Nat) (hs : key.1 = 0 → rfix key.2.1 i = none) : zsr (zX x c N V R K) q i v = zX x c N V (ru R key i v) K := by
  subst hq
  unfold zsr
  refine Prod.ext rfl (Prod.ext ?_ rfl)
  funext a b
  show (if a = q ∧ b = i then v else zr (zX x c N V R K) a b) = zr (zX x c N V (ru R (c q) i v) K) a b
  rw [zX_r, zX_r]
  by_cases e : a = q
  · subst e
    by_cases e2 : b = i
    · subst e2
      by_cases e3 : (c a).1 = 0
      · rw [if_pos e3, hs e3]; simp [ru]
      · rw [if_neg e3]; simp [ru, e3]
    · simp [e2, ru]
  · have e2 : ¬ c a = c q := fun z => e (h.1 _ _ z)
    simp [e, e2, ru]
/-- an object of a key -/
theorem xIk {q t i : Nat} {key : Key} (hq : c q = key) (hk : zk (zX x c N V R K) q = some (t, 0)) : zgI (zX x c N V R K) q t i = some (V key i) := by
  unfold zgI
  rw [if_pos hk, zX_v, hq]
theorem xPk (h : CX x c) {q t i : Nat} {v : Int} {key : Key} (hq : c q = key) (hk : zk (zX x c N V R K) q = some (t, 0)) : zpI (zX x c N V R K) q t i v = some (zX x c N (ku V key i v) R K) := by
  unfold zpI
  rw [if_pos hk, zX_sv h hq]
theorem xPZk (h : CX x c) {q t i : Nat} {v : Int} {key : Key} (hq : c q = key) (hk : zk (zX x c N V R K) q = some (t, 0)) : zpZ (zX x c N V R K) q t i v = if v = 0 ∨ v = 1 then some (zX x c N (ku V key i v) R K) else none := by
  unfold zpZ
  rw [hk, zX_sv h hq]
  simp only [true_and]
theorem xAt {q t n : Nat} (hk : zk (zX x c N V R K) q = some (t, n)) (i : Int) : zat (zX x c N V R K) q t i = decide (0 ≤ i ∧ i < (n : Int)) := by
  unfold zat
  rw [hk]
  simp
theorem xRk {q t n : Nat} {key : Key} (hq : c q = key) (hk : zk (zX x c N V R K) q = some (t, n)) (i : Int) : zaI (zX x c N V R K) q t i = if 0 ≤ i ∧ i < (n : Int) then some (V key i.toNat) else none := by
  unfold zaI
  rw [xAt hk, zX_v, hq]
  simp only [decide_eq_true_eq]
theorem xWk (h : CX x c) {q t n : Nat} {key : Key} (hq : c q = key) (hk : zk (zX x c N V R K) q = some (t, n)) (i v : Int) : zaS (zX x c N V R K) q t i v = if 0 ≤ i ∧ i < (n : Int) then some (zX x c N (ku V key i.toNat v) R K) else none := by
  unfold zaS
  rw [xAt hk, zX_sv h hq]
  simp only [decide_eq_true_eq]
theorem xNk {q t n : Nat} (hk : zk (zX x c N V R K) q = some (t, n)) : zaN (zX x c N V R K) q t = some (n : Int) := by
  unfold zaN
  rw [hk]
  simp
theorem xDk {α : Type} {q t : Nat} {k : Option α} (hk : zk (zX x c N V R K) q = some (t, 0)) : zgd (zX x c N V R K) q t k = k := by
  unfold zgd
  rw [hk, if_pos rfl]
theorem xKf (h : CX x c) (j : Nat) (hj : j ≤ 133) : zk (zX x c N V R K) (x + j) = kfix j := by
  rw [zX_k, h.2 j hj]
  rfl
theorem xRf (h : CX x c) (j k o : Nat) (hj : j ≤ 133) (hr : rfix j k = some o) : zr (zX x c N V R K) (x + j) k = some (x + o) := by
  rw [zX_r, h.2 j hj]
  simp [hr]
theorem xRd (h : CX x c) (j k : Nat) (hj : j ≤ 133) (hr : rfix j k = none) : zr (zX x c N V R K) (x + j) k = R (0, j, 0) k := by
  rw [zX_r, h.2 j hj]
  simp [hr]
theorem xK0 (h : CX x c) : zk (zX x c N V R K) x = some (11, 0) := xKf h 0 (by decide)
theorem xI0 (h : CX x c) (i : Nat) : zgI (zX x c N V R K) x 11 i = some (V (0, 0, 0) i) := xIk (h.2 0 (by decide)) (xK0 h)
theorem xP0 (h : CX x c) (i : Nat) (v : Int) : zpI (zX x c N V R K) x 11 i v = some (zX x c N (ku V (0, 0, 0) i v) R K) := xPk h (h.2 0 (by decide)) (xK0 h)
theorem xD0 {α : Type} (h : CX x c) (k : Option α) : zgd (zX x c N V R K) x 11 k = k := xDk (xK0 h)
theorem xK1 (h : CX x c) : zk (zX x c N V R K) (x + 1) = some (10, 0) := xKf h 1 (by decide)
theorem xI1 (h : CX x c) (i : Nat) : zgI (zX x c N V R K) (x + 1) 10 i = some (V (0, 1, 0) i) := xIk (h.2 1 (by decide)) (xK1 h)
theorem xP1 (h : CX x c) (i : Nat) (v : Int) : zpI (zX x c N V R K) (x + 1) 10 i v = some (zX x c N (ku V (0, 1, 0) i v) R K) := xPk h (h.2 1 (by decide)) (xK1 h)
theorem xD1 {α : Type} (h : CX x c) (k : Option α) : zgd (zX x c N V R K) (x + 1) 10 k = k := xDk (xK1 h)
theorem xK66 (h : CX x c) : zk (zX x c N V R K) (x + 66) = some (0, 0) := xKf h 66 (by decide)
theorem xI66 (h : CX x c) (i : Nat) : zgI (zX x c N V R K) (x + 66) 0 i = some (V (0, 66, 0) i) := xIk (h.2 66 (by decide)) (xK66 h)
theorem xP66 (h : CX x c) (i : Nat) (v : Int) : zpI (zX x c N V R K) (x + 66) 0 i v = some (zX x c N (ku V (0, 66, 0) i v) R K) := xPk h (h.2 66 (by decide)) (xK66 h)
theorem xD66 {α : Type} (h : CX x c) (k : Option α) : zgd (zX x c N V R K) (x + 66) 0 k = k := xDk (xK66 h)
theorem xK68 (h : CX x c) : zk (zX x c N V R K) (x + 68) = some (2, 0) := xKf h 68 (by decide)
theorem xI68 (h : CX x c) (i : Nat) : zgI (zX x c N V R K) (x + 68) 2 i = some (V (0, 68, 0) i) := xIk (h.2 68 (by decide)) (xK68 h)
theorem xP68 (h : CX x c) (i : Nat) (v : Int) : zpI (zX x c N V R K) (x + 68) 2 i v = some (zX x c N (ku V (0, 68, 0) i v) R K) := xPk h (h.2 68 (by decide)) (xK68 h)
theorem xD68 {α : Type} (h : CX x c) (k : Option α) : zgd (zX x c N V R K) (x + 68) 2 k = k := xDk (xK68 h)
theorem xK115 (h : CX x c) : zk (zX x c N V R K) (x + 115) = some (8, 0) := xKf h 115 (by decide)
theorem xI115 (h : CX x c) (i : Nat) : zgI (zX x c N V R K) (x + 115) 8 i = some (V (0, 115, 0) i) := xIk (h.2 115 (by decide)) (xK115 h)
theorem xP115 (h : CX x c) (i : Nat) (v : Int) : zpI (zX x c N V R K) (x + 115) 8 i v = some (zX x c N (ku V (0, 115, 0) i v) R K) := xPk h (h.2 115 (by decide)) (xK115 h)
theorem xD115 {α : Type} (h : CX x c) (k : Option α) : zgd (zX x c N V R K) (x + 115) 8 k = k := xDk (xK115 h)
theorem xK120 (h : CX x c) : zk (zX x c N V R K) (x + 120) = some (6, 0) := xKf h 120 (by decide)
theorem xI120 (h : CX x c) (i : Nat) : zgI (zX x c N V R K) (x + 120) 6 i = some (V (0, 120, 0) i) := xIk (h.2 120 (by decide)) (xK120 h)
theorem xP120 (h : CX x c) (i : Nat) (v : Int) : zpI (zX x c N V R K) (x + 120) 6 i v = some (zX x c N (ku V (0, 120, 0) i v) R K) := xPk h (h.2 120 (by decide)) (xK120 h)
theorem xD120 {α : Type} (h : CX x c) (k : Option α) : zgd (zX x c N V R K) (x + 120) 6 k = k := xDk (xK120 h)
theorem xK121 (h : CX x c) : zk (zX x c N V R K) (x + 121) = some (5, 0) := xKf h 121 (by decide)
theorem xI121 (h : CX x c) (i : Nat) : zgI (zX x c N V R K) (x + 121) 5 i = some (V (0, 121, 0) i) := xIk (h.2 121 (by decide)) (xK121 h)
theorem xP121 (h : CX x c) (i : Nat) (v : Int) : zpI (zX x c N V R K) (x + 121) 5 i v = some (zX x c N (ku V (0, 121, 0) i v) R K) := xPk h (h.2 121 (by decide)) (xK121 h)
theorem xD121 {α : Type} (h : CX x c) (k : Option α) : zgd (zX x c N V R K) (x + 121) 5 k = k := xDk (xK121 h)
theorem xK125 (h : CX x c) : zk (zX x c N V R K) (x + 125) = some (1, 0) := xKf h 125 (by decide)
theorem xI125 (h : CX x c) (i : Nat) : zgI (zX x c N V R K) (x + 125) 1 i = some (V (0, 125, 0) i) := xIk (h.2 125 (by decide)) (xK125 h)
theorem xP125 (h : CX x c) (i : Nat) (v : Int) : zpI (zX x c N V R K) (x + 125) 1 i v = some (zX x c N (ku V (0, 125, 0) i v) R K) := xPk h (h.2 125 (by decide)) (xK125 h)
theorem xD125 {α : Type} (h : CX x c) (k : Option α) : zgd (zX x c N V R K) (x + 125) 1 k = k := xDk (xK125 h)
theorem xK127 (h : CX x c) : zk (zX x c N V R K) (x + 127) = some (4, 0) := xKf h 127 (by decide)
theorem xI127 (h : CX x c) (i : Nat) : zgI (zX x c N V R K) (x + 127) 4 i = some (V (0, 127, 0) i) := xIk (h.2 127 (by decide)) (xK127 h)
theorem xP127 (h : CX x c) (i : Nat) (v : Int) : zpI (zX x c N V R K) (x + 127) 4 i v = some (zX x c N (ku V (0, 127, 0) i v) R K) := xPk h (h.2 127 (by decide)) (xK127 h)
theorem xD127 {α : Type} (h : CX x c) (k : Option α) : zgd (zX x c N V R K) (x + 127) 4 k = k := xDk (xK127 h)
theorem xPZ121 (h : CX x c) (i : Nat) (v : Int) : zpZ (zX x c N V R K) (x + 121) 5 i v = if v = 0 ∨ v = 1 then some (zX x c N (ku V (0, 121, 0) i v) R K) else none := xPZk h (h.2 121 (by decide)) (xK121 h)
theorem xK2 (h : CX x c) : zk (zX x c N V R K) (x + 2) = some (20, 30) := xKf h 2 (by decide)
theorem xR2 (h : CX x c) (i : Int) : zaI (zX x c N V R K) (x + 2) 20 i = if 0 ≤ i ∧ i < 30 then some (V (0, 2, 0) i.toNat) else none := xRk (h.2 2 (by decide)) (xK2 h) i
theorem xW2 (h : CX x c) (i v : Int) : zaS (zX x c N V R K) (x + 2) 20 i v = if 0 ≤ i ∧ i < 30 then some (zX x c N (ku V (0, 2, 0) i.toNat v) R K) else none := xWk h (h.2 2 (by decide)) (xK2 h) i v
theorem xN2 (h : CX x c) : zaN (zX x c N V R K) (x + 2) 20 = some 30 := xNk (xK2 h)
theorem xRo2 (h : CX x c) {i : Int} (hi : 0 ≤ i ∧ i < 30) : zaI (zX x c N V R K) (x + 2) 20 i = some (V (0, 2, 0) i.toNat) := by rw [xR2 h, if_pos hi]
theorem xWo2 (h : CX x c) {i v : Int} (hi : 0 ≤ i ∧ i < 30) : zaS (zX x c N V R K) (x + 2) 20 i v = some (zX x c N (ku V (0, 2, 0) i.toNat v) R K) := by rw [xW2 h, if_pos hi]
theorem xK65 (h : CX x c) : zk (zX x c N V R K) (x + 65) = some (20, 10) := xKf h 65 (by decide)
theorem xR65 (h : CX x c) (i : Int) : zaI (zX x c N V R K) (x + 65) 20 i = if 0 ≤ i ∧ i < 10 then some (V (0, 65, 0) i.toNat) else none := xRk (h.2 65 (by decide)) (xK65 h) i
theorem xW65 (h : CX x c) (i v : Int) : zaS (zX x c N V R K) (x + 65) 20 i v = if 0 ≤ i ∧ i < 10 then some (zX x c N (ku V (0, 65, 0) i.toNat v) R K) else none := xWk h (h.2 65 (by decide)) (xK65 h) i v
theorem xN65 (h : CX x c) : zaN (zX x c N V R K) (x + 65) 20 = some 10 := xNk (xK65 h)
theorem xRo65 (h : CX x c) {i : Int} (hi : 0 ≤ i ∧ i < 10) : zaI (zX x c N V R K) (x + 65) 20 i = some (V (0, 65, 0) i.toNat) := by rw [xR65 h, if_pos hi]
theorem xWo65 (h : CX x c) {i v : Int} (hi : 0 ≤ i ∧ i < 10) : zaS (zX x c N V R K) (x + 65) 20 i v = some (zX x c N (ku V (0, 65, 0) i.toNat v) R K) := by rw [xW65 h, if_pos hi]
theorem xK113 (h : CX x c) : zk (zX x c N V R K) (x + 113) = some (20, 43) := xKf h 113 (by decide)
theorem xR113 (h : CX x c) (i : Int) : zaI (zX x c N V R K) (x + 113) 20 i = if 0 ≤ i ∧ i < 43 then some (V (0, 113, 0) i.toNat) else none := xRk (h.2 113 (by decide)) (xK113 h) i
theorem xW113 (h : CX x c) (i v : Int) : zaS (zX x c N V R K) (x + 113) 20 i v = if 0 ≤ i ∧ i < 43 then some (zX x c N (ku V (0, 113, 0) i.toNat v) R K) else none := xWk h (h.2 113 (by decide)) (xK113 h) i v
theorem xN113 (h : CX x c) : zaN (zX x c N V R K) (x + 113) 20 = some 43 := xNk (xK113 h)
theorem xRo113 (h : CX x c) {i : Int} (hi : 0 ≤ i ∧ i < 43) : zaI (zX x c N V R K) (x + 113) 20 i = some (V (0, 113, 0) i.toNat) := by rw [xR113 h, if_pos hi]
theorem xWo113 (h : CX x c) {i v : Int} (hi : 0 ≤ i ∧ i < 43) : zaS (zX x c N V R K) (x + 113) 20 i v = some (zX x c N (ku V (0, 113, 0) i.toNat v) R K) := by rw [xW113 h, if_pos hi]
theorem xK114 (h : CX x c) : zk (zX x c N V R K) (x + 114) = some (20, 30) := xKf h 114 (by decide)
theorem xR114 (h : CX x c) (i : Int) : zaI (zX x c N V R K) (x + 114) 20 i = if 0 ≤ i ∧ i < 30 then some (V (0, 114, 0) i.toNat) else none := xRk (h.2 114 (by decide)) (xK114 h) i
theorem xW114 (h : CX x c) (i v : Int) : zaS (zX x c N V R K) (x + 114) 20 i v = if 0 ≤ i ∧ i < 30 then some (zX x c N (ku V (0, 114, 0) i.toNat v) R K) else none := xWk h (h.2 114 (by decide)) (xK114 h) i v
theorem xN114 (h : CX x c) : zaN (zX x c N V R K) (x + 114) 20 = some 30 := xNk (xK114 h)
theorem xRo114 (h : CX x c) {i : Int} (hi : 0 ≤ i ∧ i < 30) : zaI (zX x c N V R K) (x + 114) 20 i = some (V (0, 114, 0) i.toNat) := by rw [xR114 h, if_pos hi]
theorem xWo114 (h : CX x c) {i v : Int} (hi : 0 ≤ i ∧ i < 30) : zaS (zX x c N V R K) (x + 114) 20 i v = some (zX x c N (ku V (0, 114, 0) i.toNat v) R K) := by rw [xW114 h, if_pos hi]
theorem xK116 (h : CX x c) : zk (zX x c N V R K) (x + 116) = some (20, 10) := xKf h 116 (by decide)
theorem xR116 (h : CX x c) (i : Int) : zaI (zX x c N V R K) (x + 116) 20 i = if 0 ≤ i ∧ i < 10 then some (V (0, 116, 0) i.toNat) else none := xRk (h.2 116 (by decide)) (xK116 h) i
theorem xW116 (h : CX x c) (i v : Int) : zaS (zX x c N V R K) (x + 116) 20 i v = if 0 ≤ i ∧ i < 10 then some (zX x c N (ku V (0, 116, 0) i.toNat v) R K) else none := xWk h (h.2 116 (by decide)) (xK116 h) i v
theorem xN116 (h : CX x c) : zaN (zX x c N V R K) (x + 116) 20 = some 10 := xNk (xK116 h)
theorem xRo116 (h : CX x c) {i : Int} (hi : 0 ≤ i ∧ i < 10) : zaI (zX x c N V R K) (x + 116) 20 i = some (V (0, 116, 0) i.toNat) := by rw [xR116 h, if_pos hi]
theorem xWo116 (h : CX x c) {i v : Int} (hi : 0 ≤ i ∧ i < 10) : zaS (zX x c N V R K) (x + 116) 20 i v = some (zX x c N (ku V (0, 116, 0) i.toNat v) R K) := by rw [xW116 h, if_pos hi]
theorem xK117 (h : CX x c) : zk (zX x c N V R K) (x + 117) = some (20, 40) := xKf h 117 (by decide)
theorem xR117 (h : CX x c) (i : Int) : zaI (zX x c N V R K) (x + 117) 20 i = if 0 ≤ i ∧ i < 40 then some (V (0, 117, 0) i.toNat) else none := xRk (h.2 117 (by decide)) (xK117 h) i
theorem xW117 (h : CX x c) (i v : Int) : zaS (zX x c N V R K) (x + 117) 20 i v = if 0 ≤ i ∧ i < 40 then some (zX x c N (ku V (0, 117, 0) i.toNat v) R K) else none := xWk h (h.2 117 (by decide)) (xK117 h) i v
theorem xN117 (h : CX x c) : zaN (zX x c N V R K) (x + 117) 20 = some 40 := xNk (xK117 h)
theorem xRo117 (h : CX x c) {i : Int} (hi : 0 ≤ i ∧ i < 40) : zaI (zX x c N V R K) (x + 117) 20 i = some (V (0, 117, 0) i.toNat) := by rw [xR117 h, if_pos hi]
theorem xWo117 (h : CX x c) {i v : Int} (hi : 0 ≤ i ∧ i < 40) : zaS (zX x c N V R K) (x + 117) 20 i v = some (zX x c N (ku V (0, 117, 0) i.toNat v) R K) := by rw [xW117 h, if_pos hi]
theorem xK118 (h : CX x c) : zk (zX x c N V R K) (x + 118) = some (20, 3) := xKf h 118 (by decide)
theorem xR118 (h : CX x c) (i : Int) : zaI (zX x c N V R K) (x + 118) 20 i = if 0 ≤ i ∧ i < 3 then some (V (0, 118, 0) i.toNat) else none := xRk (h.2 118 (by decide)) (xK118 h) i
theorem xW118 (h : CX x c) (i v : Int) : zaS (zX x c N V R K) (x + 118) 20 i v = if 0 ≤ i ∧ i < 3 then some (zX x c N (ku V (0, 118, 0) i.toNat v) R K) else none := xWk h (h.2 118 (by decide)) (xK118 h) i v
theorem xN118 (h : CX x c) : zaN (zX x c N V R K) (x + 118) 20 = some 3 := xNk (xK118 h)
theorem xRo118 (h : CX x c) {i : Int} (hi : 0 ≤ i ∧ i < 3) : zaI (zX x c N V R K) (x + 118) 20 i = some (V (0, 118, 0) i.toNat) := by rw [xR118 h, if_pos hi]
theorem xWo118 (h : CX x c) {i v : Int} (hi : 0 ≤ i ∧ i < 3) : zaS (zX x c N V R K) (x + 118) 20 i v = some (zX x c N (ku V (0, 118, 0) i.toNat v) R K) := by rw [xW118 h, if_pos hi]
theorem xK119 (h : CX x c) : zk (zX x c N V R K) (x + 119) = some (20, 3) := xKf h 119 (by decide)
theorem xR119 (h : CX x c) (i : Int) : zaI (zX x c N V R K) (x + 119) 20 i = if 0 ≤ i ∧ i < 3 then some (V (0, 119, 0) i.toNat) else none := xRk (h.2 119 (by decide)) (xK119 h) i
theorem xW119 (h : CX x c) (i v : Int) : zaS (zX x c N V R K) (x + 119) 20 i v = if 0 ≤ i ∧ i < 3 then some (zX x c N (ku V (0, 119, 0) i.toNat v) R K) else none := xWk h (h.2 119 (by decide)) (xK119 h) i v
theorem xN119 (h : CX x c) : zaN (zX x c N V R K) (x + 119) 20 = some 3 := xNk (xK119 h)
theorem xRo119 (h : CX x c) {i : Int} (hi : 0 ≤ i ∧ i < 3) : zaI (zX x c N V R K) (x + 119) 20 i = some (V (0, 119, 0) i.toNat) := by rw [xR119 h, if_pos hi]
theorem xWo119 (h : CX x c) {i v : Int} (hi : 0 ≤ i ∧ i < 3) : zaS (zX x c N V R K) (x + 119) 20 i v = some (zX x c N (ku V (0, 119, 0) i.toNat v) R K) := by rw [xW119 h, if_pos hi]
theorem xK122 (h : CX x c) : zk (zX x c N V R K) (x + 122) = some (20, 120) := xKf h 122 (by decide)
theorem xR122 (h : CX x c) (i : Int) : zaI (zX x c N V R K) (x + 122) 20 i = if 0 ≤ i ∧ i < 120 then some (V (0, 122, 0) i.toNat) else none := xRk (h.2 122 (by decide)) (xK122 h) i
theorem xW122 (h : CX x c) (i v : Int) : zaS (zX x c N V R K) (x + 122) 20 i v = if 0 ≤ i ∧ i < 120 then some (zX x c N (ku V (0, 122, 0) i.toNat v) R K) else none := xWk h (h.2 122 (by decide)) (xK122 h) i v
theorem xN122 (h : CX x c) : zaN (zX x c N V R K) (x + 122) 20 = some 120 := xNk (xK122 h)
theorem xRo122 (h : CX x c) {i : Int} (hi : 0 ≤ i ∧ i < 120) : zaI (zX x c N V R K) (x + 122) 20 i = some (V (0, 122, 0) i.toNat) := by rw [xR122 h, if_pos hi]
theorem xWo122 (h : CX x c) {i v : Int} (hi : 0 ≤ i ∧ i < 120) : zaS (zX x c N V R K) (x + 122) 20 i v = some (zX x c N (ku V (0, 122, 0) i.toNat v) R K) := by rw [xW122 h, if_pos hi]
theorem xK124 (h : CX x c) : zk (zX x c N V R K) (x + 124) = some (20, 120) := xKf h 124 (by decide)
theorem xR124 (h : CX x c) (i : Int) : zaI (zX x c N V R K) (x + 124) 20 i = if 0 ≤ i ∧ i < 120 then some (V (0, 124, 0) i.toNat) else none := xRk (h.2 124 (by decide)) (xK124 h) i
theorem xW124 (h : CX x c) (i v : Int) : zaS (zX x c N V R K) (x + 124) 20 i v = if 0 ≤ i ∧ i < 120 then some (zX x c N (ku V (0, 124, 0) i.toNat v) R K) else none := xWk h (h.2 124 (by decide)) (xK124 h) i v
theorem xN124 (h : CX x c) : zaN (zX x c N V R K) (x + 124) 20 = some 120 := xNk (xK124 h)
theorem xRo124 (h : CX x c) {i : Int} (hi : 0 ≤ i ∧ i < 120) : zaI (zX x c N V R K) (x + 124) 20 i = some (V (0, 124, 0) i.toNat) := by rw [xR124 h, if_pos hi]
theorem xWo124 (h : CX x c) {i v : Int} (hi : 0 ≤ i ∧ i < 120) : zaS (zX x c N V R K) (x + 124) 20 i v = some (zX x c N (ku V (0, 124, 0) i.toNat v) R K) := by rw [xW124 h, if_pos hi]
theorem xK126 (h : CX x c) : zk (zX x c N V R K) (x + 126) = some (20, 40) := xKf h 126 (by decide)
theorem xR126 (h : CX x c) (i : Int) : zaI (zX x c N V R K) (x + 126) 20 i = if 0 ≤ i ∧ i < 40 then some (V (0, 126, 0) i.toNat) else none := xRk (h.2 126 (by decide)) (xK126 h) i
theorem xW126 (h : CX x c) (i v : Int) : zaS (zX x c N V R K) (x + 126) 20 i v = if 0 ≤ i ∧ i < 40 then some (zX x c N (ku V (0, 126, 0) i.toNat v) R K) else none := xWk h (h.2 126 (by decide)) (xK126 h) i v
theorem xN126 (h : CX x c) : zaN (zX x c N V R K) (x + 126) 20 = some 40 := xNk (xK126 h)
theorem xRo126 (h : CX x c) {i : Int} (hi : 0 ≤ i ∧ i < 40) : zaI (zX x c N V R K) (x + 126) 20 i = some (V (0, 126, 0) i.toNat) := by rw [xR126 h, if_pos hi]
theorem xWo126 (h : CX x c) {i v : Int} (hi : 0 ≤ i ∧ i < 40) : zaS (zX x c N V R K) (x + 126) 20 i v = some (zX x c N (ku V (0, 126, 0) i.toNat v) R K) := by rw [xW126 h, if_pos hi]
theorem xK128 (h : CX x c) : zk (zX x c N V R K) (x + 128) = some (20, 10) := xKf h 128 (by decide)
theorem xR128 (h : CX x c) (i : Int) : zaI (zX x c N V R K) (x + 128) 20 i = if 0 ≤ i ∧ i < 10 then some (V (0, 128, 0) i.toNat) else none := xRk (h.2 128 (by decide)) (xK128 h) i
theorem xW128 (h : CX x c) (i v : Int) : zaS (zX x c N V R K) (x + 128) 20 i v = if 0 ≤ i ∧ i < 10 then some (zX x c N (ku V (0, 128, 0) i.toNat v) R K) else none := xWk h (h.2 128 (by decide)) (xK128 h) i v
theorem xN128 (h : CX x c) : zaN (zX x c N V R K) (x + 128) 20 = some 10 := xNk (xK128 h)
theorem xRo128 (h : CX x c) {i : Int} (hi : 0 ≤ i ∧ i < 10) : zaI (zX x c N V R K) (x + 128) 20 i = some (V (0, 128, 0) i.toNat) := by rw [xR128 h, if_pos hi]
theorem xWo128 (h : CX x c) {i v : Int} (hi : 0 ≤ i ∧ i < 10) : zaS (zX x c N V R K) (x + 128) 20 i v = some (zX x c N (ku V (0, 128, 0) i.toNat v) R K) := by rw [xW128 h, if_pos hi]
theorem xK129 (h : CX x c) : zk (zX x c N V R K) (x + 129) = some (20, 10) := xKf h 129 (by decide)
theorem xR129 (h : CX x c) (i : Int) : zaI (zX x c N V R K) (x + 129) 20 i = if 0 ≤ i ∧ i < 10 then some (V (0, 129, 0) i.toNat) else none := xRk (h.2 129 (by decide)) (xK129 h) i
theorem xW129 (h : CX x c) (i v : Int) : zaS (zX x c N V R K) (x + 129) 20 i v = if 0 ≤ i ∧ i < 10 then some (zX x c N (ku V (0, 129, 0) i.toNat v) R K) else none := xWk h (h.2 129 (by decide)) (xK129 h) i v
theorem xN129 (h : CX x c) : zaN (zX x c N V R K) (x + 129) 20 = some 10 := xNk (xK129 h)
theorem xRo129 (h : CX x c) {i : Int} (hi : 0 ≤ i ∧ i < 10) : zaI (zX x c N V R K) (x + 129) 20 i = some (V (0, 129, 0) i.toNat) := by rw [xR129 h, if_pos hi]
theorem xWo129 (h : CX x c) {i v : Int} (hi : 0 ≤ i ∧ i < 10) : zaS (zX x c N V R K) (x + 129) 20 i v = some (zX x c N (ku V (0, 129, 0) i.toNat v) R K) := by rw [xW129 h, if_pos hi]
theorem xK130 (h : CX x c) : zk (zX x c N V R K) (x + 130) = some (20, 10) := xKf h 130 (by decide)
theorem xR130 (h : CX x c) (i : Int) : zaI (zX x c N V R K) (x + 130) 20 i = if 0 ≤ i ∧ i < 10 then some (V (0, 130, 0) i.toNat) else none := xRk (h.2 130 (by decide)) (xK130 h) i
theorem xW130 (h : CX x c) (i v : Int) : zaS (zX x c N V R K) (x + 130) 20 i v = if 0 ≤ i ∧ i < 10 then some (zX x c N (ku V (0, 130, 0) i.toNat v) R K) else none := xWk h (h.2 130 (by decide)) (xK130 h) i v
theorem xN130 (h : CX x c) : zaN (zX x c N V R K) (x + 130) 20 = some 10 := xNk (xK130 h)
theorem xRo130 (h : CX x c) {i : Int} (hi : 0 ≤ i ∧ i < 10) : zaI (zX x c N V R K) (x + 130) 20 i = some (V (0, 130, 0) i.toNat) := by rw [xR130 h, if_pos hi]
theorem xWo130 (h : CX x c) {i v : Int} (hi : 0 ≤ i ∧ i < 10) : zaS (zX x c N V R K) (x + 130) 20 i v = some (zX x c N (ku V (0, 130, 0) i.toNat v) R K) := by rw [xW130 h, if_pos hi]
theorem xK131 (h : CX x c) : zk (zX x c N V R K) (x + 131) = some (20, 10) := xKf h 131 (by decide)
theorem xR131 (h : CX x c) (i : Int) : zaI (zX x c N V R K) (x + 131) 20 i = if 0 ≤ i ∧ i < 10 then some (V (0, 131, 0) i.toNat) else none := xRk (h.2 131 (by decide)) (xK131 h) i
theorem xW131 (h : CX x c) (i v : Int) : zaS (zX x c N V R K) (x + 131) 20 i v = if 0 ≤ i ∧ i < 10 then some (zX x c N (ku V (0, 131, 0) i.toNat v) R K) else none := xWk h (h.2 131 (by decide)) (xK131 h) i v
theorem xN131 (h : CX x c) : zaN (zX x c N V R K) (x + 131) 20 = some 10 := xNk (xK131 h)
theorem xRo131 (h : CX x c) {i : Int} (hi : 0 ≤ i ∧ i < 10) : zaI (zX x c N V R K) (x + 131) 20 i = some (V (0, 131, 0) i.toNat) := by rw [xR131 h, if_pos hi]
theorem xWo131 (h : CX x c) {i v : Int} (hi : 0 ≤ i ∧ i < 10) : zaS (zX x c N V R K) (x + 131) 20 i v = some (zX x c N (ku V (0, 131, 0) i.toNat v) R K) := by rw [xW131 h, if_pos hi]
theorem xK132 (h : CX x c) : zk (zX x c N V R K) (x + 132) = some (20, 10) := xKf h 132 (by decide)
theorem xR132 (h : CX x c) (i : Int) : zaI (zX x c N V R K) (x + 132) 20 i = if 0 ≤ i ∧ i < 10 then some (V (0, 132, 0) i.toNat) else none := xRk (h.2 132 (by decide)) (xK132 h) i
theorem xW132 (h : CX x c) (i v : Int) : zaS (zX x c N V R K) (x + 132) 20 i v = if 0 ≤ i ∧ i < 10 then some (zX x c N (ku V (0, 132, 0) i.toNat v) R K) else none := xWk h (h.2 132 (by decide)) (xK132 h) i v
theorem xN132 (h : CX x c) : zaN (zX x c N V R K) (x + 132) 20 = some 10 := xNk (xK132 h)
theorem xRo132 (h : CX x c) {i : Int} (hi : 0 ≤ i ∧ i < 10) : zaI (zX x c N V R K) (x + 132) 20 i = some (V (0, 132, 0) i.toNat) := by rw [xR132 h, if_pos hi]
theorem xWo132 (h : CX x c) {i v : Int} (hi : 0 ≤ i ∧ i < 10) : zaS (zX x c N V R K) (x + 132) 20 i v = some (zX x c N (ku V (0, 132, 0) i.toNat v) R K) := by rw [xW132 h, if_pos hi]
theorem xK133 (h : CX x c) : zk (zX x c N V R K) (x + 133) = some (20, 10) := xKf h 133 (by decide)
theorem xR133 (h : CX x c) (i : Int) : zaI (zX x c N V R K) (x + 133) 20 i = if 0 ≤ i ∧ i < 10 then some (V (0, 133, 0) i.toNat) else none := xRk (h.2 133 (by decide)) (xK133 h) i
theorem xW133 (h : CX x c) (i v : Int) : zaS (zX x c N V R K) (x + 133) 20 i v = if 0 ≤ i ∧ i < 10 then some (zX x c N (ku V (0, 133, 0) i.toNat v) R K) else none := xWk h (h.2 133 (by decide)) (xK133 h) i v
theorem xN133 (h : CX x c) : zaN (zX x c N V R K) (x + 133) 20 = some 10 := xNk (xK133 h)
theorem xRo133 (h : CX x c) {i : Int} (hi : 0 ≤ i ∧ i < 10) : zaI (zX x c N V R K) (x + 133) 20 i = some (V (0, 133, 0) i.toNat) := by rw [xR133 h, if_pos hi]
theorem xWo133 (h : CX x c) {i v : Int} (hi : 0 ≤ i ∧ i < 10) : zaS (zX x c N V R K) (x + 133) 20 i v = some (zX x c N (ku V (0, 133, 0) i.toNat v) R K) := by rw [xW133 h, if_pos hi]
theorem xK67 (h : CX x c) : zk (zX x c N V R K) (x + 67) = some (23, 40) := xKf h 67 (by decide)
theorem xN67 (h : CX x c) : zaN (zX x c N V R K) (x + 67) 23 = some 40 := xNk (xK67 h)
theorem xA67 (h : CX x c) (i : Int) : zaR (zX x c N V R K) (x + 67) 23 i = if 0 ≤ i ∧ i < 40 then some (R (0, 67, 0) i.toNat) else none := by
  unfold zaR
  rw [xAt (xK67 h), xRd h 67 _ (by decide) rfl]
  simp only [decide_eq_true_eq]
  rfl
theorem xAo67 (h : CX x c) {i : Int} (hi : 0 ≤ i ∧ i < 40) : zaR (zX x c N V R K) (x + 67) 23 i = some (R (0, 67, 0) i.toNat) := by rw [xA67 h, if_pos hi]
theorem xK123 (h : CX x c) : zk (zX x c N V R K) (x + 123) = some (25, 20) := xKf h 123 (by decide)
theorem xN123 (h : CX x c) : zaN (zX x c N V R K) (x + 123) 25 = some 20 := xNk (xK123 h)
theorem xA123 (h : CX x c) (i : Int) : zaR (zX x c N V R K) (x + 123) 25 i = if 0 ≤ i ∧ i < 20 then some (R (0, 123, 0) i.toNat) else none := by
  unfold zaR
  rw [xAt (xK123 h), xRd h 123 _ (by decide) rfl]
  simp only [decide_eq_true_eq]
  rfl
theorem xAo123 (h : CX x c) {i : Int} (hi : 0 ≤ i ∧ i < 20) : zaR (zX x c N V R K) (x + 123) 25 i = some (R (0, 123, 0) i.toNat) := by rw [xA123 h, if_pos hi]
theorem xK3 (h : CX x c) : zk (zX x c N V R K) (x + 3) = some (26, 30) := xKf h 3 (by decide)
theorem xN3 (h : CX x c) : zaN (zX x c N V R K) (x + 3) 26 = some 30 := xNk (xK3 h)
theorem xA3 (h : CX x c) (i : Int) : zaQ (zX x c N V R K) (x + 3) 26 i = if 0 ≤ i ∧ i < 30 then some (x + (4 + i.toNat)) else none := by
  unfold zaQ
  rw [xAt (xK3 h), show ((30 : Nat) : Int) = 30 from rfl]
  by_cases hi : 0 ≤ i ∧ i < 30
  · rw [if_pos (decide_eq_true hi), if_pos hi, xRf h 3 i.toNat (4 + i.toNat) (by decide) (by show (if i.toNat < 30 then some (4 + i.toNat) else none) = _; rw [if_pos (by omega)])]
  · rw [if_neg (fun q => hi (of_decide_eq_true q)), if_neg hi]
theorem xKr3 (h : CX x c) (a : Nat) (ha : a < 30) : zk (zX x c N V R K) (x + (4 + a)) = some (20, 30) := by
  rw [xKf h (4 + a) (by omega)]
  unfold kfix
  rw [if_pos (by omega)]
theorem xRr3 (h : CX x c) (a : Nat) (ha : a < 30) (i : Int) : zaI (zX x c N V R K) (x + (4 + a)) 20 i = if 0 ≤ i ∧ i < 30 then some (V (0, 4 + a, 0) i.toNat) else none := xRk (h.2 (4 + a) (by omega)) (xKr3 h a ha) i
theorem xWr3 (h : CX x c) (a : Nat) (ha : a < 30) (i v : Int) : zaS (zX x c N V R K) (x + (4 + a)) 20 i v = if 0 ≤ i ∧ i < 30 then some (zX x c N (ku V (0, 4 + a, 0) i.toNat v) R K) else none := xWk h (h.2 (4 + a) (by omega)) (xKr3 h a ha) i v
theorem xNr3 (h : CX x c) (a : Nat) (ha : a < 30) : zaN (zX x c N V R K) (x + (4 + a)) 20 = some 30 := xNk (xKr3 h a ha)
theorem xAo3 (h : CX x c) {i : Int} (hi : 0 ≤ i ∧ i < 30) : zaQ (zX x c N V R K) (x + 3) 26 i = some (x + (4 + i.toNat)) := by rw [xA3 h, if_pos hi]
theorem xK34 (h : CX x c) : zk (zX x c N V R K) (x + 34) = some (26, 30) := xKf h 34 (by decide)
theorem xN34 (h : CX x c) : zaN (zX x c N V R K) (x + 34) 26 = some 30 := xNk (xK34 h)
theorem xA34 (h : CX x c) (i : Int) : zaQ (zX x c N V R K) (x + 34) 26 i = if 0 ≤ i ∧ i < 30 then some (x + (35 + i.toNat)) else none := by
  unfold zaQ
  rw [xAt (xK34 h), show ((30 : Nat) : Int) = 30 from rfl]
  by_cases hi : 0 ≤ i ∧ i < 30
  · rw [if_pos (decide_eq_true hi), if_pos hi, xRf h 34 i.toNat (35 + i.toNat) (by decide) (by show (if i.toNat < 30 then some (35 + i.toNat) else none) = _; rw [if_pos (by omega)])]
  · rw [if_neg (fun q => hi (of_decide_eq_true q)), if_neg hi]
theorem xKr34 (h : CX x c) (a : Nat) (ha : a < 30) : zk (zX x c N V R K) (x + (35 + a)) = some (20, 30) := by
  rw [xKf h (35 + a) (by omega)]
  unfold kfix
  rw [if_neg (by omega), if_pos (by omega)]
theorem xRr34 (h : CX x c) (a : Nat) (ha : a < 30) (i : Int) : zaI (zX x c N V R K) (x + (35 + a)) 20 i = if 0 ≤ i ∧ i < 30 then some (V (0, 35 + a, 0) i.toNat) else none := xRk (h.2 (35 + a) (by omega)) (xKr34 h a ha) i
theorem xWr34 (h : CX x c) (a : Nat) (ha : a < 30) (i v : Int) : zaS (zX x c N V R K) (x + (35 + a)) 20 i v = if 0 ≤ i ∧ i < 30 then some (zX x c N (ku V (0, 35 + a, 0) i.toNat v) R K) else none := xWk h (h.2 (35 + a) (by omega)) (xKr34 h a ha) i v
theorem xNr34 (h : CX x c) (a : Nat) (ha : a < 30) : zaN (zX x c N V R K) (x + (35 + a)) 20 = some 30 := xNk (xKr34 h a ha)
theorem xAo34 (h : CX x c) {i : Int} (hi : 0 ≤ i ∧ i < 30) : zaQ (zX x c N V R K) (x + 34) 26 i = some (x + (35 + i.toNat)) := by rw [xA34 h, if_pos hi]
theorem xK69 (h : CX x c) : zk (zX x c N V R K) (x + 69) = some (26, 43) := xKf h 69 (by decide)
theorem xN69 (h : CX x c) : zaN (zX x c N V R K) (x + 69) 26 = some 43 := xNk (xK69 h)
theorem xA69 (h : CX x c) (i : Int) : zaQ (zX x c N V R K) (x + 69) 26 i = if 0 ≤ i ∧ i < 43 then some (x + (70 + i.toNat)) else none := by
  unfold zaQ
  rw [xAt (xK69 h), show ((43 : Nat) : Int) = 43 from rfl]
  by_cases hi : 0 ≤ i ∧ i < 43
  · rw [if_pos (decide_eq_true hi), if_pos hi, xRf h 69 i.toNat (70 + i.toNat) (by decide) (by show (if i.toNat < 43 then some (70 + i.toNat) else none) = _; rw [if_pos (by omega)])]
  · rw [if_neg (fun q => hi (of_decide_eq_true q)), if_neg hi]
theorem xKr69 (h : CX x c) (a : Nat) (ha : a < 43) : zk (zX x c N V R K) (x + (70 + a)) = some (20, 30) := by
  rw [xKf h (70 + a) (by omega)]
  unfold kfix
  rw [if_neg (by omega), if_neg (by omega), if_pos (by omega)]
theorem xRr69 (h : CX x c) (a : Nat) (ha : a < 43) (i : Int) : zaI (zX x c N V R K) (x + (70 + a)) 20 i = if 0 ≤ i ∧ i < 30 then some (V (0, 70 + a, 0) i.toNat) else none := xRk (h.2 (70 + a) (by omega)) (xKr69 h a ha) i
theorem xWr69 (h : CX x c) (a : Nat) (ha : a < 43) (i v : Int) : zaS (zX x c N V R K) (x + (70 + a)) 20 i v = if 0 ≤ i ∧ i < 30 then some (zX x c N (ku V (0, 70 + a, 0) i.toNat v) R K) else none := xWk h (h.2 (70 + a) (by omega)) (xKr69 h a ha) i v
theorem xNr69 (h : CX x c) (a : Nat) (ha : a < 43) : zaN (zX x c N V R K) (x + (70 + a)) 20 = some 30 := xNk (xKr69 h a ha)
theorem xAo69 (h : CX x c) {i : Int} (hi : 0 ≤ i ∧ i < 43) : zaQ (zX x c N V R K) (x + 69) 26 i = some (x + (70 + i.toNat)) := by rw [xA69 h, if_pos hi]
theorem xQ0_0 (h : CX x c) : zgQ (zX x c N V R K) x 11 0 = some (x + 1) := by
  unfold zgQ
  rw [if_pos (xK0 h)]
  exact xRf h 0 0 1 (by decide) rfl
theorem xQ0_1 (h : CX x c) : zgQ (zX x c N V R K) x 11 1 = some (x + 66) := by
  unfold zgQ
  rw [if_pos (xK0 h)]
  exact xRf h 0 1 66 (by decide) rfl
theorem xQ0_2 (h : CX x c) : zgQ (zX x c N V R K) x 11 2 = some (x + 68) := by
  unfold zgQ
  rw [if_pos (xK0 h)]
  exact xRf h 0 2 68 (by decide) rfl
theorem xQ0_3 (h : CX x c) : zgQ (zX x c N V R K) x 11 3 = some (x + 115) := by
  unfold zgQ
  rw [if_pos (xK0 h)]
  exact xRf h 0 3 115 (by decide) rfl
theorem xQ0_4 (h : CX x c) : zgQ (zX x c N V R K) x 11 4 = some (x + 120) := by
  unfold zgQ
  rw [if_pos (xK0 h)]
  exact xRf h 0 4 120 (by decide) rfl
theorem xQ0_5 (h : CX x c) : zgQ (zX x c N V R K) x 11 5 = some (x + 125) := by
  unfold zgQ
  rw [if_pos (xK0 h)]
  exact xRf h 0 5 125 (by decide) rfl
theorem xQ0_6 (h : CX x c) : zgQ (zX x c N V R K) x 11 6 = some (x + 127) := by
  unfold zgQ
  rw [if_pos (xK0 h)]
  exact xRf h 0 6 127 (by decide) rfl
theorem xQ1_0 (h : CX x c) : zgQ (zX x c N V R K) (x + 1) 10 0 = some (x + 2) := by
  unfold zgQ
  rw [if_pos (xK1 h)]
  exact xRf h 1 0 2 (by decide) rfl
theorem xQ1_1 (h : CX x c) : zgQ (zX x c N V R K) (x + 1) 10 1 = some (x + 3) := by
  unfold zgQ
  rw [if_pos (xK1 h)]
  exact xRf h 1 1 3 (by decide) rfl
theorem xQ1_2 (h : CX x c) : zgQ (zX x c N V R K) (x + 1) 10 2 = some (x + 34) := by
  unfold zgQ
  rw [if_pos (xK1 h)]
  exact xRf h 1 2 34 (by decide) rfl
theorem xQ1_3 (h : CX x c) : zgQ (zX x c N V R K) (x + 1) 10 3 = some (x + 65) := by
  unfold zgQ
  rw [if_pos (xK1 h)]
  exact xRf h 1 3 65 (by decide) rfl
theorem xQ66_0 (h : CX x c) : zgQ (zX x c N V R K) (x + 66) 0 0 = some (x + 1) := by
  unfold zgQ
  rw [if_pos (xK66 h)]
  exact xRf h 66 0 1 (by decide) rfl
theorem xQ66_1 (h : CX x c) : zgQ (zX x c N V R K) (x + 66) 0 1 = some (x + 67) := by
  unfold zgQ
  rw [if_pos (xK66 h)]
  exact xRf h 66 1 67 (by decide) rfl
theorem xQ68_0 (h : CX x c) : zgQ (zX x c N V R K) (x + 68) 2 0 = some (x + 1) := by
  unfold zgQ
  rw [if_pos (xK68 h)]
  exact xRf h 68 0 1 (by decide) rfl
theorem xQ68_1 (h : CX x c) : zgQ (zX x c N V R K) (x + 68) 2 1 = some (x + 69) := by
  unfold zgQ
  rw [if_pos (xK68 h)]
  exact xRf h 68 1 69 (by decide) rfl
theorem xQ68_2 (h : CX x c) : zgQ (zX x c N V R K) (x + 68) 2 2 = some (x + 113) := by
  unfold zgQ
  rw [if_pos (xK68 h)]
  exact xRf h 68 2 113 (by decide) rfl
theorem xQ68_3 (h : CX x c) : zgQ (zX x c N V R K) (x + 68) 2 3 = some (x + 114) := by
  unfold zgQ
  rw [if_pos (xK68 h)]
  exact xRf h 68 3 114 (by decide) rfl
theorem xQ115_0 (h : CX x c) : zgQ (zX x c N V R K) (x + 115) 8 0 = some (x + 1) := by
  unfold zgQ
  rw [if_pos (xK115 h)]
  exact xRf h 115 0 1 (by decide) rfl
theorem xQ115_1 (h : CX x c) : zgQ (zX x c N V R K) (x + 115) 8 1 = some (x + 66) := by
  unfold zgQ
  rw [if_pos (xK115 h)]
  exact xRf h 115 1 66 (by decide) rfl
theorem xQ115_2 (h : CX x c) : zgQ (zX x c N V R K) (x + 115) 8 2 = some (x + 68) := by
  unfold zgQ
  rw [if_pos (xK115 h)]
  exact xRf h 115 2 68 (by decide) rfl
theorem xQ115_3 (h : CX x c) : zgQ (zX x c N V R K) (x + 115) 8 3 = some (x + 116) := by
  unfold zgQ
  rw [if_pos (xK115 h)]
  exact xRf h 115 3 116 (by decide) rfl
theorem xQ115_4 (h : CX x c) : zgQ (zX x c N V R K) (x + 115) 8 4 = some (x + 117) := by
  unfold zgQ
  rw [if_pos (xK115 h)]
  exact xRf h 115 4 117 (by decide) rfl
theorem xQ115_5 (h : CX x c) : zgQ (zX x c N V R K) (x + 115) 8 5 = some (x + 118) := by
  unfold zgQ
  rw [if_pos (xK115 h)]
  exact xRf h 115 5 118 (by decide) rfl
theorem xQ115_6 (h : CX x c) : zgQ (zX x c N V R K) (x + 115) 8 6 = some (x + 119) := by
  unfold zgQ
  rw [if_pos (xK115 h)]
  exact xRf h 115 6 119 (by decide) rfl
theorem xQ120_0 (h : CX x c) : zgQ (zX x c N V R K) (x + 120) 6 0 = some (x + 66) := by
  unfold zgQ
  rw [if_pos (xK120 h)]
  exact xRf h 120 0 66 (by decide) rfl
theorem xQ120_1 (h : CX x c) : zgQ (zX x c N V R K) (x + 120) 6 1 = some (x + 121) := by
  unfold zgQ
  rw [if_pos (xK120 h)]
  exact xRf h 120 1 121 (by decide) rfl
theorem xQ120_2 (h : CX x c) : zgQ (zX x c N V R K) (x + 120) 6 2 = some (x + 123) := by
  unfold zgQ
  rw [if_pos (xK120 h)]
  exact xRf h 120 2 123 (by decide) rfl
theorem xQ120_3 (h : CX x c) : zgQ (zX x c N V R K) (x + 120) 6 3 = some (x + 124) := by
  unfold zgQ
  rw [if_pos (xK120 h)]
  exact xRf h 120 3 124 (by decide) rfl
theorem xQ125_0 (h : CX x c) : zgQ (zX x c N V R K) (x + 125) 1 0 = some (x + 66) := by
  unfold zgQ
  rw [if_pos (xK125 h)]
  exact xRf h 125 0 66 (by decide) rfl
theorem xQ125_1 (h : CX x c) : zgQ (zX x c N V R K) (x + 125) 1 1 = some (x + 126) := by
  unfold zgQ
  rw [if_pos (xK125 h)]
  exact xRf h 125 1 126 (by decide) rfl
theorem xQ127_0 (h : CX x c) : zgQ (zX x c N V R K) (x + 127) 4 0 = some (x + 128) := by
  unfold zgQ
  rw [if_pos (xK127 h)]
  exact xRf h 127 0 128 (by decide) rfl
theorem xQ127_1 (h : CX x c) : zgQ (zX x c N V R K) (x + 127) 4 1 = some (x + 129) := by
  unfold zgQ
  rw [if_pos (xK127 h)]
  exact xRf h 127 1 129 (by decide) rfl
theorem xQ127_2 (h : CX x c) : zgQ (zX x c N V R K) (x + 127) 4 2 = some (x + 130) := by
  unfold zgQ
  rw [if_pos (xK127 h)]
  exact xRf h 127 2 130 (by decide) rfl
theorem xQ127_3 (h : CX x c) : zgQ (zX x c N V R K) (x + 127) 4 3 = some (x + 131) := by
  unfold zgQ
  rw [if_pos (xK127 h)]
  exact xRf h 127 3 131 (by decide) rfl
theorem xQ127_4 (h : CX x c) : zgQ (zX x c N V R K) (x + 127) 4 4 = some (x + 132) := by
  unfold zgQ
  rw [if_pos (xK127 h)]
  exact xRf h 127 4 132 (by decide) rfl
theorem xQ127_5 (h : CX x c) : zgQ (zX x c N V R K) (x + 127) 4 5 = some (x + 133) := by
  unfold zgQ
  rw [if_pos (xK127 h)]
  exact xRf h 127 5 133 (by decide) rfl
end XP
