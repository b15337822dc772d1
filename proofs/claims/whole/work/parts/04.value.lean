/-! ===== the heap as a value: numbers, references, kinds, the next address ===== -/
abbrev Hp : Type := (Nat → Nat → Int) × (Nat → Nat → Option Nat) × (Nat → Option (Nat × Nat)) × Nat
def zv (G : Hp) : Nat → Nat → Int := G.1
def zr (G : Hp) : Nat → Nat → Option Nat := G.2.1
def zk (G : Hp) : Nat → Option (Nat × Nat) := G.2.2.1
def zn (G : Hp) : Nat := G.2.2.2
def zsv (G : Hp) (q k : Nat) (v : Int) : Hp := (fun a j => if a = q ∧ j = k then v else zv G a j, zr G, zk G, zn G)
def zsr (G : Hp) (q k : Nat) (v : Option Nat) : Hp := (zv G, fun a j => if a = q ∧ j = k then v else zr G a j, zk G, zn G)
def znw (G : Hp) (t n : Nat) : Hp := (fun a j => if a = zn G then 0 else zv G a j, fun a j => if a = zn G then none else zr G a j, fun a => if a = zn G then some (t, n) else zk G a, zn G + 1)
def znw2 (G : Hp) (n k : Nat) : Hp := (fun a j => if zn G ≤ a then 0 else zv G a j, fun a j => if a = zn G then (if j < n then some (zn G + 1 + j) else none) else if zn G < a then none else zr G a j, fun a => if a = zn G then some (26, n) else if zn G < a ∧ a ≤ zn G + n then some (20, k) else zk G a, zn G + 1 + n)
theorem zv_sv (G : Hp) (q k : Nat) (v : Int) (a j : Nat) : zv (zsv G q k v) a j = if a = q ∧ j = k then v else zv G a j := rfl
theorem zr_sv (G : Hp) (q k : Nat) (v : Int) : zr (zsv G q k v) = zr G := rfl
theorem zk_sv (G : Hp) (q k : Nat) (v : Int) : zk (zsv G q k v) = zk G := rfl
theorem zn_sv (G : Hp) (q k : Nat) (v : Int) : zn (zsv G q k v) = zn G := rfl
theorem zv_sr (G : Hp) (q k : Nat) (v : Option Nat) : zv (zsr G q k v) = zv G := rfl
theorem zr_sr (G : Hp) (q k : Nat) (v : Option Nat) (a j : Nat) : zr (zsr G q k v) a j = if a = q ∧ j = k then v else zr G a j := rfl
theorem zk_sr (G : Hp) (q k : Nat) (v : Option Nat) : zk (zsr G q k v) = zk G := rfl
theorem zn_sr (G : Hp) (q k : Nat) (v : Option Nat) : zn (zsr G q k v) = zn G := rfl
/-! ===== numbers ===== -/
def zi (z : Int) : Int32 := Int32.ofInt z
def zl (z : Int) : Int64 := Int64.ofInt z
abbrev zInI (z : Int) : Prop := -2147483648 ≤ z ∧ z ≤ 2147483647
abbrev zInL (z : Int) : Prop := -9223372036854775808 ≤ z ∧ z ≤ 9223372036854775807
abbrev zIn01 (z : Int) : Prop := z = 0 ∨ z = 1
theorem zIn01.i {z : Int} (h : zIn01 z) : zInI z := by rcases h with rfl | rfl <;> decide
theorem zInI.l {z : Int} (h : zInI z) : zInL z := by unfold zInI at h; unfold zInL; omega
theorem zi_toInt {z : Int} (h : zInI z) : (zi z).toInt = z := Int32.toInt_ofInt_of_le (by have := h.1; omega) (by have := h.2; omega)
theorem zl_toInt {z : Int} (h : zInL z) : (zl z).toInt = z := Int64.toInt_ofInt_of_le (by have := h.1; omega) (by have := h.2; omega)
theorem zi_of (x : Int32) : zi x.toInt = x := Int32.ofInt_toInt x
theorem zi_in (x : Int32) : zInI x.toInt := ⟨by have := Int32.le_toInt x; omega, by have := Int32.toInt_lt x; omega⟩
theorem zl_in (x : Int64) : zInL x.toInt := ⟨by have := Int64.le_toInt x; omega, by have := Int64.toInt_lt x; omega⟩
theorem zi_lt {a b : Int} (ha : zInI a) (hb : zInI b) : zi a < zi b ↔ a < b := by rw [Int32.lt_iff_toInt_lt, zi_toInt ha, zi_toInt hb]
theorem zi_le {a b : Int} (ha : zInI a) (hb : zInI b) : zi a ≤ zi b ↔ a ≤ b := by rw [Int32.le_iff_toInt_le, zi_toInt ha, zi_toInt hb]
theorem zi_eq {a b : Int} (ha : zInI a) (hb : zInI b) : zi a = zi b ↔ a = b := by rw [← Int32.toInt_inj, zi_toInt ha, zi_toInt hb]
theorem zl_lt {a b : Int} (ha : zInL a) (hb : zInL b) : zl a < zl b ↔ a < b := by rw [Int64.lt_iff_toInt_lt, zl_toInt ha, zl_toInt hb]
theorem zl_eq {a b : Int} (ha : zInL a) (hb : zInL b) : zl a = zl b ↔ a = b := by rw [← Int64.toInt_inj, zl_toInt ha, zl_toInt hb]
theorem zi_add (a b : Int) : zi a + zi b = zi (a + b) := (Int32.ofInt_add a b).symm
theorem zi_sub (a b : Int) : zi a - zi b = zi (a - b) := (Int32.ofInt_sub a b).symm
theorem zi_mul (a b : Int) : zi a * zi b = zi (a * b) := (Int32.ofInt_mul a b).symm
theorem zi_neg (a : Int) : - zi a = zi (-a) := Int32.neg_ofInt
theorem zl_add (a b : Int) : zl a + zl b = zl (a + b) := (Int64.ofInt_add a b).symm
theorem zl_sub (a b : Int) : zl a - zl b = zl (a - b) := (Int64.ofInt_sub a b).symm
theorem zl_mul (a b : Int) : zl a * zl b = zl (a * b) := (Int64.ofInt_mul a b).symm
theorem zi_div {a b : Int} (ha : zInI a) (hb : zInI b) : zi a / zi b = zi (a.tdiv b) := by
  apply Int32.toInt_inj.mp
  rw [Int32.toInt_div, zi_toInt ha, zi_toInt hb]
  show _ = (Int32.ofInt _).toInt
  rw [Int32.toInt_ofInt]
theorem zl_div {a b : Int} (ha : zInL a) (hb : zInL b) : zl a / zl b = zl (a.tdiv b) := by
  apply Int64.toInt_inj.mp
  rw [Int64.toInt_div, zl_toInt ha, zl_toInt hb]
  show _ = (Int64.ofInt _).toInt
  rw [Int64.toInt_ofInt]
theorem zi_rem {a b : Int} (ha : zInI a) (hb : zInI b) : zi a - zi a / zi b * zi b = zi (a.tmod b) := by
  rw [zi_div ha hb, zi_mul, zi_sub, Int.tmod_def, Int.mul_comm]
theorem zl_rem {a b : Int} (ha : zInL a) (hb : zInL b) : zl a - zl a / zl b * zl b = zl (a.tmod b) := by
  rw [zl_div ha hb, zl_mul, zl_sub, Int.tmod_def, Int.mul_comm]
theorem zi_zero {a : Int} (ha : zInI a) (h : a ≠ 0) : ¬ zi a = 0 := fun q => h ((zi_eq ha (by decide)).mp q)
theorem zl_zero {a : Int} (ha : zInL a) (h : a ≠ 0) : ¬ zl a = 0 := fun q => h ((zl_eq ha (by decide)).mp q)
def zwr (z : Int) : Int := z.bmod 4294967296
theorem zwr_in (z : Int) : zInI (zwr z) := by
  unfold zwr
  have h1 := Int.le_bmod (x := z) (m := 4294967296) (by decide)
  have h2 := Int.bmod_lt (x := z) (m := 4294967296) (by decide)
  constructor <;> omega
theorem zi_wr (z : Int) : zi (zwr z) = zi z := by
  apply Int32.toInt_inj.mp
  rw [zi_toInt (zwr_in z)]
  exact Int32.toInt_ofInt.symm
theorem zi_i2l {z : Int} (h : zInI z) : (zi z).toInt64 = zl z := by
  apply Int64.toInt_inj.mp
  rw [Int32.toInt_toInt64, zi_toInt h, zl_toInt h.l]
theorem zl_l2i {z : Int} : (zl z).toInt32 = zi z := Int64.toInt32_ofInt
theorem zi_clamp {z : Int} (h : zInI z) : (zi z).toNatClampNeg = z.toNat := Int32.toNatClampNeg_ofInt_of_le (by have := h.1; omega) (by have := h.2; omega)
theorem zi_vpin {z : Int} {n : Nat} (h : zInI z) (h0 : 0 ≤ z) (h1 : z < n) : vp_in (zi z) n := by
  rw [vp_in_iff, zi_toInt h]
  exact ⟨h0, h1⟩
theorem zi_nat (n : Nat) : Int32.ofNat n = zi n := (Int32.ofInt_eq_ofNat (n := n)).symm
/-! ===== the operations of the walked functions: each may fail ===== -/
def zck (z : Int) : Option Int := if -2147483648 ≤ z ∧ z ≤ 2147483647 then some z else none
def zckL (z : Int) : Option Int := if -9223372036854775808 ≤ z ∧ z ≤ 9223372036854775807 then some z else none
def zdv (a b : Int) : Option Int := if b = 0 then none else zck (a.tdiv b)
def zdw (a b : Int) : Option Int := if b = 0 then none else some (zwr (a.tdiv b))
def zrm (a b : Int) : Option Int := if b = 0 then none else some (a.tmod b)
def zdvL (a b : Int) : Option Int := if b = 0 then none else zckL (a.tdiv b)
def zcmp (a b : Int) : Int := if a < b then -1 else if a = b then 0 else 1
def zmin (a b : Int) : Int := if b < a then b else a
def zmax (a b : Int) : Int := if a < b then b else a
def zand (a m : Int) : Int := (zi a &&& zi m).toInt
def zshr (a n : Int) : Int := (zi a >>> (zi n &&& 31)).toInt
def zushr (a n : Int) : Int := ((zi a).toUInt32 >>> ((zi n).toUInt32 &&& Int32.toUInt32 31)).toInt32.toInt
def zgI (G : Hp) (a t k : Nat) : Option Int := if zk G a = some (t, 0) then some (zv G a k) else none
def zgQ (G : Hp) (a t k : Nat) : Option Nat := if zk G a = some (t, 0) then zr G a k else none
def zpI (G : Hp) (a t k : Nat) (v : Int) : Option Hp := if zk G a = some (t, 0) then some (zsv G a k v) else none
def zpZ (G : Hp) (a t k : Nat) (v : Int) : Option Hp := if zk G a = some (t, 0) ∧ (v = 0 ∨ v = 1) then some (zsv G a k v) else none
def zpR (G : Hp) (a t k : Nat) (v : Nat) : Option Hp := if zk G a = some (t, 0) then some (zsr G a k (some v)) else none
def zat (G : Hp) (a t : Nat) (i : Int) : Bool := match zk G a with
  | some (t', n) => decide (t' = t ∧ 0 ≤ i ∧ i < (n : Int))
  | none => false
def zaI (G : Hp) (a t : Nat) (i : Int) : Option Int := if zat G a t i then some (zv G a i.toNat) else none
def zaR (G : Hp) (a t : Nat) (i : Int) : Option (Option Nat) := if zat G a t i then some (zr G a i.toNat) else none
def zaQ (G : Hp) (a t : Nat) (i : Int) : Option Nat := if zat G a t i then zr G a i.toNat else none
def zaS (G : Hp) (a t : Nat) (i v : Int) : Option Hp := if zat G a t i then some (zsv G a i.toNat v) else none
def zaSZ (G : Hp) (a t : Nat) (i v : Int) : Option Hp := if zat G a t i ∧ (v = 0 ∨ v = 1) then some (zsv G a i.toNat v) else none
def zaSR (G : Hp) (a t tc : Nat) (i : Int) (v : Nat) : Option Hp := if zat G a t i ∧ zk G v = some (tc, 0) then some (zsr G a i.toNat (some v)) else none
def zaN (G : Hp) (a t : Nat) : Option Int := match zk G a with
  | some (t', n) => if t' = t then some (n : Int) else none
  | none => none
def zbA {α : Type} (G : Hp) (t n : Nat) (K : Nat → Hp → Option α) : Option α := K (zn G) (znw G t n)
def zbM {α : Type} (G : Hp) (n k : Nat) (K : Nat → Hp → Option α) : Option α := K (zn G) (znw2 G n k)
def zb {α β : Type} (x : Option (α × Hp)) (K : α → Hp → Option β) : Option β := match x with
  | none => none
  | some r => K r.1 r.2
def zcase {α : Type} (r : Option Nat) (x : α) (f : Nat → α) : α := match r with
  | none => x
  | some a => f a
def zgd {α : Type} (G : Hp) (q t : Nat) (k : Option α) : Option α := if zk G q = some (t, 0) then k else none
def zrz (v : Int) : Option Int := if v = 0 ∨ v = 1 then some v else none
theorem zgd_k {α : Type} {G : Hp} {q t : Nat} {k : Option α} {r : α} (h : zgd G q t k = some r) : zk G q = some (t, 0) := by
  unfold zgd at h
  split at h
  · assumption
  · cases h
theorem zgd_e {α : Type} {G : Hp} {q t : Nat} {k : Option α} {r : α} (h : zgd G q t k = some r) : k = some r := by
  unfold zgd at h
  split at h
  · exact h
  · cases h
theorem zck_s {z v : Int} (h : zck z = some v) : v = z ∧ zInI v := by
  unfold zck at h
  split at h
  · cases h; exact ⟨rfl, by assumption⟩
  · cases h
theorem zckL_s {z v : Int} (h : zckL z = some v) : v = z ∧ zInL v := by
  unfold zckL at h
  split at h
  · cases h; exact ⟨rfl, by assumption⟩
  · cases h
theorem zcmp_in (a b : Int) : zInI (zcmp a b) := by unfold zcmp; split <;> (try split) <;> decide
theorem zmin_in {a b : Int} (ha : zInI a) (hb : zInI b) : zInI (zmin a b) := by unfold zmin; split <;> assumption
theorem zmax_in {a b : Int} (ha : zInI a) (hb : zInI b) : zInI (zmax a b) := by unfold zmax; split <;> assumption
theorem zat_s {G : Hp} {a t : Nat} {i : Int} (h : zat G a t i = true) : ∃ n, zk G a = some (t, n) ∧ 0 ≤ i ∧ i < (n : Int) := by
  unfold zat at h
  cases hk : zk G a with
  | none => rw [hk] at h; cases h
  | some q =>
    obtain ⟨t', n⟩ := q
    rw [hk] at h
    have h' := of_decide_eq_true h
    exact ⟨n, by rw [h'.1], h'.2⟩
theorem zat_t {G : Hp} {a t : Nat} {i : Int} {n : Nat} (hk : zk G a = some (t, n)) (h0 : 0 ≤ i) (h1 : i < (n : Int)) : zat G a t i = true := by
  unfold zat
  rw [hk]
  exact decide_eq_true ⟨rfl, h0, h1⟩
