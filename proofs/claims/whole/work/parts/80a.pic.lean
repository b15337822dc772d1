/-! ===== the reference's heap, as a table of numbers ===== -/
def gu (g : Nat → Nat → Int) (j i : Nat) (v : Int) : Nat → Nat → Int := fun a b => if a = j ∧ b = i then v else g a b
def mrk (k : Nat) : Option Nat := match k with
  | 1 => some 1
  | 3 => some 2
  | 4 => some 3
  | 8 => some 4
  | 9 => some 5
  | 10 => some 6
  | 11 => some 7
  | 12 => some 8
  | 13 => some 9
  | 14 => some 10
  | 17 => some 11
  | 19 => some 12
  | 20 => some 13
  | 23 => some 14
  | 24 => some 15
  | 26 => some 16
  | 27 => some 17
  | 28 => some 18
  | 29 => some 19
  | 30 => some 20
  | 32 => some 21
  | 33 => some 22
  | 34 => some 23
  | 35 => some 24
  | 36 => some 25
  | 37 => some 26
  | 38 => some 27
  | 39 => some 28
  | 40 => some 29
  | 41 => some 30
  | 43 => some 31
  | 44 => some 32
  | 45 => some 33
  | 46 => some 34
  | 47 => some 35
  | 48 => some 36
  | 50 => some 37
  | 51 => some 38
  | 52 => some 39
  | _ => none
def mkd (j : Nat) : Option (Nat × Nat) := match j with
  | 0 => some (12, 0)
  | 1 => some (20, 30)
  | 2 => some (20, 900)
  | 3 => some (20, 900)
  | 4 => some (20, 43)
  | 5 => some (20, 43)
  | 6 => some (20, 43)
  | 7 => some (20, 40)
  | 8 => some (20, 40)
  | 9 => some (20, 40)
  | 10 => some (20, 40)
  | 11 => some (20, 10)
  | 12 => some (20, 3)
  | 13 => some (20, 3)
  | 14 => some (22, 40)
  | 15 => some (20, 120)
  | 16 => some (20, 2400)
  | 17 => some (20, 20)
  | 18 => some (20, 20)
  | 19 => some (20, 20)
  | 20 => some (20, 20)
  | 21 => some (20, 5)
  | 22 => some (21, 13320)
  | 23 => some (20, 13320)
  | 24 => some (20, 13320)
  | 25 => some (20, 13320)
  | 26 => some (20, 13320)
  | 27 => some (20, 13320)
  | 28 => some (20, 13320)
  | 29 => some (20, 13320)
  | 30 => some (20, 40)
  | 31 => some (20, 40)
  | 32 => some (20, 40)
  | 33 => some (20, 40)
  | 34 => some (20, 40)
  | 35 => some (20, 40)
  | 36 => some (20, 40)
  | 37 => some (20, 40)
  | 38 => some (20, 40)
  | 39 => some (20, 10)
  | _ => none
/-- the reference's heap: its object at m, its arrays behind it, what they hold: g -/
def zG (m N : Nat) (g : Nat → Nat → Int) : Hp := (fun q i => if m ≤ q then g (q - m) i else 0, fun q k => if q = m then (mrk k).map (fun j => m + j) else none, fun q => if m ≤ q then mkd (q - m) else none, N)
theorem zG_k (m N : Nat) (g : Nat → Nat → Int) (j : Nat) : zk (zG m N g) (m + j) = mkd j := by
  show (if m ≤ m + j then mkd (m + j - m) else none) = _
  rw [if_pos (Nat.le_add_right m j), Nat.add_sub_cancel_left]
theorem zG_k0 (m N : Nat) (g : Nat → Nat → Int) : zk (zG m N g) m = some (12, 0) := zG_k m N g 0
theorem zG_v (m N : Nat) (g : Nat → Nat → Int) (j i : Nat) : zv (zG m N g) (m + j) i = g j i := by
  show (if m ≤ m + j then g (m + j - m) i else 0) = _
  rw [if_pos (Nat.le_add_right m j), Nat.add_sub_cancel_left]
theorem zG_up (m N N' : Nat) (g : Nat → Nat → Int) : zup (zG m N g) N' = zG m N' g := rfl
theorem zG_sv (m N : Nat) (g : Nat → Nat → Int) (j i : Nat) (v : Int) : zsv (zG m N g) (m + j) i v = zG m N (gu g j i v) := by
  unfold zsv
  refine Prod.ext ?_ rfl
  funext a b
  show (if a = m + j ∧ b = i then v else if m ≤ a then g (a - m) b else 0) = if m ≤ a then (if a - m = j ∧ b = i then v else g (a - m) b) else 0
  by_cases h : m ≤ a
  · rw [if_pos h, if_pos h]
    by_cases h2 : a = m + j
    · have h3 : a - m = j := by omega
      simp only [h2, h3, true_and, Nat.add_sub_cancel_left]
    · have h3 : ¬ a - m = j := by omega
      simp only [h2, h3, false_and, if_false]
  · rw [if_neg h, if_neg h, if_neg (fun z => h (by omega))]
theorem mI {m N : Nat} {g : Nat → Nat → Int} (k : Nat) : zgI (zG m N g) m 12 k = some (g 0 k) := by
  unfold zgI
  rw [zG_k0, if_pos rfl]
  exact congrArg some (zG_v m N g 0 k)
theorem mQ {m N : Nat} {g : Nat → Nat → Int} (k : Nat) : zgQ (zG m N g) m 12 k = (mrk k).map (fun j => m + j) := by
  unfold zgQ
  rw [zG_k0, if_pos rfl]
  exact if_pos rfl
theorem mP {m N : Nat} {g : Nat → Nat → Int} (k : Nat) (v : Int) : zpI (zG m N g) m 12 k v = some (zG m N (gu g 0 k v)) := by
  unfold zpI
  rw [zG_k0, if_pos rfl]
  exact congrArg some (zG_sv m N g 0 k v)
theorem mPZ {m N : Nat} {g : Nat → Nat → Int} (k : Nat) (v : Int) : zpZ (zG m N g) m 12 k v = if v = 0 ∨ v = 1 then some (zG m N (gu g 0 k v)) else none := by
  unfold zpZ
  rw [zG_k0]
  simp only [true_and]
  by_cases h : v = 0 ∨ v = 1
  · rw [if_pos h, if_pos h]; exact congrArg some (zG_sv m N g 0 k v)
  · rw [if_neg h, if_neg h]
theorem mAt {m N : Nat} {g : Nat → Nat → Int} {j t n : Nat} (hk : mkd j = some (t, n)) (i : Int) : zat (zG m N g) (m + j) t i = decide (0 ≤ i ∧ i < (n : Int)) := by
  unfold zat
  rw [zG_k, hk]
  simp
theorem mR {m N : Nat} {g : Nat → Nat → Int} {j t n : Nat} (hk : mkd j = some (t, n)) (i : Int) : zaI (zG m N g) (m + j) t i = if 0 ≤ i ∧ i < (n : Int) then some (g j i.toNat) else none := by
  unfold zaI
  rw [mAt hk, zG_v]
  simp only [decide_eq_true_eq]
theorem mW {m N : Nat} {g : Nat → Nat → Int} {j t n : Nat} (hk : mkd j = some (t, n)) (i v : Int) : zaS (zG m N g) (m + j) t i v = if 0 ≤ i ∧ i < (n : Int) then some (zG m N (gu g j i.toNat v)) else none := by
  unfold zaS
  rw [mAt hk, zG_sv]
  simp only [decide_eq_true_eq]
theorem mWZ {m N : Nat} {g : Nat → Nat → Int} {j t n : Nat} (hk : mkd j = some (t, n)) (i v : Int) : zaSZ (zG m N g) (m + j) t i v = if (0 ≤ i ∧ i < (n : Int)) ∧ (v = 0 ∨ v = 1) then some (zG m N (gu g j i.toNat v)) else none := by
  unfold zaSZ
  rw [mAt hk, zG_sv]
  simp only [decide_eq_true_eq]
theorem mD {α : Type} {m N : Nat} {g : Nat → Nat → Int} (k : Option α) : zgd (zG m N g) m 12 k = k := by
  unfold zgd
  rw [zG_k0, if_pos rfl]
theorem bind_ite {α β : Type} {c : Prop} [Decidable c] {x y : Option α} {f : α → Option β} : (if c then x else y).bind f = if c then x.bind f else y.bind f := by
  split <;> rfl
theorem zb_some {α β : Type} (a : α) (G : Hp) (K : α → Hp → Option β) : zb (some (a, G)) K = K a G := rfl
theorem zcase_none {α : Type} (x : α) (f : Nat → α) : zcase none x f = x := rfl
theorem zcase_some {α : Type} (a : Nat) (x : α) (f : Nat → α) : zcase (some a) x f = f a := rfl
theorem zrz0 : zrz 0 = some 0 := rfl
theorem zrz1 : zrz 1 = some 1 := rfl
theorem zck_of {z : Int} (h : -2147483648 ≤ z ∧ z ≤ 2147483647) : zck z = some z := if_pos h
theorem zckL_of {z : Int} (h : -9223372036854775808 ≤ z ∧ z ≤ 9223372036854775807) : zckL z = some z := if_pos h
theorem mPo {m N : Nat} {g : Nat → Nat → Int} {k : Nat} {v : Int} (h : v = 0 ∨ v = 1) : zpZ (zG m N g) m 12 k v = some (zG m N (gu g 0 k v)) := by rw [mPZ, if_pos h]
theorem mQ1 {m N : Nat} {g : Nat → Nat → Int} : zgQ (zG m N g) m 12 1 = some (m + 1) := mQ 1
theorem mR1 {m N : Nat} {g : Nat → Nat → Int} (i : Int) : zaI (zG m N g) (m + 1) 20 i = if 0 ≤ i ∧ i < 30 then some (g 1 i.toNat) else none := mR (n := 30) rfl i
theorem mW1 {m N : Nat} {g : Nat → Nat → Int} (i v : Int) : zaS (zG m N g) (m + 1) 20 i v = if 0 ≤ i ∧ i < 30 then some (zG m N (gu g 1 i.toNat v)) else none := mW (n := 30) rfl i v
theorem mRo1 {m N : Nat} {g : Nat → Nat → Int} {i : Int} (h : 0 ≤ i ∧ i < 30) : zaI (zG m N g) (m + 1) 20 i = some (g 1 i.toNat) := by rw [mR1, if_pos h]
theorem mWo1 {m N : Nat} {g : Nat → Nat → Int} {i v : Int} (h : 0 ≤ i ∧ i < 30) : zaS (zG m N g) (m + 1) 20 i v = some (zG m N (gu g 1 i.toNat v)) := by rw [mW1, if_pos h]
theorem mQ3 {m N : Nat} {g : Nat → Nat → Int} : zgQ (zG m N g) m 12 3 = some (m + 2) := mQ 3
theorem mR2 {m N : Nat} {g : Nat → Nat → Int} (i : Int) : zaI (zG m N g) (m + 2) 20 i = if 0 ≤ i ∧ i < 900 then some (g 2 i.toNat) else none := mR (n := 900) rfl i
theorem mW2 {m N : Nat} {g : Nat → Nat → Int} (i v : Int) : zaS (zG m N g) (m + 2) 20 i v = if 0 ≤ i ∧ i < 900 then some (zG m N (gu g 2 i.toNat v)) else none := mW (n := 900) rfl i v
theorem mRo2 {m N : Nat} {g : Nat → Nat → Int} {i : Int} (h : 0 ≤ i ∧ i < 900) : zaI (zG m N g) (m + 2) 20 i = some (g 2 i.toNat) := by rw [mR2, if_pos h]
theorem mWo2 {m N : Nat} {g : Nat → Nat → Int} {i v : Int} (h : 0 ≤ i ∧ i < 900) : zaS (zG m N g) (m + 2) 20 i v = some (zG m N (gu g 2 i.toNat v)) := by rw [mW2, if_pos h]
theorem mQ4 {m N : Nat} {g : Nat → Nat → Int} : zgQ (zG m N g) m 12 4 = some (m + 3) := mQ 4
theorem mR3 {m N : Nat} {g : Nat → Nat → Int} (i : Int) : zaI (zG m N g) (m + 3) 20 i = if 0 ≤ i ∧ i < 900 then some (g 3 i.toNat) else none := mR (n := 900) rfl i
theorem mW3 {m N : Nat} {g : Nat → Nat → Int} (i v : Int) : zaS (zG m N g) (m + 3) 20 i v = if 0 ≤ i ∧ i < 900 then some (zG m N (gu g 3 i.toNat v)) else none := mW (n := 900) rfl i v
theorem mRo3 {m N : Nat} {g : Nat → Nat → Int} {i : Int} (h : 0 ≤ i ∧ i < 900) : zaI (zG m N g) (m + 3) 20 i = some (g 3 i.toNat) := by rw [mR3, if_pos h]
theorem mWo3 {m N : Nat} {g : Nat → Nat → Int} {i v : Int} (h : 0 ≤ i ∧ i < 900) : zaS (zG m N g) (m + 3) 20 i v = some (zG m N (gu g 3 i.toNat v)) := by rw [mW3, if_pos h]
theorem mQ8 {m N : Nat} {g : Nat → Nat → Int} : zgQ (zG m N g) m 12 8 = some (m + 4) := mQ 8
theorem mR4 {m N : Nat} {g : Nat → Nat → Int} (i : Int) : zaI (zG m N g) (m + 4) 20 i = if 0 ≤ i ∧ i < 43 then some (g 4 i.toNat) else none := mR (n := 43) rfl i
theorem mW4 {m N : Nat} {g : Nat → Nat → Int} (i v : Int) : zaS (zG m N g) (m + 4) 20 i v = if 0 ≤ i ∧ i < 43 then some (zG m N (gu g 4 i.toNat v)) else none := mW (n := 43) rfl i v
theorem mRo4 {m N : Nat} {g : Nat → Nat → Int} {i : Int} (h : 0 ≤ i ∧ i < 43) : zaI (zG m N g) (m + 4) 20 i = some (g 4 i.toNat) := by rw [mR4, if_pos h]
theorem mWo4 {m N : Nat} {g : Nat → Nat → Int} {i v : Int} (h : 0 ≤ i ∧ i < 43) : zaS (zG m N g) (m + 4) 20 i v = some (zG m N (gu g 4 i.toNat v)) := by rw [mW4, if_pos h]
theorem mQ9 {m N : Nat} {g : Nat → Nat → Int} : zgQ (zG m N g) m 12 9 = some (m + 5) := mQ 9
theorem mR5 {m N : Nat} {g : Nat → Nat → Int} (i : Int) : zaI (zG m N g) (m + 5) 20 i = if 0 ≤ i ∧ i < 43 then some (g 5 i.toNat) else none := mR (n := 43) rfl i
theorem mW5 {m N : Nat} {g : Nat → Nat → Int} (i v : Int) : zaS (zG m N g) (m + 5) 20 i v = if 0 ≤ i ∧ i < 43 then some (zG m N (gu g 5 i.toNat v)) else none := mW (n := 43) rfl i v
theorem mRo5 {m N : Nat} {g : Nat → Nat → Int} {i : Int} (h : 0 ≤ i ∧ i < 43) : zaI (zG m N g) (m + 5) 20 i = some (g 5 i.toNat) := by rw [mR5, if_pos h]
theorem mWo5 {m N : Nat} {g : Nat → Nat → Int} {i v : Int} (h : 0 ≤ i ∧ i < 43) : zaS (zG m N g) (m + 5) 20 i v = some (zG m N (gu g 5 i.toNat v)) := by rw [mW5, if_pos h]
theorem mQ10 {m N : Nat} {g : Nat → Nat → Int} : zgQ (zG m N g) m 12 10 = some (m + 6) := mQ 10
theorem mR6 {m N : Nat} {g : Nat → Nat → Int} (i : Int) : zaI (zG m N g) (m + 6) 20 i = if 0 ≤ i ∧ i < 43 then some (g 6 i.toNat) else none := mR (n := 43) rfl i
theorem mW6 {m N : Nat} {g : Nat → Nat → Int} (i v : Int) : zaS (zG m N g) (m + 6) 20 i v = if 0 ≤ i ∧ i < 43 then some (zG m N (gu g 6 i.toNat v)) else none := mW (n := 43) rfl i v
theorem mRo6 {m N : Nat} {g : Nat → Nat → Int} {i : Int} (h : 0 ≤ i ∧ i < 43) : zaI (zG m N g) (m + 6) 20 i = some (g 6 i.toNat) := by rw [mR6, if_pos h]
theorem mWo6 {m N : Nat} {g : Nat → Nat → Int} {i v : Int} (h : 0 ≤ i ∧ i < 43) : zaS (zG m N g) (m + 6) 20 i v = some (zG m N (gu g 6 i.toNat v)) := by rw [mW6, if_pos h]
theorem mQ11 {m N : Nat} {g : Nat → Nat → Int} : zgQ (zG m N g) m 12 11 = some (m + 7) := mQ 11
theorem mR7 {m N : Nat} {g : Nat → Nat → Int} (i : Int) : zaI (zG m N g) (m + 7) 20 i = if 0 ≤ i ∧ i < 40 then some (g 7 i.toNat) else none := mR (n := 40) rfl i
theorem mW7 {m N : Nat} {g : Nat → Nat → Int} (i v : Int) : zaS (zG m N g) (m + 7) 20 i v = if 0 ≤ i ∧ i < 40 then some (zG m N (gu g 7 i.toNat v)) else none := mW (n := 40) rfl i v
theorem mRo7 {m N : Nat} {g : Nat → Nat → Int} {i : Int} (h : 0 ≤ i ∧ i < 40) : zaI (zG m N g) (m + 7) 20 i = some (g 7 i.toNat) := by rw [mR7, if_pos h]
theorem mWo7 {m N : Nat} {g : Nat → Nat → Int} {i v : Int} (h : 0 ≤ i ∧ i < 40) : zaS (zG m N g) (m + 7) 20 i v = some (zG m N (gu g 7 i.toNat v)) := by rw [mW7, if_pos h]
theorem mQ12 {m N : Nat} {g : Nat → Nat → Int} : zgQ (zG m N g) m 12 12 = some (m + 8) := mQ 12
theorem mR8 {m N : Nat} {g : Nat → Nat → Int} (i : Int) : zaI (zG m N g) (m + 8) 20 i = if 0 ≤ i ∧ i < 40 then some (g 8 i.toNat) else none := mR (n := 40) rfl i
theorem mW8 {m N : Nat} {g : Nat → Nat → Int} (i v : Int) : zaS (zG m N g) (m + 8) 20 i v = if 0 ≤ i ∧ i < 40 then some (zG m N (gu g 8 i.toNat v)) else none := mW (n := 40) rfl i v
theorem mRo8 {m N : Nat} {g : Nat → Nat → Int} {i : Int} (h : 0 ≤ i ∧ i < 40) : zaI (zG m N g) (m + 8) 20 i = some (g 8 i.toNat) := by rw [mR8, if_pos h]
theorem mWo8 {m N : Nat} {g : Nat → Nat → Int} {i v : Int} (h : 0 ≤ i ∧ i < 40) : zaS (zG m N g) (m + 8) 20 i v = some (zG m N (gu g 8 i.toNat v)) := by rw [mW8, if_pos h]
theorem mQ13 {m N : Nat} {g : Nat → Nat → Int} : zgQ (zG m N g) m 12 13 = some (m + 9) := mQ 13
theorem mR9 {m N : Nat} {g : Nat → Nat → Int} (i : Int) : zaI (zG m N g) (m + 9) 20 i = if 0 ≤ i ∧ i < 40 then some (g 9 i.toNat) else none := mR (n := 40) rfl i
theorem mW9 {m N : Nat} {g : Nat → Nat → Int} (i v : Int) : zaS (zG m N g) (m + 9) 20 i v = if 0 ≤ i ∧ i < 40 then some (zG m N (gu g 9 i.toNat v)) else none := mW (n := 40) rfl i v
theorem mRo9 {m N : Nat} {g : Nat → Nat → Int} {i : Int} (h : 0 ≤ i ∧ i < 40) : zaI (zG m N g) (m + 9) 20 i = some (g 9 i.toNat) := by rw [mR9, if_pos h]
theorem mWo9 {m N : Nat} {g : Nat → Nat → Int} {i v : Int} (h : 0 ≤ i ∧ i < 40) : zaS (zG m N g) (m + 9) 20 i v = some (zG m N (gu g 9 i.toNat v)) := by rw [mW9, if_pos h]
theorem mQ14 {m N : Nat} {g : Nat → Nat → Int} : zgQ (zG m N g) m 12 14 = some (m + 10) := mQ 14
theorem mR10 {m N : Nat} {g : Nat → Nat → Int} (i : Int) : zaI (zG m N g) (m + 10) 20 i = if 0 ≤ i ∧ i < 40 then some (g 10 i.toNat) else none := mR (n := 40) rfl i
theorem mW10 {m N : Nat} {g : Nat → Nat → Int} (i v : Int) : zaS (zG m N g) (m + 10) 20 i v = if 0 ≤ i ∧ i < 40 then some (zG m N (gu g 10 i.toNat v)) else none := mW (n := 40) rfl i v
theorem mRo10 {m N : Nat} {g : Nat → Nat → Int} {i : Int} (h : 0 ≤ i ∧ i < 40) : zaI (zG m N g) (m + 10) 20 i = some (g 10 i.toNat) := by rw [mR10, if_pos h]
theorem mWo10 {m N : Nat} {g : Nat → Nat → Int} {i v : Int} (h : 0 ≤ i ∧ i < 40) : zaS (zG m N g) (m + 10) 20 i v = some (zG m N (gu g 10 i.toNat v)) := by rw [mW10, if_pos h]
theorem mQ17 {m N : Nat} {g : Nat → Nat → Int} : zgQ (zG m N g) m 12 17 = some (m + 11) := mQ 17
theorem mR11 {m N : Nat} {g : Nat → Nat → Int} (i : Int) : zaI (zG m N g) (m + 11) 20 i = if 0 ≤ i ∧ i < 10 then some (g 11 i.toNat) else none := mR (n := 10) rfl i
theorem mW11 {m N : Nat} {g : Nat → Nat → Int} (i v : Int) : zaS (zG m N g) (m + 11) 20 i v = if 0 ≤ i ∧ i < 10 then some (zG m N (gu g 11 i.toNat v)) else none := mW (n := 10) rfl i v
theorem mRo11 {m N : Nat} {g : Nat → Nat → Int} {i : Int} (h : 0 ≤ i ∧ i < 10) : zaI (zG m N g) (m + 11) 20 i = some (g 11 i.toNat) := by rw [mR11, if_pos h]
theorem mWo11 {m N : Nat} {g : Nat → Nat → Int} {i v : Int} (h : 0 ≤ i ∧ i < 10) : zaS (zG m N g) (m + 11) 20 i v = some (zG m N (gu g 11 i.toNat v)) := by rw [mW11, if_pos h]
theorem mQ19 {m N : Nat} {g : Nat → Nat → Int} : zgQ (zG m N g) m 12 19 = some (m + 12) := mQ 19
theorem mR12 {m N : Nat} {g : Nat → Nat → Int} (i : Int) : zaI (zG m N g) (m + 12) 20 i = if 0 ≤ i ∧ i < 3 then some (g 12 i.toNat) else none := mR (n := 3) rfl i
theorem mW12 {m N : Nat} {g : Nat → Nat → Int} (i v : Int) : zaS (zG m N g) (m + 12) 20 i v = if 0 ≤ i ∧ i < 3 then some (zG m N (gu g 12 i.toNat v)) else none := mW (n := 3) rfl i v
theorem mRo12 {m N : Nat} {g : Nat → Nat → Int} {i : Int} (h : 0 ≤ i ∧ i < 3) : zaI (zG m N g) (m + 12) 20 i = some (g 12 i.toNat) := by rw [mR12, if_pos h]
theorem mWo12 {m N : Nat} {g : Nat → Nat → Int} {i v : Int} (h : 0 ≤ i ∧ i < 3) : zaS (zG m N g) (m + 12) 20 i v = some (zG m N (gu g 12 i.toNat v)) := by rw [mW12, if_pos h]
theorem mQ20 {m N : Nat} {g : Nat → Nat → Int} : zgQ (zG m N g) m 12 20 = some (m + 13) := mQ 20
theorem mR13 {m N : Nat} {g : Nat → Nat → Int} (i : Int) : zaI (zG m N g) (m + 13) 20 i = if 0 ≤ i ∧ i < 3 then some (g 13 i.toNat) else none := mR (n := 3) rfl i
theorem mW13 {m N : Nat} {g : Nat → Nat → Int} (i v : Int) : zaS (zG m N g) (m + 13) 20 i v = if 0 ≤ i ∧ i < 3 then some (zG m N (gu g 13 i.toNat v)) else none := mW (n := 3) rfl i v
theorem mRo13 {m N : Nat} {g : Nat → Nat → Int} {i : Int} (h : 0 ≤ i ∧ i < 3) : zaI (zG m N g) (m + 13) 20 i = some (g 13 i.toNat) := by rw [mR13, if_pos h]
theorem mWo13 {m N : Nat} {g : Nat → Nat → Int} {i v : Int} (h : 0 ≤ i ∧ i < 3) : zaS (zG m N g) (m + 13) 20 i v = some (zG m N (gu g 13 i.toNat v)) := by rw [mW13, if_pos h]
theorem mQ23 {m N : Nat} {g : Nat → Nat → Int} : zgQ (zG m N g) m 12 23 = some (m + 14) := mQ 23
theorem mR14 {m N : Nat} {g : Nat → Nat → Int} (i : Int) : zaI (zG m N g) (m + 14) 22 i = if 0 ≤ i ∧ i < 40 then some (g 14 i.toNat) else none := mR (n := 40) rfl i
theorem mW14 {m N : Nat} {g : Nat → Nat → Int} (i v : Int) : zaS (zG m N g) (m + 14) 22 i v = if 0 ≤ i ∧ i < 40 then some (zG m N (gu g 14 i.toNat v)) else none := mW (n := 40) rfl i v
theorem mRo14 {m N : Nat} {g : Nat → Nat → Int} {i : Int} (h : 0 ≤ i ∧ i < 40) : zaI (zG m N g) (m + 14) 22 i = some (g 14 i.toNat) := by rw [mR14, if_pos h]
theorem mWo14 {m N : Nat} {g : Nat → Nat → Int} {i v : Int} (h : 0 ≤ i ∧ i < 40) : zaS (zG m N g) (m + 14) 22 i v = some (zG m N (gu g 14 i.toNat v)) := by rw [mW14, if_pos h]
theorem mQ24 {m N : Nat} {g : Nat → Nat → Int} : zgQ (zG m N g) m 12 24 = some (m + 15) := mQ 24
theorem mR15 {m N : Nat} {g : Nat → Nat → Int} (i : Int) : zaI (zG m N g) (m + 15) 20 i = if 0 ≤ i ∧ i < 120 then some (g 15 i.toNat) else none := mR (n := 120) rfl i
theorem mW15 {m N : Nat} {g : Nat → Nat → Int} (i v : Int) : zaS (zG m N g) (m + 15) 20 i v = if 0 ≤ i ∧ i < 120 then some (zG m N (gu g 15 i.toNat v)) else none := mW (n := 120) rfl i v
theorem mRo15 {m N : Nat} {g : Nat → Nat → Int} {i : Int} (h : 0 ≤ i ∧ i < 120) : zaI (zG m N g) (m + 15) 20 i = some (g 15 i.toNat) := by rw [mR15, if_pos h]
theorem mWo15 {m N : Nat} {g : Nat → Nat → Int} {i v : Int} (h : 0 ≤ i ∧ i < 120) : zaS (zG m N g) (m + 15) 20 i v = some (zG m N (gu g 15 i.toNat v)) := by rw [mW15, if_pos h]
theorem mQ26 {m N : Nat} {g : Nat → Nat → Int} : zgQ (zG m N g) m 12 26 = some (m + 16) := mQ 26
theorem mR16 {m N : Nat} {g : Nat → Nat → Int} (i : Int) : zaI (zG m N g) (m + 16) 20 i = if 0 ≤ i ∧ i < 2400 then some (g 16 i.toNat) else none := mR (n := 2400) rfl i
theorem mW16 {m N : Nat} {g : Nat → Nat → Int} (i v : Int) : zaS (zG m N g) (m + 16) 20 i v = if 0 ≤ i ∧ i < 2400 then some (zG m N (gu g 16 i.toNat v)) else none := mW (n := 2400) rfl i v
theorem mRo16 {m N : Nat} {g : Nat → Nat → Int} {i : Int} (h : 0 ≤ i ∧ i < 2400) : zaI (zG m N g) (m + 16) 20 i = some (g 16 i.toNat) := by rw [mR16, if_pos h]
theorem mWo16 {m N : Nat} {g : Nat → Nat → Int} {i v : Int} (h : 0 ≤ i ∧ i < 2400) : zaS (zG m N g) (m + 16) 20 i v = some (zG m N (gu g 16 i.toNat v)) := by rw [mW16, if_pos h]
theorem mQ27 {m N : Nat} {g : Nat → Nat → Int} : zgQ (zG m N g) m 12 27 = some (m + 17) := mQ 27
theorem mR17 {m N : Nat} {g : Nat → Nat → Int} (i : Int) : zaI (zG m N g) (m + 17) 20 i = if 0 ≤ i ∧ i < 20 then some (g 17 i.toNat) else none := mR (n := 20) rfl i
theorem mW17 {m N : Nat} {g : Nat → Nat → Int} (i v : Int) : zaS (zG m N g) (m + 17) 20 i v = if 0 ≤ i ∧ i < 20 then some (zG m N (gu g 17 i.toNat v)) else none := mW (n := 20) rfl i v
theorem mRo17 {m N : Nat} {g : Nat → Nat → Int} {i : Int} (h : 0 ≤ i ∧ i < 20) : zaI (zG m N g) (m + 17) 20 i = some (g 17 i.toNat) := by rw [mR17, if_pos h]
theorem mWo17 {m N : Nat} {g : Nat → Nat → Int} {i v : Int} (h : 0 ≤ i ∧ i < 20) : zaS (zG m N g) (m + 17) 20 i v = some (zG m N (gu g 17 i.toNat v)) := by rw [mW17, if_pos h]
theorem mQ28 {m N : Nat} {g : Nat → Nat → Int} : zgQ (zG m N g) m 12 28 = some (m + 18) := mQ 28
theorem mR18 {m N : Nat} {g : Nat → Nat → Int} (i : Int) : zaI (zG m N g) (m + 18) 20 i = if 0 ≤ i ∧ i < 20 then some (g 18 i.toNat) else none := mR (n := 20) rfl i
theorem mW18 {m N : Nat} {g : Nat → Nat → Int} (i v : Int) : zaS (zG m N g) (m + 18) 20 i v = if 0 ≤ i ∧ i < 20 then some (zG m N (gu g 18 i.toNat v)) else none := mW (n := 20) rfl i v
theorem mRo18 {m N : Nat} {g : Nat → Nat → Int} {i : Int} (h : 0 ≤ i ∧ i < 20) : zaI (zG m N g) (m + 18) 20 i = some (g 18 i.toNat) := by rw [mR18, if_pos h]
theorem mWo18 {m N : Nat} {g : Nat → Nat → Int} {i v : Int} (h : 0 ≤ i ∧ i < 20) : zaS (zG m N g) (m + 18) 20 i v = some (zG m N (gu g 18 i.toNat v)) := by rw [mW18, if_pos h]
theorem mQ29 {m N : Nat} {g : Nat → Nat → Int} : zgQ (zG m N g) m 12 29 = some (m + 19) := mQ 29
theorem mR19 {m N : Nat} {g : Nat → Nat → Int} (i : Int) : zaI (zG m N g) (m + 19) 20 i = if 0 ≤ i ∧ i < 20 then some (g 19 i.toNat) else none := mR (n := 20) rfl i
theorem mW19 {m N : Nat} {g : Nat → Nat → Int} (i v : Int) : zaS (zG m N g) (m + 19) 20 i v = if 0 ≤ i ∧ i < 20 then some (zG m N (gu g 19 i.toNat v)) else none := mW (n := 20) rfl i v
theorem mRo19 {m N : Nat} {g : Nat → Nat → Int} {i : Int} (h : 0 ≤ i ∧ i < 20) : zaI (zG m N g) (m + 19) 20 i = some (g 19 i.toNat) := by rw [mR19, if_pos h]
theorem mWo19 {m N : Nat} {g : Nat → Nat → Int} {i v : Int} (h : 0 ≤ i ∧ i < 20) : zaS (zG m N g) (m + 19) 20 i v = some (zG m N (gu g 19 i.toNat v)) := by rw [mW19, if_pos h]
theorem mQ30 {m N : Nat} {g : Nat → Nat → Int} : zgQ (zG m N g) m 12 30 = some (m + 20) := mQ 30
theorem mR20 {m N : Nat} {g : Nat → Nat → Int} (i : Int) : zaI (zG m N g) (m + 20) 20 i = if 0 ≤ i ∧ i < 20 then some (g 20 i.toNat) else none := mR (n := 20) rfl i
theorem mW20 {m N : Nat} {g : Nat → Nat → Int} (i v : Int) : zaS (zG m N g) (m + 20) 20 i v = if 0 ≤ i ∧ i < 20 then some (zG m N (gu g 20 i.toNat v)) else none := mW (n := 20) rfl i v
theorem mRo20 {m N : Nat} {g : Nat → Nat → Int} {i : Int} (h : 0 ≤ i ∧ i < 20) : zaI (zG m N g) (m + 20) 20 i = some (g 20 i.toNat) := by rw [mR20, if_pos h]
theorem mWo20 {m N : Nat} {g : Nat → Nat → Int} {i v : Int} (h : 0 ≤ i ∧ i < 20) : zaS (zG m N g) (m + 20) 20 i v = some (zG m N (gu g 20 i.toNat v)) := by rw [mW20, if_pos h]
theorem mQ32 {m N : Nat} {g : Nat → Nat → Int} : zgQ (zG m N g) m 12 32 = some (m + 21) := mQ 32
theorem mR21 {m N : Nat} {g : Nat → Nat → Int} (i : Int) : zaI (zG m N g) (m + 21) 20 i = if 0 ≤ i ∧ i < 5 then some (g 21 i.toNat) else none := mR (n := 5) rfl i
theorem mW21 {m N : Nat} {g : Nat → Nat → Int} (i v : Int) : zaS (zG m N g) (m + 21) 20 i v = if 0 ≤ i ∧ i < 5 then some (zG m N (gu g 21 i.toNat v)) else none := mW (n := 5) rfl i v
theorem mRo21 {m N : Nat} {g : Nat → Nat → Int} {i : Int} (h : 0 ≤ i ∧ i < 5) : zaI (zG m N g) (m + 21) 20 i = some (g 21 i.toNat) := by rw [mR21, if_pos h]
theorem mWo21 {m N : Nat} {g : Nat → Nat → Int} {i v : Int} (h : 0 ≤ i ∧ i < 5) : zaS (zG m N g) (m + 21) 20 i v = some (zG m N (gu g 21 i.toNat v)) := by rw [mW21, if_pos h]
theorem mQ33 {m N : Nat} {g : Nat → Nat → Int} : zgQ (zG m N g) m 12 33 = some (m + 22) := mQ 33
theorem mR22 {m N : Nat} {g : Nat → Nat → Int} (i : Int) : zaI (zG m N g) (m + 22) 21 i = if 0 ≤ i ∧ i < 13320 then some (g 22 i.toNat) else none := mR (n := 13320) rfl i
theorem mW22 {m N : Nat} {g : Nat → Nat → Int} (i v : Int) : zaSZ (zG m N g) (m + 22) 21 i v = if (0 ≤ i ∧ i < 13320) ∧ (v = 0 ∨ v = 1) then some (zG m N (gu g 22 i.toNat v)) else none := mWZ (n := 13320) rfl i v
theorem mRo22 {m N : Nat} {g : Nat → Nat → Int} {i : Int} (h : 0 ≤ i ∧ i < 13320) : zaI (zG m N g) (m + 22) 21 i = some (g 22 i.toNat) := by rw [mR22, if_pos h]
theorem mWo22 {m N : Nat} {g : Nat → Nat → Int} {i v : Int} (h : 0 ≤ i ∧ i < 13320) (hv : v = 0 ∨ v = 1) : zaSZ (zG m N g) (m + 22) 21 i v = some (zG m N (gu g 22 i.toNat v)) := by rw [mW22, if_pos ⟨h, hv⟩]
theorem mQ34 {m N : Nat} {g : Nat → Nat → Int} : zgQ (zG m N g) m 12 34 = some (m + 23) := mQ 34
theorem mR23 {m N : Nat} {g : Nat → Nat → Int} (i : Int) : zaI (zG m N g) (m + 23) 20 i = if 0 ≤ i ∧ i < 13320 then some (g 23 i.toNat) else none := mR (n := 13320) rfl i
theorem mW23 {m N : Nat} {g : Nat → Nat → Int} (i v : Int) : zaS (zG m N g) (m + 23) 20 i v = if 0 ≤ i ∧ i < 13320 then some (zG m N (gu g 23 i.toNat v)) else none := mW (n := 13320) rfl i v
theorem mRo23 {m N : Nat} {g : Nat → Nat → Int} {i : Int} (h : 0 ≤ i ∧ i < 13320) : zaI (zG m N g) (m + 23) 20 i = some (g 23 i.toNat) := by rw [mR23, if_pos h]
theorem mWo23 {m N : Nat} {g : Nat → Nat → Int} {i v : Int} (h : 0 ≤ i ∧ i < 13320) : zaS (zG m N g) (m + 23) 20 i v = some (zG m N (gu g 23 i.toNat v)) := by rw [mW23, if_pos h]
theorem mQ35 {m N : Nat} {g : Nat → Nat → Int} : zgQ (zG m N g) m 12 35 = some (m + 24) := mQ 35
theorem mR24 {m N : Nat} {g : Nat → Nat → Int} (i : Int) : zaI (zG m N g) (m + 24) 20 i = if 0 ≤ i ∧ i < 13320 then some (g 24 i.toNat) else none := mR (n := 13320) rfl i
theorem mW24 {m N : Nat} {g : Nat → Nat → Int} (i v : Int) : zaS (zG m N g) (m + 24) 20 i v = if 0 ≤ i ∧ i < 13320 then some (zG m N (gu g 24 i.toNat v)) else none := mW (n := 13320) rfl i v
theorem mRo24 {m N : Nat} {g : Nat → Nat → Int} {i : Int} (h : 0 ≤ i ∧ i < 13320) : zaI (zG m N g) (m + 24) 20 i = some (g 24 i.toNat) := by rw [mR24, if_pos h]
theorem mWo24 {m N : Nat} {g : Nat → Nat → Int} {i v : Int} (h : 0 ≤ i ∧ i < 13320) : zaS (zG m N g) (m + 24) 20 i v = some (zG m N (gu g 24 i.toNat v)) := by rw [mW24, if_pos h]
theorem mQ36 {m N : Nat} {g : Nat → Nat → Int} : zgQ (zG m N g) m 12 36 = some (m + 25) := mQ 36
theorem mR25 {m N : Nat} {g : Nat → Nat → Int} (i : Int) : zaI (zG m N g) (m + 25) 20 i = if 0 ≤ i ∧ i < 13320 then some (g 25 i.toNat) else none := mR (n := 13320) rfl i
theorem mW25 {m N : Nat} {g : Nat → Nat → Int} (i v : Int) : zaS (zG m N g) (m + 25) 20 i v = if 0 ≤ i ∧ i < 13320 then some (zG m N (gu g 25 i.toNat v)) else none := mW (n := 13320) rfl i v
theorem mRo25 {m N : Nat} {g : Nat → Nat → Int} {i : Int} (h : 0 ≤ i ∧ i < 13320) : zaI (zG m N g) (m + 25) 20 i = some (g 25 i.toNat) := by rw [mR25, if_pos h]
theorem mWo25 {m N : Nat} {g : Nat → Nat → Int} {i v : Int} (h : 0 ≤ i ∧ i < 13320) : zaS (zG m N g) (m + 25) 20 i v = some (zG m N (gu g 25 i.toNat v)) := by rw [mW25, if_pos h]
theorem mQ37 {m N : Nat} {g : Nat → Nat → Int} : zgQ (zG m N g) m 12 37 = some (m + 26) := mQ 37
theorem mR26 {m N : Nat} {g : Nat → Nat → Int} (i : Int) : zaI (zG m N g) (m + 26) 20 i = if 0 ≤ i ∧ i < 13320 then some (g 26 i.toNat) else none := mR (n := 13320) rfl i
theorem mW26 {m N : Nat} {g : Nat → Nat → Int} (i v : Int) : zaS (zG m N g) (m + 26) 20 i v = if 0 ≤ i ∧ i < 13320 then some (zG m N (gu g 26 i.toNat v)) else none := mW (n := 13320) rfl i v
theorem mRo26 {m N : Nat} {g : Nat → Nat → Int} {i : Int} (h : 0 ≤ i ∧ i < 13320) : zaI (zG m N g) (m + 26) 20 i = some (g 26 i.toNat) := by rw [mR26, if_pos h]
theorem mWo26 {m N : Nat} {g : Nat → Nat → Int} {i v : Int} (h : 0 ≤ i ∧ i < 13320) : zaS (zG m N g) (m + 26) 20 i v = some (zG m N (gu g 26 i.toNat v)) := by rw [mW26, if_pos h]
theorem mQ38 {m N : Nat} {g : Nat → Nat → Int} : zgQ (zG m N g) m 12 38 = some (m + 27) := mQ 38
theorem mR27 {m N : Nat} {g : Nat → Nat → Int} (i : Int) : zaI (zG m N g) (m + 27) 20 i = if 0 ≤ i ∧ i < 13320 then some (g 27 i.toNat) else none := mR (n := 13320) rfl i
theorem mW27 {m N : Nat} {g : Nat → Nat → Int} (i v : Int) : zaS (zG m N g) (m + 27) 20 i v = if 0 ≤ i ∧ i < 13320 then some (zG m N (gu g 27 i.toNat v)) else none := mW (n := 13320) rfl i v
theorem mRo27 {m N : Nat} {g : Nat → Nat → Int} {i : Int} (h : 0 ≤ i ∧ i < 13320) : zaI (zG m N g) (m + 27) 20 i = some (g 27 i.toNat) := by rw [mR27, if_pos h]
theorem mWo27 {m N : Nat} {g : Nat → Nat → Int} {i v : Int} (h : 0 ≤ i ∧ i < 13320) : zaS (zG m N g) (m + 27) 20 i v = some (zG m N (gu g 27 i.toNat v)) := by rw [mW27, if_pos h]
theorem mQ39 {m N : Nat} {g : Nat → Nat → Int} : zgQ (zG m N g) m 12 39 = some (m + 28) := mQ 39
theorem mR28 {m N : Nat} {g : Nat → Nat → Int} (i : Int) : zaI (zG m N g) (m + 28) 20 i = if 0 ≤ i ∧ i < 13320 then some (g 28 i.toNat) else none := mR (n := 13320) rfl i
theorem mW28 {m N : Nat} {g : Nat → Nat → Int} (i v : Int) : zaS (zG m N g) (m + 28) 20 i v = if 0 ≤ i ∧ i < 13320 then some (zG m N (gu g 28 i.toNat v)) else none := mW (n := 13320) rfl i v
theorem mRo28 {m N : Nat} {g : Nat → Nat → Int} {i : Int} (h : 0 ≤ i ∧ i < 13320) : zaI (zG m N g) (m + 28) 20 i = some (g 28 i.toNat) := by rw [mR28, if_pos h]
theorem mWo28 {m N : Nat} {g : Nat → Nat → Int} {i v : Int} (h : 0 ≤ i ∧ i < 13320) : zaS (zG m N g) (m + 28) 20 i v = some (zG m N (gu g 28 i.toNat v)) := by rw [mW28, if_pos h]
theorem mQ40 {m N : Nat} {g : Nat → Nat → Int} : zgQ (zG m N g) m 12 40 = some (m + 29) := mQ 40
theorem mR29 {m N : Nat} {g : Nat → Nat → Int} (i : Int) : zaI (zG m N g) (m + 29) 20 i = if 0 ≤ i ∧ i < 13320 then some (g 29 i.toNat) else none := mR (n := 13320) rfl i
theorem mW29 {m N : Nat} {g : Nat → Nat → Int} (i v : Int) : zaS (zG m N g) (m + 29) 20 i v = if 0 ≤ i ∧ i < 13320 then some (zG m N (gu g 29 i.toNat v)) else none := mW (n := 13320) rfl i v
theorem mRo29 {m N : Nat} {g : Nat → Nat → Int} {i : Int} (h : 0 ≤ i ∧ i < 13320) : zaI (zG m N g) (m + 29) 20 i = some (g 29 i.toNat) := by rw [mR29, if_pos h]
theorem mWo29 {m N : Nat} {g : Nat → Nat → Int} {i v : Int} (h : 0 ≤ i ∧ i < 13320) : zaS (zG m N g) (m + 29) 20 i v = some (zG m N (gu g 29 i.toNat v)) := by rw [mW29, if_pos h]
theorem mQ41 {m N : Nat} {g : Nat → Nat → Int} : zgQ (zG m N g) m 12 41 = some (m + 30) := mQ 41
theorem mR30 {m N : Nat} {g : Nat → Nat → Int} (i : Int) : zaI (zG m N g) (m + 30) 20 i = if 0 ≤ i ∧ i < 40 then some (g 30 i.toNat) else none := mR (n := 40) rfl i
theorem mW30 {m N : Nat} {g : Nat → Nat → Int} (i v : Int) : zaS (zG m N g) (m + 30) 20 i v = if 0 ≤ i ∧ i < 40 then some (zG m N (gu g 30 i.toNat v)) else none := mW (n := 40) rfl i v
theorem mRo30 {m N : Nat} {g : Nat → Nat → Int} {i : Int} (h : 0 ≤ i ∧ i < 40) : zaI (zG m N g) (m + 30) 20 i = some (g 30 i.toNat) := by rw [mR30, if_pos h]
theorem mWo30 {m N : Nat} {g : Nat → Nat → Int} {i v : Int} (h : 0 ≤ i ∧ i < 40) : zaS (zG m N g) (m + 30) 20 i v = some (zG m N (gu g 30 i.toNat v)) := by rw [mW30, if_pos h]
theorem mQ43 {m N : Nat} {g : Nat → Nat → Int} : zgQ (zG m N g) m 12 43 = some (m + 31) := mQ 43
theorem mR31 {m N : Nat} {g : Nat → Nat → Int} (i : Int) : zaI (zG m N g) (m + 31) 20 i = if 0 ≤ i ∧ i < 40 then some (g 31 i.toNat) else none := mR (n := 40) rfl i
theorem mW31 {m N : Nat} {g : Nat → Nat → Int} (i v : Int) : zaS (zG m N g) (m + 31) 20 i v = if 0 ≤ i ∧ i < 40 then some (zG m N (gu g 31 i.toNat v)) else none := mW (n := 40) rfl i v
theorem mRo31 {m N : Nat} {g : Nat → Nat → Int} {i : Int} (h : 0 ≤ i ∧ i < 40) : zaI (zG m N g) (m + 31) 20 i = some (g 31 i.toNat) := by rw [mR31, if_pos h]
theorem mWo31 {m N : Nat} {g : Nat → Nat → Int} {i v : Int} (h : 0 ≤ i ∧ i < 40) : zaS (zG m N g) (m + 31) 20 i v = some (zG m N (gu g 31 i.toNat v)) := by rw [mW31, if_pos h]
theorem mQ44 {m N : Nat} {g : Nat → Nat → Int} : zgQ (zG m N g) m 12 44 = some (m + 32) := mQ 44
theorem mR32 {m N : Nat} {g : Nat → Nat → Int} (i : Int) : zaI (zG m N g) (m + 32) 20 i = if 0 ≤ i ∧ i < 40 then some (g 32 i.toNat) else none := mR (n := 40) rfl i
theorem mW32 {m N : Nat} {g : Nat → Nat → Int} (i v : Int) : zaS (zG m N g) (m + 32) 20 i v = if 0 ≤ i ∧ i < 40 then some (zG m N (gu g 32 i.toNat v)) else none := mW (n := 40) rfl i v
theorem mRo32 {m N : Nat} {g : Nat → Nat → Int} {i : Int} (h : 0 ≤ i ∧ i < 40) : zaI (zG m N g) (m + 32) 20 i = some (g 32 i.toNat) := by rw [mR32, if_pos h]
theorem mWo32 {m N : Nat} {g : Nat → Nat → Int} {i v : Int} (h : 0 ≤ i ∧ i < 40) : zaS (zG m N g) (m + 32) 20 i v = some (zG m N (gu g 32 i.toNat v)) := by rw [mW32, if_pos h]
theorem mQ45 {m N : Nat} {g : Nat → Nat → Int} : zgQ (zG m N g) m 12 45 = some (m + 33) := mQ 45
theorem mR33 {m N : Nat} {g : Nat → Nat → Int} (i : Int) : zaI (zG m N g) (m + 33) 20 i = if 0 ≤ i ∧ i < 40 then some (g 33 i.toNat) else none := mR (n := 40) rfl i
theorem mW33 {m N : Nat} {g : Nat → Nat → Int} (i v : Int) : zaS (zG m N g) (m + 33) 20 i v = if 0 ≤ i ∧ i < 40 then some (zG m N (gu g 33 i.toNat v)) else none := mW (n := 40) rfl i v
theorem mRo33 {m N : Nat} {g : Nat → Nat → Int} {i : Int} (h : 0 ≤ i ∧ i < 40) : zaI (zG m N g) (m + 33) 20 i = some (g 33 i.toNat) := by rw [mR33, if_pos h]
theorem mWo33 {m N : Nat} {g : Nat → Nat → Int} {i v : Int} (h : 0 ≤ i ∧ i < 40) : zaS (zG m N g) (m + 33) 20 i v = some (zG m N (gu g 33 i.toNat v)) := by rw [mW33, if_pos h]
theorem mQ46 {m N : Nat} {g : Nat → Nat → Int} : zgQ (zG m N g) m 12 46 = some (m + 34) := mQ 46
theorem mR34 {m N : Nat} {g : Nat → Nat → Int} (i : Int) : zaI (zG m N g) (m + 34) 20 i = if 0 ≤ i ∧ i < 40 then some (g 34 i.toNat) else none := mR (n := 40) rfl i
theorem mW34 {m N : Nat} {g : Nat → Nat → Int} (i v : Int) : zaS (zG m N g) (m + 34) 20 i v = if 0 ≤ i ∧ i < 40 then some (zG m N (gu g 34 i.toNat v)) else none := mW (n := 40) rfl i v
theorem mRo34 {m N : Nat} {g : Nat → Nat → Int} {i : Int} (h : 0 ≤ i ∧ i < 40) : zaI (zG m N g) (m + 34) 20 i = some (g 34 i.toNat) := by rw [mR34, if_pos h]
theorem mWo34 {m N : Nat} {g : Nat → Nat → Int} {i v : Int} (h : 0 ≤ i ∧ i < 40) : zaS (zG m N g) (m + 34) 20 i v = some (zG m N (gu g 34 i.toNat v)) := by rw [mW34, if_pos h]
theorem mQ47 {m N : Nat} {g : Nat → Nat → Int} : zgQ (zG m N g) m 12 47 = some (m + 35) := mQ 47
theorem mR35 {m N : Nat} {g : Nat → Nat → Int} (i : Int) : zaI (zG m N g) (m + 35) 20 i = if 0 ≤ i ∧ i < 40 then some (g 35 i.toNat) else none := mR (n := 40) rfl i
theorem mW35 {m N : Nat} {g : Nat → Nat → Int} (i v : Int) : zaS (zG m N g) (m + 35) 20 i v = if 0 ≤ i ∧ i < 40 then some (zG m N (gu g 35 i.toNat v)) else none := mW (n := 40) rfl i v
theorem mRo35 {m N : Nat} {g : Nat → Nat → Int} {i : Int} (h : 0 ≤ i ∧ i < 40) : zaI (zG m N g) (m + 35) 20 i = some (g 35 i.toNat) := by rw [mR35, if_pos h]
theorem mWo35 {m N : Nat} {g : Nat → Nat → Int} {i v : Int} (h : 0 ≤ i ∧ i < 40) : zaS (zG m N g) (m + 35) 20 i v = some (zG m N (gu g 35 i.toNat v)) := by rw [mW35, if_pos h]
theorem mQ48 {m N : Nat} {g : Nat → Nat → Int} : zgQ (zG m N g) m 12 48 = some (m + 36) := mQ 48
theorem mR36 {m N : Nat} {g : Nat → Nat → Int} (i : Int) : zaI (zG m N g) (m + 36) 20 i = if 0 ≤ i ∧ i < 40 then some (g 36 i.toNat) else none := mR (n := 40) rfl i
theorem mW36 {m N : Nat} {g : Nat → Nat → Int} (i v : Int) : zaS (zG m N g) (m + 36) 20 i v = if 0 ≤ i ∧ i < 40 then some (zG m N (gu g 36 i.toNat v)) else none := mW (n := 40) rfl i v
theorem mRo36 {m N : Nat} {g : Nat → Nat → Int} {i : Int} (h : 0 ≤ i ∧ i < 40) : zaI (zG m N g) (m + 36) 20 i = some (g 36 i.toNat) := by rw [mR36, if_pos h]
theorem mWo36 {m N : Nat} {g : Nat → Nat → Int} {i v : Int} (h : 0 ≤ i ∧ i < 40) : zaS (zG m N g) (m + 36) 20 i v = some (zG m N (gu g 36 i.toNat v)) := by rw [mW36, if_pos h]
theorem mQ50 {m N : Nat} {g : Nat → Nat → Int} : zgQ (zG m N g) m 12 50 = some (m + 37) := mQ 50
theorem mR37 {m N : Nat} {g : Nat → Nat → Int} (i : Int) : zaI (zG m N g) (m + 37) 20 i = if 0 ≤ i ∧ i < 40 then some (g 37 i.toNat) else none := mR (n := 40) rfl i
theorem mW37 {m N : Nat} {g : Nat → Nat → Int} (i v : Int) : zaS (zG m N g) (m + 37) 20 i v = if 0 ≤ i ∧ i < 40 then some (zG m N (gu g 37 i.toNat v)) else none := mW (n := 40) rfl i v
theorem mRo37 {m N : Nat} {g : Nat → Nat → Int} {i : Int} (h : 0 ≤ i ∧ i < 40) : zaI (zG m N g) (m + 37) 20 i = some (g 37 i.toNat) := by rw [mR37, if_pos h]
theorem mWo37 {m N : Nat} {g : Nat → Nat → Int} {i v : Int} (h : 0 ≤ i ∧ i < 40) : zaS (zG m N g) (m + 37) 20 i v = some (zG m N (gu g 37 i.toNat v)) := by rw [mW37, if_pos h]
theorem mQ51 {m N : Nat} {g : Nat → Nat → Int} : zgQ (zG m N g) m 12 51 = some (m + 38) := mQ 51
theorem mR38 {m N : Nat} {g : Nat → Nat → Int} (i : Int) : zaI (zG m N g) (m + 38) 20 i = if 0 ≤ i ∧ i < 40 then some (g 38 i.toNat) else none := mR (n := 40) rfl i
theorem mW38 {m N : Nat} {g : Nat → Nat → Int} (i v : Int) : zaS (zG m N g) (m + 38) 20 i v = if 0 ≤ i ∧ i < 40 then some (zG m N (gu g 38 i.toNat v)) else none := mW (n := 40) rfl i v
theorem mRo38 {m N : Nat} {g : Nat → Nat → Int} {i : Int} (h : 0 ≤ i ∧ i < 40) : zaI (zG m N g) (m + 38) 20 i = some (g 38 i.toNat) := by rw [mR38, if_pos h]
theorem mWo38 {m N : Nat} {g : Nat → Nat → Int} {i v : Int} (h : 0 ≤ i ∧ i < 40) : zaS (zG m N g) (m + 38) 20 i v = some (zG m N (gu g 38 i.toNat v)) := by rw [mW38, if_pos h]
theorem mQ52 {m N : Nat} {g : Nat → Nat → Int} : zgQ (zG m N g) m 12 52 = some (m + 39) := mQ 52
theorem mR39 {m N : Nat} {g : Nat → Nat → Int} (i : Int) : zaI (zG m N g) (m + 39) 20 i = if 0 ≤ i ∧ i < 10 then some (g 39 i.toNat) else none := mR (n := 10) rfl i
theorem mW39 {m N : Nat} {g : Nat → Nat → Int} (i v : Int) : zaS (zG m N g) (m + 39) 20 i v = if 0 ≤ i ∧ i < 10 then some (zG m N (gu g 39 i.toNat v)) else none := mW (n := 10) rfl i v
theorem mRo39 {m N : Nat} {g : Nat → Nat → Int} {i : Int} (h : 0 ≤ i ∧ i < 10) : zaI (zG m N g) (m + 39) 20 i = some (g 39 i.toNat) := by rw [mR39, if_pos h]
theorem mWo39 {m N : Nat} {g : Nat → Nat → Int} {i v : Int} (h : 0 ≤ i ∧ i < 10) : zaS (zG m N g) (m + 39) 20 i v = some (zG m N (gu g 39 i.toNat v)) := by rw [mW39, if_pos h]
