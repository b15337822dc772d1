/-! ===== the access rows under a bind ===== -/
theorem zckb {α : Type} {f : Int → Option α} {z : Int} (h : -2147483648 ≤ z ∧ z ≤ 2147483647) : (zck z).bind f = f z := by rw [zck_of h]; rfl
theorem zrz0b {α : Type} {f : Int → Option α} : (zrz 0).bind f = f 0 := rfl
theorem zrz1b {α : Type} {f : Int → Option α} : (zrz 1).bind f = f 1 := rfl
theorem bde {α β : Type} {e : Option β} {v : β} {f : β → Option α} (h : e = some v) : e.bind f = f v := by rw [h]; rfl
theorem zbe {α β : Type} {e : Option (α × Hp)} {r : α} {G : Hp} {k : α → Hp → Option β} (h : e = some (r, G)) : zb e k = k r G := by rw [h]; rfl
theorem mIb {α : Type} {f : Int → Option α} {m N : Nat} {g : Nat → Nat → Int} (k : Nat) : (zgI (zG m N g) m 12 k).bind f = f (g 0 k) := by rw [mI]; rfl
theorem mPb {α : Type} {f : Hp → Option α} {m N : Nat} {g : Nat → Nat → Int} (k : Nat) (v : Int) : (zpI (zG m N g) m 12 k v).bind f = f (zG m N (gu g 0 k v)) := by rw [mP]; rfl
theorem zck_ofb {α : Type} {f : Int → Option α} {z : Int} (h : -2147483648 ≤ z ∧ z ≤ 2147483647) : (zck z).bind f = f z := by rw [zck_of h]; rfl
theorem mPob {α : Type} {f : Hp → Option α} {m N : Nat} {g : Nat → Nat → Int} {k : Nat} {v : Int} (h : v = 0 ∨ v = 1) : (zpZ (zG m N g) m 12 k v).bind f = f (zG m N (gu g 0 k v)) := by rw [mPo h]; rfl
theorem mQ1b {α : Type} {f : Nat → Option α} {m N : Nat} {g : Nat → Nat → Int} : (zgQ (zG m N g) m 12 1).bind f = f (m + 1) := by rw [mQ1]; rfl
theorem mRo1b {α : Type} {f : Int → Option α} {m N : Nat} {g : Nat → Nat → Int} {i : Int} (h : 0 ≤ i ∧ i < 30) : (zaI (zG m N g) (m + 1) 20 i).bind f = f (g 1 i.toNat) := by rw [mRo1 h]; rfl
theorem mWo1b {α : Type} {f : Hp → Option α} {m N : Nat} {g : Nat → Nat → Int} {i v : Int} (h : 0 ≤ i ∧ i < 30) : (zaS (zG m N g) (m + 1) 20 i v).bind f = f (zG m N (gu g 1 i.toNat v)) := by rw [mWo1 h]; rfl
theorem mQ3b {α : Type} {f : Nat → Option α} {m N : Nat} {g : Nat → Nat → Int} : (zgQ (zG m N g) m 12 3).bind f = f (m + 2) := by rw [mQ3]; rfl
theorem mRo2b {α : Type} {f : Int → Option α} {m N : Nat} {g : Nat → Nat → Int} {i : Int} (h : 0 ≤ i ∧ i < 900) : (zaI (zG m N g) (m + 2) 20 i).bind f = f (g 2 i.toNat) := by rw [mRo2 h]; rfl
theorem mWo2b {α : Type} {f : Hp → Option α} {m N : Nat} {g : Nat → Nat → Int} {i v : Int} (h : 0 ≤ i ∧ i < 900) : (zaS (zG m N g) (m + 2) 20 i v).bind f = f (zG m N (gu g 2 i.toNat v)) := by rw [mWo2 h]; rfl
theorem mQ4b {α : Type} {f : Nat → Option α} {m N : Nat} {g : Nat → Nat → Int} : (zgQ (zG m N g) m 12 4).bind f = f (m + 3) := by rw [mQ4]; rfl
theorem mRo3b {α : Type} {f : Int → Option α} {m N : Nat} {g : Nat → Nat → Int} {i : Int} (h : 0 ≤ i ∧ i < 900) : (zaI (zG m N g) (m + 3) 20 i).bind f = f (g 3 i.toNat) := by rw [mRo3 h]; rfl
theorem mWo3b {α : Type} {f : Hp → Option α} {m N : Nat} {g : Nat → Nat → Int} {i v : Int} (h : 0 ≤ i ∧ i < 900) : (zaS (zG m N g) (m + 3) 20 i v).bind f = f (zG m N (gu g 3 i.toNat v)) := by rw [mWo3 h]; rfl
theorem mQ8b {α : Type} {f : Nat → Option α} {m N : Nat} {g : Nat → Nat → Int} : (zgQ (zG m N g) m 12 8).bind f = f (m + 4) := by rw [mQ8]; rfl
theorem mRo4b {α : Type} {f : Int → Option α} {m N : Nat} {g : Nat → Nat → Int} {i : Int} (h : 0 ≤ i ∧ i < 43) : (zaI (zG m N g) (m + 4) 20 i).bind f = f (g 4 i.toNat) := by rw [mRo4 h]; rfl
theorem mWo4b {α : Type} {f : Hp → Option α} {m N : Nat} {g : Nat → Nat → Int} {i v : Int} (h : 0 ≤ i ∧ i < 43) : (zaS (zG m N g) (m + 4) 20 i v).bind f = f (zG m N (gu g 4 i.toNat v)) := by rw [mWo4 h]; rfl
theorem mQ9b {α : Type} {f : Nat → Option α} {m N : Nat} {g : Nat → Nat → Int} : (zgQ (zG m N g) m 12 9).bind f = f (m + 5) := by rw [mQ9]; rfl
theorem mRo5b {α : Type} {f : Int → Option α} {m N : Nat} {g : Nat → Nat → Int} {i : Int} (h : 0 ≤ i ∧ i < 43) : (zaI (zG m N g) (m + 5) 20 i).bind f = f (g 5 i.toNat) := by rw [mRo5 h]; rfl
theorem mWo5b {α : Type} {f : Hp → Option α} {m N : Nat} {g : Nat → Nat → Int} {i v : Int} (h : 0 ≤ i ∧ i < 43) : (zaS (zG m N g) (m + 5) 20 i v).bind f = f (zG m N (gu g 5 i.toNat v)) := by rw [mWo5 h]; rfl
theorem mQ10b {α : Type} {f : Nat → Option α} {m N : Nat} {g : Nat → Nat → Int} : (zgQ (zG m N g) m 12 10).bind f = f (m + 6) := by rw [mQ10]; rfl
theorem mRo6b {α : Type} {f : Int → Option α} {m N : Nat} {g : Nat → Nat → Int} {i : Int} (h : 0 ≤ i ∧ i < 43) : (zaI (zG m N g) (m + 6) 20 i).bind f = f (g 6 i.toNat) := by rw [mRo6 h]; rfl
theorem mWo6b {α : Type} {f : Hp → Option α} {m N : Nat} {g : Nat → Nat → Int} {i v : Int} (h : 0 ≤ i ∧ i < 43) : (zaS (zG m N g) (m + 6) 20 i v).bind f = f (zG m N (gu g 6 i.toNat v)) := by rw [mWo6 h]; rfl
theorem mQ11b {α : Type} {f : Nat → Option α} {m N : Nat} {g : Nat → Nat → Int} : (zgQ (zG m N g) m 12 11).bind f = f (m + 7) := by rw [mQ11]; rfl
theorem mRo7b {α : Type} {f : Int → Option α} {m N : Nat} {g : Nat → Nat → Int} {i : Int} (h : 0 ≤ i ∧ i < 40) : (zaI (zG m N g) (m + 7) 20 i).bind f = f (g 7 i.toNat) := by rw [mRo7 h]; rfl
theorem mWo7b {α : Type} {f : Hp → Option α} {m N : Nat} {g : Nat → Nat → Int} {i v : Int} (h : 0 ≤ i ∧ i < 40) : (zaS (zG m N g) (m + 7) 20 i v).bind f = f (zG m N (gu g 7 i.toNat v)) := by rw [mWo7 h]; rfl
theorem mQ12b {α : Type} {f : Nat → Option α} {m N : Nat} {g : Nat → Nat → Int} : (zgQ (zG m N g) m 12 12).bind f = f (m + 8) := by rw [mQ12]; rfl
theorem mRo8b {α : Type} {f : Int → Option α} {m N : Nat} {g : Nat → Nat → Int} {i : Int} (h : 0 ≤ i ∧ i < 40) : (zaI (zG m N g) (m + 8) 20 i).bind f = f (g 8 i.toNat) := by rw [mRo8 h]; rfl
theorem mWo8b {α : Type} {f : Hp → Option α} {m N : Nat} {g : Nat → Nat → Int} {i v : Int} (h : 0 ≤ i ∧ i < 40) : (zaS (zG m N g) (m + 8) 20 i v).bind f = f (zG m N (gu g 8 i.toNat v)) := by rw [mWo8 h]; rfl
theorem mQ13b {α : Type} {f : Nat → Option α} {m N : Nat} {g : Nat → Nat → Int} : (zgQ (zG m N g) m 12 13).bind f = f (m + 9) := by rw [mQ13]; rfl
theorem mRo9b {α : Type} {f : Int → Option α} {m N : Nat} {g : Nat → Nat → Int} {i : Int} (h : 0 ≤ i ∧ i < 40) : (zaI (zG m N g) (m + 9) 20 i).bind f = f (g 9 i.toNat) := by rw [mRo9 h]; rfl
theorem mWo9b {α : Type} {f : Hp → Option α} {m N : Nat} {g : Nat → Nat → Int} {i v : Int} (h : 0 ≤ i ∧ i < 40) : (zaS (zG m N g) (m + 9) 20 i v).bind f = f (zG m N (gu g 9 i.toNat v)) := by rw [mWo9 h]; rfl
theorem mQ14b {α : Type} {f : Nat → Option α} {m N : Nat} {g : Nat → Nat → Int} : (zgQ (zG m N g) m 12 14).bind f = f (m + 10) := by rw [mQ14]; rfl
theorem mRo10b {α : Type} {f : Int → Option α} {m N : Nat} {g : Nat → Nat → Int} {i : Int} (h : 0 ≤ i ∧ i < 40) : (zaI (zG m N g) (m + 10) 20 i).bind f = f (g 10 i.toNat) := by rw [mRo10 h]; rfl
theorem mWo10b {α : Type} {f : Hp → Option α} {m N : Nat} {g : Nat → Nat → Int} {i v : Int} (h : 0 ≤ i ∧ i < 40) : (zaS (zG m N g) (m + 10) 20 i v).bind f = f (zG m N (gu g 10 i.toNat v)) := by rw [mWo10 h]; rfl
theorem mQ17b {α : Type} {f : Nat → Option α} {m N : Nat} {g : Nat → Nat → Int} : (zgQ (zG m N g) m 12 17).bind f = f (m + 11) := by rw [mQ17]; rfl
theorem mRo11b {α : Type} {f : Int → Option α} {m N : Nat} {g : Nat → Nat → Int} {i : Int} (h : 0 ≤ i ∧ i < 10) : (zaI (zG m N g) (m + 11) 20 i).bind f = f (g 11 i.toNat) := by rw [mRo11 h]; rfl
theorem mWo11b {α : Type} {f : Hp → Option α} {m N : Nat} {g : Nat → Nat → Int} {i v : Int} (h : 0 ≤ i ∧ i < 10) : (zaS (zG m N g) (m + 11) 20 i v).bind f = f (zG m N (gu g 11 i.toNat v)) := by rw [mWo11 h]; rfl
theorem mQ19b {α : Type} {f : Nat → Option α} {m N : Nat} {g : Nat → Nat → Int} : (zgQ (zG m N g) m 12 19).bind f = f (m + 12) := by rw [mQ19]; rfl
theorem mRo12b {α : Type} {f : Int → Option α} {m N : Nat} {g : Nat → Nat → Int} {i : Int} (h : 0 ≤ i ∧ i < 3) : (zaI (zG m N g) (m + 12) 20 i).bind f = f (g 12 i.toNat) := by rw [mRo12 h]; rfl
theorem mWo12b {α : Type} {f : Hp → Option α} {m N : Nat} {g : Nat → Nat → Int} {i v : Int} (h : 0 ≤ i ∧ i < 3) : (zaS (zG m N g) (m + 12) 20 i v).bind f = f (zG m N (gu g 12 i.toNat v)) := by rw [mWo12 h]; rfl
theorem mQ20b {α : Type} {f : Nat → Option α} {m N : Nat} {g : Nat → Nat → Int} : (zgQ (zG m N g) m 12 20).bind f = f (m + 13) := by rw [mQ20]; rfl
theorem mRo13b {α : Type} {f : Int → Option α} {m N : Nat} {g : Nat → Nat → Int} {i : Int} (h : 0 ≤ i ∧ i < 3) : (zaI (zG m N g) (m + 13) 20 i).bind f = f (g 13 i.toNat) := by rw [mRo13 h]; rfl
theorem mWo13b {α : Type} {f : Hp → Option α} {m N : Nat} {g : Nat → Nat → Int} {i v : Int} (h : 0 ≤ i ∧ i < 3) : (zaS (zG m N g) (m + 13) 20 i v).bind f = f (zG m N (gu g 13 i.toNat v)) := by rw [mWo13 h]; rfl
theorem mQ23b {α : Type} {f : Nat → Option α} {m N : Nat} {g : Nat → Nat → Int} : (zgQ (zG m N g) m 12 23).bind f = f (m + 14) := by rw [mQ23]; rfl
theorem mRo14b {α : Type} {f : Int → Option α} {m N : Nat} {g : Nat → Nat → Int} {i : Int} (h : 0 ≤ i ∧ i < 40) : (zaI (zG m N g) (m + 14) 22 i).bind f = f (g 14 i.toNat) := by rw [mRo14 h]; rfl
theorem mWo14b {α : Type} {f : Hp → Option α} {m N : Nat} {g : Nat → Nat → Int} {i v : Int} (h : 0 ≤ i ∧ i < 40) : (zaS (zG m N g) (m + 14) 22 i v).bind f = f (zG m N (gu g 14 i.toNat v)) := by rw [mWo14 h]; rfl
theorem mQ24b {α : Type} {f : Nat → Option α} {m N : Nat} {g : Nat → Nat → Int} : (zgQ (zG m N g) m 12 24).bind f = f (m + 15) := by rw [mQ24]; rfl
theorem mRo15b {α : Type} {f : Int → Option α} {m N : Nat} {g : Nat → Nat → Int} {i : Int} (h : 0 ≤ i ∧ i < 120) : (zaI (zG m N g) (m + 15) 20 i).bind f = f (g 15 i.toNat) := by rw [mRo15 h]; rfl
theorem mWo15b {α : Type} {f : Hp → Option α} {m N : Nat} {g : Nat → Nat → Int} {i v : Int} (h : 0 ≤ i ∧ i < 120) : (zaS (zG m N g) (m + 15) 20 i v).bind f = f (zG m N (gu g 15 i.toNat v)) := by rw [mWo15 h]; rfl
theorem mQ26b {α : Type} {f : Nat → Option α} {m N : Nat} {g : Nat → Nat → Int} : (zgQ (zG m N g) m 12 26).bind f = f (m + 16) := by rw [mQ26]; rfl
theorem mRo16b {α : Type} {f : Int → Option α} {m N : Nat} {g : Nat → Nat → Int} {i : Int} (h : 0 ≤ i ∧ i < 2400) : (zaI (zG m N g) (m + 16) 20 i).bind f = f (g 16 i.toNat) := by rw [mRo16 h]; rfl
theorem mWo16b {α : Type} {f : Hp → Option α} {m N : Nat} {g : Nat → Nat → Int} {i v : Int} (h : 0 ≤ i ∧ i < 2400) : (zaS (zG m N g) (m + 16) 20 i v).bind f = f (zG m N (gu g 16 i.toNat v)) := by rw [mWo16 h]; rfl
theorem mQ27b {α : Type} {f : Nat → Option α} {m N : Nat} {g : Nat → Nat → Int} : (zgQ (zG m N g) m 12 27).bind f = f (m + 17) := by rw [mQ27]; rfl
theorem mRo17b {α : Type} {f : Int → Option α} {m N : Nat} {g : Nat → Nat → Int} {i : Int} (h : 0 ≤ i ∧ i < 20) : (zaI (zG m N g) (m + 17) 20 i).bind f = f (g 17 i.toNat) := by rw [mRo17 h]; rfl
theorem mWo17b {α : Type} {f : Hp → Option α} {m N : Nat} {g : Nat → Nat → Int} {i v : Int} (h : 0 ≤ i ∧ i < 20) : (zaS (zG m N g) (m + 17) 20 i v).bind f = f (zG m N (gu g 17 i.toNat v)) := by rw [mWo17 h]; rfl
theorem mQ28b {α : Type} {f : Nat → Option α} {m N : Nat} {g : Nat → Nat → Int} : (zgQ (zG m N g) m 12 28).bind f = f (m + 18) := by rw [mQ28]; rfl
theorem mRo18b {α : Type} {f : Int → Option α} {m N : Nat} {g : Nat → Nat → Int} {i : Int} (h : 0 ≤ i ∧ i < 20) : (zaI (zG m N g) (m + 18) 20 i).bind f = f (g 18 i.toNat) := by rw [mRo18 h]; rfl
theorem mWo18b {α : Type} {f : Hp → Option α} {m N : Nat} {g : Nat → Nat → Int} {i v : Int} (h : 0 ≤ i ∧ i < 20) : (zaS (zG m N g) (m + 18) 20 i v).bind f = f (zG m N (gu g 18 i.toNat v)) := by rw [mWo18 h]; rfl
theorem mQ29b {α : Type} {f : Nat → Option α} {m N : Nat} {g : Nat → Nat → Int} : (zgQ (zG m N g) m 12 29).bind f = f (m + 19) := by rw [mQ29]; rfl
theorem mRo19b {α : Type} {f : Int → Option α} {m N : Nat} {g : Nat → Nat → Int} {i : Int} (h : 0 ≤ i ∧ i < 20) : (zaI (zG m N g) (m + 19) 20 i).bind f = f (g 19 i.toNat) := by rw [mRo19 h]; rfl
theorem mWo19b {α : Type} {f : Hp → Option α} {m N : Nat} {g : Nat → Nat → Int} {i v : Int} (h : 0 ≤ i ∧ i < 20) : (zaS (zG m N g) (m + 19) 20 i v).bind f = f (zG m N (gu g 19 i.toNat v)) := by rw [mWo19 h]; rfl
theorem mQ30b {α : Type} {f : Nat → Option α} {m N : Nat} {g : Nat → Nat → Int} : (zgQ (zG m N g) m 12 30).bind f = f (m + 20) := by rw [mQ30]; rfl
theorem mRo20b {α : Type} {f : Int → Option α} {m N : Nat} {g : Nat → Nat → Int} {i : Int} (h : 0 ≤ i ∧ i < 20) : (zaI (zG m N g) (m + 20) 20 i).bind f = f (g 20 i.toNat) := by rw [mRo20 h]; rfl
theorem mWo20b {α : Type} {f : Hp → Option α} {m N : Nat} {g : Nat → Nat → Int} {i v : Int} (h : 0 ≤ i ∧ i < 20) : (zaS (zG m N g) (m + 20) 20 i v).bind f = f (zG m N (gu g 20 i.toNat v)) := by rw [mWo20 h]; rfl
theorem mQ32b {α : Type} {f : Nat → Option α} {m N : Nat} {g : Nat → Nat → Int} : (zgQ (zG m N g) m 12 32).bind f = f (m + 21) := by rw [mQ32]; rfl
theorem mRo21b {α : Type} {f : Int → Option α} {m N : Nat} {g : Nat → Nat → Int} {i : Int} (h : 0 ≤ i ∧ i < 5) : (zaI (zG m N g) (m + 21) 20 i).bind f = f (g 21 i.toNat) := by rw [mRo21 h]; rfl
theorem mWo21b {α : Type} {f : Hp → Option α} {m N : Nat} {g : Nat → Nat → Int} {i v : Int} (h : 0 ≤ i ∧ i < 5) : (zaS (zG m N g) (m + 21) 20 i v).bind f = f (zG m N (gu g 21 i.toNat v)) := by rw [mWo21 h]; rfl
theorem mQ33b {α : Type} {f : Nat → Option α} {m N : Nat} {g : Nat → Nat → Int} : (zgQ (zG m N g) m 12 33).bind f = f (m + 22) := by rw [mQ33]; rfl
theorem mRo22b {α : Type} {f : Int → Option α} {m N : Nat} {g : Nat → Nat → Int} {i : Int} (h : 0 ≤ i ∧ i < 13320) : (zaI (zG m N g) (m + 22) 21 i).bind f = f (g 22 i.toNat) := by rw [mRo22 h]; rfl
theorem mWo22b {α : Type} {f : Hp → Option α} {m N : Nat} {g : Nat → Nat → Int} {i v : Int} (h : 0 ≤ i ∧ i < 13320) (hv : v = 0 ∨ v = 1) : (zaSZ (zG m N g) (m + 22) 21 i v).bind f = f (zG m N (gu g 22 i.toNat v)) := by rw [mWo22 h hv]; rfl
theorem mQ34b {α : Type} {f : Nat → Option α} {m N : Nat} {g : Nat → Nat → Int} : (zgQ (zG m N g) m 12 34).bind f = f (m + 23) := by rw [mQ34]; rfl
theorem mRo23b {α : Type} {f : Int → Option α} {m N : Nat} {g : Nat → Nat → Int} {i : Int} (h : 0 ≤ i ∧ i < 13320) : (zaI (zG m N g) (m + 23) 20 i).bind f = f (g 23 i.toNat) := by rw [mRo23 h]; rfl
theorem mWo23b {α : Type} {f : Hp → Option α} {m N : Nat} {g : Nat → Nat → Int} {i v : Int} (h : 0 ≤ i ∧ i < 13320) : (zaS (zG m N g) (m + 23) 20 i v).bind f = f (zG m N (gu g 23 i.toNat v)) := by rw [mWo23 h]; rfl
theorem mQ35b {α : Type} {f : Nat → Option α} {m N : Nat} {g : Nat → Nat → Int} : (zgQ (zG m N g) m 12 35).bind f = f (m + 24) := by rw [mQ35]; rfl
theorem mRo24b {α : Type} {f : Int → Option α} {m N : Nat} {g : Nat → Nat → Int} {i : Int} (h : 0 ≤ i ∧ i < 13320) : (zaI (zG m N g) (m + 24) 20 i).bind f = f (g 24 i.toNat) := by rw [mRo24 h]; rfl
theorem mWo24b {α : Type} {f : Hp → Option α} {m N : Nat} {g : Nat → Nat → Int} {i v : Int} (h : 0 ≤ i ∧ i < 13320) : (zaS (zG m N g) (m + 24) 20 i v).bind f = f (zG m N (gu g 24 i.toNat v)) := by rw [mWo24 h]; rfl
theorem mQ36b {α : Type} {f : Nat → Option α} {m N : Nat} {g : Nat → Nat → Int} : (zgQ (zG m N g) m 12 36).bind f = f (m + 25) := by rw [mQ36]; rfl
theorem mRo25b {α : Type} {f : Int → Option α} {m N : Nat} {g : Nat → Nat → Int} {i : Int} (h : 0 ≤ i ∧ i < 13320) : (zaI (zG m N g) (m + 25) 20 i).bind f = f (g 25 i.toNat) := by rw [mRo25 h]; rfl
theorem mWo25b {α : Type} {f : Hp → Option α} {m N : Nat} {g : Nat → Nat → Int} {i v : Int} (h : 0 ≤ i ∧ i < 13320) : (zaS (zG m N g) (m + 25) 20 i v).bind f = f (zG m N (gu g 25 i.toNat v)) := by rw [mWo25 h]; rfl
theorem mQ37b {α : Type} {f : Nat → Option α} {m N : Nat} {g : Nat → Nat → Int} : (zgQ (zG m N g) m 12 37).bind f = f (m + 26) := by rw [mQ37]; rfl
theorem mRo26b {α : Type} {f : Int → Option α} {m N : Nat} {g : Nat → Nat → Int} {i : Int} (h : 0 ≤ i ∧ i < 13320) : (zaI (zG m N g) (m + 26) 20 i).bind f = f (g 26 i.toNat) := by rw [mRo26 h]; rfl
theorem mWo26b {α : Type} {f : Hp → Option α} {m N : Nat} {g : Nat → Nat → Int} {i v : Int} (h : 0 ≤ i ∧ i < 13320) : (zaS (zG m N g) (m + 26) 20 i v).bind f = f (zG m N (gu g 26 i.toNat v)) := by rw [mWo26 h]; rfl
theorem mQ38b {α : Type} {f : Nat → Option α} {m N : Nat} {g : Nat → Nat → Int} : (zgQ (zG m N g) m 12 38).bind f = f (m + 27) := by rw [mQ38]; rfl
theorem mRo27b {α : Type} {f : Int → Option α} {m N : Nat} {g : Nat → Nat → Int} {i : Int} (h : 0 ≤ i ∧ i < 13320) : (zaI (zG m N g) (m + 27) 20 i).bind f = f (g 27 i.toNat) := by rw [mRo27 h]; rfl
theorem mWo27b {α : Type} {f : Hp → Option α} {m N : Nat} {g : Nat → Nat → Int} {i v : Int} (h : 0 ≤ i ∧ i < 13320) : (zaS (zG m N g) (m + 27) 20 i v).bind f = f (zG m N (gu g 27 i.toNat v)) := by rw [mWo27 h]; rfl
theorem mQ39b {α : Type} {f : Nat → Option α} {m N : Nat} {g : Nat → Nat → Int} : (zgQ (zG m N g) m 12 39).bind f = f (m + 28) := by rw [mQ39]; rfl
theorem mRo28b {α : Type} {f : Int → Option α} {m N : Nat} {g : Nat → Nat → Int} {i : Int} (h : 0 ≤ i ∧ i < 13320) : (zaI (zG m N g) (m + 28) 20 i).bind f = f (g 28 i.toNat) := by rw [mRo28 h]; rfl
theorem mWo28b {α : Type} {f : Hp → Option α} {m N : Nat} {g : Nat → Nat → Int} {i v : Int} (h : 0 ≤ i ∧ i < 13320) : (zaS (zG m N g) (m + 28) 20 i v).bind f = f (zG m N (gu g 28 i.toNat v)) := by rw [mWo28 h]; rfl
theorem mQ40b {α : Type} {f : Nat → Option α} {m N : Nat} {g : Nat → Nat → Int} : (zgQ (zG m N g) m 12 40).bind f = f (m + 29) := by rw [mQ40]; rfl
theorem mRo29b {α : Type} {f : Int → Option α} {m N : Nat} {g : Nat → Nat → Int} {i : Int} (h : 0 ≤ i ∧ i < 13320) : (zaI (zG m N g) (m + 29) 20 i).bind f = f (g 29 i.toNat) := by rw [mRo29 h]; rfl
theorem mWo29b {α : Type} {f : Hp → Option α} {m N : Nat} {g : Nat → Nat → Int} {i v : Int} (h : 0 ≤ i ∧ i < 13320) : (zaS (zG m N g) (m + 29) 20 i v).bind f = f (zG m N (gu g 29 i.toNat v)) := by rw [mWo29 h]; rfl
theorem mQ41b {α : Type} {f : Nat → Option α} {m N : Nat} {g : Nat → Nat → Int} : (zgQ (zG m N g) m 12 41).bind f = f (m + 30) := by rw [mQ41]; rfl
theorem mRo30b {α : Type} {f : Int → Option α} {m N : Nat} {g : Nat → Nat → Int} {i : Int} (h : 0 ≤ i ∧ i < 40) : (zaI (zG m N g) (m + 30) 20 i).bind f = f (g 30 i.toNat) := by rw [mRo30 h]; rfl
theorem mWo30b {α : Type} {f : Hp → Option α} {m N : Nat} {g : Nat → Nat → Int} {i v : Int} (h : 0 ≤ i ∧ i < 40) : (zaS (zG m N g) (m + 30) 20 i v).bind f = f (zG m N (gu g 30 i.toNat v)) := by rw [mWo30 h]; rfl
theorem mQ43b {α : Type} {f : Nat → Option α} {m N : Nat} {g : Nat → Nat → Int} : (zgQ (zG m N g) m 12 43).bind f = f (m + 31) := by rw [mQ43]; rfl
theorem mRo31b {α : Type} {f : Int → Option α} {m N : Nat} {g : Nat → Nat → Int} {i : Int} (h : 0 ≤ i ∧ i < 40) : (zaI (zG m N g) (m + 31) 20 i).bind f = f (g 31 i.toNat) := by rw [mRo31 h]; rfl
theorem mWo31b {α : Type} {f : Hp → Option α} {m N : Nat} {g : Nat → Nat → Int} {i v : Int} (h : 0 ≤ i ∧ i < 40) : (zaS (zG m N g) (m + 31) 20 i v).bind f = f (zG m N (gu g 31 i.toNat v)) := by rw [mWo31 h]; rfl
theorem mQ44b {α : Type} {f : Nat → Option α} {m N : Nat} {g : Nat → Nat → Int} : (zgQ (zG m N g) m 12 44).bind f = f (m + 32) := by rw [mQ44]; rfl
theorem mRo32b {α : Type} {f : Int → Option α} {m N : Nat} {g : Nat → Nat → Int} {i : Int} (h : 0 ≤ i ∧ i < 40) : (zaI (zG m N g) (m + 32) 20 i).bind f = f (g 32 i.toNat) := by rw [mRo32 h]; rfl
theorem mWo32b {α : Type} {f : Hp → Option α} {m N : Nat} {g : Nat → Nat → Int} {i v : Int} (h : 0 ≤ i ∧ i < 40) : (zaS (zG m N g) (m + 32) 20 i v).bind f = f (zG m N (gu g 32 i.toNat v)) := by rw [mWo32 h]; rfl
theorem mQ45b {α : Type} {f : Nat → Option α} {m N : Nat} {g : Nat → Nat → Int} : (zgQ (zG m N g) m 12 45).bind f = f (m + 33) := by rw [mQ45]; rfl
theorem mRo33b {α : Type} {f : Int → Option α} {m N : Nat} {g : Nat → Nat → Int} {i : Int} (h : 0 ≤ i ∧ i < 40) : (zaI (zG m N g) (m + 33) 20 i).bind f = f (g 33 i.toNat) := by rw [mRo33 h]; rfl
theorem mWo33b {α : Type} {f : Hp → Option α} {m N : Nat} {g : Nat → Nat → Int} {i v : Int} (h : 0 ≤ i ∧ i < 40) : (zaS (zG m N g) (m + 33) 20 i v).bind f = f (zG m N (gu g 33 i.toNat v)) := by rw [mWo33 h]; rfl
theorem mQ46b {α : Type} {f : Nat → Option α} {m N : Nat} {g : Nat → Nat → Int} : (zgQ (zG m N g) m 12 46).bind f = f (m + 34) := by rw [mQ46]; rfl
theorem mRo34b {α : Type} {f : Int → Option α} {m N : Nat} {g : Nat → Nat → Int} {i : Int} (h : 0 ≤ i ∧ i < 40) : (zaI (zG m N g) (m + 34) 20 i).bind f = f (g 34 i.toNat) := by rw [mRo34 h]; rfl
theorem mWo34b {α : Type} {f : Hp → Option α} {m N : Nat} {g : Nat → Nat → Int} {i v : Int} (h : 0 ≤ i ∧ i < 40) : (zaS (zG m N g) (m + 34) 20 i v).bind f = f (zG m N (gu g 34 i.toNat v)) := by rw [mWo34 h]; rfl
theorem mQ47b {α : Type} {f : Nat → Option α} {m N : Nat} {g : Nat → Nat → Int} : (zgQ (zG m N g) m 12 47).bind f = f (m + 35) := by rw [mQ47]; rfl
theorem mRo35b {α : Type} {f : Int → Option α} {m N : Nat} {g : Nat → Nat → Int} {i : Int} (h : 0 ≤ i ∧ i < 40) : (zaI (zG m N g) (m + 35) 20 i).bind f = f (g 35 i.toNat) := by rw [mRo35 h]; rfl
theorem mWo35b {α : Type} {f : Hp → Option α} {m N : Nat} {g : Nat → Nat → Int} {i v : Int} (h : 0 ≤ i ∧ i < 40) : (zaS (zG m N g) (m + 35) 20 i v).bind f = f (zG m N (gu g 35 i.toNat v)) := by rw [mWo35 h]; rfl
theorem mQ48b {α : Type} {f : Nat → Option α} {m N : Nat} {g : Nat → Nat → Int} : (zgQ (zG m N g) m 12 48).bind f = f (m + 36) := by rw [mQ48]; rfl
theorem mRo36b {α : Type} {f : Int → Option α} {m N : Nat} {g : Nat → Nat → Int} {i : Int} (h : 0 ≤ i ∧ i < 40) : (zaI (zG m N g) (m + 36) 20 i).bind f = f (g 36 i.toNat) := by rw [mRo36 h]; rfl
theorem mWo36b {α : Type} {f : Hp → Option α} {m N : Nat} {g : Nat → Nat → Int} {i v : Int} (h : 0 ≤ i ∧ i < 40) : (zaS (zG m N g) (m + 36) 20 i v).bind f = f (zG m N (gu g 36 i.toNat v)) := by rw [mWo36 h]; rfl
theorem mQ50b {α : Type} {f : Nat → Option α} {m N : Nat} {g : Nat → Nat → Int} : (zgQ (zG m N g) m 12 50).bind f = f (m + 37) := by rw [mQ50]; rfl
theorem mRo37b {α : Type} {f : Int → Option α} {m N : Nat} {g : Nat → Nat → Int} {i : Int} (h : 0 ≤ i ∧ i < 40) : (zaI (zG m N g) (m + 37) 20 i).bind f = f (g 37 i.toNat) := by rw [mRo37 h]; rfl
theorem mWo37b {α : Type} {f : Hp → Option α} {m N : Nat} {g : Nat → Nat → Int} {i v : Int} (h : 0 ≤ i ∧ i < 40) : (zaS (zG m N g) (m + 37) 20 i v).bind f = f (zG m N (gu g 37 i.toNat v)) := by rw [mWo37 h]; rfl
theorem mQ51b {α : Type} {f : Nat → Option α} {m N : Nat} {g : Nat → Nat → Int} : (zgQ (zG m N g) m 12 51).bind f = f (m + 38) := by rw [mQ51]; rfl
theorem mRo38b {α : Type} {f : Int → Option α} {m N : Nat} {g : Nat → Nat → Int} {i : Int} (h : 0 ≤ i ∧ i < 40) : (zaI (zG m N g) (m + 38) 20 i).bind f = f (g 38 i.toNat) := by rw [mRo38 h]; rfl
theorem mWo38b {α : Type} {f : Hp → Option α} {m N : Nat} {g : Nat → Nat → Int} {i v : Int} (h : 0 ≤ i ∧ i < 40) : (zaS (zG m N g) (m + 38) 20 i v).bind f = f (zG m N (gu g 38 i.toNat v)) := by rw [mWo38 h]; rfl
theorem mQ52b {α : Type} {f : Nat → Option α} {m N : Nat} {g : Nat → Nat → Int} : (zgQ (zG m N g) m 12 52).bind f = f (m + 39) := by rw [mQ52]; rfl
theorem mRo39b {α : Type} {f : Int → Option α} {m N : Nat} {g : Nat → Nat → Int} {i : Int} (h : 0 ≤ i ∧ i < 10) : (zaI (zG m N g) (m + 39) 20 i).bind f = f (g 39 i.toNat) := by rw [mRo39 h]; rfl
theorem mWo39b {α : Type} {f : Hp → Option α} {m N : Nat} {g : Nat → Nat → Int} {i v : Int} (h : 0 ≤ i ∧ i < 10) : (zaS (zG m N g) (m + 39) 20 i v).bind f = f (zG m N (gu g 39 i.toNat v)) := by rw [mWo39 h]; rfl
theorem zcs {α : Type} {a : Nat} {e : Option α} {f : Nat → Option α} : zcase (some a) e f = f a := rfl
theorem zcn {α : Type} {e : Option α} {f : Nat → Option α} : zcase none e f = e := rfl
section XPB
variable {x N : Nat} {c : Nat → Key} {V : Key → Nat → Int} {R : Key → Nat → Option Nat} {K : Key → Option (Nat × Nat)}
theorem xI0b {α : Type} {f : Int → Option α} (h : CX x c) (i : Nat) : (zgI (zX x c N V R K) x 11 i).bind f = f (V (0, 0, 0) i) := by rw [xI0 h]; rfl
theorem xP0b {α : Type} {f : Hp → Option α} (h : CX x c) (i : Nat) (v : Int) : (zpI (zX x c N V R K) x 11 i v).bind f = f (zX x c N (ku V (0, 0, 0) i v) R K) := by rw [xP0 h]; rfl
theorem xI1b {α : Type} {f : Int → Option α} (h : CX x c) (i : Nat) : (zgI (zX x c N V R K) (x + 1) 10 i).bind f = f (V (0, 1, 0) i) := by rw [xI1 h]; rfl
theorem xP1b {α : Type} {f : Hp → Option α} (h : CX x c) (i : Nat) (v : Int) : (zpI (zX x c N V R K) (x + 1) 10 i v).bind f = f (zX x c N (ku V (0, 1, 0) i v) R K) := by rw [xP1 h]; rfl
theorem xI66b {α : Type} {f : Int → Option α} (h : CX x c) (i : Nat) : (zgI (zX x c N V R K) (x + 66) 0 i).bind f = f (V (0, 66, 0) i) := by rw [xI66 h]; rfl
theorem xP66b {α : Type} {f : Hp → Option α} (h : CX x c) (i : Nat) (v : Int) : (zpI (zX x c N V R K) (x + 66) 0 i v).bind f = f (zX x c N (ku V (0, 66, 0) i v) R K) := by rw [xP66 h]; rfl
theorem xI68b {α : Type} {f : Int → Option α} (h : CX x c) (i : Nat) : (zgI (zX x c N V R K) (x + 68) 2 i).bind f = f (V (0, 68, 0) i) := by rw [xI68 h]; rfl
theorem xP68b {α : Type} {f : Hp → Option α} (h : CX x c) (i : Nat) (v : Int) : (zpI (zX x c N V R K) (x + 68) 2 i v).bind f = f (zX x c N (ku V (0, 68, 0) i v) R K) := by rw [xP68 h]; rfl
theorem xI115b {α : Type} {f : Int → Option α} (h : CX x c) (i : Nat) : (zgI (zX x c N V R K) (x + 115) 8 i).bind f = f (V (0, 115, 0) i) := by rw [xI115 h]; rfl
theorem xP115b {α : Type} {f : Hp → Option α} (h : CX x c) (i : Nat) (v : Int) : (zpI (zX x c N V R K) (x + 115) 8 i v).bind f = f (zX x c N (ku V (0, 115, 0) i v) R K) := by rw [xP115 h]; rfl
theorem xI120b {α : Type} {f : Int → Option α} (h : CX x c) (i : Nat) : (zgI (zX x c N V R K) (x + 120) 6 i).bind f = f (V (0, 120, 0) i) := by rw [xI120 h]; rfl
theorem xP120b {α : Type} {f : Hp → Option α} (h : CX x c) (i : Nat) (v : Int) : (zpI (zX x c N V R K) (x + 120) 6 i v).bind f = f (zX x c N (ku V (0, 120, 0) i v) R K) := by rw [xP120 h]; rfl
theorem xI121b {α : Type} {f : Int → Option α} (h : CX x c) (i : Nat) : (zgI (zX x c N V R K) (x + 121) 5 i).bind f = f (V (0, 121, 0) i) := by rw [xI121 h]; rfl
theorem xP121b {α : Type} {f : Hp → Option α} (h : CX x c) (i : Nat) (v : Int) : (zpI (zX x c N V R K) (x + 121) 5 i v).bind f = f (zX x c N (ku V (0, 121, 0) i v) R K) := by rw [xP121 h]; rfl
theorem xI125b {α : Type} {f : Int → Option α} (h : CX x c) (i : Nat) : (zgI (zX x c N V R K) (x + 125) 1 i).bind f = f (V (0, 125, 0) i) := by rw [xI125 h]; rfl
theorem xP125b {α : Type} {f : Hp → Option α} (h : CX x c) (i : Nat) (v : Int) : (zpI (zX x c N V R K) (x + 125) 1 i v).bind f = f (zX x c N (ku V (0, 125, 0) i v) R K) := by rw [xP125 h]; rfl
theorem xI127b {α : Type} {f : Int → Option α} (h : CX x c) (i : Nat) : (zgI (zX x c N V R K) (x + 127) 4 i).bind f = f (V (0, 127, 0) i) := by rw [xI127 h]; rfl
theorem xP127b {α : Type} {f : Hp → Option α} (h : CX x c) (i : Nat) (v : Int) : (zpI (zX x c N V R K) (x + 127) 4 i v).bind f = f (zX x c N (ku V (0, 127, 0) i v) R K) := by rw [xP127 h]; rfl
theorem xN2b {α : Type} {f : Int → Option α} (h : CX x c) : (zaN (zX x c N V R K) (x + 2) 20).bind f = f (30) := by rw [xN2 h]; rfl
theorem xRo2b {α : Type} {f : Int → Option α} (h : CX x c) {i : Int} (hi : 0 ≤ i ∧ i < 30) : (zaI (zX x c N V R K) (x + 2) 20 i).bind f = f (V (0, 2, 0) i.toNat) := by rw [xRo2 h hi]; rfl
theorem xWo2b {α : Type} {f : Hp → Option α} (h : CX x c) {i v : Int} (hi : 0 ≤ i ∧ i < 30) : (zaS (zX x c N V R K) (x + 2) 20 i v).bind f = f (zX x c N (ku V (0, 2, 0) i.toNat v) R K) := by rw [xWo2 h hi]; rfl
theorem xN65b {α : Type} {f : Int → Option α} (h : CX x c) : (zaN (zX x c N V R K) (x + 65) 20).bind f = f (10) := by rw [xN65 h]; rfl
theorem xRo65b {α : Type} {f : Int → Option α} (h : CX x c) {i : Int} (hi : 0 ≤ i ∧ i < 10) : (zaI (zX x c N V R K) (x + 65) 20 i).bind f = f (V (0, 65, 0) i.toNat) := by rw [xRo65 h hi]; rfl
theorem xWo65b {α : Type} {f : Hp → Option α} (h : CX x c) {i v : Int} (hi : 0 ≤ i ∧ i < 10) : (zaS (zX x c N V R K) (x + 65) 20 i v).bind f = f (zX x c N (ku V (0, 65, 0) i.toNat v) R K) := by rw [xWo65 h hi]; rfl
theorem xN113b {α : Type} {f : Int → Option α} (h : CX x c) : (zaN (zX x c N V R K) (x + 113) 20).bind f = f (43) := by rw [xN113 h]; rfl
theorem xRo113b {α : Type} {f : Int → Option α} (h : CX x c) {i : Int} (hi : 0 ≤ i ∧ i < 43) : (zaI (zX x c N V R K) (x + 113) 20 i).bind f = f (V (0, 113, 0) i.toNat) := by rw [xRo113 h hi]; rfl
theorem xWo113b {α : Type} {f : Hp → Option α} (h : CX x c) {i v : Int} (hi : 0 ≤ i ∧ i < 43) : (zaS (zX x c N V R K) (x + 113) 20 i v).bind f = f (zX x c N (ku V (0, 113, 0) i.toNat v) R K) := by rw [xWo113 h hi]; rfl
theorem xN114b {α : Type} {f : Int → Option α} (h : CX x c) : (zaN (zX x c N V R K) (x + 114) 20).bind f = f (30) := by rw [xN114 h]; rfl
theorem xRo114b {α : Type} {f : Int → Option α} (h : CX x c) {i : Int} (hi : 0 ≤ i ∧ i < 30) : (zaI (zX x c N V R K) (x + 114) 20 i).bind f = f (V (0, 114, 0) i.toNat) := by rw [xRo114 h hi]; rfl
theorem xWo114b {α : Type} {f : Hp → Option α} (h : CX x c) {i v : Int} (hi : 0 ≤ i ∧ i < 30) : (zaS (zX x c N V R K) (x + 114) 20 i v).bind f = f (zX x c N (ku V (0, 114, 0) i.toNat v) R K) := by rw [xWo114 h hi]; rfl
theorem xN116b {α : Type} {f : Int → Option α} (h : CX x c) : (zaN (zX x c N V R K) (x + 116) 20).bind f = f (10) := by rw [xN116 h]; rfl
theorem xRo116b {α : Type} {f : Int → Option α} (h : CX x c) {i : Int} (hi : 0 ≤ i ∧ i < 10) : (zaI (zX x c N V R K) (x + 116) 20 i).bind f = f (V (0, 116, 0) i.toNat) := by rw [xRo116 h hi]; rfl
theorem xWo116b {α : Type} {f : Hp → Option α} (h : CX x c) {i v : Int} (hi : 0 ≤ i ∧ i < 10) : (zaS (zX x c N V R K) (x + 116) 20 i v).bind f = f (zX x c N (ku V (0, 116, 0) i.toNat v) R K) := by rw [xWo116 h hi]; rfl
theorem xN117b {α : Type} {f : Int → Option α} (h : CX x c) : (zaN (zX x c N V R K) (x + 117) 20).bind f = f (40) := by rw [xN117 h]; rfl
theorem xRo117b {α : Type} {f : Int → Option α} (h : CX x c) {i : Int} (hi : 0 ≤ i ∧ i < 40) : (zaI (zX x c N V R K) (x + 117) 20 i).bind f = f (V (0, 117, 0) i.toNat) := by rw [xRo117 h hi]; rfl
theorem xWo117b {α : Type} {f : Hp → Option α} (h : CX x c) {i v : Int} (hi : 0 ≤ i ∧ i < 40) : (zaS (zX x c N V R K) (x + 117) 20 i v).bind f = f (zX x c N (ku V (0, 117, 0) i.toNat v) R K) := by rw [xWo117 h hi]; rfl
theorem xN118b {α : Type} {f : Int → Option α} (h : CX x c) : (zaN (zX x c N V R K) (x + 118) 20).bind f = f (3) := by rw [xN118 h]; rfl
theorem xRo118b {α : Type} {f : Int → Option α} (h : CX x c) {i : Int} (hi : 0 ≤ i ∧ i < 3) : (zaI (zX x c N V R K) (x + 118) 20 i).bind f = f (V (0, 118, 0) i.toNat) := by rw [xRo118 h hi]; rfl
theorem xWo118b {α : Type} {f : Hp → Option α} (h : CX x c) {i v : Int} (hi : 0 ≤ i ∧ i < 3) : (zaS (zX x c N V R K) (x + 118) 20 i v).bind f = f (zX x c N (ku V (0, 118, 0) i.toNat v) R K) := by rw [xWo118 h hi]; rfl
theorem xN119b {α : Type} {f : Int → Option α} (h : CX x c) : (zaN (zX x c N V R K) (x + 119) 20).bind f = f (3) := by rw [xN119 h]; rfl
theorem xRo119b {α : Type} {f : Int → Option α} (h : CX x c) {i : Int} (hi : 0 ≤ i ∧ i < 3) : (zaI (zX x c N V R K) (x + 119) 20 i).bind f = f (V (0, 119, 0) i.toNat) := by rw [xRo119 h hi]; rfl
theorem xWo119b {α : Type} {f : Hp → Option α} (h : CX x c) {i v : Int} (hi : 0 ≤ i ∧ i < 3) : (zaS (zX x c N V R K) (x + 119) 20 i v).bind f = f (zX x c N (ku V (0, 119, 0) i.toNat v) R K) := by rw [xWo119 h hi]; rfl
theorem xN122b {α : Type} {f : Int → Option α} (h : CX x c) : (zaN (zX x c N V R K) (x + 122) 20).bind f = f (120) := by rw [xN122 h]; rfl
theorem xRo122b {α : Type} {f : Int → Option α} (h : CX x c) {i : Int} (hi : 0 ≤ i ∧ i < 120) : (zaI (zX x c N V R K) (x + 122) 20 i).bind f = f (V (0, 122, 0) i.toNat) := by rw [xRo122 h hi]; rfl
theorem xWo122b {α : Type} {f : Hp → Option α} (h : CX x c) {i v : Int} (hi : 0 ≤ i ∧ i < 120) : (zaS (zX x c N V R K) (x + 122) 20 i v).bind f = f (zX x c N (ku V (0, 122, 0) i.toNat v) R K) := by rw [xWo122 h hi]; rfl
theorem xN124b {α : Type} {f : Int → Option α} (h : CX x c) : (zaN (zX x c N V R K) (x + 124) 20).bind f = f (120) := by rw [xN124 h]; rfl
theorem xRo124b {α : Type} {f : Int → Option α} (h : CX x c) {i : Int} (hi : 0 ≤ i ∧ i < 120) : (zaI (zX x c N V R K) (x + 124) 20 i).bind f = f (V (0, 124, 0) i.toNat) := by rw [xRo124 h hi]; rfl
theorem xWo124b {α : Type} {f : Hp → Option α} (h : CX x c) {i v : Int} (hi : 0 ≤ i ∧ i < 120) : (zaS (zX x c N V R K) (x + 124) 20 i v).bind f = f (zX x c N (ku V (0, 124, 0) i.toNat v) R K) := by rw [xWo124 h hi]; rfl
theorem xN126b {α : Type} {f : Int → Option α} (h : CX x c) : (zaN (zX x c N V R K) (x + 126) 20).bind f = f (40) := by rw [xN126 h]; rfl
theorem xRo126b {α : Type} {f : Int → Option α} (h : CX x c) {i : Int} (hi : 0 ≤ i ∧ i < 40) : (zaI (zX x c N V R K) (x + 126) 20 i).bind f = f (V (0, 126, 0) i.toNat) := by rw [xRo126 h hi]; rfl
theorem xWo126b {α : Type} {f : Hp → Option α} (h : CX x c) {i v : Int} (hi : 0 ≤ i ∧ i < 40) : (zaS (zX x c N V R K) (x + 126) 20 i v).bind f = f (zX x c N (ku V (0, 126, 0) i.toNat v) R K) := by rw [xWo126 h hi]; rfl
theorem xN128b {α : Type} {f : Int → Option α} (h : CX x c) : (zaN (zX x c N V R K) (x + 128) 20).bind f = f (10) := by rw [xN128 h]; rfl
theorem xRo128b {α : Type} {f : Int → Option α} (h : CX x c) {i : Int} (hi : 0 ≤ i ∧ i < 10) : (zaI (zX x c N V R K) (x + 128) 20 i).bind f = f (V (0, 128, 0) i.toNat) := by rw [xRo128 h hi]; rfl
theorem xWo128b {α : Type} {f : Hp → Option α} (h : CX x c) {i v : Int} (hi : 0 ≤ i ∧ i < 10) : (zaS (zX x c N V R K) (x + 128) 20 i v).bind f = f (zX x c N (ku V (0, 128, 0) i.toNat v) R K) := by rw [xWo128 h hi]; rfl
theorem xN129b {α : Type} {f : Int → Option α} (h : CX x c) : (zaN (zX x c N V R K) (x + 129) 20).bind f = f (10) := by rw [xN129 h]; rfl
theorem xRo129b {α : Type} {f : Int → Option α} (h : CX x c) {i : Int} (hi : 0 ≤ i ∧ i < 10) : (zaI (zX x c N V R K) (x + 129) 20 i).bind f = f (V (0, 129, 0) i.toNat) := by rw [xRo129 h hi]; rfl
theorem xWo129b {α : Type} {f : Hp → Option α} (h : CX x c) {i v : Int} (hi : 0 ≤ i ∧ i < 10) : (zaS (zX x c N V R K) (x + 129) 20 i v).bind f = f (zX x c N (ku V (0, 129, 0) i.toNat v) R K) := by rw [xWo129 h hi]; rfl
theorem xN130b {α : Type} {f : Int → Option α} (h : CX x c) : (zaN (zX x c N V R K) (x + 130) 20).bind f = f (10) := by rw [xN130 h]; rfl
theorem xRo130b {α : Type} {f : Int → Option α} (h : CX x c) {i : Int} (hi : 0 ≤ i ∧ i < 10) : (zaI (zX x c N V R K) (x + 130) 20 i).bind f = f (V (0, 130, 0) i.toNat) := by rw [xRo130 h hi]; rfl
theorem xWo130b {α : Type} {f : Hp → Option α} (h : CX x c) {i v : Int} (hi : 0 ≤ i ∧ i < 10) : (zaS (zX x c N V R K) (x + 130) 20 i v).bind f = f (zX x c N (ku V (0, 130, 0) i.toNat v) R K) := by rw [xWo130 h hi]; rfl
theorem xN131b {α : Type} {f : Int → Option α} (h : CX x c) : (zaN (zX x c N V R K) (x + 131) 20).bind f = f (10) := by rw [xN131 h]; rfl
theorem xRo131b {α : Type} {f : Int → Option α} (h : CX x c) {i : Int} (hi : 0 ≤ i ∧ i < 10) : (zaI (zX x c N V R K) (x + 131) 20 i).bind f = f (V (0, 131, 0) i.toNat) := by rw [xRo131 h hi]; rfl
theorem xWo131b {α : Type} {f : Hp → Option α} (h : CX x c) {i v : Int} (hi : 0 ≤ i ∧ i < 10) : (zaS (zX x c N V R K) (x + 131) 20 i v).bind f = f (zX x c N (ku V (0, 131, 0) i.toNat v) R K) := by rw [xWo131 h hi]; rfl
theorem xN132b {α : Type} {f : Int → Option α} (h : CX x c) : (zaN (zX x c N V R K) (x + 132) 20).bind f = f (10) := by rw [xN132 h]; rfl
theorem xRo132b {α : Type} {f : Int → Option α} (h : CX x c) {i : Int} (hi : 0 ≤ i ∧ i < 10) : (zaI (zX x c N V R K) (x + 132) 20 i).bind f = f (V (0, 132, 0) i.toNat) := by rw [xRo132 h hi]; rfl
theorem xWo132b {α : Type} {f : Hp → Option α} (h : CX x c) {i v : Int} (hi : 0 ≤ i ∧ i < 10) : (zaS (zX x c N V R K) (x + 132) 20 i v).bind f = f (zX x c N (ku V (0, 132, 0) i.toNat v) R K) := by rw [xWo132 h hi]; rfl
theorem xN133b {α : Type} {f : Int → Option α} (h : CX x c) : (zaN (zX x c N V R K) (x + 133) 20).bind f = f (10) := by rw [xN133 h]; rfl
theorem xRo133b {α : Type} {f : Int → Option α} (h : CX x c) {i : Int} (hi : 0 ≤ i ∧ i < 10) : (zaI (zX x c N V R K) (x + 133) 20 i).bind f = f (V (0, 133, 0) i.toNat) := by rw [xRo133 h hi]; rfl
theorem xWo133b {α : Type} {f : Hp → Option α} (h : CX x c) {i v : Int} (hi : 0 ≤ i ∧ i < 10) : (zaS (zX x c N V R K) (x + 133) 20 i v).bind f = f (zX x c N (ku V (0, 133, 0) i.toNat v) R K) := by rw [xWo133 h hi]; rfl
theorem xN67b {α : Type} {f : Int → Option α} (h : CX x c) : (zaN (zX x c N V R K) (x + 67) 23).bind f = f (40) := by rw [xN67 h]; rfl
theorem xAo67b {α : Type} {f : Option Nat → Option α} (h : CX x c) {i : Int} (hi : 0 ≤ i ∧ i < 40) : (zaR (zX x c N V R K) (x + 67) 23 i).bind f = f (R (0, 67, 0) i.toNat) := by rw [xAo67 h hi]; rfl
theorem xN123b {α : Type} {f : Int → Option α} (h : CX x c) : (zaN (zX x c N V R K) (x + 123) 25).bind f = f (20) := by rw [xN123 h]; rfl
theorem xAo123b {α : Type} {f : Option Nat → Option α} (h : CX x c) {i : Int} (hi : 0 ≤ i ∧ i < 20) : (zaR (zX x c N V R K) (x + 123) 25 i).bind f = f (R (0, 123, 0) i.toNat) := by rw [xAo123 h hi]; rfl
theorem xN3b {α : Type} {f : Int → Option α} (h : CX x c) : (zaN (zX x c N V R K) (x + 3) 26).bind f = f (30) := by rw [xN3 h]; rfl
theorem xAo3b {α : Type} {f : Nat → Option α} (h : CX x c) {i : Int} (hi : 0 ≤ i ∧ i < 30) : (zaQ (zX x c N V R K) (x + 3) 26 i).bind f = f (x + (4 + i.toNat)) := by rw [xAo3 h hi]; rfl
theorem xN34b {α : Type} {f : Int → Option α} (h : CX x c) : (zaN (zX x c N V R K) (x + 34) 26).bind f = f (30) := by rw [xN34 h]; rfl
theorem xAo34b {α : Type} {f : Nat → Option α} (h : CX x c) {i : Int} (hi : 0 ≤ i ∧ i < 30) : (zaQ (zX x c N V R K) (x + 34) 26 i).bind f = f (x + (35 + i.toNat)) := by rw [xAo34 h hi]; rfl
theorem xN69b {α : Type} {f : Int → Option α} (h : CX x c) : (zaN (zX x c N V R K) (x + 69) 26).bind f = f (43) := by rw [xN69 h]; rfl
theorem xAo69b {α : Type} {f : Nat → Option α} (h : CX x c) {i : Int} (hi : 0 ≤ i ∧ i < 43) : (zaQ (zX x c N V R K) (x + 69) 26 i).bind f = f (x + (70 + i.toNat)) := by rw [xAo69 h hi]; rfl
theorem xQ0_0b {α : Type} {f : Nat → Option α} (h : CX x c) : (zgQ (zX x c N V R K) x 11 0).bind f = f (x + 1) := by rw [xQ0_0 h]; rfl
theorem xQ0_1b {α : Type} {f : Nat → Option α} (h : CX x c) : (zgQ (zX x c N V R K) x 11 1).bind f = f (x + 66) := by rw [xQ0_1 h]; rfl
theorem xQ0_2b {α : Type} {f : Nat → Option α} (h : CX x c) : (zgQ (zX x c N V R K) x 11 2).bind f = f (x + 68) := by rw [xQ0_2 h]; rfl
theorem xQ0_3b {α : Type} {f : Nat → Option α} (h : CX x c) : (zgQ (zX x c N V R K) x 11 3).bind f = f (x + 115) := by rw [xQ0_3 h]; rfl
theorem xQ0_4b {α : Type} {f : Nat → Option α} (h : CX x c) : (zgQ (zX x c N V R K) x 11 4).bind f = f (x + 120) := by rw [xQ0_4 h]; rfl
theorem xQ0_5b {α : Type} {f : Nat → Option α} (h : CX x c) : (zgQ (zX x c N V R K) x 11 5).bind f = f (x + 125) := by rw [xQ0_5 h]; rfl
theorem xQ0_6b {α : Type} {f : Nat → Option α} (h : CX x c) : (zgQ (zX x c N V R K) x 11 6).bind f = f (x + 127) := by rw [xQ0_6 h]; rfl
theorem xQ1_0b {α : Type} {f : Nat → Option α} (h : CX x c) : (zgQ (zX x c N V R K) (x + 1) 10 0).bind f = f (x + 2) := by rw [xQ1_0 h]; rfl
theorem xQ1_1b {α : Type} {f : Nat → Option α} (h : CX x c) : (zgQ (zX x c N V R K) (x + 1) 10 1).bind f = f (x + 3) := by rw [xQ1_1 h]; rfl
theorem xQ1_2b {α : Type} {f : Nat → Option α} (h : CX x c) : (zgQ (zX x c N V R K) (x + 1) 10 2).bind f = f (x + 34) := by rw [xQ1_2 h]; rfl
theorem xQ1_3b {α : Type} {f : Nat → Option α} (h : CX x c) : (zgQ (zX x c N V R K) (x + 1) 10 3).bind f = f (x + 65) := by rw [xQ1_3 h]; rfl
theorem xQ66_0b {α : Type} {f : Nat → Option α} (h : CX x c) : (zgQ (zX x c N V R K) (x + 66) 0 0).bind f = f (x + 1) := by rw [xQ66_0 h]; rfl
theorem xQ66_1b {α : Type} {f : Nat → Option α} (h : CX x c) : (zgQ (zX x c N V R K) (x + 66) 0 1).bind f = f (x + 67) := by rw [xQ66_1 h]; rfl
theorem xQ68_0b {α : Type} {f : Nat → Option α} (h : CX x c) : (zgQ (zX x c N V R K) (x + 68) 2 0).bind f = f (x + 1) := by rw [xQ68_0 h]; rfl
theorem xQ68_1b {α : Type} {f : Nat → Option α} (h : CX x c) : (zgQ (zX x c N V R K) (x + 68) 2 1).bind f = f (x + 69) := by rw [xQ68_1 h]; rfl
theorem xQ68_2b {α : Type} {f : Nat → Option α} (h : CX x c) : (zgQ (zX x c N V R K) (x + 68) 2 2).bind f = f (x + 113) := by rw [xQ68_2 h]; rfl
theorem xQ68_3b {α : Type} {f : Nat → Option α} (h : CX x c) : (zgQ (zX x c N V R K) (x + 68) 2 3).bind f = f (x + 114) := by rw [xQ68_3 h]; rfl
theorem xQ115_0b {α : Type} {f : Nat → Option α} (h : CX x c) : (zgQ (zX x c N V R K) (x + 115) 8 0).bind f = f (x + 1) := by rw [xQ115_0 h]; rfl
theorem xQ115_1b {α : Type} {f : Nat → Option α} (h : CX x c) : (zgQ (zX x c N V R K) (x + 115) 8 1).bind f = f (x + 66) := by rw [xQ115_1 h]; rfl
theorem xQ115_2b {α : Type} {f : Nat → Option α} (h : CX x c) : (zgQ (zX x c N V R K) (x + 115) 8 2).bind f = f (x + 68) := by rw [xQ115_2 h]; rfl
theorem xQ115_3b {α : Type} {f : Nat → Option α} (h : CX x c) : (zgQ (zX x c N V R K) (x + 115) 8 3).bind f = f (x + 116) := by rw [xQ115_3 h]; rfl
theorem xQ115_4b {α : Type} {f : Nat → Option α} (h : CX x c) : (zgQ (zX x c N V R K) (x + 115) 8 4).bind f = f (x + 117) := by rw [xQ115_4 h]; rfl
theorem xQ115_5b {α : Type} {f : Nat → Option α} (h : CX x c) : (zgQ (zX x c N V R K) (x + 115) 8 5).bind f = f (x + 118) := by rw [xQ115_5 h]; rfl
theorem xQ115_6b {α : Type} {f : Nat → Option α} (h : CX x c) : (zgQ (zX x c N V R K) (x + 115) 8 6).bind f = f (x + 119) := by rw [xQ115_6 h]; rfl
theorem xQ120_0b {α : Type} {f : Nat → Option α} (h : CX x c) : (zgQ (zX x c N V R K) (x + 120) 6 0).bind f = f (x + 66) := by rw [xQ120_0 h]; rfl
theorem xQ120_1b {α : Type} {f : Nat → Option α} (h : CX x c) : (zgQ (zX x c N V R K) (x + 120) 6 1).bind f = f (x + 121) := by rw [xQ120_1 h]; rfl
theorem xQ120_2b {α : Type} {f : Nat → Option α} (h : CX x c) : (zgQ (zX x c N V R K) (x + 120) 6 2).bind f = f (x + 123) := by rw [xQ120_2 h]; rfl
theorem xQ120_3b {α : Type} {f : Nat → Option α} (h : CX x c) : (zgQ (zX x c N V R K) (x + 120) 6 3).bind f = f (x + 124) := by rw [xQ120_3 h]; rfl
theorem xQ125_0b {α : Type} {f : Nat → Option α} (h : CX x c) : (zgQ (zX x c N V R K) (x + 125) 1 0).bind f = f (x + 66) := by rw [xQ125_0 h]; rfl
theorem xQ125_1b {α : Type} {f : Nat → Option α} (h : CX x c) : (zgQ (zX x c N V R K) (x + 125) 1 1).bind f = f (x + 126) := by rw [xQ125_1 h]; rfl
theorem xQ127_0b {α : Type} {f : Nat → Option α} (h : CX x c) : (zgQ (zX x c N V R K) (x + 127) 4 0).bind f = f (x + 128) := by rw [xQ127_0 h]; rfl
theorem xQ127_1b {α : Type} {f : Nat → Option α} (h : CX x c) : (zgQ (zX x c N V R K) (x + 127) 4 1).bind f = f (x + 129) := by rw [xQ127_1 h]; rfl
theorem xQ127_2b {α : Type} {f : Nat → Option α} (h : CX x c) : (zgQ (zX x c N V R K) (x + 127) 4 2).bind f = f (x + 130) := by rw [xQ127_2 h]; rfl
theorem xQ127_3b {α : Type} {f : Nat → Option α} (h : CX x c) : (zgQ (zX x c N V R K) (x + 127) 4 3).bind f = f (x + 131) := by rw [xQ127_3 h]; rfl
theorem xQ127_4b {α : Type} {f : Nat → Option α} (h : CX x c) : (zgQ (zX x c N V R K) (x + 127) 4 4).bind f = f (x + 132) := by rw [xQ127_4 h]; rfl
theorem xQ127_5b {α : Type} {f : Nat → Option α} (h : CX x c) : (zgQ (zX x c N V R K) (x + 127) 4 5).bind f = f (x + 133) := by rw [xQ127_5 h]; rfl
end XPB
section SHPB
variable {x N : Nat} {c : Nat → Key} {V : Key → Nat → Int} {R : Key → Nat → Option Nat} {K : Key → Option (Nat × Nat)}
theorem sIb {α : Type} {f : Int → Option α} {i a j : Nat} (h : SA c R K i a) : (zgI (zX x c N V R K) a 7 j).bind f = f (V (1, i, 0) j) := by rw [sI h]; rfl
theorem sPb {α : Type} {f : Hp → Option α} {i a j : Nat} {v : Int} (hc : CX x c) (h : SA c R K i a) : (zpI (zX x c N V R K) a 7 j v).bind f = f (zX x c N (ku V (1, i, 0) j v) R K) := by rw [sP hc h]; rfl
end SHPB
