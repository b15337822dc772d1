/-! ===== the reference's reader ===== -/
def mG (g : Nat → Nat → Int) (a f o : Int) : Nat → Nat → Int := gu (gu (gu g 0 55 a) 0 57 f) 0 58 o
def pz (b : Nat → Int) (n p : Nat) : Int := if p < n then b p else 0
def MB (g : Nat → Nat → Int) (b nm : Nat → Int) (n : Nat) : Prop := (g 0 56 = (n : Int)) ∧ (n ≤ 120) ∧ (-1 ≤ g 0 54 ∧ g 0 54 ≤ 2280) ∧ (∀ p, p < n → (if g 0 54 < 0 then g 15 p else g 16 ((g 0 54).toNat + p)) = b p ∧ 0 ≤ b p ∧ b p ≤ 255) ∧ (∀ i, i < 5 → g 21 i = nm i)
theorem MB.len {g : Nat → Nat → Int} {b nm : Nat → Int} {n : Nat} (h : MB g b nm n) : g 0 56 = (n : Int) := h.1
theorem MB.max {g : Nat → Nat → Int} {b nm : Nat → Int} {n : Nat} (h : MB g b nm n) : n ≤ 120 := h.2.1
theorem MB.base {g : Nat → Nat → Int} {b nm : Nat → Int} {n : Nat} (h : MB g b nm n) : -1 ≤ g 0 54 ∧ g 0 54 ≤ 2280 := h.2.2.1
theorem MB.byte {g : Nat → Nat → Int} {b nm : Nat → Int} {n : Nat} (h : MB g b nm n) : ∀ p, p < n → (if g 0 54 < 0 then g 15 p else g 16 ((g 0 54).toNat + p)) = b p ∧ 0 ≤ b p ∧ b p ≤ 255 := h.2.2.2.1
theorem MB.name {g : Nat → Nat → Int} {b nm : Nat → Int} {n : Nat} (h : MB g b nm n) : ∀ i, i < 5 → g 21 i = nm i := h.2.2.2.2
def MR (m N : Nat) (g : Nat → Nat → Int) (nm : Nat → Int) (n : Nat) (o : Int) (r : PR) (res : Option (Int × Hp)) : Prop := ∃ (v a f o' : Int), res = some (v, zG m N (mG g a f o')) ∧ (r.2.2 = false → v = r.1 nm ∧ a = (r.2.1 : Int) ∧ f = -1 ∧ o' = o) ∧ (r.2.2 = true → f = (r.2.1 : Int) ∧ 0 ≤ a ∧ a ≤ (n : Int) + 8 - o ∧ o ≤ o' ∧ o' ≤ o + 1 ∧ o' ≤ 8)
section RDM
variable {m N FU n : Nat} {g : Nat → Nat → Int} {b nm : Nat → Int}
theorem mG_55 (a f o : Int) : mG g a f o 0 55 = a := by simp [mG, gu]
theorem mG_57 (a f o : Int) : mG g a f o 0 57 = f := by simp [mG, gu]
theorem mG_58 (a f o : Int) : mG g a f o 0 58 = o := by simp [mG, gu]
theorem mG_o {j : Nat} (a f o : Int) (h1 : j ≠ 55) (h2 : j ≠ 57) (h3 : j ≠ 58) : mG g a f o 0 j = g 0 j := by simp [mG, gu, h1, h2, h3]
theorem mG_k {j : Nat} (i : Nat) (a f o : Int) (h : j ≠ 0) : mG g a f o j i = g j i := by simp [mG, gu, h]
theorem mG_u55 (a f o z : Int) : gu (mG g a f o) 0 55 z = mG g z f o := by
  funext j i
  simp only [mG, gu]
  repeat' split
  all_goals first | rfl | omega
theorem mG_u57 (a f o z : Int) : gu (mG g a f o) 0 57 z = mG g a z o := by
  funext j i
  simp only [mG, gu]
  repeat' split
  all_goals first | rfl | omega
theorem mG_u58 (a f o z : Int) : gu (mG g a f o) 0 58 z = mG g a f z := by
  funext j i
  simp only [mG, gu]
  repeat' split
  all_goals first | rfl | omega
theorem mG_u59 (a f o z : Int) : gu (mG g a f o) 0 59 z = mG (gu g 0 59 z) a f o := by
  funext j i
  simp only [mG, gu]
  repeat' split
  all_goals first | rfl | omega
theorem pz_of {p : Nat} : pz b n p = pb b n p ∨ (pz b n p = 0 ∧ pb b n p = -1) := by
  unfold pz pb
  split
  · exact Or.inl rfl
  · exact Or.inr ⟨rfl, rfl⟩
theorem MB.u59 (h : MB g b nm n) (z : Int) : MB (gu g 0 59 z) b nm n := by
  refine ⟨?_, h.max, ?_, fun p hp => ?_, fun i hi => ?_⟩
  · rw [zgu, if_neg (by omega)]; exact h.len
  · rw [zgu, if_neg (by omega)]; exact h.base
  · have e54 : gu g 0 59 z 0 54 = g 0 54 := by rw [zgu, if_neg (by omega)]
    have e15 : gu g 0 59 z 15 p = g 15 p := by rw [zgu, if_neg (by omega)]
    have e16 : ∀ q, gu g 0 59 z 16 q = g 16 q := fun q => by rw [zgu, if_neg (by omega)]
    rw [e54, e15, e16]
    exact h.byte p hp
  · rw [zgu, if_neg (by omega)]; exact h.name i hi
theorem MB.byteAt (h : MB g b nm n) (p : Nat) (f o : Int) (hp : p ≤ 1000) : FM_byteAt FU m (zG m N (mG g (p : Int) f o)) = some (pz b n p) := by
  have mx := h.max
  have ba := h.base
  unfold FM_byteAt FM_byteAt_b pz
  rw [mD, mIb, mIb, mG_55, mG_o _ _ _ (by decide) (by decide) (by decide), h.len]
  by_cases e : p < n
  · have by_ := h.byte p e
    rw [if_pos (by omega), if_pos e, mIb, mG_o _ _ _ (by decide) (by decide) (by decide)]
    by_cases c : g 0 54 < 0
    · rw [if_pos c] at by_
      rw [if_pos c, mQ24b, mIb, mG_55, mRo15b (by omega), mG_k _ _ _ _ (by decide), Int.toNat_natCast, by_.1]
    · rw [if_neg c] at by_
      have t : (g 0 54 + (p : Int)).toNat = (g 0 54).toNat + p := by omega
      rw [if_neg c, mQ26b, mIb, mG_o _ _ _ (by decide) (by decide) (by decide), mIb, mG_55, zckb (by omega), mRo16b (by omega), mG_k _ _ _ _ (by decide), t, by_.1]
  · rw [if_neg (by omega), if_neg e]
theorem eM_wrong (a o : Int) : FM_wrong FU m (zG m N (mG g a (-1) o)) = some (0, zG m N (mG g a a o)) := by
  unfold FM_wrong FM_wrong_b
  rw [mD, mIb, mG_57, if_pos (by decide), mIb, mG_55, mPb, mG_u57]
theorem MB.num (h : MB g b nm n) {rec : Nat → Hp → Option (Int × Hp)} {o : Int} : ∀ (k : Nat) (v : Int) (p fu : Nat), k ≤ 6 → p ≤ n → k < fu → ∃ w, FM_one_L197 FU rec fu m v (6 - (k : Int)) (zG m N (mG g (p : Int) (-1) o)) = some (w, zG m N (mG g ((pNum b n k v p).2.1 : Int) (if (pNum b n k v p).2.2 = true then ((pNum b n k v p).2.1 : Int) else -1) o)) ∧ ((pNum b n k v p).2.2 = false → w = (pNum b n k v p).1 nm) := by
  have mx := h.max
  intro k
  induction k with
  | zero =>
    intro v p fu hk hp hf
    obtain ⟨fu, rfl⟩ : ∃ fu', fu = fu' + 1 := ⟨fu - 1, by omega⟩
    have q := pz_of (b := b) (n := n) (p := p)
    rw [FM_one_L197, bde (h.byteAt p _ _ (by omega)), pNum]
    by_cases c1 : pz b n p < 48
    · rw [if_pos c1]
      refine ⟨v, ?_, fun _ => rfl⟩
      rw [show (decide (48 ≤ pb b n p ∧ pb b n p ≤ 57)) = false from decide_eq_false (by omega)]
      rfl
    · rw [if_neg c1, bde (h.byteAt p _ _ (by omega))]
      by_cases c2 : pz b n p ≤ 57
      · rw [if_pos c2, if_pos (by omega), zbe (eM_wrong _ _)]
        refine ⟨0, ?_, fun e => absurd (of_decide_eq_false e) (by omega)⟩
        rw [show (decide (48 ≤ pb b n p ∧ pb b n p ≤ 57)) = true from decide_eq_true (by omega)]
        rfl
      · rw [if_neg c2]
        refine ⟨v, ?_, fun _ => rfl⟩
        rw [show (decide (48 ≤ pb b n p ∧ pb b n p ≤ 57)) = false from decide_eq_false (by omega)]
        rfl
  | succ k ih =>
    intro v p fu hk hp hf
    obtain ⟨fu, rfl⟩ : ∃ fu', fu = fu' + 1 := ⟨fu - 1, by omega⟩
    have q := pz_of (b := b) (n := n) (p := p)
    rw [FM_one_L197, bde (h.byteAt p _ _ (by omega)), pNum]
    by_cases c1 : pz b n p < 48
    · rw [if_pos c1, if_neg (by omega)]
      exact ⟨v, rfl, fun _ => rfl⟩
    · rw [if_neg c1, bde (h.byteAt p _ _ (by omega))]
      by_cases c2 : pz b n p ≤ 57
      · have lt := pb_lt (b := b) (n := n) (p := p) (by omega)
        have e : 6 - ((k + 1 : Nat) : Int) + 1 = 6 - (k : Int) := by omega
        have e2 : (p : Int) + 1 = ((p + 1 : Nat) : Int) := by omega
        have e3 : pz b n p = pb b n p := by omega
        rw [if_pos c2, if_neg (by omega), if_pos (by omega), Option.bind_some, bde (h.byteAt p _ _ (by omega)), Option.bind_some, Option.bind_some, zckb (by omega), mIb, mG_55, zckb (by omega), mPb, mG_u55, e, e2, e3, Int.mul_comm 10 v]
        exact ih _ (p + 1) fu (by omega) (by omega) (by omega)
      · rw [if_neg c2, if_neg (by omega)]
        exact ⟨v, rfl, fun _ => rfl⟩
theorem MR.bad {o : Int} {w : PV} {p : Nat} {v : Int} (hp : p ≤ n) (ho : 0 ≤ o ∧ o ≤ 8) : MR m N g nm n o (w, p, true) (some (v, zG m N (mG g (p : Int) (p : Int) o))) :=
  ⟨v, p, p, o, rfl, fun e => tf e, fun _ => by
    refine ⟨rfl, ?_, ?_, ?_, ?_, ?_⟩ <;> omega⟩
theorem MR.ok {o : Int} {w : PV} {p : Nat} {v : Int} (hv : v = w nm) : MR m N g nm n o (w, p, false) (some (v, zG m N (mG g (p : Int) (-1) o))) :=
  ⟨v, p, -1, o, rfl, fun _ => ⟨hv, rfl, rfl, rfl⟩, fun e => ft e⟩
theorem MB.one (h : MB g b nm n) {r : Option (Nat → PR)} {rec : Nat → Hp → Option (Int × Hp)} {o : Int} (ho : 0 ≤ o ∧ o ≤ 8) (hr0 : r = none → o = 8) (hr1 : ∀ f, r = some f → o < 8 ∧ ∀ p, p ≤ n → MR m N g nm n (o + 1) (f p) (rec m (zG m N (mG g (p : Int) (-1) (o + 1))))) (hok : ∀ f, r = some f → pOk n f) (hFU : 7 ≤ FU) : ∀ p, p ≤ n → MR m N g nm n o (pOne b n r p) (FM_one FU rec m (zG m N (mG g (p : Int) (-1) o))) := by
  intro p hp
  have mx := h.max
  have q := pz_of (b := b) (n := n) (p := p)
  have e2 : (p : Int) + 1 = ((p + 1 : Nat) : Int) := by omega
  unfold FM_one FM_one_b
  rw [mD, mIb, mG_57, if_pos (by decide), bde (h.byteAt p _ _ (by omega))]
  by_cases c40 : pz b n p = 40
  · have lt := pb_lt (b := b) (n := n) (p := p) (by omega)
    rw [if_pos c40, pOne_par (by omega), mIb, mG_58]
    cases r with
    | none =>
      rw [if_pos (hr0 rfl), zbe (eM_wrong _ _)]
      exact MR.bad hp ho
    | some f =>
      obtain ⟨o8, hf⟩ := hr1 f rfl
      have ok := hok f rfl (p + 1) (by omega)
      rw [if_neg (by omega), mIb, mG_58, zckb (by omega), mPb, mG_u58, mIb, mG_55, zckb (by omega), mPb, mG_u55, e2]
      obtain ⟨v, a, ff, o', e1, e3, e4⟩ := hf (p + 1) (by omega)
      rw [zbe e1, mIb, mG_57, pPar_some]
      by_cases cf : (f (p + 1)).2.2 = true
      · obtain ⟨d1, d2, d3, d4, d5, d6⟩ := e4 cf
        rw [if_pos cf, if_neg (by omega)]
        unfold FM_one_B80
        rw [mIb, mG_55, zckb (by omega), mPb, mG_u55, mIb, mG_58, zckb (by omega), mPb, mG_u58]
        exact ⟨v, a + 1, ff, o' - 1, rfl, fun e => absurd e (by rw [cf]; decide), fun _ => by
          refine ⟨d1, ?_, ?_, ?_, ?_, ?_⟩ <;> omega⟩
      · obtain ⟨d1, d2, d3, d4⟩ := e3 (by simpa using cf)
        subst d1
        subst d2
        subst d3
        subst d4
        have q2 := pz_of (b := b) (n := n) (p := (f (p + 1)).2.1)
        rw [if_neg cf, if_pos (show (-1 : Int) < 0 by decide), bde (h.byteAt _ _ _ (by omega))]
        by_cases c41 : pb b n (f (p + 1)).2.1 = 41
        · have e5 : ((f (p + 1)).2.1 : Int) + 1 = (((f (p + 1)).2.1 + 1 : Nat) : Int) := by omega
          have e6 : o + 1 - 1 = o := by omega
          rw [if_pos c41, if_pos (show pz b n (f (p + 1)).2.1 = 41 by omega)]
          unfold FM_one_B80
          rw [mIb, mG_55, zckb (by omega), mPb, mG_u55, mIb, mG_58, zckb (by omega), mPb, mG_u58, e5, e6]
          exact MR.ok rfl
        · rw [if_neg c41, if_neg (show ¬ pz b n (f (p + 1)).2.1 = 41 by omega), zbe (eM_wrong _ _)]
          refine ⟨0, _, _, _, rfl, fun e => tf e, fun _ => ?_⟩
          refine ⟨rfl, ?_, ?_, ?_, ?_, ?_⟩ <;> omega
  · rw [if_neg c40]
    have nm_ : ∀ (i : Nat), i < 5 → 0 ≤ pb b n p → MR m N g nm n o ((fun nm => nm i), p + 1, false) (FM_one_B153 FU rec m (pz b n p) (i : Int) (zG m N (mG g (p : Int) (-1) o))) := by
      intro i hi hb
      have lt := pb_lt hb
      unfold FM_one_B153
      rw [if_neg (by omega), mIb, mG_55, zckb (by omega), mPb, mG_u55, mQ32b, mRo21b (by omega), mG_k _ _ _ _ (by decide), Int.toNat_natCast, e2, h.name i hi]
      exact MR.ok rfl
    by_cases c1 : pz b n p = 116
    · rw [if_pos c1, pOne_t (by omega)]
      exact nm_ 0 (by omega) (by omega)
    · rw [if_neg c1]
      by_cases c2 : pz b n p = 102
      · rw [if_pos c2, pOne_f (by omega)]
        exact nm_ 1 (by omega) (by omega)
      · rw [if_neg c2]
        by_cases c3 : pz b n p = 109
        · rw [if_pos c3, pOne_m (by omega)]
          exact nm_ 2 (by omega) (by omega)
        · rw [if_neg c3]
          by_cases c4 : pz b n p = 121
          · rw [if_pos c4, pOne_y (by omega)]
            exact nm_ 3 (by omega) (by omega)
          · rw [if_neg c4]
            by_cases c5 : pz b n p = 115
            · rw [if_pos c5, pOne_s (by omega)]
              exact nm_ 4 (by omega) (by omega)
            · rw [if_neg c5]
              unfold FM_one_B153
              rw [if_pos (by decide)]
              by_cases cd : 48 ≤ pb b n p ∧ pb b n p ≤ 57
              · rw [if_neg (by omega), if_pos (by omega), pOne_dig cd]
                obtain ⟨w, e7, e8⟩ := h.num (FU := FU) (m := m) (N := N) (rec := rec) (o := o) 6 0 p FU (by omega) hp (by omega)
                rw [show (6 : Int) - ((6 : Nat) : Int) = 0 from rfl] at e7
                rw [e7]
                have ok := pNum_ok (b := b) (n := n) 6 0 p hp
                by_cases cf : (pNum b n 6 0 p).2.2 = true
                · rw [if_pos cf]
                  refine ⟨w, _, _, _, rfl, fun e => absurd e (by rw [cf]; decide), fun _ => ?_⟩
                  refine ⟨rfl, ?_, ?_, ?_, ?_, ?_⟩ <;> omega
                · rw [if_neg cf]
                  exact ⟨w, _, _, _, rfl, fun e => ⟨e8 e, rfl, rfl, rfl⟩, fun e => absurd e cf⟩
              · rw [pOne_bad cd (by omega) (by omega) (by omega) (by omega) (by omega) (by omega)]
                unfold FM_one_B187
                by_cases c6 : pz b n p < 48
                · rw [if_pos c6, zbe (eM_wrong _ _)]
                  exact MR.bad hp ho
                · rw [if_neg c6, if_neg (by omega), zbe (eM_wrong _ _)]
                  exact MR.bad hp ho
theorem mbadProd {rec : Nat → Hp → Option (Int × Hp)} {fu : Nat} {a f o w : Int} (hq : 0 ≤ f) (hf : 0 < fu) : FM_product_L5 FU rec fu m w (zG m N (mG g a f o)) = some (w, zG m N (mG g a f o)) := by
  obtain ⟨fu, rfl⟩ : ∃ fu', fu = fu' + 1 := ⟨fu - 1, by omega⟩
  rw [FM_product_L5, mIb, mG_57, if_neg (by omega)]
theorem MB.loopProd (h : MB g b nm n) {op : Nat → PR} {rec : Nat → Hp → Option (Int × Hp)} {o : Int} (ho : ∀ p, p ≤ n → MR m N g nm n o (op p) (FM_one FU rec m (zG m N (mG g (p : Int) (-1) o)))) (hok : pOk n op) : ∀ (k : Nat) (vf : PV) (p fu : Nat), p ≤ n → n < p + k → k < fu → MR m N g nm n o (pLoop b n op 42 47 fProd k vf p) (FM_product_L5 FU rec fu m (vf nm) (zG m N (mG g (p : Int) (-1) o))) := by
  have mx := h.max
  intro k
  induction k with
  | zero =>
    intro vf p fu hp hn
    omega
  | succ k ih =>
    intro vf p fu hp hn hf
    obtain ⟨fu, rfl⟩ : ∃ fu', fu = fu' + 1 := ⟨fu - 1, by omega⟩
    have q := pz_of (b := b) (n := n) (p := p)
    have e2 : (p : Int) + 1 = ((p + 1 : Nat) : Int) := by omega
    rw [FM_product_L5, mIb, mG_57, if_pos (by decide), bde (h.byteAt p _ _ (by omega)), pLoop]
    by_cases cs : pb b n p = 42 ∨ pb b n p = 47
    · have lt := pb_lt (b := b) (n := n) (p := p) (by omega)
      have pe : pz b n p = pb b n p := by omega
      rw [if_pos cs, pe]
      have B : MR m N g nm n o (if (op (p + 1)).2.2 = true then op (p + 1) else pLoop b n op 42 47 fProd k (fun nm => fProd (pb b n p) (vf nm) ((op (p + 1)).1 nm)) (op (p + 1)).2.1) (FM_product_B30 FU rec (FM_product_L5 FU rec fu) m (vf nm) (zG m N (mG g (p : Int) (-1) o))) := by
        unfold FM_product_B30
        rw [bde (h.byteAt p _ _ (by omega)), pe]
        obtain ⟨v5, a, f, o', e1, e3, e4⟩ := ho (p + 1) (by omega)
        have ok := hok (p + 1) (by omega)
        have D : ∀ y0 : Int, (y0 = 0 ∨ y0 = 1) → (y0 = 1 ↔ pb b n p = 42) → FM_product_B44 FU rec (FM_product_L5 FU rec fu) m (vf nm) y0 (zG m N (mG g (p : Int) (-1) o)) = FM_product_L5 FU rec fu m (fProd (pb b n p) (vf nm) v5) (zG m N (mG g a f o')) := by
          intro y0 hy hy1
          unfold FM_product_B44 fProd
          rw [mIb, mG_55, zckb (by omega), mPb, mG_u55, e2, zbe e1]
          by_cases c1 : pb b n p = 42
          · rw [if_pos c1, if_neg (by omega), Option.bind_some]
          · rw [if_neg c1, if_pos (by omega)]
            by_cases z : v5 = 0
            · rw [if_pos z, if_pos z]
            · rw [if_neg z, if_neg z]
              unfold zdw
              rw [if_neg z, Option.bind_some]
        have S : (if pb b n p = 42 then FM_product_B44 FU rec (FM_product_L5 FU rec fu) m (vf nm) 1 (zG m N (mG g (p : Int) (-1) o)) else FM_product_B44 FU rec (FM_product_L5 FU rec fu) m (vf nm) 0 (zG m N (mG g (p : Int) (-1) o))) = FM_product_L5 FU rec fu m (fProd (pb b n p) (vf nm) v5) (zG m N (mG g a f o')) := by
          by_cases c1 : pb b n p = 42
          · rw [if_pos c1, D 1 (Or.inr rfl) (by simp [c1])]
          · rw [if_neg c1, D 0 (Or.inl rfl) (by simp [c1])]
        rw [S]
        by_cases cf : (op (p + 1)).2.2 = true
        · have e5 := e4 cf
          rw [if_pos cf, mbadProd (by omega) (by omega)]
          exact ⟨_, a, f, o', rfl, fun e => absurd e (by rw [cf]; decide), e4⟩
        · obtain ⟨d1, d2, d3, d4⟩ := e3 (by simpa using cf)
          subst d1
          subst d2
          subst d3
          subst d4
          rw [if_neg cf]
          exact ih (fun nm => fProd (pb b n p) (vf nm) ((op (p + 1)).1 nm)) (op (p + 1)).2.1 fu ok.2.1 (by omega) (by omega)
      rcases cs with c1 | c1
      · rw [if_pos c1]
        exact B
      · rw [if_neg (show ¬ pb b n p = 42 by omega), bde (h.byteAt p _ _ (by omega)), pe, if_pos c1]
        exact B
    · rw [if_neg cs, if_neg (show ¬ pz b n p = 42 by omega), bde (h.byteAt p _ _ (by omega)), if_neg (show ¬ pz b n p = 47 by omega)]
      exact MR.ok rfl
theorem MB.chainProd (h : MB g b nm n) {op : Nat → PR} {rec : Nat → Hp → Option (Int × Hp)} {o : Int} (ho : ∀ p, p ≤ n → MR m N g nm n o (op p) (FM_one FU rec m (zG m N (mG g (p : Int) (-1) o)))) (hok : pOk n op) (hFU : 122 ≤ FU) (p : Nat) (hp : p ≤ n) : MR m N g nm n o (pChain b n op 42 47 fProd p) (FM_product FU rec m (zG m N (mG g (p : Int) (-1) o))) := by
  have mx := h.max
  have ok := hok p hp
  unfold FM_product FM_product_b pChain
  obtain ⟨v5, a, f, o', e1, e3, e4⟩ := ho p hp
  rw [mD, zbe e1]
  by_cases cf : (op p).2.2 = true
  · have e5 := e4 cf
    rw [if_pos cf, mbadProd (by omega) (by omega)]
    exact ⟨_, a, f, o', rfl, fun e => absurd e (by rw [cf]; decide), e4⟩
  · obtain ⟨d1, d2, d3, d4⟩ := e3 (by simpa using cf)
    subst d1
    subst d2
    subst d3
    subst d4
    rw [if_neg cf]
    exact h.loopProd ho hok (n + 1) _ (op p).2.1 FU ok.2.1 (by omega) (by omega)
theorem mbadSum {rec : Nat → Hp → Option (Int × Hp)} {fu : Nat} {a f o w : Int} (hq : 0 ≤ f) (hf : 0 < fu) : FM_sum_L5 FU rec fu m w (zG m N (mG g a f o)) = some (w, zG m N (mG g a f o)) := by
  obtain ⟨fu, rfl⟩ : ∃ fu', fu = fu' + 1 := ⟨fu - 1, by omega⟩
  rw [FM_sum_L5, mIb, mG_57, if_neg (by omega)]
theorem MB.loopSum (h : MB g b nm n) {op : Nat → PR} {rec : Nat → Hp → Option (Int × Hp)} {o : Int} (ho : ∀ p, p ≤ n → MR m N g nm n o (op p) (FM_product FU rec m (zG m N (mG g (p : Int) (-1) o)))) (hok : pOk n op) : ∀ (k : Nat) (vf : PV) (p fu : Nat), p ≤ n → n < p + k → k < fu → MR m N g nm n o (pLoop b n op 43 45 fSum k vf p) (FM_sum_L5 FU rec fu m (vf nm) (zG m N (mG g (p : Int) (-1) o))) := by
  have mx := h.max
  intro k
  induction k with
  | zero =>
    intro vf p fu hp hn
    omega
  | succ k ih =>
    intro vf p fu hp hn hf
    obtain ⟨fu, rfl⟩ : ∃ fu', fu = fu' + 1 := ⟨fu - 1, by omega⟩
    have q := pz_of (b := b) (n := n) (p := p)
    have e2 : (p : Int) + 1 = ((p + 1 : Nat) : Int) := by omega
    rw [FM_sum_L5, mIb, mG_57, if_pos (by decide), bde (h.byteAt p _ _ (by omega)), pLoop]
    by_cases cs : pb b n p = 43 ∨ pb b n p = 45
    · have lt := pb_lt (b := b) (n := n) (p := p) (by omega)
      have pe : pz b n p = pb b n p := by omega
      rw [if_pos cs, pe]
      have B : MR m N g nm n o (if (op (p + 1)).2.2 = true then op (p + 1) else pLoop b n op 43 45 fSum k (fun nm => fSum (pb b n p) (vf nm) ((op (p + 1)).1 nm)) (op (p + 1)).2.1) (FM_sum_B30 FU rec (FM_sum_L5 FU rec fu) m (vf nm) (zG m N (mG g (p : Int) (-1) o))) := by
        unfold FM_sum_B30
        rw [bde (h.byteAt p _ _ (by omega)), pe]
        obtain ⟨v5, a, f, o', e1, e3, e4⟩ := ho (p + 1) (by omega)
        have ok := hok (p + 1) (by omega)
        have D : ∀ y0 : Int, (y0 = 0 ∨ y0 = 1) → (y0 = 1 ↔ pb b n p = 43) → FM_sum_B44 FU rec (FM_sum_L5 FU rec fu) m (vf nm) y0 (zG m N (mG g (p : Int) (-1) o)) = FM_sum_L5 FU rec fu m (fSum (pb b n p) (vf nm) v5) (zG m N (mG g a f o')) := by
          intro y0 hy hy1
          unfold FM_sum_B44 fSum
          rw [mIb, mG_55, zckb (by omega), mPb, mG_u55, e2, zbe e1]
          by_cases c1 : pb b n p = 43
          · rw [if_pos c1, if_neg (by omega), Option.bind_some]
          · rw [if_neg c1, if_pos (by omega)]
            rw [Option.bind_some]
        have S : (if pb b n p = 43 then FM_sum_B44 FU rec (FM_sum_L5 FU rec fu) m (vf nm) 1 (zG m N (mG g (p : Int) (-1) o)) else FM_sum_B44 FU rec (FM_sum_L5 FU rec fu) m (vf nm) 0 (zG m N (mG g (p : Int) (-1) o))) = FM_sum_L5 FU rec fu m (fSum (pb b n p) (vf nm) v5) (zG m N (mG g a f o')) := by
          by_cases c1 : pb b n p = 43
          · rw [if_pos c1, D 1 (Or.inr rfl) (by simp [c1])]
          · rw [if_neg c1, D 0 (Or.inl rfl) (by simp [c1])]
        rw [S]
        by_cases cf : (op (p + 1)).2.2 = true
        · have e5 := e4 cf
          rw [if_pos cf, mbadSum (by omega) (by omega)]
          exact ⟨_, a, f, o', rfl, fun e => absurd e (by rw [cf]; decide), e4⟩
        · obtain ⟨d1, d2, d3, d4⟩ := e3 (by simpa using cf)
          subst d1
          subst d2
          subst d3
          subst d4
          rw [if_neg cf]
          exact ih (fun nm => fSum (pb b n p) (vf nm) ((op (p + 1)).1 nm)) (op (p + 1)).2.1 fu ok.2.1 (by omega) (by omega)
      rcases cs with c1 | c1
      · rw [if_pos c1]
        exact B
      · rw [if_neg (show ¬ pb b n p = 43 by omega), bde (h.byteAt p _ _ (by omega)), pe, if_pos c1]
        exact B
    · rw [if_neg cs, if_neg (show ¬ pz b n p = 43 by omega), bde (h.byteAt p _ _ (by omega)), if_neg (show ¬ pz b n p = 45 by omega)]
      exact MR.ok rfl
theorem MB.chainSum (h : MB g b nm n) {op : Nat → PR} {rec : Nat → Hp → Option (Int × Hp)} {o : Int} (ho : ∀ p, p ≤ n → MR m N g nm n o (op p) (FM_product FU rec m (zG m N (mG g (p : Int) (-1) o)))) (hok : pOk n op) (hFU : 122 ≤ FU) (p : Nat) (hp : p ≤ n) : MR m N g nm n o (pChain b n op 43 45 fSum p) (FM_sum FU rec m (zG m N (mG g (p : Int) (-1) o))) := by
  have mx := h.max
  have ok := hok p hp
  unfold FM_sum FM_sum_b pChain
  obtain ⟨v5, a, f, o', e1, e3, e4⟩ := ho p hp
  rw [mD, zbe e1]
  by_cases cf : (op p).2.2 = true
  · have e5 := e4 cf
    rw [if_pos cf, mbadSum (by omega) (by omega)]
    exact ⟨_, a, f, o', rfl, fun e => absurd e (by rw [cf]; decide), e4⟩
  · obtain ⟨d1, d2, d3, d4⟩ := e3 (by simpa using cf)
    subst d1
    subst d2
    subst d3
    subst d4
    rw [if_neg cf]
    exact h.loopSum ho hok (n + 1) _ (op p).2.1 FU ok.2.1 (by omega) (by omega)
theorem MB.sumN (h : MB g b nm n) (hFU : 122 ≤ FU) : ∀ (e D p : Nat), e ≤ 8 → e < D → p ≤ n → MR m N g nm n ((8 - e : Nat) : Int) (pSum b n (pRec b n e) p) (FM_sum_n FU D m (zG m N (mG g (p : Int) (-1) ((8 - e : Nat) : Int)))) := by
  intro e
  induction e with
  | zero =>
    intro D p he hD hp
    obtain ⟨D, rfl⟩ : ∃ D', D = D' + 1 := ⟨D - 1, by omega⟩
    rw [FM_sum_n]
    exact h.chainSum (fun p hp => h.chainProd (h.one (by omega) (fun _ => rfl) (fun f q => absurd q (by simp [pRec])) (pRec_ok 0) (by omega)) (pOne_ok (pRec_ok 0)) hFU p hp) (pProd_ok (pRec_ok 0)) hFU p hp
  | succ e ih =>
    intro D p he hD hp
    obtain ⟨D, rfl⟩ : ∃ D', D = D' + 1 := ⟨D - 1, by omega⟩
    rw [FM_sum_n]
    refine h.chainSum (fun p hp => h.chainProd (h.one (by omega) (fun q => absurd q (by simp [pRec])) (fun f q => ⟨by omega, fun p hp => ?_⟩) (pRec_ok (e + 1)) (by omega)) (pOne_ok (pRec_ok (e + 1))) hFU p hp) (pProd_ok (pRec_ok (e + 1))) hFU p hp
    rw [pRec] at q
    rw [← Option.some.inj q]
    have i1 : ((8 - (e + 1) : Nat) : Int) + 1 = ((8 - e : Nat) : Int) := by omega
    rw [i1]
    exact ih D p (by omega) (by omega) hp
def MZ (m N : Nat) (g : Nat → Nat → Int) (nm : Nat → Int) (n : Nat) (r : PV × ((Nat → Int) → Bool) × Nat × Bool) (res : Option (Int × Hp)) : Prop := ∃ (v a f o' z : Int), res = some (v, zG m N (mG (gu g 0 59 z) a f o')) ∧ (r.2.2.2 = false → v = r.1 nm ∧ z = (if r.2.1 nm = true then 1 else 0) ∧ a = (r.2.2.1 : Int) ∧ f = -1 ∧ o' = 0) ∧ (r.2.2.2 = true → f = (r.2.2.1 : Int) ∧ 0 ≤ a ∧ a ≤ (n : Int) + 9)
theorem gu59 (z w : Int) : gu (gu g 0 59 z) 0 59 w = gu g 0 59 w := by
  funext j i
  simp only [gu]
  repeat' split
  all_goals first | rfl | omega
theorem MB.band (h : MB g b nm n) (hFU : 122 ≤ FU) {p : Nat} (hp : p ≤ n) : MZ m N g nm n (pBand b n p) (FM_band FU m (zG m N (mG g (p : Int) (-1) 0))) := by
  have mx := h.max
  have S : ∀ (g : Nat → Nat → Int), MB g b nm n → ∀ p, p ≤ n → MR m N g nm n 0 (pS b n p) (FM_sum_n FU 12 m (zG m N (mG g (p : Int) (-1) 0))) := fun g h p hp => h.sumN hFU 8 12 p (by omega) (by omega) hp
  have ok := pS_ok (b := b) (n := n) p hp
  unfold FM_band FM_band_b
  obtain ⟨v, a, f, o, e1, e3, e4⟩ := S g h p hp
  rw [mD, zbe e1]
  have bt : ∃ bz, FM_byteAt FU m (zG m N (mG g a f o)) = some bz ∧ (f = -1 → bz = pz b n (pS b n p).2.1) := by
    by_cases cf : (pS b n p).2.2 = true
    · obtain ⟨d1, d2, d3, d4, d5, d6⟩ := e4 cf
      refine ⟨pz b n a.toNat, ?_, fun e => absurd e (by omega)⟩
      have := h.byteAt (FU := FU) (m := m) (N := N) a.toNat f o (by omega)
      rw [show ((a.toNat : Nat) : Int) = a by omega] at this
      exact this
    · obtain ⟨d1, d2, d3, d4⟩ := e3 (by simpa using cf)
      subst d2
      exact ⟨_, h.byteAt _ f o (by omega), fun _ => rfl⟩
  obtain ⟨bz, b1, b2⟩ := bt
  rw [bde b1, mPob (Or.inr rfl), mG_u59, mIb, mG_57]
  by_cases cf : (pS b n p).2.2 = true
  · obtain ⟨d1, d2, d3, d4, d5, d6⟩ := e4 cf
    have eb : pBand b n p = ((pS b n p).1, fun _ => true, (pS b n p).2.1, true) := by unfold pBand; rw [if_pos cf]
    rw [eb, if_neg (by omega)]
    refine ⟨v, a, f, o, 1, rfl, fun e => tf e, fun _ => ⟨d1, d2, ?_⟩⟩
    omega
  · obtain ⟨d1, d2, d3, d4⟩ := e3 (by simpa using cf)
    have gt := ok.2.2 (by simpa using cf)
    have b3 := b2 d3
    subst d1
    subst d2
    subst d3
    subst d4
    subst b3
    have q := pz_of (b := b) (n := n) (p := (pS b n p).2.1)
    rw [if_pos (by decide)]
    by_cases cc : pb b n (pS b n p).2.1 = 60 ∨ pb b n (pS b n p).2.1 = 61 ∨ pb b n (pS b n p).2.1 = 62
    · have lt := pb_lt (b := b) (n := n) (p := (pS b n p).2.1) (by omega)
      have pe : pz b n (pS b n p).2.1 = pb b n (pS b n p).2.1 := by omega
      have ok2 := pS_ok (b := b) (n := n) ((pS b n p).2.1 + 1) (by omega)
      have i1 : ((pS b n p).2.1 : Int) + 1 = (((pS b n p).2.1 + 1 : Nat) : Int) := by omega
      obtain ⟨w, a2, f2, o2, k1, k3, k4⟩ := S (gu g 0 59 1) (h.u59 1) ((pS b n p).2.1 + 1) (by omega)
      rw [pe]
      have B : MZ m N g nm n (pBand b n p) (FM_band_B42 FU m ((pS b n p).1 nm) (pb b n (pS b n p).2.1) (zG m N (mG (gu g 0 59 1) ((pS b n p).2.1 : Int) (-1) 0))) := by
        unfold FM_band_B42
        rw [mIb, mG_55, zckb (by omega), mPb, mG_u55, i1, zbe k1]
        have C : ∀ y : Int, (y = if pCmp (pb b n (pS b n p).2.1) ((pS b n p).1 nm) w = true then 1 else 0) → MZ m N g nm n (pBand b n p) (FM_band_B105 FU m y (zG m N (mG (gu g 0 59 1) a2 f2 o2))) := by
          intro y hy
          have y01 : y = 0 ∨ y = 1 := by
            rw [hy]; split
            · exact Or.inr rfl
            · exact Or.inl rfl
          unfold FM_band_B105
          rw [mIb, mG_57]
          by_cases cf2 : (pS b n ((pS b n p).2.1 + 1)).2.2 = true
          · obtain ⟨d1, d2, d3, d4, d5, d6⟩ := k4 cf2
            have eb : pBand b n p = ((pS b n p).1, fun _ => true, (pS b n ((pS b n p).2.1 + 1)).2.1, true) := by
              unfold pBand
              rw [if_neg cf, if_pos cc, if_pos cf2]
            rw [eb, if_neg (by omega)]
            unfold FM_band_B128 FM_band_B153
            rw [mIb, mG_55, zckb (by omega), mPb, mG_u55, mIb, mG_57, if_neg (by omega), mPob y01, mG_u59, gu59]
            refine ⟨0, a2 + 1, f2, o2, y, rfl, fun e => tf e, fun _ => ⟨d1, ?_, ?_⟩⟩ <;> omega
          · obtain ⟨d1, d2, d3, d4⟩ := k3 (by simpa using cf2)
            have gt2 := ok2.2.2 (by simpa using cf2)
            subst d1
            subst d2
            subst d3
            subst d4
            have q2 := pz_of (b := b) (n := n) (p := (pS b n ((pS b n p).2.1 + 1)).2.1)
            rw [if_pos (by decide), bde ((h.u59 1).byteAt _ _ _ (by omega))]
            by_cases c44 : pb b n (pS b n ((pS b n p).2.1 + 1)).2.1 = 44
            · have lt2 := pb_lt (b := b) (n := n) (p := (pS b n ((pS b n p).2.1 + 1)).2.1) (by omega)
              have ok3 := pS_ok (b := b) (n := n) ((pS b n ((pS b n p).2.1 + 1)).2.1 + 1) (by omega)
              have i2 : ((pS b n ((pS b n p).2.1 + 1)).2.1 : Int) + 1 = (((pS b n ((pS b n p).2.1 + 1)).2.1 + 1 : Nat) : Int) := by omega
              obtain ⟨u, a3, f3, o3, l1, l3, l4⟩ := S (gu g 0 59 1) (h.u59 1) ((pS b n ((pS b n p).2.1 + 1)).2.1 + 1) (by omega)
              have eb : pBand b n p = ((pS b n ((pS b n ((pS b n p).2.1 + 1)).2.1 + 1)).1, fun nm => pCmp (pb b n (pS b n p).2.1) ((pS b n p).1 nm) ((pS b n ((pS b n p).2.1 + 1)).1 nm), (pS b n ((pS b n ((pS b n p).2.1 + 1)).2.1 + 1)).2.1, (pS b n ((pS b n ((pS b n p).2.1 + 1)).2.1 + 1)).2.2) := by
                unfold pBand
                rw [if_neg cf, if_pos cc, if_neg cf2, if_pos c44]
              rw [if_pos (by omega), eb]
              unfold FM_band_B128 FM_band_B153
              rw [mIb, mG_55, zckb (by omega), mPb, mG_u55, mIb, mG_57, if_pos (by decide), i2, zbe l1, mPob y01, mG_u59, gu59]
              refine ⟨u, a3, f3, o3, y, rfl, fun e => ?_, fun e => ?_⟩
              · obtain ⟨z1, z2, z3, z4⟩ := l3 e
                exact ⟨z1, hy, z2, z3, z4⟩
              · obtain ⟨z1, z2, z3, z4, z5, z6⟩ := l4 e
                exact ⟨z1, z2, by omega⟩
            · have eb : pBand b n p = ((pS b n p).1, fun _ => true, (pS b n ((pS b n p).2.1 + 1)).2.1, true) := by
                unfold pBand
                rw [if_neg cf, if_pos cc, if_neg cf2, if_neg c44]
              rw [if_neg (by omega), eb, zbe (eM_wrong _ _)]
              refine ⟨0, _, _, _, 1, rfl, fun e => tf e, fun _ => ⟨rfl, ?_, ?_⟩⟩ <;> omega
        rcases cc with c1 | c1 | c1
        · rw [c1] at C ⊢
          rw [if_pos rfl]
          by_cases t : (pS b n p).1 nm < w
          · rw [if_pos t]
            exact C 1 (by simp [pCmp, t])
          · rw [if_neg t]
            exact C 0 (by simp [pCmp, t])
        · rw [c1] at C ⊢
          rw [if_neg (by decide), if_pos rfl]
          by_cases t : (pS b n p).1 nm = w
          · rw [if_pos t]
            exact C 1 (by simp [pCmp, t])
          · rw [if_neg t]
            exact C 0 (by simp [pCmp, t])
        · rw [c1] at C ⊢
          rw [if_neg (by decide), if_neg (by decide)]
          by_cases t : (pS b n p).1 nm ≤ w
          · have t2 : ¬ w < (pS b n p).1 nm := by omega
            rw [if_pos t]
            exact C 0 (by simp [pCmp, t2])
          · have t2 : w < (pS b n p).1 nm := by omega
            rw [if_neg t]
            exact C 1 (by simp [pCmp, t2])
      rcases cc with c1 | c1 | c1
      · rw [if_pos c1]
        exact B
      · rw [if_neg (by omega), if_pos c1]
        exact B
      · rw [if_neg (by omega), if_neg (by omega), if_pos c1]
        exact B
    · have eb : pBand b n p = ((pS b n p).1, fun _ => true, (pS b n p).2.1, false) := by
        unfold pBand
        rw [if_neg cf, if_neg cc]
      rw [eb, if_neg (by omega), if_neg (by omega), if_neg (by omega)]
      exact ⟨_, _, _, _, 1, rfl, fun _ => ⟨rfl, by simp, rfl, rfl, rfl⟩, fun e => ft e⟩
def MT (m N : Nat) (g : Nat → Nat → Int) (nm : Nat → Int) (r : ((Nat → Int) → Int × Int) × Nat × Bool) (res : Option (Int × Hp)) : Prop := ∃ (v a o' z : Int), res = some (v, zG m N (mG (gu g 0 59 z) a (if r.2.2 = true then (r.2.1 : Int) else -1) o')) ∧ (r.2.2 = false → v = (r.1 nm).1)
theorem mB100 {fu : Nat} {x3 x4 a o z : Int} {q : Nat} {w : (Nat → Int) → Int × Int} (hf : 0 < fu) (ha : 0 ≤ a ∧ a ≤ 1000) : MT m N g nm (w, q, true) (FM_workOut_B100 FU (FM_workOut_L33 FU fu) m x3 x4 (zG m N (mG (gu g 0 59 z) a (q : Int) o))) := by
  obtain ⟨fu, rfl⟩ : ∃ fu', fu = fu' + 1 := ⟨fu - 1, by omega⟩
  unfold FM_workOut_B100 FM_workOut_B101
  rw [mIb, mG_55, if_pos rfl, zckb (by omega), mPb, mG_u55, FM_workOut_L33, if_pos rfl, mIb, mG_57, if_neg (by omega)]
  exact ⟨x3, _, _, _, rfl, fun e => tf e⟩
theorem MB.text (hFU : 122 ≤ FU) : ∀ (k : Nat) (g : Nat → Nat → Int), MB g b nm n → ∀ (w : (Nat → Int) → Int × Int) (p fu : Nat) (x3 x4 : Int), w nm = (x3, x4) → (x4 = 0 ∨ x4 = 1) → p ≤ n → n < p + k → k + 1 < fu → MT m N g nm (pText b n k w p) (FM_workOut_L33 FU fu m x3 x4 1 (zG m N (mG g (p : Int) (-1) 0))) := by
  intro k
  induction k with
  | zero =>
    intro g h w p fu x3 x4 hw h4 hp hn hf
    omega
  | succ k ih =>
    intro g h w p fu x3 x4 hw h4 hp hn hf
    have mx := h.max
    obtain ⟨fu, rfl⟩ : ∃ fu', fu = fu' + 1 := ⟨fu - 1, by omega⟩
    have bd := h.band (FU := FU) (m := m) (N := N) hFU hp
    have pr := pBand_ok (b := b) (n := n) hp
    rcases hb : pBand b n p with ⟨vB, tB, q, fl⟩
    rw [hb] at bd pr
    obtain ⟨v, a, f, o', z, e1, e3, e4⟩ := bd
    rw [pText_of hb, FM_workOut_L33, if_neg (show ¬ (1 : Int) = 0 by decide), zbe e1, mIb, mG_57]
    cases fl with
    | true =>
      obtain ⟨d1, d2, d3⟩ := e4 rfl
      have d1 : f = (q : Int) := d1
      subst d1
      rw [if_pos rfl, if_neg (show ¬ (q : Int) < 0 by omega)]
      unfold FM_workOut_B69
      rw [mIb, mG_57, if_neg (by omega)]
      exact mB100 (by omega) (by omega)
    | false =>
      obtain ⟨d1, d2, d3, d4, d5⟩ := e3 rfl
      have d1 : v = vB nm := d1
      have d2 : z = if tB nm = true then 1 else 0 := d2
      have d3 : a = (q : Int) := d3
      have pr1 : p < q := pr.2 rfl
      have pr2 : q ≤ n := pr.1
      subst d1
      subst d3
      subst d4
      subst d5
      have h2 := h.u59 z
      have T : ∀ y3 y4 : Int, (pAcc (vB, tB, q, false) w) nm = (y3, y4) → (y4 = 0 ∨ y4 = 1) → MT m N g nm (if q < n then (if b q = 59 then pText b n k (pAcc (vB, tB, q, false) w) (q + 1) else (w, q, true)) else (pAcc (vB, tB, q, false) w, q, false)) (FM_workOut_B69 FU (FM_workOut_L33 FU fu) m y3 y4 (zG m N (mG (gu g 0 59 z) (q : Int) (-1) 0))) := by
        intro y3 y4 hy hy4
        unfold FM_workOut_B69
        rw [mIb, mG_57, if_pos (show (-1 : Int) < 0 by decide), bde (h2.byteAt q _ _ (by omega))]
        have Z : ∀ (y3 y4 : Int), q < n → FM_workOut_B100 FU (FM_workOut_L33 FU fu) m y3 y4 (zG m N (mG (gu g 0 59 z) (q : Int) (-1) 0)) = some (0, zG m N (mG (gu g 0 59 z) (q : Int) (q : Int) 0)) := by
          intro y3 y4 lt
          obtain ⟨fu, rfl⟩ : ∃ fu', fu = fu' + 1 := ⟨fu - 1, by omega⟩
          unfold FM_workOut_B100 FM_workOut_B101
          rw [mIb, mG_55, if_pos rfl, zckb (by omega), mPb, mG_u55, Int.add_zero, FM_workOut_L33, if_pos rfl, mIb, mG_57, if_pos (by decide), mIb, mG_55, mIb, mG_o _ _ _ (by decide) (by decide) (by decide), h2.len, if_pos (by omega), zbe (eM_wrong _ _)]
        by_cases e : q < n
        · have bq := h.byte q e
          have pe : pz b n q = b q := if_pos e
          rw [if_pos e, pe]
          by_cases e2 : b q = 59
          · have i1 : (q : Int) + 1 = ((q + 1 : Nat) : Int) := by omega
            rw [if_pos e2, if_pos e2, mIb, mG_55, mIb, mG_o _ _ _ (by decide) (by decide) (by decide), h2.len, if_pos (show (q : Int) < (n : Int) by omega)]
            unfold FM_workOut_B101
            rw [mIb, mG_55, if_neg (by decide), zckb (by omega), mPb, mG_u55, i1]
            obtain ⟨v', a', o', z', r1, r2⟩ := ih (gu g 0 59 z) h2 (pAcc (vB, tB, q, false) w) (q + 1) fu y3 y4 hy hy4 (by omega) (by omega) (by omega)
            rw [gu59] at r1
            exact ⟨v', a', o', z', r1, r2⟩
          · rw [if_neg e2, if_neg e2, Z _ _ e]
            exact ⟨0, _, _, z, rfl, fun e => tf e⟩
        · have pe : pz b n q = 0 := if_neg e
          rw [if_neg e, pe, if_neg (by decide)]
          obtain ⟨fu, rfl⟩ : ∃ fu', fu = fu' + 1 := ⟨fu - 1, by omega⟩
          unfold FM_workOut_B100 FM_workOut_B101
          rw [mIb, mG_55, if_pos rfl, zckb (by omega), mPb, mG_u55, Int.add_zero, FM_workOut_L33, if_pos rfl, mIb, mG_57, if_pos (by decide), mIb, mG_55, mIb, mG_o _ _ _ (by decide) (by decide) (by decide), h2.len, if_neg (by omega)]
          exact ⟨y3, _, _, z, rfl, fun _ => by show y3 = ((pAcc (vB, tB, q, false) w) nm).1; rw [hy]⟩
      have z59 : mG (gu g 0 59 z) (q : Int) (-1) 0 0 59 = z := by
        rw [mG_o _ _ _ (by decide) (by decide) (by decide), zgu, if_pos ⟨rfl, rfl⟩]
      rw [if_neg (show ¬ (false = true) by decide), if_pos (show (-1 : Int) < 0 by decide), mIb, z59]
      by_cases t : tB nm = true
      · rw [if_pos t] at d2
        rw [if_neg (show ¬ z = 0 by omega)]
        by_cases e4 : x4 = 0
        · rw [if_pos e4]
          exact T (vB nm) 1 (by unfold pAcc; rw [hw]; simp [t, e4]) (Or.inr rfl)
        · rw [if_neg e4]
          exact T x3 x4 (by unfold pAcc; rw [hw]; simp [t, e4]) h4
      · rw [if_neg t] at d2
        rw [if_pos d2]
        exact T x3 x4 (by unfold pAcc; rw [hw]; simp [t]) h4
end RDM
