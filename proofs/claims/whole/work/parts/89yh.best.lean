/-! ===== best: the search, without a machine ===== -/
abbrev SS : Type := Option (Int × (Nat → Nat))
def chu (ch : Nat → Nat) (q y : Nat) : Nat → Nat := fun t => if t = q then y else ch t
def goL (f : Nat → SS → SS) (fre : Nat → Bool) : Nat → Nat → SS → SS
  | 0, _, S => S
  | d + 1, x, S => goL f fre d (x + 1) (if fre x = true then f x S else S)
def goZ (up : (Nat → Nat) → SS → SS) (fre : Nat → Bool) (Z k : Nat) : Nat → Nat → (Nat → Nat) → SS → SS
  | 0, _, ch, S => up ch S
  | r + 1, x, ch, S => goL (fun y S => goZ up fre Z k r (y + 1) (chu ch (k - (r + 1)) y) S) fre (Z - x) x S
def cf (fre : Nat → Bool) : Nat → Nat
  | 0 => 0
  | x + 1 => if fre x = true then cf fre x + 1 else cf fre x
def okB (f : Nat → Bool) : Nat → Bool
  | 0 => true
  | n + 1 => okB f n && f n
def bP (g : Nat → Nat → Int) (cnt : Nat) (ch : Nat → Nat) (s : Nat) : Nat := if s < cnt then stP g s else (g 11 (ch (s - cnt))).toNat
def bL (g : Nat → Nat → Int) (cnt : Nat) (lk : Int) (s : Nat) : Int := if s < cnt then stL g s else lk
def bO (g : Nat → Nat → Int) (cnt : Nat) (o : Int) (s : Nat) : Int := if s < cnt then g 5 s else o
def bTak (g W : Nat → Nat → Int) (cnt : Nat) (ch : Nat → Nat) (lk : Int) (n s : Nat) : Int := takF W (g 1) (g 0 6) (bP g cnt ch) (bL g cnt lk) n s 30
def bBase (g W : Nat → Nat → Int) (cnt s : Nat) : Int := takF W (g 1) (g 0 6) (stP g) (stL g) cnt s 30
def bOk (g W : Nat → Nat → Int) (cnt : Nat) (ch : Nat → Nat) (lk o lim : Int) (n s : Nat) : Bool := decide (g 5 s = o ∨ lossF (bBase g W cnt s) (bTak g W cnt ch lk n s) ≤ lim)
def bSum (g W : Nat → Nat → Int) (cnt : Nat) (ch : Nat → Nat) (lk o : Int) (n : Nat) : Int := zsum (ownT W (g 1) (g 0 6) (bP g cnt ch) (bL g cnt lk) (bO g cnt o) n o) n
def upS (ok : Bool) (v : Int) (ch : Nat → Nat) (S : SS) : SS := if ok = true then (match S with | none => some (v, ch) | some r => if v ≤ r.1 then S else some (v, ch)) else S
def bUp (g W : Nat → Nat → Int) (cnt k : Nat) (lk o lim : Int) (ch : Nat → Nat) (S : SS) : SS := upS (okB (bOk g W cnt ch lk o lim (cnt + k)) cnt) (bSum g W cnt ch lk o (cnt + k)) ch S
def bFree (g W : Nat → Nat → Int) (cnt : Nat) (o : Int) (x : Nat) : Bool := (!anyB (takP (g 4) (g 8) (g 11 x)) 0 cnt) && decide ((landF (g 4) (g 8) (g 9) W (g 11 x).toNat cnt).1 < 0 ∨ g 5 (landF (g 4) (g 8) (g 9) W (g 11 x).toNat cnt).1.toNat = o)
theorem okB_le {f : Nat → Bool} {n : Nat} : ∀ d, okB f (n + d) = true → okB f n = true
  | 0, h => h
  | d + 1, h => by
    have : (okB f (n + d) && f (n + d)) = true := h
    rw [Bool.and_eq_true] at this
    exact okB_le d this.1
theorem okB_no {f : Nat → Bool} {s n : Nat} (hs : s < n) (h : f s = false) : okB f n = false := by
  cases e : okB f n with
  | false => rfl
  | true =>
    have := okB_le (f := f) (n := s + 1) (n - (s + 1)) (by rw [show s + 1 + (n - (s + 1)) = n by omega]; exact e)
    have h2 : (okB f s && f s) = true := this
    rw [h, Bool.and_false] at h2
    exact h2.symm
theorem cf_up {fre : Nat → Bool} {x : Nat} : ∀ d, cf fre x ≤ cf fre (x + d)
  | 0 => Nat.le_refl _
  | d + 1 => by
    have := cf_up (fre := fre) (x := x) d
    show cf fre x ≤ if fre (x + d) = true then cf fre (x + d) + 1 else cf fre (x + d)
    split <;> omega
theorem cf_le {fre : Nat → Bool} : ∀ x, cf fre x ≤ x
  | 0 => Nat.le_refl _
  | x + 1 => by
    have := cf_le (fre := fre) x
    show (if fre x = true then cf fre x + 1 else cf fre x) ≤ x + 1
    split <;> omega
theorem cf_lt {fre : Nat → Bool} {x Z : Nat} (hx : x < Z) (h : fre x = true) : cf fre x < cf fre Z := by
  have a := cf_up (fre := fre) (x := x + 1) (Z - (x + 1))
  rw [show x + 1 + (Z - (x + 1)) = Z by omega] at a
  have b : cf fre (x + 1) = cf fre x + 1 := if_pos h
  omega
section BPU
variable {W g : Nat → Nat → Int} {cnt k q : Nat} {ch : Nat → Nat} {lk o lim : Int}
theorem bSK (hs : SK (stP g) (stL g) cnt) (hl : 0 ≤ lk ∧ lk ≤ 99) (hc : ∀ t, t < q → 0 ≤ g 11 (ch t) ∧ g 11 (ch t) < 30) : SK (bP g cnt ch) (bL g cnt lk) (cnt + q) := by
  refine ⟨fun t ht => ?_, fun t ht => ?_⟩
  · unfold bP
    by_cases z : t < cnt
    · rw [if_pos z]; exact hs.place t z
    · have := hc (t - cnt) (by omega)
      rw [if_neg z]; omega
  · unfold bL
    by_cases z : t < cnt
    · rw [if_pos z]; exact hs.like t z
    · rw [if_neg z]; exact hl
theorem b_chu {x t : Nat} (ht : t < cnt + q) : bP g cnt (chu ch q x) t = bP g cnt ch t := by
  unfold bP chu
  by_cases z : t < cnt
  · rw [if_pos z, if_pos z]
  · rw [if_neg z, if_neg z, if_neg (by omega)]
theorem bSum_bd (hW : WK W) (hs : SK (bP g cnt ch) (bL g cnt lk) (cnt + k)) (hd : ∀ p, p < 30 → 0 ≤ g 1 p ∧ g 1 p ≤ 999) (he : 1 ≤ g 0 6 ∧ g 0 6 ≤ 99) (hc : cnt + k ≤ 43) : 0 ≤ bSum g W cnt ch lk o (cnt + k) ∧ bSum g W cnt ch lk o (cnt + k) ≤ 200000000 := by
  have := zsum_bd (f := ownT W (g 1) (g 0 6) (bP g cnt ch) (bL g cnt lk) (bO g cnt o) (cnt + k) o) (b := 2967030) (n := cnt + k) (fun s hsn => by
    have := takF_bd hW hs hsn hd he (P := 30) (by omega)
    unfold ownT
    split <;> omega)
  unfold bSum
  omega
theorem bTak_bd (hW : WK W) (h0 : SK (stP g) (stL g) cnt) (hs : SK (bP g cnt ch) (bL g cnt lk) (cnt + k)) (hd : ∀ p, p < 30 → 0 ≤ g 1 p ∧ g 1 p ≤ 999) (he : 1 ≤ g 0 6 ∧ g 0 6 ≤ 99) {s : Nat} (hsn : s < cnt) : 0 ≤ bTak g W cnt ch lk (cnt + k) s ∧ bTak g W cnt ch lk (cnt + k) s ≤ bBase g W cnt s ∧ bBase g W cnt s ≤ 2967030 := by
  have a := takF_bd hW hs (s := s) (by omega) hd he (P := 30) (by omega)
  have b := takF_bd hW h0 hsn hd he (P := 30) (by omega)
  have l := takF_less hW (n2 := cnt + k) h0 hs hsn (by omega) (fun t ht => ⟨by unfold bP; rw [if_pos ht], by unfold bL; rw [if_pos ht]⟩) hd he (P := 30) (by omega)
  unfold bTak bBase
  omega
end BPU
/-! ===== best: the class ===== -/
theorem MK.congr {V : Key → Nat → Int} {W : Nat → Nat → Int} {pl pl' : Nat → Nat} {lk lk' ow ow' : Nat → Int} {n : Nat} (h : MK V W pl lk ow n) (hp : ∀ t, t < n → pl' t = pl t ∧ lk' t = lk t ∧ ow' t = ow t) : MK V W pl' lk' ow' n := by
  refine ⟨h.many, fun s p hs hp1 => ?_, fun p hp1 => ?_, fun s hs => ?_⟩
  · rw [h.pull s p hs hp1, (hp s hs).1, (hp s hs).2.1]
  · rw [h.all p hp1]
    exact zsum_eq (fun t ht => by rw [(hp t ht).1, (hp t ht).2.1])
  · rw [h.own s hs, (hp s hs).2.2]
theorem MK.keep {V V' : Key → Nat → Int} {W : Nat → Nat → Int} {pl : Nat → Nat} {lk ow : Nat → Int} {n : Nat} (h : MK V W pl lk ow n) (hn : n ≤ 43) (f : ∀ key q, mkey key q → V' key q = V key q) : MK V' W pl lk ow n :=
  ⟨by rw [f _ _ (Or.inr ⟨rfl, rfl⟩)]; exact h.many, fun s p hs hp => by rw [f _ _ (Or.inl ⟨70 + s, by omega, by omega, rfl⟩)]; exact h.pull s p hs hp, fun p hp => by rw [f _ _ (Or.inl ⟨114, by omega, by omega, rfl⟩)]; exact h.all p hp, fun s hs => by rw [f _ _ (Or.inl ⟨113, by omega, by omega, rfl⟩)]; exact h.own s hs⟩
theorem mkey_no {o q : Nat} (h : 115 ≤ o) : ¬ mkey (0, o, 0) q := mkey_o (by omega)
def wfr (V V' : Key → Nat → Int) : Prop := ∀ key q, key ≠ (0, 119, 0) → (key = (0, 115, 0) → q ≠ 8 ∧ q ≠ 13) → V' key q = V key q
def sV (S : SS) (n : Int) : Int := match S with
  | none => n
  | some r => r.1
def SX (V0 V : Key → Nat → Int) (g : Nat → Nat → Int) (k : Nat) (S : SS) : Prop := (∀ key q, ¬ mkey key q → key ≠ (0, 118, 0) → key ≠ (0, 119, 0) → (key = (0, 115, 0) → q ≠ 8 ∧ q ≠ 13) → V key q = V0 key q) ∧ (V (0, 115, 0) 13 = sV S (-4)) ∧ (S = none → V (0, 115, 0) 8 = V0 (0, 115, 0) 8 ∧ V (0, 119, 0) = V0 (0, 119, 0)) ∧ (∀ r, S = some r → (0 ≤ r.1 ∧ r.1 ≤ 200000000) ∧ V (0, 115, 0) 8 = (k : Int) ∧ ∀ t, t < k → V (0, 119, 0) t = g 11 (r.2 t))
theorem SX.fr {V0 V : Key → Nat → Int} {g : Nat → Nat → Int} {k : Nat} {S : SS} (h : SX V0 V g k S) : ∀ key q, ¬ mkey key q → key ≠ (0, 118, 0) → key ≠ (0, 119, 0) → (key = (0, 115, 0) → q ≠ 8 ∧ q ≠ 13) → V key q = V0 key q := h.1
theorem SX.best {V0 V : Key → Nat → Int} {g : Nat → Nat → Int} {k : Nat} {S : SS} (h : SX V0 V g k S) : V (0, 115, 0) 13 = sV S (-4) := h.2.1
theorem SX.none_ {V0 V : Key → Nat → Int} {g : Nat → Nat → Int} {k : Nat} {S : SS} (h : SX V0 V g k S) : S = none → V (0, 115, 0) 8 = V0 (0, 115, 0) 8 ∧ V (0, 119, 0) = V0 (0, 119, 0) := h.2.2.1
theorem SX.some_ {V0 V : Key → Nat → Int} {g : Nat → Nat → Int} {k : Nat} {S : SS} (h : SX V0 V g k S) : ∀ r, S = some r → (0 ≤ r.1 ∧ r.1 ≤ 200000000) ∧ V (0, 115, 0) 8 = (k : Int) ∧ ∀ t, t < k → V (0, 119, 0) t = g 11 (r.2 t) := h.2.2.2
theorem SX.mfr {V0 V V' : Key → Nat → Int} {g : Nat → Nat → Int} {k : Nat} {S : SS} (h : SX V0 V g k S) (f : mfr V V') : SX V0 V' g k S :=
  ⟨fun key q z1 z2 z3 z4 => by rw [f key q z1]; exact h.fr key q z1 z2 z3 z4, by rw [f _ _ (mkey_no (by omega))]; exact h.best, fun z => ⟨by rw [f _ _ (mkey_no (by omega))]; exact (h.none_ z).1, by rw [← (h.none_ z).2]; funext q; exact f _ _ (mkey_no (by omega))⟩, fun r z => ⟨(h.some_ r z).1, by rw [f _ _ (mkey_no (by omega))]; exact (h.some_ r z).2.1, fun t ht => by rw [f _ _ (mkey_no (by omega))]; exact (h.some_ r z).2.2 t ht⟩⟩
theorem SX.put118 {V0 V : Key → Nat → Int} {g : Nat → Nat → Int} {k i : Nat} {v : Int} {S : SS} (h : SX V0 V g k S) : SX V0 (ku V (0, 118, 0) i v) g k S :=
  ⟨fun key q z1 z2 z3 z4 => by rw [ku_row z2]; exact h.fr key q z1 z2 z3 z4, by rw [ku_row (by simp)]; exact h.best, fun z => by rw [ku_row (by simp), ku_row (by simp)]; exact h.none_ z, fun r z => by rw [ku_row (by simp), ku_row (by simp)]; exact h.some_ r z⟩
def SC (V0 : Key → Nat → Int) (c : Nat → Key) (R : Key → Nat → Option Nat) (K : Key → Option (Nat × Nat)) (g W : Nat → Nat → Int) (k cnt Z : Nat) (lk o lim : Int) : Prop := (V0 (0, 66, 0) 2 = (cnt : Int) ∧ cnt ≤ 40) ∧ (1 ≤ k ∧ k ≤ 3) ∧ (Z ≤ 10) ∧ (V0 (0, 115, 0) 7 = (cf (bFree g W cnt o) Z : Int)) ∧ (V0 (0, 115, 0) 9 = (k : Int)) ∧ (V0 (0, 115, 0) 10 = o) ∧ (V0 (0, 115, 0) 11 = lk) ∧ (V0 (0, 115, 0) 12 = lim) ∧ (0 ≤ lk ∧ lk ≤ 99) ∧ (0 ≤ lim) ∧ (∀ y, y < Z → bFree g W cnt o y = true → V0 (0, 116, 0) (cf (bFree g W cnt o) y) = g 11 y) ∧ (∀ y, y < Z → 0 ≤ g 11 y ∧ g 11 y < 30) ∧ (∀ s, s < cnt → V0 (0, 117, 0) s = bBase g W cnt s) ∧ (MW V0 W (g 1) (g 0 6)) ∧ (WK W) ∧ (SK (stP g) (stL g) cnt) ∧ (∀ s, s < cnt → ∃ a, SA c R K s a ∧ V0 (1, s, 0) 1 = g 5 s)
theorem SC.cnt {V0 : Key → Nat → Int} {c : Nat → Key} {R : Key → Nat → Option Nat} {K : Key → Option (Nat × Nat)} {g W : Nat → Nat → Int} {k cnt Z : Nat} {lk o lim : Int} (h : SC V0 c R K g W k cnt Z lk o lim) : V0 (0, 66, 0) 2 = (cnt : Int) ∧ cnt ≤ 40 := h.1
theorem SC.k3 {V0 : Key → Nat → Int} {c : Nat → Key} {R : Key → Nat → Option Nat} {K : Key → Option (Nat × Nat)} {g W : Nat → Nat → Int} {k cnt Z : Nat} {lk o lim : Int} (h : SC V0 c R K g W k cnt Z lk o lim) : 1 ≤ k ∧ k ≤ 3 := h.2.1
theorem SC.Z10 {V0 : Key → Nat → Int} {c : Nat → Key} {R : Key → Nat → Option Nat} {K : Key → Option (Nat × Nat)} {g W : Nat → Nat → Int} {k cnt Z : Nat} {lk o lim : Int} (h : SC V0 c R K g W k cnt Z lk o lim) : Z ≤ 10 := h.2.2.1
theorem SC.f7 {V0 : Key → Nat → Int} {c : Nat → Key} {R : Key → Nat → Option Nat} {K : Key → Option (Nat × Nat)} {g W : Nat → Nat → Int} {k cnt Z : Nat} {lk o lim : Int} (h : SC V0 c R K g W k cnt Z lk o lim) : V0 (0, 115, 0) 7 = (cf (bFree g W cnt o) Z : Int) := h.2.2.2.1
theorem SC.f9 {V0 : Key → Nat → Int} {c : Nat → Key} {R : Key → Nat → Option Nat} {K : Key → Option (Nat × Nat)} {g W : Nat → Nat → Int} {k cnt Z : Nat} {lk o lim : Int} (h : SC V0 c R K g W k cnt Z lk o lim) : V0 (0, 115, 0) 9 = (k : Int) := h.2.2.2.2.1
theorem SC.f10 {V0 : Key → Nat → Int} {c : Nat → Key} {R : Key → Nat → Option Nat} {K : Key → Option (Nat × Nat)} {g W : Nat → Nat → Int} {k cnt Z : Nat} {lk o lim : Int} (h : SC V0 c R K g W k cnt Z lk o lim) : V0 (0, 115, 0) 10 = o := h.2.2.2.2.2.1
theorem SC.f11 {V0 : Key → Nat → Int} {c : Nat → Key} {R : Key → Nat → Option Nat} {K : Key → Option (Nat × Nat)} {g W : Nat → Nat → Int} {k cnt Z : Nat} {lk o lim : Int} (h : SC V0 c R K g W k cnt Z lk o lim) : V0 (0, 115, 0) 11 = lk := h.2.2.2.2.2.2.1
theorem SC.f12 {V0 : Key → Nat → Int} {c : Nat → Key} {R : Key → Nat → Option Nat} {K : Key → Option (Nat × Nat)} {g W : Nat → Nat → Int} {k cnt Z : Nat} {lk o lim : Int} (h : SC V0 c R K g W k cnt Z lk o lim) : V0 (0, 115, 0) 12 = lim := h.2.2.2.2.2.2.2.1
theorem SC.like {V0 : Key → Nat → Int} {c : Nat → Key} {R : Key → Nat → Option Nat} {K : Key → Option (Nat × Nat)} {g W : Nat → Nat → Int} {k cnt Z : Nat} {lk o lim : Int} (h : SC V0 c R K g W k cnt Z lk o lim) : 0 ≤ lk ∧ lk ≤ 99 := h.2.2.2.2.2.2.2.2.1
theorem SC.lim0 {V0 : Key → Nat → Int} {c : Nat → Key} {R : Key → Nat → Option Nat} {K : Key → Option (Nat × Nat)} {g W : Nat → Nat → Int} {k cnt Z : Nat} {lk o lim : Int} (h : SC V0 c R K g W k cnt Z lk o lim) : 0 ≤ lim := h.2.2.2.2.2.2.2.2.2.1
theorem SC.free {V0 : Key → Nat → Int} {c : Nat → Key} {R : Key → Nat → Option Nat} {K : Key → Option (Nat × Nat)} {g W : Nat → Nat → Int} {k cnt Z : Nat} {lk o lim : Int} (h : SC V0 c R K g W k cnt Z lk o lim) : ∀ y, y < Z → bFree g W cnt o y = true → V0 (0, 116, 0) (cf (bFree g W cnt o) y) = g 11 y := h.2.2.2.2.2.2.2.2.2.2.1
theorem SC.site {V0 : Key → Nat → Int} {c : Nat → Key} {R : Key → Nat → Option Nat} {K : Key → Option (Nat × Nat)} {g W : Nat → Nat → Int} {k cnt Z : Nat} {lk o lim : Int} (h : SC V0 c R K g W k cnt Z lk o lim) : ∀ y, y < Z → 0 ≤ g 11 y ∧ g 11 y < 30 := h.2.2.2.2.2.2.2.2.2.2.2.1
theorem SC.base {V0 : Key → Nat → Int} {c : Nat → Key} {R : Key → Nat → Option Nat} {K : Key → Option (Nat × Nat)} {g W : Nat → Nat → Int} {k cnt Z : Nat} {lk o lim : Int} (h : SC V0 c R K g W k cnt Z lk o lim) : ∀ s, s < cnt → V0 (0, 117, 0) s = bBase g W cnt s := h.2.2.2.2.2.2.2.2.2.2.2.2.1
theorem SC.mw {V0 : Key → Nat → Int} {c : Nat → Key} {R : Key → Nat → Option Nat} {K : Key → Option (Nat × Nat)} {g W : Nat → Nat → Int} {k cnt Z : Nat} {lk o lim : Int} (h : SC V0 c R K g W k cnt Z lk o lim) : MW V0 W (g 1) (g 0 6) := h.2.2.2.2.2.2.2.2.2.2.2.2.2.1
theorem SC.wk {V0 : Key → Nat → Int} {c : Nat → Key} {R : Key → Nat → Option Nat} {K : Key → Option (Nat × Nat)} {g W : Nat → Nat → Int} {k cnt Z : Nat} {lk o lim : Int} (h : SC V0 c R K g W k cnt Z lk o lim) : WK W := h.2.2.2.2.2.2.2.2.2.2.2.2.2.2.1
theorem SC.sk {V0 : Key → Nat → Int} {c : Nat → Key} {R : Key → Nat → Option Nat} {K : Key → Option (Nat × Nat)} {g W : Nat → Nat → Int} {k cnt Z : Nat} {lk o lim : Int} (h : SC V0 c R K g W k cnt Z lk o lim) : SK (stP g) (stL g) cnt := h.2.2.2.2.2.2.2.2.2.2.2.2.2.2.2.1
theorem SC.shop {V0 : Key → Nat → Int} {c : Nat → Key} {R : Key → Nat → Option Nat} {K : Key → Option (Nat × Nat)} {g W : Nat → Nat → Int} {k cnt Z : Nat} {lk o lim : Int} (h : SC V0 c R K g W k cnt Z lk o lim) : ∀ s, s < cnt → ∃ a, SA c R K s a ∧ V0 (1, s, 0) 1 = g 5 s := h.2.2.2.2.2.2.2.2.2.2.2.2.2.2.2.2
section BSX
variable {x N FU : Nat} {c : Nat → Key} {V V0 : Key → Nat → Int} {R : Key → Nat → Option Nat} {K : Key → Option (Nat × Nat)} {W g : Nat → Nat → Int} {k cnt Z : Nat} {lk o lim : Int} {ch : Nat → Nat} {S : SS}
theorem SX.mw (h : SX V0 V g k S) (s : SC V0 c R K g W k cnt Z lk o lim) : MW V W (g 1) (g 0 6) := by
  have m := s.mw
  refine ⟨fun a b ha hb => ?_, fun p hp => ?_, ?_⟩
  · rw [h.fr _ _ (mkey_o (by omega)) (by simp; omega) (by simp; omega) (fun z => by simp at z; omega)]; exact m.way a b ha hb
  · rw [h.fr _ _ (mkey_o (by omega)) (by simp) (by simp) (by simp)]; exact m.door p hp
  · rw [h.fr _ _ (mkey_o (by omega)) (by simp) (by simp) (by simp)]; exact m.spend
theorem harm_loop (hc : CX x c) (hFU : 60 ≤ FU) (s0 : SC V0 c R K g W k cnt Z lk o lim) (h : SX V0 V g k S) (hk : MK V W (bP g cnt ch) (bL g cnt lk) (bO g cnt o) (cnt + k)) (hs : SK (bP g cnt ch) (bL g cnt lk) (cnt + k)) : ∀ (d s fu : Nat), s + d = cnt → d < fu → okB (bOk g W cnt ch lk o lim (cnt + k)) s = true → FSearch_harmsTooMuch_L2 FU fu (x + 115) (s : Int) (zX x c N V R K) = some (if okB (bOk g W cnt ch lk o lim (cnt + k)) cnt = true then 0 else 1) := by
  have hw := h.mw s0
  have c4 := s0.cnt.2
  have k3 := s0.k3.2
  have v66 : V (0, 66, 0) 2 = (cnt : Int) := by rw [h.fr _ _ (mkey_o (by omega)) (by simp) (by simp) (by simp)]; exact s0.cnt.1
  have v10 : V (0, 115, 0) 10 = o := by rw [h.fr _ _ (mkey_no (by omega)) (by simp) (by simp) (by simp)]; exact s0.f10
  have v12 : V (0, 115, 0) 12 = lim := by rw [h.fr _ _ (mkey_no (by omega)) (by simp) (by simp) (by simp)]; exact s0.f12
  intro d
  induction d with
  | zero =>
    intro s fu hs1 hf ok
    obtain ⟨fu, rfl⟩ : ∃ fu', fu = fu' + 1 := ⟨fu - 1, by omega⟩
    have : s = cnt := by omega
    subst this
    rw [FSearch_harmsTooMuch_L2, xQ115_1b hc, xI66b hc, v66, if_neg (by omega), if_pos ok]
    rfl
  | succ d ih =>
    intro s fu hs1 hf ok
    obtain ⟨fu, rfl⟩ : ∃ fu', fu = fu' + 1 := ⟨fu - 1, by omega⟩
    have s1 : (s : Int) + 1 = ((s + 1 : Nat) : Int) := by omega
    obtain ⟨a, ha, ho⟩ := s0.shop s (by omega)
    have vo : V (1, s, 0) 1 = g 5 s := by rw [h.fr _ _ (mkey_t (by simp)) (by simp) (by simp) (by simp)]; exact ho
    have nx : bOk g W cnt ch lk o lim (cnt + k) s = true → okB (bOk g W cnt ch lk o lim (cnt + k)) (s + 1) = true := fun z => by
      show (okB (bOk g W cnt ch lk o lim (cnt + k)) s && bOk g W cnt ch lk o lim (cnt + k) s) = true
      rw [ok, z]; rfl
    have ih1 := fun z => ih (s + 1) fu (by omega) (by omega) (nx z)
    rw [FSearch_harmsTooMuch_L2, xQ115_1b hc, xI66b hc, v66, if_pos (by omega), xQ115_1b hc, bde (eC_shopAt hc v66 (by omega) (s : Int)), if_pos (by omega), show (s : Int).toNat = s by omega, ha.ref, zcs, sIb ha, vo, xI115b hc, v10]
    by_cases c1 : g 5 s = o
    · rw [if_pos c1, zckb (by omega), s1]
      exact ih1 (by unfold bOk; simp [c1])
    · have a1 := atF (FU := FU) (N := N) (V := V) (R := R) (K := K) hc (o := 117) (by omega) (xK117 hc) (j := s) (by omega)
      rw [h.fr _ _ (mkey_no (by omega)) (by simp) (by simp) (by simp), s0.base s (by omega)] at a1
      have et := eK_takings (FU := FU) (N := N) (R := R) (K := K) hc hFU s0.wk hw hk hs (by omega) (s := s) (by omega)
      have tb := bTak_bd (ch := ch) (lk := lk) (k := k) s0.wk s0.sk hs (fun p hp => (s0.mw.door p hp).2) s0.mw.spend.2 (s := s) (by omega)
      have el := eB_loss (FU := FU) (zX x c N V R K) (a := bTak g W cnt ch lk (cnt + k) s) (b := bBase g W cnt s) (by omega)
      rw [if_neg c1, xQ115_4b hc, bde a1, xQ115_2b hc, bde et]
      show (FB_lossInThousandths FU (bBase g W cnt s) (bTak g W cnt ch lk (cnt + k) s) (zX x c N V R K)).bind _ = _
      rw [bde el, xI115b hc, v12]
      by_cases c2 : lossF (bBase g W cnt s) (bTak g W cnt ch lk (cnt + k) s) ≤ lim
      · rw [if_pos c2, zckb (by omega), s1]
        exact ih1 (by unfold bOk; simp [c2])
      · have no : bOk g W cnt ch lk o lim (cnt + k) s = false := by unfold bOk; simp [c1]; omega
        rw [if_neg c2, okB_no (n := cnt) (s := s) (by omega) no]
        rfl
theorem copy2_loop (hc : CX x c) {kk : Nat} (hk : kk ≤ 3) : ∀ (d i fu : Nat) (V : Key → Nat → Int), i + d = kk → d < fu → V (0, 115, 0) 9 = (kk : Int) → ∃ V', FSearch_weigh_L44 FU fu (x + 115) (i : Int) (zX x c N V R K) = some ((), zX x c N V' R K) ∧ (∀ key, key ≠ (0, 119, 0) → V' key = V key) ∧ (∀ t, t < kk → V' (0, 119, 0) t = if i ≤ t then V (0, 118, 0) t else V (0, 119, 0) t) := by
  intro d
  induction d with
  | zero =>
    intro i fu V hi hf h9
    obtain ⟨fu, rfl⟩ : ∃ fu', fu = fu' + 1 := ⟨fu - 1, by omega⟩
    refine ⟨V, ?_, fun _ _ => rfl, fun t ht => by rw [if_neg (by omega)]⟩
    rw [FSearch_weigh_L44, xI115b hc, h9, if_neg (by omega)]
  | succ d ih =>
    intro i fu V hi hf h9
    obtain ⟨fu, rfl⟩ : ∃ fu', fu = fu' + 1 := ⟨fu - 1, by omega⟩
    have i1 : (i : Int) + 1 = ((i + 1 : Nat) : Int) := by omega
    have a1 := atF (FU := FU) (N := N) (V := V) (R := R) (K := K) hc (o := 118) (by omega) (xK118 hc) (j := i) (by omega)
    have a2 := putF (FU := FU) (N := N) (V := V) (R := R) (K := K) hc (o := 119) (by omega) (xK119 hc) (j := i) (by omega) (V (0, 118, 0) i)
    obtain ⟨V', e1, e2, e3⟩ := ih (i + 1) fu (ku V (0, 119, 0) i (V (0, 118, 0) i)) (by omega) (by omega) (by rw [ku_row (by simp)]; exact h9)
    refine ⟨V', ?_, fun key z => by rw [e2 key z, ku_row z], fun t ht => ?_⟩
    · rw [FSearch_weigh_L44, xI115b hc, h9, if_pos (by omega), xQ115_6b hc, xQ115_5b hc, bde a1, zbe a2, zckb (by omega), i1]
      exact e1
    · rw [e3 t ht, ku_row (by simp), ku_at]
      by_cases z : t = i
      · rw [if_neg (show ¬ i + 1 ≤ t by omega), if_pos z, if_pos (show i ≤ t by omega), z]
      · rw [if_neg z]
        by_cases z2 : i ≤ t
        · rw [if_pos z2, if_pos (by omega)]
        · rw [if_neg z2, if_neg (by omega)]
theorem weigh_X (hc : CX x c) (hFU : 60 ≤ FU) (s0 : SC V0 c R K g W k cnt Z lk o lim) (h : SX V0 V g k S) (hk : MK V W (bP g cnt ch) (bL g cnt lk) (bO g cnt o) (cnt + k)) (hch : ∀ t, t < k → ch t < Z) (h118 : ∀ t, t < k → V (0, 118, 0) t = g 11 (ch t)) : ∃ V', FSearch_weigh FU (x + 115) (zX x c N V R K) = some ((), zX x c N V' R K) ∧ SX V0 V' g k (bUp g W cnt k lk o lim ch S) ∧ wfr V V' := by
  have hw := h.mw s0
  have c4 := s0.cnt.2
  have k3 := s0.k3
  have hs : SK (bP g cnt ch) (bL g cnt lk) (cnt + k) := bSK s0.sk s0.like (fun t ht => s0.site _ (hch t ht))
  have eh := harm_loop (FU := FU) (N := N) hc hFU s0 h hk hs cnt 0 FU (by omega) (by omega) rfl
  have eh' : FSearch_harmsTooMuch FU (x + 115) (zX x c N V R K) = some (if okB (bOk g W cnt ch lk o lim (cnt + k)) cnt = true then 0 else 1) := by
    unfold FSearch_harmsTooMuch FSearch_harmsTooMuch_b
    rw [xD115 hc]
    exact eh
  have v10 : V (0, 115, 0) 10 = o := by rw [h.fr _ _ (mkey_no (by omega)) (by simp) (by simp) (by simp)]; exact s0.f10
  have v9 : V (0, 115, 0) 9 = (k : Int) := by rw [h.fr _ _ (mkey_no (by omega)) (by simp) (by simp) (by simp)]; exact s0.f9
  unfold FSearch_weigh FSearch_weigh_b bUp
  by_cases ok : okB (bOk g W cnt ch lk o lim (cnt + k)) cnt = true
  · rw [if_pos ok] at eh'
    have eo := eK_owner (FU := FU) (N := N) (R := R) (K := K) hc hFU s0.wk hw hk hs (by omega) o
    have sb := bSum_bd (o := o) s0.wk hs (fun p hp => (s0.mw.door p hp).2) s0.mw.spend.2 (by omega)
    have eo' : FMarket_takingsOfOwner FU (x + 68) o (zX x c N V R K) = some (bSum g W cnt ch lk o (cnt + k)) := eo
    generalize bSum g W cnt ch lk o (cnt + k) = v at eo' sb
    have New : v > V (0, 115, 0) 13 → ∃ V', (zpI (zX x c N V R K) (x + 115) 8 13 v).bind (fun G6 => (zgI G6 (x + 115) 8 9).bind fun v7 => (zpI G6 (x + 115) 8 8 v7).bind fun G8 => FSearch_weigh_L44 FU FU (x + 115) 0 G8) = some ((), zX x c N V' R K) ∧ SX V0 V' g k (some (v, ch)) ∧ wfr V V' := fun _ => by
      obtain ⟨V', e1, e2, e3⟩ := copy2_loop (FU := FU) (N := N) (R := R) (K := K) hc k3.2 k 0 FU (ku (ku V (0, 115, 0) 13 v) (0, 115, 0) 8 (k : Int)) (by omega) (by omega) (by rw [ku_at, if_neg (by decide), ku_at, if_neg (by decide)]; exact v9)
      refine ⟨V', ?_, ⟨fun key q z1 z2 z3 z4 => ?_, ?_, fun z => absurd z (by simp), fun r z => ?_⟩, fun key q z1 z2 => ?_⟩
      · rw [xP115b hc, xI115b hc, ku_at, if_neg (by decide), v9, xP115b hc]
        exact e1
      · rw [e2 key z3, zku, if_neg (fun y => (z4 y.1).1 y.2), zku, if_neg (fun y => (z4 y.1).2 y.2)]
        exact h.fr key q z1 z2 z3 z4
      · rw [e2 _ (by simp), ku_at, if_neg (by decide), ku_at, if_pos rfl]
        rfl
      · have er : (v, ch) = r := Option.some.inj z
        subst er
        refine ⟨sb, by rw [e2 _ (by simp), ku_at, if_pos rfl], fun t ht => ?_⟩
        rw [e3 t ht, if_pos (by omega), ku_row (by simp), ku_row (by simp)]
        exact h118 t ht
      · rw [e2 key z1, zku, if_neg (fun y => (z2 y.1).1 y.2), zku, if_neg (fun y => (z2 y.1).2 y.2)]
    have b13 := h.best
    rw [xD115 hc, bde eh', if_pos rfl, xQ115_2b hc, xI115b hc, v10, bde eo', xI115b hc, ok]
    unfold upS
    rw [if_pos rfl]
    cases S with
    | none =>
      have b13 : V (0, 115, 0) 13 = -4 := b13
      obtain ⟨V', n1, n2, n3⟩ := New (by omega)
      refine ⟨V', ?_, n2, n3⟩
      rw [b13, if_neg (by omega)]
      exact n1
    | some r =>
      have b13 : V (0, 115, 0) 13 = r.1 := b13
      by_cases c1 : v ≤ r.1
      · refine ⟨V, ?_, ?_, fun _ _ _ _ => rfl⟩
        · rw [b13, if_pos c1]
        · show SX V0 V g k (if v ≤ r.1 then some r else some (v, ch))
          rw [if_pos c1]; exact h
      · obtain ⟨V', n1, n2, n3⟩ := New (by omega)
        refine ⟨V', ?_, ?_, n3⟩
        · rw [b13, if_neg c1]
          exact n1
        · show SX V0 V' g k (if v ≤ r.1 then some r else some (v, ch))
          rw [if_neg c1]; exact n2
  · rw [if_neg ok] at eh'
    refine ⟨V, ?_, ?_, fun _ _ _ _ => rfl⟩
    · rw [xD115 hc, bde eh', if_neg (by decide)]
    · unfold upS
      rw [if_neg ok]
      exact h
theorem choose_loop (hc : CX x c) (hFU : 60 ≤ FU) (s0 : SC V0 c R K g W k cnt Z lk o lim) {q : Nat} (hq : q < k) (hch : ∀ t, t < q → ch t < Z) {rec : Nat → Int → Int → Hp → Option (Unit × Hp)} {f : Nat → SS → SS} (hrec : ∀ (y : Nat) (V : Key → Nat → Int) (S : SS), y < Z → SX V0 V g k S → MK V W (bP g cnt (chu ch q y)) (bL g cnt lk) (bO g cnt o) (cnt + (q + 1)) → (∀ t, t < q + 1 → V (0, 118, 0) t = g 11 (chu ch q y t)) → ∃ V', rec (x + 115) ((q + 1 : Nat) : Int) (cf (bFree g W cnt o) (y + 1) : Int) (zX x c N V R K) = some ((), zX x c N V' R K) ∧ SX V0 V' g k (f y S) ∧ MK V' W (bP g cnt (chu ch q y)) (bL g cnt lk) (bO g cnt o) (cnt + (q + 1)) ∧ (∀ t, t < q + 1 → V' (0, 118, 0) t = V (0, 118, 0) t)) : ∀ (d y fu : Nat) (V : Key → Nat → Int) (S : SS), y + d = Z → d < fu → SX V0 V g k S → MK V W (bP g cnt ch) (bL g cnt lk) (bO g cnt o) (cnt + q) → (∀ t, t < q → V (0, 118, 0) t = g 11 (ch t)) → ∃ V', FSearch_choose_L20 FU rec fu (x + 115) (q : Int) (cf (bFree g W cnt o) y : Int) (zX x c N V R K) = some ((), zX x c N V' R K) ∧ SX V0 V' g k (goL f (bFree g W cnt o) d y S) ∧ MK V' W (bP g cnt ch) (bL g cnt lk) (bO g cnt o) (cnt + q) ∧ (∀ t, t < q → V' (0, 118, 0) t = V (0, 118, 0) t) := by
  have c4 := s0.cnt.2
  have k3 := s0.k3
  have Z10 := s0.Z10
  intro d
  induction d with
  | zero =>
    intro y fu V S hy hf h hk h118
    obtain ⟨fu, rfl⟩ : ∃ fu', fu = fu' + 1 := ⟨fu - 1, by omega⟩
    have : y = Z := by omega
    subst this
    have v7 : V (0, 115, 0) 7 = (cf (bFree g W cnt o) y : Int) := by rw [h.fr _ _ (mkey_no (by omega)) (by simp) (by simp) (by simp)]; exact s0.f7
    refine ⟨V, ?_, h, hk, fun _ _ => rfl⟩
    rw [FSearch_choose_L20, xI115b hc, v7, if_neg (by omega)]
  | succ d ih =>
    intro y fu V S hy hf h hk h118
    by_cases fr : bFree g W cnt o y = true
    · obtain ⟨fu, rfl⟩ : ∃ fu', fu = fu' + 1 := ⟨fu - 1, by omega⟩
      have v7 : V (0, 115, 0) 7 = (cf (bFree g W cnt o) Z : Int) := by rw [h.fr _ _ (mkey_no (by omega)) (by simp) (by simp) (by simp)]; exact s0.f7
      have lt := cf_lt (fre := bFree g W cnt o) (x := y) (Z := Z) (by omega) fr
      have le := cf_le (fre := bFree g W cnt o) Z
      have s1 : cf (bFree g W cnt o) (y + 1) = cf (bFree g W cnt o) y + 1 := if_pos fr
      have j1 : (cf (bFree g W cnt o) y : Int) + 1 = ((cf (bFree g W cnt o) (y + 1) : Nat) : Int) := by rw [s1]; omega
      have q1 : (q : Int) + 1 = ((q + 1 : Nat) : Int) := by omega
      have si := s0.site y (by omega)
      have a1 := atF (FU := FU) (N := N) (V := V) (R := R) (K := K) hc (o := 116) (by omega) (xK116 hc) (j := cf (bFree g W cnt o) y) (by omega)
      rw [h.fr _ _ (mkey_no (by omega)) (by simp) (by simp) (by simp), s0.free y (by omega) fr] at a1
      have a2 := putF (FU := FU) (N := N) (V := V) (R := R) (K := K) hc (o := 118) (by omega) (xK118 hc) (j := q) (by omega) (g 11 y)
      have h1 : SX V0 (ku V (0, 118, 0) q (g 11 y)) g k S := h.put118
      have hk1 : MK (ku V (0, 118, 0) q (g 11 y)) W (bP g cnt ch) (bL g cnt lk) (bO g cnt o) (cnt + q) := hk.keep (by omega) (fun key t z => by
        rw [ku_row (fun e => by rw [e] at z; exact mkey_no (by omega) z)])
      have hs : SK (bP g cnt ch) (bL g cnt lk) (cnt + q) := bSK s0.sk s0.like (fun t ht => s0.site _ (hch t ht))
      obtain ⟨V2, b1, b2, b3, b4⟩ := hk1.add (FU := FU) (N := N) (R := R) (K := K) (pl' := bP g cnt (chu ch q y)) (lk' := bL g cnt lk) (ow' := bO g cnt o) hc hFU s0.wk (h1.mw s0) hs (by omega) (a := (g 11 y).toNat) (by omega) (l := lk) (o := o) s0.like (fun t ht => ⟨b_chu ht, rfl, rfl⟩) ⟨by
        unfold bP chu
        rw [if_neg (by omega), if_pos (by omega)], by
        unfold bL
        rw [if_neg (by omega)], by
        unfold bO
        rw [if_neg (by omega)]⟩
      rw [show (((g 11 y).toNat : Nat) : Int) = g 11 y by omega] at b1
      have c118 : ∀ t, t < q + 1 → V2 (0, 118, 0) t = g 11 (chu ch q y t) := fun t ht => by
        rw [b2 _ _ (mkey_no (by omega)), ku_at]
        unfold chu
        by_cases z : t = q
        · rw [if_pos z, if_pos z]
        · rw [if_neg z, if_neg z]; exact h118 t (by omega)
      obtain ⟨V3, d1, d2, d3, d4⟩ := hrec y V2 S (by omega) (h1.mfr b2) b3 c118
      obtain ⟨V4, e1, e2, e3⟩ := MK.drop (FU := FU) (N := N) (R := R) (K := K) (n := cnt + q) hc hFU s0.wk d3 b4 (by omega)
      have hk4 : MK V4 W (bP g cnt ch) (bL g cnt lk) (bO g cnt o) (cnt + q) := e3.congr (fun t ht => ⟨(b_chu ht).symm, rfl, rfl⟩)
      have k118 : ∀ t, t < q → V4 (0, 118, 0) t = V (0, 118, 0) t := fun t ht => by
        rw [e2 _ _ (mkey_no (by omega)), d4 t (by omega), b2 _ _ (mkey_no (by omega)), ku_at, if_neg (by omega)]
      obtain ⟨V', m1, m2, m3, m4⟩ := ih (y + 1) fu V4 (f y S) (by omega) (by omega) (d2.mfr e2) hk4 (fun t ht => by rw [k118 t ht]; exact h118 t ht)
      refine ⟨V', ?_, ?_, m3, fun t ht => by rw [m4 t ht, k118 t ht]⟩
      · have v11 : ku V (0, 118, 0) q (g 11 y) (0, 115, 0) 11 = lk := by rw [h1.fr _ _ (mkey_no (by omega)) (by simp) (by simp) (by simp)]; exact s0.f11
        have v10 : ku V (0, 118, 0) q (g 11 y) (0, 115, 0) 10 = o := by rw [h1.fr _ _ (mkey_no (by omega)) (by simp) (by simp) (by simp)]; exact s0.f10
        rw [FSearch_choose_L20, xI115b hc, v7, if_pos (by omega), xQ115_3b hc, bde a1, xQ115_5b hc, zbe a2, xQ115_2b hc, xI115b hc, v11, xI115b hc, v10, zbe b1, zckb (by omega), zckb (by omega), q1, j1, zbe d1, xQ115_2b hc, zbe e1, zckb (by omega)]
        exact m1
      · rw [goL, if_pos fr]
        exact m2
    · have s1 : cf (bFree g W cnt o) (y + 1) = cf (bFree g W cnt o) y := if_neg fr
      obtain ⟨V', m1, m2, m3, m4⟩ := ih (y + 1) fu V S (by omega) (by omega) h hk h118
      rw [s1] at m1
      refine ⟨V', m1, ?_, m3, m4⟩
      rw [goL, if_neg fr]
      exact m2
theorem choose_X (hc : CX x c) (hFU : 60 ≤ FU) (s0 : SC V0 c R K g W k cnt Z lk o lim) : ∀ (r q y D : Nat) (ch : Nat → Nat) (V : Key → Nat → Int) (S : SS), q + r = k → r < D → y ≤ Z → (∀ t, t < q → ch t < Z) → SX V0 V g k S → MK V W (bP g cnt ch) (bL g cnt lk) (bO g cnt o) (cnt + q) → (∀ t, t < q → V (0, 118, 0) t = g 11 (ch t)) → ∃ V', FSearch_choose_n FU D (x + 115) (q : Int) (cf (bFree g W cnt o) y : Int) (zX x c N V R K) = some ((), zX x c N V' R K) ∧ SX V0 V' g k (goZ (bUp g W cnt k lk o lim) (bFree g W cnt o) Z k r y ch S) ∧ MK V' W (bP g cnt ch) (bL g cnt lk) (bO g cnt o) (cnt + q) ∧ (∀ t, t < q → V' (0, 118, 0) t = V (0, 118, 0) t) := by
  have c4 := s0.cnt.2
  have k3 := s0.k3
  intro r
  induction r with
  | zero =>
    intro q y D ch V S hq hD hy hch h hk h118
    obtain ⟨D, rfl⟩ : ∃ D', D = D' + 1 := ⟨D - 1, by omega⟩
    have : q = k := by omega
    subst this
    have v9 : V (0, 115, 0) 9 = (q : Int) := by rw [h.fr _ _ (mkey_no (by omega)) (by simp) (by simp) (by simp)]; exact s0.f9
    obtain ⟨V', e1, e2, e3⟩ := weigh_X (FU := FU) (N := N) hc hFU s0 h hk hch h118
    refine ⟨V', ?_, e2, hk.keep (by omega) (fun key t z => e3 key t (fun e => by rw [e] at z; exact mkey_no (by omega) z) (fun e => by rw [e] at z; exact absurd z (mkey_no (by omega)))), fun t _ => e3 _ _ (by simp) (by simp)⟩
    rw [FSearch_choose_n]
    unfold FSearch_choose FSearch_choose_b FSearch_choose_B13
    rw [xD115 hc, xI115b hc, v9, if_neg (by omega), zbe e1]
  | succ r ih =>
    intro q y D ch V S hq hD hy hch h hk h118
    obtain ⟨D, rfl⟩ : ∃ D', D = D' + 1 := ⟨D - 1, by omega⟩
    have v9 : V (0, 115, 0) 9 = (k : Int) := by rw [h.fr _ _ (mkey_no (by omega)) (by simp) (by simp) (by simp)]; exact s0.f9
    have kq : k - (r + 1) = q := by omega
    obtain ⟨V', e1, e2, e3, e4⟩ := choose_loop (FU := FU) (N := N) hc hFU s0 (q := q) (by omega) hch (rec := FSearch_choose_n FU D) (f := fun y S => goZ (bUp g W cnt k lk o lim) (bFree g W cnt o) Z k r (y + 1) (chu ch q y) S) (fun y V S h1 h2 h3 h4 => ih (q + 1) (y + 1) D (chu ch q y) V S (by omega) (by omega) (by omega) (fun t ht => by
      unfold chu
      by_cases z : t = q
      · rw [if_pos z]; omega
      · rw [if_neg z]; exact hch t (by omega)) h2 h3 h4) (Z - y) y FU V S (by omega) (by have := s0.Z10; omega) h hk h118
    refine ⟨V', ?_, ?_, e3, e4⟩
    · rw [FSearch_choose_n]
      unfold FSearch_choose FSearch_choose_b
      rw [xD115 hc, xI115b hc, v9, if_pos (by omega), if_pos (by omega)]
      exact e1
    · rw [goZ, kq]
      exact e2
end BSX
