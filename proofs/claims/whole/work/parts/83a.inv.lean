/-! ===== the reading of a text, without a machine: what it gives (of the names), the place behind it, whether that place is a fault ===== -/
abbrev PV : Type := (Nat → Int) → Int
abbrev PR : Type := PV × Nat × Bool
def pb (b : Nat → Int) (n p : Nat) : Int := if p < n then b p else -1
def pNum (b : Nat → Int) (n : Nat) : Nat → Int → Nat → PR
  | 0, v, p => (fun _ => v, p, decide (48 ≤ pb b n p ∧ pb b n p ≤ 57))
  | k + 1, v, p => if 48 ≤ pb b n p ∧ pb b n p ≤ 57 then pNum b n k (zwr (zwr (zwr (v * 10) + pb b n p) - 48)) (p + 1) else (fun _ => v, p, false)
def pPar (b : Nat → Int) (n : Nat) (r : Option (Nat → PR)) (p : Nat) : PR := match r with
  | none => (fun _ => 0, p, true)
  | some f => if (f (p + 1)).2.2 = true then f (p + 1) else if pb b n (f (p + 1)).2.1 = 41 then ((f (p + 1)).1, (f (p + 1)).2.1 + 1, false) else ((f (p + 1)).1, (f (p + 1)).2.1, true)
def pOne (b : Nat → Int) (n : Nat) (r : Option (Nat → PR)) (p : Nat) : PR :=
  if 48 ≤ pb b n p ∧ pb b n p ≤ 57 then pNum b n 6 0 p
  else if pb b n p = 40 then pPar b n r p
  else if pb b n p = 116 then (fun nm => nm 0, p + 1, false)
  else if pb b n p = 102 then (fun nm => nm 1, p + 1, false)
  else if pb b n p = 109 then (fun nm => nm 2, p + 1, false)
  else if pb b n p = 121 then (fun nm => nm 3, p + 1, false)
  else if pb b n p = 115 then (fun nm => nm 4, p + 1, false)
  else (fun _ => 0, p, true)
def pLoop (b : Nat → Int) (n : Nat) (op : Nat → PR) (c1 c2 : Int) (f : Int → Int → Int → Int) : Nat → PV → Nat → PR
  | 0, v, p => (v, p, true)
  | k + 1, v, p => if pb b n p = c1 ∨ pb b n p = c2 then (if (op (p + 1)).2.2 = true then op (p + 1) else pLoop b n op c1 c2 f k (fun nm => f (pb b n p) (v nm) ((op (p + 1)).1 nm)) (op (p + 1)).2.1) else (v, p, false)
def pChain (b : Nat → Int) (n : Nat) (op : Nat → PR) (c1 c2 : Int) (f : Int → Int → Int → Int) (p : Nat) : PR :=
  if (op p).2.2 = true then op p else pLoop b n op c1 c2 f (n + 1) (op p).1 (op p).2.1
def fProd (c v w : Int) : Int := if c = 42 then zwr (v * w) else if w = 0 then 0 else zwr (v.tdiv w)
def fSum (c v w : Int) : Int := if c = 43 then zwr (v + w) else zwr (v - w)
def pProd (b : Nat → Int) (n : Nat) (r : Option (Nat → PR)) : Nat → PR := pChain b n (pOne b n r) 42 47 fProd
def pSum (b : Nat → Int) (n : Nat) (r : Option (Nat → PR)) : Nat → PR := pChain b n (pProd b n r) 43 45 fSum
def pRec (b : Nat → Int) (n : Nat) : Nat → Option (Nat → PR)
  | 0 => none
  | d + 1 => some (pSum b n (pRec b n d))
def pS (b : Nat → Int) (n : Nat) : Nat → PR := pSum b n (pRec b n 8)
def pCmp (c v w : Int) : Bool := if c = 60 then decide (v < w) else if c = 61 then decide (v = w) else decide (w < v)
/-- a band: what it gives, whether its test holds, the place behind it, whether that is a fault -/
def pBand (b : Nat → Int) (n p : Nat) : PV × ((Nat → Int) → Bool) × Nat × Bool :=
  if (pS b n p).2.2 = true then ((pS b n p).1, fun _ => true, (pS b n p).2.1, true)
  else if pb b n (pS b n p).2.1 = 60 ∨ pb b n (pS b n p).2.1 = 61 ∨ pb b n (pS b n p).2.1 = 62 then
    (if (pS b n ((pS b n p).2.1 + 1)).2.2 = true then ((pS b n p).1, fun _ => true, (pS b n ((pS b n p).2.1 + 1)).2.1, true)
     else if pb b n (pS b n ((pS b n p).2.1 + 1)).2.1 = 44 then
       ((pS b n ((pS b n ((pS b n p).2.1 + 1)).2.1 + 1)).1, fun nm => pCmp (pb b n (pS b n p).2.1) ((pS b n p).1 nm) ((pS b n ((pS b n p).2.1 + 1)).1 nm), (pS b n ((pS b n ((pS b n p).2.1 + 1)).2.1 + 1)).2.1, (pS b n ((pS b n ((pS b n p).2.1 + 1)).2.1 + 1)).2.2)
     else ((pS b n p).1, fun _ => true, (pS b n ((pS b n p).2.1 + 1)).2.1, true))
  else ((pS b n p).1, fun _ => true, (pS b n p).2.1, false)
def pAcc (r : PV × ((Nat → Int) → Bool) × Nat × Bool) (a : (Nat → Int) → Int × Int) : (Nat → Int) → Int × Int := fun nm => if r.2.1 nm = true ∧ (a nm).2 = 0 then (r.1 nm, 1) else a nm
def pText (b : Nat → Int) (n : Nat) : Nat → ((Nat → Int) → Int × Int) → Nat → ((Nat → Int) → Int × Int) × Nat × Bool
  | 0, a, p => (a, p, true)
  | k + 1, a, p => if (pBand b n p).2.2.2 = true then (a, (pBand b n p).2.2.1, true)
    else if (pBand b n p).2.2.1 < n then (if b (pBand b n p).2.2.1 = 59 then pText b n k (pAcc (pBand b n p) a) ((pBand b n p).2.2.1 + 1) else (a, (pBand b n p).2.2.1, true))
    else (pAcc (pBand b n p) a, (pBand b n p).2.2.1, false)
def pRead (b : Nat → Int) (n : Nat) : ((Nat → Int) → Int × Int) × Nat × Bool := pText b n (n + 1) (fun _ => (0, 0)) 0
/-! ===== what holds between the two heaps ===== -/
def zsum (f : Nat → Int) : Nat → Int
  | 0 => 0
  | n + 1 => zsum f n + f n
theorem zsum_eq {f h : Nat → Int} : ∀ {n : Nat}, (∀ i, i < n → f i = h i) → zsum f n = zsum h n
  | 0, _ => rfl
  | n + 1, e => by
    show zsum f n + f n = zsum h n + h n
    rw [zsum_eq (n := n) (fun i hi => e i (by omega)), e n (by omega)]
/-- what a shop owes for a month -/
def mDue (g : Nat → Nat → Int) (s : Nat) : Int := g 26 s - g 28 s + g 27 s - g 29 s
/-- the plain numbers -/
def IS (V : Key → Nat → Int) (g : Nat → Nat → Int) : Prop := (V (0, 0, 0) 7 = g 0 0) ∧ (0 ≤ g 0 0 ∧ g 0 0 ≤ 9999) ∧ (V (0, 0, 0) 8 = g 0 7) ∧ (0 ≤ g 0 7 ∧ g 0 7 ≤ 99) ∧ (V (0, 68, 0) 5 = g 0 6) ∧ (1 ≤ g 0 6 ∧ g 0 6 ≤ 99) ∧ (g 0 16 = 0)
theorem IS.day {V : Key → Nat → Int} {g : Nat → Nat → Int} (h : IS V g) : V (0, 0, 0) 7 = g 0 0 := h.1
theorem IS.day0 {V : Key → Nat → Int} {g : Nat → Nat → Int} (h : IS V g) : 0 ≤ g 0 0 ∧ g 0 0 ≤ 9999 := h.2.1
theorem IS.bread {V : Key → Nat → Int} {g : Nat → Nat → Int} (h : IS V g) : V (0, 0, 0) 8 = g 0 7 := h.2.2.1
theorem IS.bread0 {V : Key → Nat → Int} {g : Nat → Nat → Int} (h : IS V g) : 0 ≤ g 0 7 ∧ g 0 7 ≤ 99 := h.2.2.2.1
theorem IS.spend {V : Key → Nat → Int} {g : Nat → Nat → Int} (h : IS V g) : V (0, 68, 0) 5 = g 0 6 := h.2.2.2.2.1
theorem IS.spend0 {V : Key → Nat → Int} {g : Nat → Nat → Int} (h : IS V g) : 1 ≤ g 0 6 ∧ g 0 6 ≤ 99 := h.2.2.2.2.2.1
theorem IS.tried {V : Key → Nat → Int} {g : Nat → Nat → Int} (h : IS V g) : g 0 16 = 0 := h.2.2.2.2.2.2
/-- the town -/
def IT (V : Key → Nat → Int) (g W : Nat → Nat → Int) : Prop := (V (0, 1, 0) 4 = g 0 2) ∧ (0 ≤ g 0 2 ∧ g 0 2 ≤ 30) ∧ (∀ i, i < 30 → V (0, 2, 0) i = g 1 i ∧ 0 ≤ g 1 i ∧ g 1 i ≤ 999) ∧ (∀ a b, a < 30 → b < 30 → V (0, 4 + a, 0) b = g 2 (30 * a + b)) ∧ (mEok g (g 0 2).toNat) ∧ (Clo (mE g) W) ∧ (∀ a b, a < 30 → b < 30 → V (0, 35 + a, 0) b = wEnc (W a b)) ∧ (g 0 5 = 0 ∨ g 0 5 = 1) ∧ (g 0 5 = 1 → ∀ a b, a < (g 0 2).toNat → b < (g 0 2).toNat → g 3 (30 * a + b) = W a b)
theorem IT.many {V : Key → Nat → Int} {g W : Nat → Nat → Int} (h : IT V g W) : V (0, 1, 0) 4 = g 0 2 := h.1
theorem IT.many0 {V : Key → Nat → Int} {g W : Nat → Nat → Int} (h : IT V g W) : 0 ≤ g 0 2 ∧ g 0 2 ≤ 30 := h.2.1
theorem IT.doors {V : Key → Nat → Int} {g W : Nat → Nat → Int} (h : IT V g W) : ∀ i, i < 30 → V (0, 2, 0) i = g 1 i ∧ 0 ≤ g 1 i ∧ g 1 i ≤ 999 := h.2.2.1
theorem IT.len {V : Key → Nat → Int} {g W : Nat → Nat → Int} (h : IT V g W) : ∀ a b, a < 30 → b < 30 → V (0, 4 + a, 0) b = g 2 (30 * a + b) := h.2.2.2.1
theorem IT.ok {V : Key → Nat → Int} {g W : Nat → Nat → Int} (h : IT V g W) : mEok g (g 0 2).toNat := h.2.2.2.2.1
theorem IT.clo {V : Key → Nat → Int} {g W : Nat → Nat → Int} (h : IT V g W) : Clo (mE g) W := h.2.2.2.2.2.1
theorem IT.ways {V : Key → Nat → Int} {g W : Nat → Nat → Int} (h : IT V g W) : ∀ a b, a < 30 → b < 30 → V (0, 35 + a, 0) b = wEnc (W a b) := h.2.2.2.2.2.2.1
theorem IT.flag {V : Key → Nat → Int} {g W : Nat → Nat → Int} (h : IT V g W) : g 0 5 = 0 ∨ g 0 5 = 1 := h.2.2.2.2.2.2.2.1
theorem IT.kept {V : Key → Nat → Int} {g W : Nat → Nat → Int} (h : IT V g W) : g 0 5 = 1 → ∀ a b, a < (g 0 2).toNat → b < (g 0 2).toNat → g 3 (30 * a + b) = W a b := h.2.2.2.2.2.2.2.2
/-- the sites -/
def IZ (V : Key → Nat → Int) (g : Nat → Nat → Int) : Prop := (V (0, 1, 0) 5 = g 0 18) ∧ (0 ≤ g 0 18 ∧ g 0 18 ≤ 10) ∧ (∀ i, i < (g 0 18).toNat → V (0, 65, 0) i = g 11 i ∧ 0 ≤ g 11 i ∧ g 11 i < g 0 2)
theorem IZ.many {V : Key → Nat → Int} {g : Nat → Nat → Int} (h : IZ V g) : V (0, 1, 0) 5 = g 0 18 := h.1
theorem IZ.many0 {V : Key → Nat → Int} {g : Nat → Nat → Int} (h : IZ V g) : 0 ≤ g 0 18 ∧ g 0 18 ≤ 10 := h.2.1
theorem IZ.site {V : Key → Nat → Int} {g : Nat → Nat → Int} (h : IZ V g) : ∀ i, i < (g 0 18).toNat → V (0, 65, 0) i = g 11 i ∧ 0 ≤ g 11 i ∧ g 11 i < g 0 2 := h.2.2
/-- a shop's numbers -/
def IHi (k : Nat) (V : Key → Nat → Int) (g : Nat → Nat → Int) (i : Nat) : Prop := (V (1, i, 0) 0 = g 4 i) ∧ (0 ≤ g 4 i ∧ g 4 i < g 0 2) ∧ (V (1, i, 0) 1 = g 5 i) ∧ (0 ≤ g 5 i ∧ g 5 i ≤ 14) ∧ (V (1, i, 0) 2 = g 6 i) ∧ (1 ≤ g 6 i ∧ g 6 i ≤ 99) ∧ (V (1, i, 0) 3 = g 7 i) ∧ (0 ≤ g 7 i ∧ g 7 i ≤ 9999) ∧ (V (1, i, 0) 5 = g 8 i) ∧ (-1 ≤ g 8 i ∧ g 8 i ≤ 9999) ∧ (V (1, i, 0) 6 = g 9 i) ∧ (0 ≤ g 9 i ∧ g 9 i ≤ 999) ∧ (V (1, i, 0) 7 = g 35 i) ∧ (0 ≤ g 35 i ∧ g 35 i ≤ 999) ∧ (V (1, i, 0) 8 = g 10 i) ∧ (0 ≤ g 10 i ∧ g 10 i ≤ 1000001 * (k : Int)) ∧ (V (1, i, 0) 11 = g 31 i) ∧ (-1 ≤ g 31 i ∧ g 31 i ≤ 9999) ∧ (V (1, i, 0) 12 = g 32 i) ∧ (0 ≤ g 32 i ∧ g 32 i ≤ 1009999) ∧ (V (1, i, 0) 13 = g 33 i) ∧ (V (1, i, 0) 14 = g 34 i)
theorem IHi.place {k : Nat} {V : Key → Nat → Int} {g : Nat → Nat → Int} {i : Nat} (h : IHi k V g i) : V (1, i, 0) 0 = g 4 i := h.1
theorem IHi.place0 {k : Nat} {V : Key → Nat → Int} {g : Nat → Nat → Int} {i : Nat} (h : IHi k V g i) : 0 ≤ g 4 i ∧ g 4 i < g 0 2 := h.2.1
theorem IHi.owner {k : Nat} {V : Key → Nat → Int} {g : Nat → Nat → Int} {i : Nat} (h : IHi k V g i) : V (1, i, 0) 1 = g 5 i := h.2.2.1
theorem IHi.owner0 {k : Nat} {V : Key → Nat → Int} {g : Nat → Nat → Int} {i : Nat} (h : IHi k V g i) : 0 ≤ g 5 i ∧ g 5 i ≤ 14 := h.2.2.2.1
theorem IHi.like {k : Nat} {V : Key → Nat → Int} {g : Nat → Nat → Int} {i : Nat} (h : IHi k V g i) : V (1, i, 0) 2 = g 6 i := h.2.2.2.2.1
theorem IHi.like0 {k : Nat} {V : Key → Nat → Int} {g : Nat → Nat → Int} {i : Nat} (h : IHi k V g i) : 1 ≤ g 6 i ∧ g 6 i ≤ 99 := h.2.2.2.2.2.1
theorem IHi.opened {k : Nat} {V : Key → Nat → Int} {g : Nat → Nat → Int} {i : Nat} (h : IHi k V g i) : V (1, i, 0) 3 = g 7 i := h.2.2.2.2.2.2.1
theorem IHi.opened0 {k : Nat} {V : Key → Nat → Int} {g : Nat → Nat → Int} {i : Nat} (h : IHi k V g i) : 0 ≤ g 7 i ∧ g 7 i ≤ 9999 := h.2.2.2.2.2.2.2.1
theorem IHi.closed {k : Nat} {V : Key → Nat → Int} {g : Nat → Nat → Int} {i : Nat} (h : IHi k V g i) : V (1, i, 0) 5 = g 8 i := h.2.2.2.2.2.2.2.2.1
theorem IHi.closed0 {k : Nat} {V : Key → Nat → Int} {g : Nat → Nat → Int} {i : Nat} (h : IHi k V g i) : -1 ≤ g 8 i ∧ g 8 i ≤ 9999 := h.2.2.2.2.2.2.2.2.2.1
theorem IHi.reach {k : Nat} {V : Key → Nat → Int} {g : Nat → Nat → Int} {i : Nat} (h : IHi k V g i) : V (1, i, 0) 6 = g 9 i := h.2.2.2.2.2.2.2.2.2.2.1
theorem IHi.reach0 {k : Nat} {V : Key → Nat → Int} {g : Nat → Nat → Int} {i : Nat} (h : IHi k V g i) : 0 ≤ g 9 i ∧ g 9 i ≤ 999 := h.2.2.2.2.2.2.2.2.2.2.2.1
theorem IHi.gain {k : Nat} {V : Key → Nat → Int} {g : Nat → Nat → Int} {i : Nat} (h : IHi k V g i) : V (1, i, 0) 7 = g 35 i := h.2.2.2.2.2.2.2.2.2.2.2.2.1
theorem IHi.gain0 {k : Nat} {V : Key → Nat → Int} {g : Nat → Nat → Int} {i : Nat} (h : IHi k V g i) : 0 ≤ g 35 i ∧ g 35 i ≤ 999 := h.2.2.2.2.2.2.2.2.2.2.2.2.2.1
theorem IHi.share {k : Nat} {V : Key → Nat → Int} {g : Nat → Nat → Int} {i : Nat} (h : IHi k V g i) : V (1, i, 0) 8 = g 10 i := h.2.2.2.2.2.2.2.2.2.2.2.2.2.2.1
theorem IHi.share0 {k : Nat} {V : Key → Nat → Int} {g : Nat → Nat → Int} {i : Nat} (h : IHi k V g i) : 0 ≤ g 10 i ∧ g 10 i ≤ 1000001 * (k : Int) := h.2.2.2.2.2.2.2.2.2.2.2.2.2.2.2.1
theorem IHi.nday {k : Nat} {V : Key → Nat → Int} {g : Nat → Nat → Int} {i : Nat} (h : IHi k V g i) : V (1, i, 0) 11 = g 31 i := h.2.2.2.2.2.2.2.2.2.2.2.2.2.2.2.2.1
theorem IHi.nday0 {k : Nat} {V : Key → Nat → Int} {g : Nat → Nat → Int} {i : Nat} (h : IHi k V g i) : -1 ≤ g 31 i ∧ g 31 i ≤ 9999 := h.2.2.2.2.2.2.2.2.2.2.2.2.2.2.2.2.2.1
theorem IHi.nlast {k : Nat} {V : Key → Nat → Int} {g : Nat → Nat → Int} {i : Nat} (h : IHi k V g i) : V (1, i, 0) 12 = g 32 i := h.2.2.2.2.2.2.2.2.2.2.2.2.2.2.2.2.2.2.1
theorem IHi.nlast0 {k : Nat} {V : Key → Nat → Int} {g : Nat → Nat → Int} {i : Nat} (h : IHi k V g i) : 0 ≤ g 32 i ∧ g 32 i ≤ 1009999 := h.2.2.2.2.2.2.2.2.2.2.2.2.2.2.2.2.2.2.2.1
theorem IHi.nstate {k : Nat} {V : Key → Nat → Int} {g : Nat → Nat → Int} {i : Nat} (h : IHi k V g i) : V (1, i, 0) 13 = g 33 i := h.2.2.2.2.2.2.2.2.2.2.2.2.2.2.2.2.2.2.2.2.1
theorem IHi.nend {k : Nat} {V : Key → Nat → Int} {g : Nat → Nat → Int} {i : Nat} (h : IHi k V g i) : V (1, i, 0) 14 = g 34 i := h.2.2.2.2.2.2.2.2.2.2.2.2.2.2.2.2.2.2.2.2.2
/-- the shops -/
def IH (k : Nat) (c : Nat → Key) (V : Key → Nat → Int) (R : Key → Nat → Option Nat) (K : Key → Option (Nat × Nat)) (g : Nat → Nat → Int) : Prop := (V (0, 66, 0) 2 = g 0 15) ∧ (0 ≤ g 0 15 ∧ g 0 15 ≤ 40) ∧ (∀ i, i < (g 0 15).toNat → ∃ a, R (0, 67, 0) i = some a ∧ c a = (1, i, 0) ∧ K (1, i, 0) = some (7, 0)) ∧ (∀ i, i < (g 0 15).toNat → ∃ a, R (1, i, 0) 4 = some a ∧ c a = (5, i, 0) ∧ K (5, i, 0) = some (24, 333)) ∧ (∀ i, i < (g 0 15).toNat → IHi k V g i) ∧ (∀ i, (g 0 15).toNat ≤ i → i < 40 → g 8 i = -1 ∧ g 9 i = 0 ∧ g 35 i = 0 ∧ g 10 i = 0 ∧ g 31 i = -1 ∧ g 32 i = 0 ∧ g 33 i = 0 ∧ g 34 i = 0)
theorem IH.many {k : Nat} {c : Nat → Key} {V : Key → Nat → Int} {R : Key → Nat → Option Nat} {K : Key → Option (Nat × Nat)} {g : Nat → Nat → Int} (h : IH k c V R K g) : V (0, 66, 0) 2 = g 0 15 := h.1
theorem IH.many0 {k : Nat} {c : Nat → Key} {V : Key → Nat → Int} {R : Key → Nat → Option Nat} {K : Key → Option (Nat × Nat)} {g : Nat → Nat → Int} (h : IH k c V R K g) : 0 ≤ g 0 15 ∧ g 0 15 ≤ 40 := h.2.1
theorem IH.at_ {k : Nat} {c : Nat → Key} {V : Key → Nat → Int} {R : Key → Nat → Option Nat} {K : Key → Option (Nat × Nat)} {g : Nat → Nat → Int} (h : IH k c V R K g) : ∀ i, i < (g 0 15).toNat → ∃ a, R (0, 67, 0) i = some a ∧ c a = (1, i, 0) ∧ K (1, i, 0) = some (7, 0) := h.2.2.1
theorem IH.months {k : Nat} {c : Nat → Key} {V : Key → Nat → Int} {R : Key → Nat → Option Nat} {K : Key → Option (Nat × Nat)} {g : Nat → Nat → Int} (h : IH k c V R K g) : ∀ i, i < (g 0 15).toNat → ∃ a, R (1, i, 0) 4 = some a ∧ c a = (5, i, 0) ∧ K (5, i, 0) = some (24, 333) := h.2.2.2.1
theorem IH.num {k : Nat} {c : Nat → Key} {V : Key → Nat → Int} {R : Key → Nat → Option Nat} {K : Key → Option (Nat × Nat)} {g : Nat → Nat → Int} (h : IH k c V R K g) : ∀ i, i < (g 0 15).toNat → IHi k V g i := h.2.2.2.2.1
theorem IH.none_ {k : Nat} {c : Nat → Key} {V : Key → Nat → Int} {R : Key → Nat → Option Nat} {K : Key → Option (Nat × Nat)} {g : Nat → Nat → Int} (h : IH k c V R K g) : ∀ i, (g 0 15).toNat ≤ i → i < 40 → g 8 i = -1 ∧ g 9 i = 0 ∧ g 35 i = 0 ∧ g 10 i = 0 ∧ g 31 i = -1 ∧ g 32 i = 0 ∧ g 33 i = 0 ∧ g 34 i = 0 := h.2.2.2.2.2
/-- a told month's numbers -/
def IMs (V : Key → Nat → Int) (g : Nat → Nat → Int) (key : Key) (s : Nat) : Prop := (V key 0 = g 23 s) ∧ (0 ≤ g 23 s ∧ g 23 s ≤ 99999) ∧ (V key 1 = g 24 s) ∧ (0 ≤ g 24 s ∧ g 24 s ≤ 9999) ∧ (V key 2 = g 25 s) ∧ (0 ≤ g 25 s ∧ g 25 s ≤ 9999) ∧ (V key 3 = g 26 s) ∧ (V key 4 = g 27 s) ∧ (V key 5 = g 28 s) ∧ (V key 6 = g 29 s)
theorem IMs.takings {V : Key → Nat → Int} {g : Nat → Nat → Int} {key : Key} {s : Nat} (h : IMs V g key s) : V key 0 = g 23 s := h.1
theorem IMs.takings0 {V : Key → Nat → Int} {g : Nat → Nat → Int} {key : Key} {s : Nat} (h : IMs V g key s) : 0 ≤ g 23 s ∧ g 23 s ≤ 99999 := h.2.1
theorem IMs.flour {V : Key → Nat → Int} {g : Nat → Nat → Int} {key : Key} {s : Nat} (h : IMs V g key s) : V key 1 = g 24 s := h.2.2.1
theorem IMs.flour0 {V : Key → Nat → Int} {g : Nat → Nat → Int} {key : Key} {s : Nat} (h : IMs V g key s) : 0 ≤ g 24 s ∧ g 24 s ≤ 9999 := h.2.2.2.1
theorem IMs.cards {V : Key → Nat → Int} {g : Nat → Nat → Int} {key : Key} {s : Nat} (h : IMs V g key s) : V key 2 = g 25 s := h.2.2.2.2.1
theorem IMs.cards0 {V : Key → Nat → Int} {g : Nat → Nat → Int} {key : Key} {s : Nat} (h : IMs V g key s) : 0 ≤ g 25 s ∧ g 25 s ≤ 9999 := h.2.2.2.2.2.1
theorem IMs.royalty {V : Key → Nat → Int} {g : Nat → Nat → Int} {key : Key} {s : Nat} (h : IMs V g key s) : V key 3 = g 26 s := h.2.2.2.2.2.2.1
theorem IMs.fund {V : Key → Nat → Int} {g : Nat → Nat → Int} {key : Key} {s : Nat} (h : IMs V g key s) : V key 4 = g 27 s := h.2.2.2.2.2.2.2.1
theorem IMs.royaltyPaid {V : Key → Nat → Int} {g : Nat → Nat → Int} {key : Key} {s : Nat} (h : IMs V g key s) : V key 5 = g 28 s := h.2.2.2.2.2.2.2.2.1
theorem IMs.fundPaid {V : Key → Nat → Int} {g : Nat → Nat → Int} {key : Key} {s : Nat} (h : IMs V g key s) : V key 6 = g 29 s := h.2.2.2.2.2.2.2.2.2
/-- the months -/
def IM (c : Nat → Key) (V : Key → Nat → Int) (R : Key → Nat → Option Nat) (K : Key → Option (Nat × Nat)) (g : Nat → Nat → Int) : Prop := (∀ s, s < 13320 → g 22 s = 0 ∨ g 22 s = 1) ∧ (∀ i j, i < (g 0 15).toNat → j < 333 → g 22 (333 * i + j) = 0 → R (5, i, 0) j = none) ∧ (∀ i j, i < (g 0 15).toNat → j < 333 → g 22 (333 * i + j) = 1 → ∃ a, R (5, i, 0) j = some a ∧ c a = (2, i, j) ∧ K (2, i, j) = some (3, 0)) ∧ (∀ i j, i < (g 0 15).toNat → j < 333 → g 22 (333 * i + j) = 1 → IMs V g (2, i, j) (333 * i + j)) ∧ (∀ s, s < 13320 → 0 ≤ g 28 s ∧ g 28 s ≤ g 26 s ∧ g 26 s ≤ 1000000 ∧ 0 ≤ g 29 s ∧ g 29 s ≤ g 27 s ∧ g 27 s ≤ 1000000) ∧ (∀ s, s < 13320 → g 22 s = 0 → g 26 s = 0 ∧ g 27 s = 0) ∧ (∀ s, 333 * (g 0 15).toNat ≤ s → s < 13320 → g 22 s = 0)
theorem IM.flag {c : Nat → Key} {V : Key → Nat → Int} {R : Key → Nat → Option Nat} {K : Key → Option (Nat × Nat)} {g : Nat → Nat → Int} (h : IM c V R K g) : ∀ s, s < 13320 → g 22 s = 0 ∨ g 22 s = 1 := h.1
theorem IM.none_ {c : Nat → Key} {V : Key → Nat → Int} {R : Key → Nat → Option Nat} {K : Key → Option (Nat × Nat)} {g : Nat → Nat → Int} (h : IM c V R K g) : ∀ i j, i < (g 0 15).toNat → j < 333 → g 22 (333 * i + j) = 0 → R (5, i, 0) j = none := h.2.1
theorem IM.some_ {c : Nat → Key} {V : Key → Nat → Int} {R : Key → Nat → Option Nat} {K : Key → Option (Nat × Nat)} {g : Nat → Nat → Int} (h : IM c V R K g) : ∀ i j, i < (g 0 15).toNat → j < 333 → g 22 (333 * i + j) = 1 → ∃ a, R (5, i, 0) j = some a ∧ c a = (2, i, j) ∧ K (2, i, j) = some (3, 0) := h.2.2.1
theorem IM.num {c : Nat → Key} {V : Key → Nat → Int} {R : Key → Nat → Option Nat} {K : Key → Option (Nat × Nat)} {g : Nat → Nat → Int} (h : IM c V R K g) : ∀ i j, i < (g 0 15).toNat → j < 333 → g 22 (333 * i + j) = 1 → IMs V g (2, i, j) (333 * i + j) := h.2.2.2.1
theorem IM.due0 {c : Nat → Key} {V : Key → Nat → Int} {R : Key → Nat → Option Nat} {K : Key → Option (Nat × Nat)} {g : Nat → Nat → Int} (h : IM c V R K g) : ∀ s, s < 13320 → 0 ≤ g 28 s ∧ g 28 s ≤ g 26 s ∧ g 26 s ≤ 1000000 ∧ 0 ≤ g 29 s ∧ g 29 s ≤ g 27 s ∧ g 27 s ≤ 1000000 := h.2.2.2.2.1
theorem IM.zero {c : Nat → Key} {V : Key → Nat → Int} {R : Key → Nat → Option Nat} {K : Key → Option (Nat × Nat)} {g : Nat → Nat → Int} (h : IM c V R K g) : ∀ s, s < 13320 → g 22 s = 0 → g 26 s = 0 ∧ g 27 s = 0 := h.2.2.2.2.2.1
theorem IM.later {c : Nat → Key} {V : Key → Nat → Int} {R : Key → Nat → Option Nat} {K : Key → Option (Nat × Nat)} {g : Nat → Nat → Int} (h : IM c V R K g) : ∀ s, 333 * (g 0 15).toNat ≤ s → s < 13320 → g 22 s = 0 := h.2.2.2.2.2.2
/-- a shop's money -/
def IU (k : Nat) (V : Key → Nat → Int) (g : Nat → Nat → Int) : Prop := (∀ i, i < (g 0 15).toNat → V (1, i, 0) 10 = g 30 i ∧ 0 ≤ g 30 i ∧ g 30 i ≤ 1000000 * (k : Int)) ∧ (∀ i, i < (g 0 15).toNat → V (1, i, 0) 9 = zsum (fun j => mDue g (333 * i + j)) 333 ∧ V (1, i, 0) 9 ≤ 2000000 * (k : Int)) ∧ (∀ i, i < (g 0 15).toNat → 0 < g 30 i → V (1, i, 0) 9 = 0) ∧ (∀ i, i < (g 0 15).toNat → 0 ≤ g 31 i → g 33 i = 0 → 0 < V (1, i, 0) 9) ∧ (∀ i, (g 0 15).toNat ≤ i → i < 40 → g 30 i = 0)
theorem IU.credit {k : Nat} {V : Key → Nat → Int} {g : Nat → Nat → Int} (h : IU k V g) : ∀ i, i < (g 0 15).toNat → V (1, i, 0) 10 = g 30 i ∧ 0 ≤ g 30 i ∧ g 30 i ≤ 1000000 * (k : Int) := h.1
theorem IU.unpaid {k : Nat} {V : Key → Nat → Int} {g : Nat → Nat → Int} (h : IU k V g) : ∀ i, i < (g 0 15).toNat → V (1, i, 0) 9 = zsum (fun j => mDue g (333 * i + j)) 333 ∧ V (1, i, 0) 9 ≤ 2000000 * (k : Int) := h.2.1
theorem IU.one {k : Nat} {V : Key → Nat → Int} {g : Nat → Nat → Int} (h : IU k V g) : ∀ i, i < (g 0 15).toNat → 0 < g 30 i → V (1, i, 0) 9 = 0 := h.2.2.1
theorem IU.runs {k : Nat} {V : Key → Nat → Int} {g : Nat → Nat → Int} (h : IU k V g) : ∀ i, i < (g 0 15).toNat → 0 ≤ g 31 i → g 33 i = 0 → 0 < V (1, i, 0) 9 := h.2.2.2.1
theorem IU.later {k : Nat} {V : Key → Nat → Int} {g : Nat → Nat → Int} (h : IU k V g) : ∀ i, (g 0 15).toNat ≤ i → i < 40 → g 30 i = 0 := h.2.2.2.2
/-- the terms and the tape -/
def IX (c : Nat → Key) (V : Key → Nat → Int) (R : Key → Nat → Option Nat) (K : Key → Option (Nat × Nat)) (g : Nat → Nat → Int) : Prop := (V (0, 120, 0) 4 = g 0 31) ∧ (0 ≤ g 0 31 ∧ g 0 31 ≤ 20) ∧ (∀ i, i < (g 0 31).toNat → ∃ a, R (0, 123, 0) i = some a ∧ c a = (3, i, 0) ∧ K (3, i, 0) = some (9, 0)) ∧ (∀ i, i < (g 0 31).toNat → ∃ a, R (3, i, 0) 4 = some a ∧ c a = (4, i, 0) ∧ K (4, i, 0) = some (20, 120)) ∧ (∀ i, i < (g 0 31).toNat → V (3, i, 0) 0 = g 18 i) ∧ (∀ i, i < (g 0 31).toNat → V (3, i, 0) 1 = g 19 i) ∧ (∀ i, i < (g 0 31).toNat → V (3, i, 0) 2 = g 20 i) ∧ (∀ i, i < (g 0 31).toNat → V (3, i, 0) 3 = g 17 i ∧ 0 ≤ g 17 i ∧ g 17 i ≤ 120) ∧ (∀ i j, i < (g 0 31).toNat → j < (g 17 i).toNat → V (4, i, 0) j = g 16 (120 * i + j) ∧ 0 ≤ g 16 (120 * i + j) ∧ g 16 (120 * i + j) ≤ 255) ∧ (V (0, 120, 0) 5 = g 0 25) ∧ (0 ≤ g 0 25 ∧ g 0 25 ≤ 120) ∧ (∀ j, j < (g 0 25).toNat → V (0, 124, 0) j = g 15 j ∧ 0 ≤ g 15 j ∧ g 15 j ≤ 255) ∧ (∀ i, i < (g 0 31).toNat → (pRead (fun j => g 16 (120 * i + j)) (g 17 i).toNat).2.2 = false)
theorem IX.many {c : Nat → Key} {V : Key → Nat → Int} {R : Key → Nat → Option Nat} {K : Key → Option (Nat × Nat)} {g : Nat → Nat → Int} (h : IX c V R K g) : V (0, 120, 0) 4 = g 0 31 := h.1
theorem IX.many0 {c : Nat → Key} {V : Key → Nat → Int} {R : Key → Nat → Option Nat} {K : Key → Option (Nat × Nat)} {g : Nat → Nat → Int} (h : IX c V R K g) : 0 ≤ g 0 31 ∧ g 0 31 ≤ 20 := h.2.1
theorem IX.at_ {c : Nat → Key} {V : Key → Nat → Int} {R : Key → Nat → Option Nat} {K : Key → Option (Nat × Nat)} {g : Nat → Nat → Int} (h : IX c V R K g) : ∀ i, i < (g 0 31).toNat → ∃ a, R (0, 123, 0) i = some a ∧ c a = (3, i, 0) ∧ K (3, i, 0) = some (9, 0) := h.2.2.1
theorem IX.bytes {c : Nat → Key} {V : Key → Nat → Int} {R : Key → Nat → Option Nat} {K : Key → Option (Nat × Nat)} {g : Nat → Nat → Int} (h : IX c V R K g) : ∀ i, i < (g 0 31).toNat → ∃ a, R (3, i, 0) 4 = some a ∧ c a = (4, i, 0) ∧ K (4, i, 0) = some (20, 120) := h.2.2.2.1
theorem IX.kind {c : Nat → Key} {V : Key → Nat → Int} {R : Key → Nat → Option Nat} {K : Key → Option (Nat × Nat)} {g : Nat → Nat → Int} (h : IX c V R K g) : ∀ i, i < (g 0 31).toNat → V (3, i, 0) 0 = g 18 i := h.2.2.2.2.1
theorem IX.from_ {c : Nat → Key} {V : Key → Nat → Int} {R : Key → Nat → Option Nat} {K : Key → Option (Nat × Nat)} {g : Nat → Nat → Int} (h : IX c V R K g) : ∀ i, i < (g 0 31).toNat → V (3, i, 0) 1 = g 19 i := h.2.2.2.2.2.1
theorem IX.made {c : Nat → Key} {V : Key → Nat → Int} {R : Key → Nat → Option Nat} {K : Key → Option (Nat × Nat)} {g : Nat → Nat → Int} (h : IX c V R K g) : ∀ i, i < (g 0 31).toNat → V (3, i, 0) 2 = g 20 i := h.2.2.2.2.2.2.1
theorem IX.len {c : Nat → Key} {V : Key → Nat → Int} {R : Key → Nat → Option Nat} {K : Key → Option (Nat × Nat)} {g : Nat → Nat → Int} (h : IX c V R K g) : ∀ i, i < (g 0 31).toNat → V (3, i, 0) 3 = g 17 i ∧ 0 ≤ g 17 i ∧ g 17 i ≤ 120 := h.2.2.2.2.2.2.2.1
theorem IX.byte {c : Nat → Key} {V : Key → Nat → Int} {R : Key → Nat → Option Nat} {K : Key → Option (Nat × Nat)} {g : Nat → Nat → Int} (h : IX c V R K g) : ∀ i j, i < (g 0 31).toNat → j < (g 17 i).toNat → V (4, i, 0) j = g 16 (120 * i + j) ∧ 0 ≤ g 16 (120 * i + j) ∧ g 16 (120 * i + j) ≤ 255 := h.2.2.2.2.2.2.2.2.1
theorem IX.tlen {c : Nat → Key} {V : Key → Nat → Int} {R : Key → Nat → Option Nat} {K : Key → Option (Nat × Nat)} {g : Nat → Nat → Int} (h : IX c V R K g) : V (0, 120, 0) 5 = g 0 25 := h.2.2.2.2.2.2.2.2.2.1
theorem IX.tlen0 {c : Nat → Key} {V : Key → Nat → Int} {R : Key → Nat → Option Nat} {K : Key → Option (Nat × Nat)} {g : Nat → Nat → Int} (h : IX c V R K g) : 0 ≤ g 0 25 ∧ g 0 25 ≤ 120 := h.2.2.2.2.2.2.2.2.2.2.1
theorem IX.tape {c : Nat → Key} {V : Key → Nat → Int} {R : Key → Nat → Option Nat} {K : Key → Option (Nat × Nat)} {g : Nat → Nat → Int} (h : IX c V R K g) : ∀ j, j < (g 0 25).toNat → V (0, 124, 0) j = g 15 j ∧ 0 ≤ g 15 j ∧ g 15 j ≤ 255 := h.2.2.2.2.2.2.2.2.2.2.2.1
theorem IX.good {c : Nat → Key} {V : Key → Nat → Int} {R : Key → Nat → Option Nat} {K : Key → Option (Nat × Nat)} {g : Nat → Nat → Int} (h : IX c V R K g) : ∀ i, i < (g 0 31).toNat → (pRead (fun j => g 16 (120 * i + j)) (g 17 i).toNat).2.2 = false := h.2.2.2.2.2.2.2.2.2.2.2.2
/-- the names the reader knows -/
def IN (V : Key → Nat → Int) (g : Nat → Nat → Int) : Prop := (∀ i, i < 5 → V (0, 121, 0) (4 + i) = g 21 i ∧ zInI (g 21 i))
theorem IN.name {V : Key → Nat → Int} {g : Nat → Nat → Int} (h : IN V g) : ∀ i, i < 5 → V (0, 121, 0) (4 + i) = g 21 i ∧ zInI (g 21 i) := h
/-- the fund -/
def IF (k : Nat) (V : Key → Nat → Int) (g : Nat → Nat → Int) : Prop := (V (0, 125, 0) 2 = g 0 42) ∧ (0 ≤ g 0 42 ∧ g 0 42 ≤ 1000000 * (k : Int))
theorem IF.coins {k : Nat} {V : Key → Nat → Int} {g : Nat → Nat → Int} (h : IF k V g) : V (0, 125, 0) 2 = g 0 42 := h.1
theorem IF.coins0 {k : Nat} {V : Key → Nat → Int} {g : Nat → Nat → Int} (h : IF k V g) : 0 ≤ g 0 42 ∧ g 0 42 ≤ 1000000 * (k : Int) := h.2
/-- the loads and the carts -/
def IP (V : Key → Nat → Int) (g : Nat → Nat → Int) : Prop := (V (0, 127, 0) 6 = g 0 49) ∧ (0 ≤ g 0 49 ∧ g 0 49 ≤ 10) ∧ (∀ t, t < (g 0 49).toNat → 0 ≤ V (0, 128, 0) t ∧ V (0, 128, 0) t < g 0 15) ∧ (∀ s t, s < t → t < (g 0 49).toNat → V (0, 128, 0) s < V (0, 128, 0) t) ∧ (∀ t, t < (g 0 49).toNat → V (0, 129, 0) t = g 36 (V (0, 128, 0) t).toNat ∧ 1 ≤ V (0, 129, 0) t ∧ V (0, 129, 0) t ≤ 99) ∧ (∀ i : Nat, i < 40 → (∀ t, t < (g 0 49).toNat → V (0, 128, 0) t ≠ (i : Int)) → g 36 i = 0) ∧ (0 ≤ V (0, 127, 0) 7 ∧ V (0, 127, 0) 7 ≤ 10) ∧ (∀ t, t < (V (0, 127, 0) 7).toNat → 0 ≤ V (0, 132, 0) t ∧ V (0, 132, 0) t < g 0 15 ∧ g 38 (V (0, 132, 0) t).toNat = V (0, 133, 0) t) ∧ (∀ i : Nat, i < 40 → (∀ t, t < (V (0, 127, 0) 7).toNat → V (0, 132, 0) t ≠ (i : Int)) → g 38 i = -1) ∧ (∀ i, i < 10 → g 39 i = 0)
theorem IP.many {V : Key → Nat → Int} {g : Nat → Nat → Int} (h : IP V g) : V (0, 127, 0) 6 = g 0 49 := h.1
theorem IP.many0 {V : Key → Nat → Int} {g : Nat → Nat → Int} (h : IP V g) : 0 ≤ g 0 49 ∧ g 0 49 ≤ 10 := h.2.1
theorem IP.shop {V : Key → Nat → Int} {g : Nat → Nat → Int} (h : IP V g) : ∀ t, t < (g 0 49).toNat → 0 ≤ V (0, 128, 0) t ∧ V (0, 128, 0) t < g 0 15 := h.2.2.1
theorem IP.rise {V : Key → Nat → Int} {g : Nat → Nat → Int} (h : IP V g) : ∀ s t, s < t → t < (g 0 49).toNat → V (0, 128, 0) s < V (0, 128, 0) t := h.2.2.2.1
theorem IP.load {V : Key → Nat → Int} {g : Nat → Nat → Int} (h : IP V g) : ∀ t, t < (g 0 49).toNat → V (0, 129, 0) t = g 36 (V (0, 128, 0) t).toNat ∧ 1 ≤ V (0, 129, 0) t ∧ V (0, 129, 0) t ≤ 99 := h.2.2.2.2.1
theorem IP.rest {V : Key → Nat → Int} {g : Nat → Nat → Int} (h : IP V g) : ∀ i : Nat, i < 40 → (∀ t, t < (g 0 49).toNat → V (0, 128, 0) t ≠ (i : Int)) → g 36 i = 0 := h.2.2.2.2.2.1
theorem IP.packed0 {V : Key → Nat → Int} {g : Nat → Nat → Int} (h : IP V g) : 0 ≤ V (0, 127, 0) 7 ∧ V (0, 127, 0) 7 ≤ 10 := h.2.2.2.2.2.2.1
theorem IP.cart {V : Key → Nat → Int} {g : Nat → Nat → Int} (h : IP V g) : ∀ t, t < (V (0, 127, 0) 7).toNat → 0 ≤ V (0, 132, 0) t ∧ V (0, 132, 0) t < g 0 15 ∧ g 38 (V (0, 132, 0) t).toNat = V (0, 133, 0) t := h.2.2.2.2.2.2.2.1
theorem IP.none_ {V : Key → Nat → Int} {g : Nat → Nat → Int} (h : IP V g) : ∀ i : Nat, i < 40 → (∀ t, t < (V (0, 127, 0) 7).toNat → V (0, 132, 0) t ≠ (i : Int)) → g 38 i = -1 := h.2.2.2.2.2.2.2.2.1
theorem IP.held {V : Key → Nat → Int} {g : Nat → Nat → Int} (h : IP V g) : ∀ i, i < 10 → g 39 i = 0 := h.2.2.2.2.2.2.2.2.2
/-- what the latest search found -/
def ID (V : Key → Nat → Int) (g : Nat → Nat → Int) : Prop := (V (0, 115, 0) 8 = g 0 21) ∧ (0 ≤ g 0 21 ∧ g 0 21 ≤ 3) ∧ (∀ i, i < (g 0 21).toNat → V (0, 119, 0) i = g 13 i)
theorem ID.many {V : Key → Nat → Int} {g : Nat → Nat → Int} (h : ID V g) : V (0, 115, 0) 8 = g 0 21 := h.1
theorem ID.many0 {V : Key → Nat → Int} {g : Nat → Nat → Int} (h : ID V g) : 0 ≤ g 0 21 ∧ g 0 21 ≤ 3 := h.2.1
theorem ID.at_ {V : Key → Nat → Int} {g : Nat → Nat → Int} (h : ID V g) : ∀ i, i < (g 0 21).toNat → V (0, 119, 0) i = g 13 i := h.2.2
/-- which cells the class has made -/
def IC (x : Nat) (c : Nat → Key) (N : Nat) (g : Nat → Nat → Int) : Prop := (CX x c) ∧ (∀ q, N ≤ q → (c q).1 = 9) ∧ (∀ q, (c q).1 = 0 ∨ (c q).1 = 9 ∨ ((c q).1 = 1 ∧ (c q).2.1 < (g 0 15).toNat) ∨ ((c q).1 = 5 ∧ (c q).2.1 < (g 0 15).toNat) ∨ ((c q).1 = 2 ∧ (c q).2.1 < (g 0 15).toNat ∧ (c q).2.2 < 333 ∧ g 22 (333 * (c q).2.1 + (c q).2.2) = 1) ∨ ((c q).1 = 3 ∧ (c q).2.1 < (g 0 31).toNat) ∨ ((c q).1 = 4 ∧ (c q).2.1 < (g 0 31).toNat))
theorem IC.cx {x : Nat} {c : Nat → Key} {N : Nat} {g : Nat → Nat → Int} (h : IC x c N g) : CX x c := h.1
theorem IC.new {x : Nat} {c : Nat → Key} {N : Nat} {g : Nat → Nat → Int} (h : IC x c N g) : ∀ q, N ≤ q → (c q).1 = 9 := h.2.1
theorem IC.used {x : Nat} {c : Nat → Key} {N : Nat} {g : Nat → Nat → Int} (h : IC x c N g) : ∀ q, (c q).1 = 0 ∨ (c q).1 = 9 ∨ ((c q).1 = 1 ∧ (c q).2.1 < (g 0 15).toNat) ∨ ((c q).1 = 5 ∧ (c q).2.1 < (g 0 15).toNat) ∨ ((c q).1 = 2 ∧ (c q).2.1 < (g 0 15).toNat ∧ (c q).2.2 < 333 ∧ g 22 (333 * (c q).2.1 + (c q).2.2) = 1) ∨ ((c q).1 = 3 ∧ (c q).2.1 < (g 0 31).toNat) ∨ ((c q).1 = 4 ∧ (c q).2.1 < (g 0 31).toNat) := h.2.2
def ST (k x : Nat) (c : Nat → Key) (N : Nat) (V : Key → Nat → Int) (R : Key → Nat → Option Nat) (K : Key → Option (Nat × Nat)) (g W : Nat → Nat → Int) : Prop := (IS V g) ∧ (IT V g W) ∧ (IZ V g) ∧ (IH k c V R K g) ∧ (IM c V R K g) ∧ (IU k V g) ∧ (IX c V R K g) ∧ (IN V g) ∧ (IF k V g) ∧ (IP V g) ∧ (ID V g) ∧ (IC x c N g)
theorem ST.s {k x : Nat} {c : Nat → Key} {N : Nat} {V : Key → Nat → Int} {R : Key → Nat → Option Nat} {K : Key → Option (Nat × Nat)} {g W : Nat → Nat → Int} (h : ST k x c N V R K g W) : IS V g := h.1
theorem ST.t {k x : Nat} {c : Nat → Key} {N : Nat} {V : Key → Nat → Int} {R : Key → Nat → Option Nat} {K : Key → Option (Nat × Nat)} {g W : Nat → Nat → Int} (h : ST k x c N V R K g W) : IT V g W := h.2.1
theorem ST.z {k x : Nat} {c : Nat → Key} {N : Nat} {V : Key → Nat → Int} {R : Key → Nat → Option Nat} {K : Key → Option (Nat × Nat)} {g W : Nat → Nat → Int} (h : ST k x c N V R K g W) : IZ V g := h.2.2.1
theorem ST.h {k x : Nat} {c : Nat → Key} {N : Nat} {V : Key → Nat → Int} {R : Key → Nat → Option Nat} {K : Key → Option (Nat × Nat)} {g W : Nat → Nat → Int} (h : ST k x c N V R K g W) : IH k c V R K g := h.2.2.2.1
theorem ST.m {k x : Nat} {c : Nat → Key} {N : Nat} {V : Key → Nat → Int} {R : Key → Nat → Option Nat} {K : Key → Option (Nat × Nat)} {g W : Nat → Nat → Int} (h : ST k x c N V R K g W) : IM c V R K g := h.2.2.2.2.1
theorem ST.u {k x : Nat} {c : Nat → Key} {N : Nat} {V : Key → Nat → Int} {R : Key → Nat → Option Nat} {K : Key → Option (Nat × Nat)} {g W : Nat → Nat → Int} (h : ST k x c N V R K g W) : IU k V g := h.2.2.2.2.2.1
theorem ST.x {k x : Nat} {c : Nat → Key} {N : Nat} {V : Key → Nat → Int} {R : Key → Nat → Option Nat} {K : Key → Option (Nat × Nat)} {g W : Nat → Nat → Int} (h : ST k x c N V R K g W) : IX c V R K g := h.2.2.2.2.2.2.1
theorem ST.n {k x : Nat} {c : Nat → Key} {N : Nat} {V : Key → Nat → Int} {R : Key → Nat → Option Nat} {K : Key → Option (Nat × Nat)} {g W : Nat → Nat → Int} (h : ST k x c N V R K g W) : IN V g := h.2.2.2.2.2.2.2.1
theorem ST.f {k x : Nat} {c : Nat → Key} {N : Nat} {V : Key → Nat → Int} {R : Key → Nat → Option Nat} {K : Key → Option (Nat × Nat)} {g W : Nat → Nat → Int} (h : ST k x c N V R K g W) : IF k V g := h.2.2.2.2.2.2.2.2.1
theorem ST.p {k x : Nat} {c : Nat → Key} {N : Nat} {V : Key → Nat → Int} {R : Key → Nat → Option Nat} {K : Key → Option (Nat × Nat)} {g W : Nat → Nat → Int} (h : ST k x c N V R K g W) : IP V g := h.2.2.2.2.2.2.2.2.2.1
theorem ST.d {k x : Nat} {c : Nat → Key} {N : Nat} {V : Key → Nat → Int} {R : Key → Nat → Option Nat} {K : Key → Option (Nat × Nat)} {g W : Nat → Nat → Int} (h : ST k x c N V R K g W) : ID V g := h.2.2.2.2.2.2.2.2.2.2.1
theorem ST.c {k x : Nat} {c : Nat → Key} {N : Nat} {V : Key → Nat → Int} {R : Key → Nat → Option Nat} {K : Key → Option (Nat × Nat)} {g W : Nat → Nat → Int} (h : ST k x c N V R K g W) : IC x c N g := h.2.2.2.2.2.2.2.2.2.2.2
def INV (k x m : Nat) (X M : Hp) : Prop := ∃ (c : Nat → Key) (N : Nat) (V : Key → Nat → Int) (R : Key → Nat → Option Nat) (K : Key → Option (Nat × Nat)) (N' : Nat) (g W : Nat → Nat → Int), X = zX x c N V R K ∧ M = zG m N' g ∧ ST k x c N V R K g W
theorem IHi.skip {k : Nat} {V : Key → Nat → Int} {g : Nat → Nat → Int} {i : Nat} (q : IHi k V g i) : IHi (k + 1) V g i :=
  ⟨q.place, q.place0, q.owner, q.owner0, q.like, q.like0, q.opened, q.opened0, q.closed, q.closed0, q.reach, q.reach0, q.gain, q.gain0, q.share, ⟨q.share0.1, by have := q.share0.2; omega⟩, q.nday, q.nday0, q.nlast, q.nlast0, q.nstate, q.nend⟩
theorem ST.up {k x N N2 : Nat} {c : Nat → Key} {V : Key → Nat → Int} {R : Key → Nat → Option Nat} {K : Key → Option (Nat × Nat)} {g W : Nat → Nat → Int} (h : ST k x c N V R K g W) (hN : N ≤ N2) : ST k x c N2 V R K g W :=
  ⟨h.s, h.t, h.z, h.h, h.m, h.u, h.x, h.n, h.f, h.p, h.d, ⟨h.c.cx, fun q hq => h.c.new q (by omega), h.c.used⟩⟩
theorem ST.skip {k x N : Nat} {c : Nat → Key} {V : Key → Nat → Int} {R : Key → Nat → Option Nat} {K : Key → Option (Nat × Nat)} {g W : Nat → Nat → Int} (h : ST k x c N V R K g W) : ST (k + 1) x c N V R K g W := by
  have e : ∀ a b : Int, a ≤ 1000000 * (k : Int) → a ≤ 1000000 * ((k + 1 : Nat) : Int) := fun a _ h => by omega
  have e2 : ∀ a : Int, a ≤ 2000000 * (k : Int) → a ≤ 2000000 * ((k + 1 : Nat) : Int) := fun a h => by omega
  exact ⟨h.s, h.t, h.z, ⟨h.h.many, h.h.many0, h.h.at_, h.h.months, fun i hi => by
    have q := h.h.num i hi
    exact q.skip, h.h.none_⟩, h.m, ⟨fun i hi => by
    have q := h.u.credit i hi
    exact ⟨q.1, q.2.1, e _ 0 q.2.2⟩, fun i hi => by
    have q := h.u.unpaid i hi
    exact ⟨q.1, e2 _ q.2⟩, h.u.one, h.u.runs, h.u.later⟩, h.x, h.n, ⟨h.f.coins, h.f.coins0.1, e _ 0 h.f.coins0.2⟩, h.p, h.d, h.c⟩
theorem INV_up {k x m : Nat} {X M : Hp} (h : INV k x m X M) {n n' : Nat} (hn : zn X ≤ n) (hn' : zn M ≤ n') : INV k x m (zup X n) (zup M n') := by
  obtain ⟨c, N, V, R, K, N', g, W, rfl, rfl, h⟩ := h
  exact ⟨c, n, V, R, K, n', g, W, zX_up n, zG_up m N' n' g, h.up hn⟩
theorem INV_kx {k x m : Nat} {X M : Hp} (h : INV k x m X M) : zk X x = some (11, 0) := by
  obtain ⟨c, N, V, R, K, N', g, W, rfl, rfl, h⟩ := h
  exact xKf h.c.cx 0 (by omega)
theorem INV_km {k x m : Nat} {X M : Hp} (h : INV k x m X M) : zk M m = some (12, 0) := by
  obtain ⟨c, N, V, R, K, N', g, W, rfl, rfl, h⟩ := h
  exact zG_k0 m N' g
theorem INV_skip {k x m : Nat} {X M : Hp} (h : INV k x m X M) : INV (k + 1) x m X M := by
  obtain ⟨c, N, V, R, K, N', g, W, rfl, rfl, h⟩ := h
  exact ⟨c, N, V, R, K, N', g, W, rfl, rfl, h.skip⟩
