/-! ===== a new shop in the class ===== -/
section OPN
variable {k x N FU : Nat} {c : Nat → Key} {V : Key → Nat → Int} {R : Key → Nat → Option Nat} {K : Key → Option (Nat × Nat)} {g W : Nat → Nat → Int}
def oV (V : Key → Nat → Int) (n : Nat) (p o l d : Int) : Key → Nat → Int := ku (ku (ku (ku (ku (ku (vu (vu V (1, n, 0)) (5, n, 0)) (1, n, 0) 5 (-1)) (1, n, 0) 11 (-1)) (1, n, 0) 0 p) (1, n, 0) 1 o) (1, n, 0) 2 l) (1, n, 0) 3 d
def oR (R : Key → Nat → Option Nat) (n N : Nat) : Key → Nat → Option Nat := ru (rnu (rnu R (1, n, 0)) (5, n, 0)) (1, n, 0) 4 (some (N + 1))
def oC (c : Nat → Key) (n N : Nat) : Nat → Key := cu (cu c N (1, n, 0)) (N + 1) (5, n, 0)
def oK (K : Key → Option (Nat × Nat)) (n : Nat) : Key → Option (Nat × Nat) := knu (knu K (1, n, 0) 7 0) (5, n, 0) 24 333
theorem IC.fresh {g : Nat → Nat → Int} (h : IC x c N g) {n : Nat} (hn : (g 0 15).toNat ≤ n) : (∀ q, c q ≠ (1, n, 0)) ∧ ∀ q, c q ≠ (5, n, 0) := by
  refine ⟨fun q z => ?_, fun q z => ?_⟩
  all_goals
    have u := h.used q
    rw [z] at u
    simp at u
    omega
theorem cu_new {key : Key} {M : Nat} (hM : M ≠ N) (hNew : ∀ q, N ≤ q → (c q).1 = 9) (h : N ≤ M) : (cu c N key M).1 = 9 := by
  rw [cu_old hM]
  exact hNew M h
theorem eS_init (h : IC x c N g) {n : Nat} (hn : (g 0 15).toNat ≤ n) (p o l d : Int) : FShop_init FU N p o l d (zX x (cu c N (1, n, 0)) (N + 1) (vu V (1, n, 0)) (rnu R (1, n, 0)) (knu K (1, n, 0) 7 0)) = some ((), zX x (oC c n N) (N + 2) (oV V n p o l d) (oR R n N) (oK K n)) := by
  have f := h.fresh hn
  have hN : (c N).1 = 9 := h.new N (Nat.le_refl N)
  have c1 := cu_cx h.cx hN f.1
  have f5 : ∀ q, cu c N (1, n, 0) q ≠ (5, n, 0) := fun q z => by
    by_cases e : q = N
    · rw [e, cu_at] at z; simp at z
    · rw [cu_old e] at z; exact f.2 q z
  have hN1 : (cu c N (1, n, 0) (N + 1)).1 = 9 := cu_new (by omega) h.new (by omega)
  have c2 : CX x (oC c n N) := cu_cx c1 hN1 f5
  have kq : oC c n N N = (1, n, 0) := by
    show cu (cu c N (1, n, 0)) (N + 1) (5, n, 0) N = (1, n, 0)
    rw [cu_old (by omega), cu_at]
  have kk : oK K n (1, n, 0) = some (7, 0) := by
    show knu (knu K (1, n, 0) 7 0) (5, n, 0) 24 333 (1, n, 0) = some (7, 0)
    rw [knu_o (by simp), knu_at]
  have pb : ∀ {α : Type} (f : Hp → Option α) (V : Key → Nat → Int) (R : Key → Nat → Option Nat) (N' j : Nat) (v : Int), (zpI (zX x (oC c n N) N' V R (oK K n)) N 7 j v).bind f = f (zX x (oC c n N) N' (ku V (1, n, 0) j v) R (oK K n)) := fun f V R N' j v => by
    rw [xoP c2 kq (by simp) kk]; rfl
  unfold FShop_init zbA
  rw [zX_new (by simp) f5]
  show (zpR (zX x (oC c n N) (N + 2) (vu (vu V (1, n, 0)) (5, n, 0)) (rnu (rnu R (1, n, 0)) (5, n, 0)) (oK K n)) N 7 4 (N + 1)).bind _ = _
  rw [xoR c2 kq (by simp) kk, pb, pb, pb, pb, pb, pb]
  rfl
theorem eC_addShop (h : IC x c N g) (hh : IH k c V R K g) {n : Nat} (hn : (g 0 15).toNat = n) (hn4 : n < 40) (p o l d : Int) : FChain_addShop FU (x + 66) N (zX x (oC c n N) (N + 2) (oV V n p o l d) (oR R n N) (oK K n)) = some ((n : Int), zX x (oC c n N) (N + 2) (ku (oV V n p o l d) (0, 66, 0) 2 ((n : Int) + 1)) (ru (oR R n N) (0, 67, 0) n (some N)) (oK K n)) := by
  have n0 := hh.many0
  have f := h.fresh (n := n) (by omega)
  have hN : (c N).1 = 9 := h.new N (Nat.le_refl N)
  have c1 := cu_cx h.cx hN f.1
  have f5 : ∀ q, cu c N (1, n, 0) q ≠ (5, n, 0) := fun q z => by
    by_cases e : q = N
    · rw [e, cu_at] at z; simp at z
    · rw [cu_old e] at z; exact f.2 q z
  have hN1 : (cu c N (1, n, 0) (N + 1)).1 = 9 := cu_new (by omega) h.new (by omega)
  have hc : CX x (oC c n N) := cu_cx c1 hN1 f5
  have kq : oC c n N N = (1, n, 0) := by
    show cu (cu c N (1, n, 0)) (N + 1) (5, n, 0) N = (1, n, 0)
    rw [cu_old (by omega), cu_at]
  have kk : oK K n (1, n, 0) = some (7, 0) := by
    show knu (knu K (1, n, 0) 7 0) (5, n, 0) 24 333 (1, n, 0) = some (7, 0)
    rw [knu_o (by simp), knu_at]
  have e2 : oV V n p o l d (0, 66, 0) 2 = (n : Int) := by
    unfold oV
    rw [ku_row (by simp), ku_row (by simp), ku_row (by simp), ku_row (by simp), ku_row (by simp), ku_row (by simp), vu_o (by simp), vu_o (by simp), hh.many]
    omega
  have eA : ∀ {α : Type} (f : Hp → Option α), (zaSR (zX x (oC c n N) (N + 2) (oV V n p o l d) (oR R n N) (oK K n)) (x + 67) 23 7 (n : Int) N).bind f = f (zX x (oC c n N) (N + 2) (oV V n p o l d) (ru (oR R n N) (0, 67, 0) n (some N)) (oK K n)) := fun f => by
    unfold zaSR
    rw [xAt (xK67 hc), if_pos ⟨by simp; omega, xKo kq (by simp) kk⟩, zX_sr hc (hc.2 67 (by omega)) _ _ (fun _ => rfl), show (n : Int).toNat = n by omega]
    rfl
  unfold FChain_addShop FChain_addShop_b
  simp (disch := omega) only [↓zcs, ↓zcn, ↓Option.bind_some, ↓zb_some, ↓zrz0b, ↓zrz1b, ↓zckb, zrz0, zrz1, ↓reduceIte, ↓xI0b hc, ↓xP0b hc, ↓xI1b hc, ↓xP1b hc, ↓xI66b hc, ↓xP66b hc, ↓xI68b hc, ↓xP68b hc, ↓xI115b hc, ↓xP115b hc, ↓xI120b hc, ↓xP120b hc, ↓xI121b hc, ↓xP121b hc, ↓xI125b hc, ↓xP125b hc, ↓xI127b hc, ↓xP127b hc, ↓xN2b hc, ↓xRo2b hc, ↓xWo2b hc, ↓xN65b hc, ↓xRo65b hc, ↓xWo65b hc, ↓xN113b hc, ↓xRo113b hc, ↓xWo113b hc, ↓xN114b hc, ↓xRo114b hc, ↓xWo114b hc, ↓xN116b hc, ↓xRo116b hc, ↓xWo116b hc, ↓xN117b hc, ↓xRo117b hc, ↓xWo117b hc, ↓xN118b hc, ↓xRo118b hc, ↓xWo118b hc, ↓xN119b hc, ↓xRo119b hc, ↓xWo119b hc, ↓xN122b hc, ↓xRo122b hc, ↓xWo122b hc, ↓xN124b hc, ↓xRo124b hc, ↓xWo124b hc, ↓xN126b hc, ↓xRo126b hc, ↓xWo126b hc, ↓xN128b hc, ↓xRo128b hc, ↓xWo128b hc, ↓xN129b hc, ↓xRo129b hc, ↓xWo129b hc, ↓xN130b hc, ↓xRo130b hc, ↓xWo130b hc, ↓xN131b hc, ↓xRo131b hc, ↓xWo131b hc, ↓xN132b hc, ↓xRo132b hc, ↓xWo132b hc, ↓xN133b hc, ↓xRo133b hc, ↓xWo133b hc, ↓xN67b hc, ↓xAo67b hc, ↓xN123b hc, ↓xAo123b hc, ↓xN3b hc, ↓xAo3b hc, ↓xN34b hc, ↓xAo34b hc, ↓xN69b hc, ↓xAo69b hc, ↓xQ0_0b hc, ↓xQ0_1b hc, ↓xQ0_2b hc, ↓xQ0_3b hc, ↓xQ0_4b hc, ↓xQ0_5b hc, ↓xQ0_6b hc, ↓xQ1_0b hc, ↓xQ1_1b hc, ↓xQ1_2b hc, ↓xQ1_3b hc, ↓xQ66_0b hc, ↓xQ66_1b hc, ↓xQ68_0b hc, ↓xQ68_1b hc, ↓xQ68_2b hc, ↓xQ68_3b hc, ↓xQ115_0b hc, ↓xQ115_1b hc, ↓xQ115_2b hc, ↓xQ115_3b hc, ↓xQ115_4b hc, ↓xQ115_5b hc, ↓xQ115_6b hc, ↓xQ120_0b hc, ↓xQ120_1b hc, ↓xQ120_2b hc, ↓xQ120_3b hc, ↓xQ125_0b hc, ↓xQ125_1b hc, ↓xQ127_0b hc, ↓xQ127_1b hc, ↓xQ127_2b hc, ↓xQ127_3b hc, ↓xQ127_4b hc, ↓xQ127_5b hc, ↓xD0 hc, ↓xD1 hc, ↓xD66 hc, ↓xD68 hc, ↓xD115 hc, ↓xD120 hc, ↓xD121 hc, ↓xD125 hc, ↓xD127 hc, ↓if_neg, ↓if_pos, e2, ↓eA, ku_at]
  rw [show (n : Int) + 1 - 1 = (n : Int) by omega]
end OPN
