/-! ===== spend: whole parts, rests, and who is ahead ===== -/
theorem zsum_le {f h : Nat → Int} : ∀ {n : Nat}, (∀ j, j < n → f j ≤ h j) → zsum f n ≤ zsum h n
  | 0, _ => Int.le_refl _
  | n + 1, e => by
    have a := zsum_le (f := f) (h := h) (n := n) (fun j hj => e j (by omega))
    have b := e n (by omega)
    show zsum f n + f n ≤ zsum h n + h n
    omega
theorem zsum_lt {f h : Nat → Int} {j0 : Nat} : ∀ {n : Nat}, (∀ j, j < n → f j ≤ h j) → j0 < n → f j0 + 1 ≤ h j0 → zsum f n + 1 ≤ zsum h n
  | 0, _, h0, _ => absurd h0 (by omega)
  | n + 1, e, h0, h1 => by
    show zsum f n + f n + 1 ≤ zsum h n + h n
    have b := e n (by omega)
    by_cases c : j0 = n
    · subst c
      have a := zsum_le (f := f) (h := h) (n := j0) (fun j hj => e j (by omega))
      omega
    · have a := zsum_lt (f := f) (h := h) (j0 := j0) (n := n) (fun j hj => e j (by omega)) (by omega) h1
      omega
theorem zsum_up {f : Nat → Int} {a : Nat} : ∀ d, (∀ j, j < a + d → 0 ≤ f j) → zsum f a ≤ zsum f (a + d)
  | 0, _ => Int.le_refl _
  | d + 1, e => by
    have h := zsum_up (f := f) (a := a) d (fun j hj => e j (by omega))
    have b := e (a + d) (by omega)
    show zsum f a ≤ zsum f (a + d) + f (a + d)
    omega
theorem zsum_mem {f : Nat → Int} {n j : Nat} (e : ∀ j, j < n → 0 ≤ f j) (hj : j < n) : f j ≤ zsum f n := by
  have a := zsum_up (f := f) (a := j + 1) (n - (j + 1)) (fun t ht => e t (by omega))
  rw [show j + 1 + (n - (j + 1)) = n by omega] at a
  have b := zsum_nn (f := f) (n := j) (fun t ht => e t (by omega))
  have s : zsum f (j + 1) = zsum f j + f j := rfl
  omega
theorem zsum_mul {f : Nat → Int} {q : Int} : ∀ {n : Nat}, zsum (fun j => f j * q) n = zsum f n * q
  | 0 => by show (0 : Int) = 0 * q; rw [Int.zero_mul]
  | n + 1 => by
    show zsum (fun j => f j * q) n + f n * q = (zsum f n + f n) * q
    rw [zsum_mul (f := f) (q := q) (n := n), Int.add_mul]
def wP (p D : Int) (f : Nat → Int) (j : Nat) : Int := p * f j / D
def rP (p D : Int) (f : Nat → Int) (j : Nat) : Int := p * f j % D
theorem part_sum {p D : Int} {f : Nat → Int} : ∀ n, zsum (wP p D f) n * D + zsum (rP p D f) n = p * zsum f n
  | 0 => by show (0 : Int) * D + 0 = p * 0; rw [Int.zero_mul, Int.mul_zero]; rfl
  | n + 1 => by
    have ih := part_sum (p := p) (D := D) (f := f) n
    have e : rP p D f n = p * f n - D * wP p D f n := Int.emod_def _ _
    show (zsum (wP p D f) n + wP p D f n) * D + (zsum (rP p D f) n + rP p D f n) = p * (zsum f n + f n)
    rw [Int.add_mul, Int.mul_add, e, Int.mul_comm D]
    omega
theorem rP_bd {p D : Int} {f : Nat → Int} (hD : 0 < D) (j : Nat) : 0 ≤ rP p D f j ∧ rP p D f j < D := ⟨Int.emod_nonneg _ (by omega), Int.emod_lt_of_pos _ hD⟩
theorem wP_bd {p D : Int} {f : Nat → Int} (hD : 0 < D) (hp : 0 ≤ p) {j : Nat} (hf : 0 ≤ f j ∧ f j ≤ D) : 0 ≤ wP p D f j ∧ wP p D f j ≤ p := by
  refine ⟨Int.ediv_nonneg (Int.mul_nonneg hp hf.1) (by omega), ?_⟩
  exact Int.ediv_le_of_le_mul hD (Int.mul_le_mul_of_nonneg_left hf.2 hp)
/-- what is left after the whole parts -/
theorem left_bd {p D : Int} {f : Nat → Int} {n : Nat} (hD : 0 < D) (hS : zsum f n = D) : (p - zsum (wP p D f) n) * D = zsum (rP p D f) n ∧ 0 ≤ p - zsum (wP p D f) n ∧ p - zsum (wP p D f) n ≤ (n : Int) := by
  have e := part_sum (p := p) (D := D) (f := f) n
  have a : (p - zsum (wP p D f) n) * D = zsum (rP p D f) n := by
    rw [Int.sub_mul]
    rw [hS] at e
    omega
  have r0 := zsum_nn (f := rP p D f) (n := n) (fun j _ => (rP_bd hD j).1)
  have r1 := zsum_le (f := rP p D f) (h := fun _ => 1 * D) (n := n) (fun j _ => by have := (rP_bd (p := p) (f := f) hD j).2; show rP p D f j ≤ 1 * D; omega)
  have r2 : zsum (fun _ => 1 * D) n = (n : Int) * D := by
    rw [zsum_mul (f := fun _ => 1) (q := D)]
    have one : ∀ n : Nat, zsum (fun _ => (1 : Int)) n = (n : Int) := by
      intro n
      induction n with
      | zero => rfl
      | succ n ih =>
        show zsum (fun _ => (1 : Int)) n + 1 = ((n + 1 : Nat) : Int)
        omega
    rw [one]
  refine ⟨a, ?_, ?_⟩
  · by_cases z : 0 ≤ p - zsum (wP p D f) n
    · exact z
    · have := Int.mul_neg_of_neg_of_pos (show p - zsum (wP p D f) n < 0 by omega) hD
      omega
  · exact Int.le_of_mul_le_mul_right (show (p - zsum (wP p D f) n) * D ≤ (n : Int) * D by omega) hD
def ahF (r : Nat → Int) (i j : Nat) : Int := if r i < r j ∨ (r j = r i ∧ j < i) then 1 else 0
def inT (T : Nat → Bool) (j : Nat) : Int := if T j = true then 1 else 0
def TK (r : Nat → Int) (n : Nat) (T : Nat → Bool) (t : Int) : Prop := (∀ i j, i < n → j < n → T i = true → (r i < r j ∨ (r j = r i ∧ j < i)) → T j = true) ∧ (zsum (inT T) n = t)
theorem TK.up {r : Nat → Int} {n : Nat} {T : Nat → Bool} {t : Int} (h : TK r n T t) : ∀ i j, i < n → j < n → T i = true → (r i < r j ∨ (r j = r i ∧ j < i)) → T j = true := h.1
theorem TK.many {r : Nat → Int} {n : Nat} {T : Nat → Bool} {t : Int} (h : TK r n T t) : zsum (inT T) n = t := h.2
section SPP
variable {r : Nat → Int} {n : Nat} {T : Nat → Bool} {t : Int}
theorem TK.end_ (h : TK r n T t) {i : Nat} (hi : i < n) : T i = true ↔ zsum (ahF r i) n < t := by
  have m := h.many
  by_cases c : T i = true
  · have := zsum_lt (f := ahF r i) (h := inT T) (j0 := i) (n := n) (fun j hj => by
      unfold ahF inT
      by_cases e : r i < r j ∨ (r j = r i ∧ j < i)
      · rw [if_pos e, if_pos (h.up i j hi hj c e)]; omega
      · rw [if_neg e]; split <;> omega) hi (by
      unfold ahF inT
      rw [if_neg (by omega), if_pos c]; omega)
    exact ⟨fun _ => by omega, fun _ => c⟩
  · have := zsum_le (f := inT T) (h := ahF r i) (n := n) (fun j hj => by
      unfold ahF inT
      by_cases e : T j = true
      · rw [if_pos e]
        by_cases e2 : r i < r j ∨ (r j = r i ∧ j < i)
        · rw [if_pos e2]; omega
        · exfalso
          by_cases ij : j = i
          · subst ij; exact c e
          · exact c (h.up j i hj hi e (by omega))
      · rw [if_neg e]; split <;> omega)
    exact ⟨fun z => absurd z c, fun z => by omega⟩
theorem TK.step (h : TK r n T t) {b : Nat} (hb : b < n) (hT : T b = false) (hmax : ∀ j, j < n → T j = false → r j ≤ r b) (hfirst : ∀ j, j < b → T j = false → r j < r b) : TK r n (fun j => T j || j == b) (t + 1) := by
  have m := h.many
  refine ⟨fun i j hi hj e1 e2 => ?_, ?_⟩
  · show (T j || j == b) = true
    have e1 : (T i || i == b) = true := e1
    rw [Bool.or_eq_true] at e1 ⊢
    rcases e1 with e1 | e1
    · exact Or.inl (h.up i j hi hj e1 e2)
    · have eb : i = b := by simpa using e1
      subst eb
      by_cases z : T j = true
      · exact Or.inl z
      · exfalso
        have z : T j = false := by simpa using z
        rcases e2 with e2 | ⟨e2, e3⟩
        · have := hmax j hj z; omega
        · have := hfirst j e3 z; omega
  · rw [zsum_chg (f := inT T) (h := inT (fun j => T j || j == b)) (j0 := b) (fun j _ e => by
      have this : (j == b) = false := by simpa using e
      show (if (T j || j == b) = true then (1 : Int) else 0) = (if T j = true then 1 else 0)
      rw [this, Bool.or_false]) hb, m]
    unfold inT
    rw [hT]
    simp
/-- while fewer are taken than are left, one not taken has a rest -/
theorem TK.more (h : TK r n T t) {D L : Int} (hD : 0 < D) (hr : ∀ j, j < n → 0 ≤ r j ∧ r j < D) (hS : L * D = zsum r n) (ht : t < L) : ∃ j, j < n ∧ T j = false ∧ 0 < r j := by
  by_cases z : ∃ j, j < n ∧ T j = false ∧ 0 < r j
  · exact z
  · exfalso
    have m := h.many
    have a := zsum_le (f := r) (h := fun j => inT T j * D) (n := n) (fun j hj => by
      have b := hr j hj
      show r j ≤ inT T j * D
      unfold inT
      by_cases e : T j = true
      · rw [if_pos e, Int.one_mul]; omega
      · rw [if_neg e, Int.zero_mul]
        by_cases y : 0 < r j
        · exact absurd ⟨j, hj, by simpa using e, y⟩ z
        · omega)
    rw [zsum_mul, m, ← hS] at a
    have := Int.le_of_mul_le_mul_right a hD
    omega
end SPP
