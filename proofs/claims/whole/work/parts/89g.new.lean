/-! ===== cells made later ===== -/
def cu (c : Nat → Key) (N : Nat) (key : Key) (q : Nat) : Key := if q = N then key else c q
def vu (V : Key → Nat → Int) (key a : Key) : Nat → Int := if a = key then fun _ => 0 else V a
def rnu (R : Key → Nat → Option Nat) (key a : Key) : Nat → Option Nat := if a = key then fun _ => none else R a
def knu (K : Key → Option (Nat × Nat)) (key : Key) (t l : Nat) (a : Key) : Option (Nat × Nat) := if a = key then some (t, l) else K a
section NEW
variable {x N : Nat} {c : Nat → Key} {V : Key → Nat → Int} {R : Key → Nat → Option Nat} {K : Key → Option (Nat × Nat)}
theorem zX_new {key : Key} (h0 : key.1 ≠ 0) (hf : ∀ q, c q ≠ key) (t l : Nat) : znw (zX x c N V R K) t l = zX x (cu c N key) (N + 1) (vu V key) (rnu R key) (knu K key t l) := by
  have e1 : cu c N key N = key := if_pos rfl
  have e2 : ∀ a, a ≠ N → cu c N key a = c a := fun a h => if_neg h
  refine Prod.ext ?_ (Prod.ext ?_ (Prod.ext ?_ rfl))
  · funext a j
    show (if a = N then 0 else V (c a) j) = vu V key (cu c N key a) j
    by_cases h : a = N
    · rw [if_pos h, h, e1]; unfold vu; rw [if_pos rfl]
    · rw [if_neg h, e2 a h]; unfold vu; rw [if_neg (hf a)]
  · funext a j
    show (if a = N then none else zr (zX x c N V R K) a j) = zr (zX x (cu c N key) (N + 1) (vu V key) (rnu R key) (knu K key t l)) a j
    rw [zX_r, zX_r]
    by_cases h : a = N
    · rw [if_pos h, h, e1, if_neg h0]; unfold rnu; rw [if_pos rfl]
    · rw [if_neg h, e2 a h]; unfold rnu; rw [if_neg (hf a)]
  · funext a
    show (if a = N then some (t, l) else zk (zX x c N V R K) a) = zk (zX x (cu c N key) (N + 1) (vu V key) (rnu R key) (knu K key t l)) a
    rw [zX_k, zX_k]
    by_cases h : a = N
    · rw [if_pos h, h, e1, if_neg h0]; unfold knu; rw [if_pos rfl]
    · rw [if_neg h, e2 a h]; unfold knu; rw [if_neg (hf a)]
theorem cu_cx {key : Key} (hc : CX x c) (hN : (c N).1 = 9) (hf : ∀ q, c q ≠ key) : CX x (cu c N key) := by
  have e1 : cu c N key N = key := if_pos rfl
  have e2 : ∀ a, a ≠ N → cu c N key a = c a := fun a h => if_neg h
  refine ⟨fun a b hab => ?_, fun j hj => ?_⟩
  · by_cases h : a = N
    · by_cases h2 : b = N
      · rw [h, h2]
      · rw [h, e1, e2 b h2] at hab
        exact absurd hab.symm (hf b)
    · by_cases h2 : b = N
      · rw [h2, e1, e2 a h] at hab
        exact absurd hab (hf a)
      · rw [e2 a h, e2 b h2] at hab
        exact hc.1 a b hab
  · rw [e2 (x + j) (fun z => by
      have := hc.2 j hj
      rw [z] at this
      rw [this] at hN
      exact absurd hN (by simp))]
    exact hc.2 j hj
theorem cu_at {key : Key} : cu c N key N = key := if_pos rfl
theorem cu_old {key : Key} {q : Nat} (h : q ≠ N) : cu c N key q = c q := if_neg h
theorem cu_key {key k2 : Key} {q : Nat} (hN : (c N).1 = 9) (h2 : k2.1 ≠ 9) (hq : c q = k2) : cu c N key q = k2 := by
  rw [cu_old (fun z => by rw [z] at hq; rw [hq] at hN; exact h2 hN)]
  exact hq
theorem vu_at {key : Key} : vu V key key = fun _ => 0 := if_pos rfl
theorem vu_o {key a : Key} (h : a ≠ key) : vu V key a = V a := if_neg h
theorem rnu_at {key : Key} : rnu R key key = fun _ => none := if_pos rfl
theorem rnu_o {key a : Key} (h : a ≠ key) : rnu R key a = R a := if_neg h
theorem knu_at {key : Key} {t l : Nat} : knu K key t l key = some (t, l) := if_pos rfl
theorem knu_o {key a : Key} {t l : Nat} (h : a ≠ key) : knu K key t l a = K a := if_neg h
/-- a reference put into an object of a key -/
theorem xoR {α : Type} {f : Hp → Option α} {q t j b : Nat} {key : Key} (hc : CX x c) (hq : c q = key) (h0 : key.1 ≠ 0) (hK : K key = some (t, 0)) : (zpR (zX x c N V R K) q t j b).bind f = f (zX x c N V (ru R key j (some b)) K) := by
  unfold zpR
  rw [if_pos (xKo hq h0 hK), zX_sr hc hq j (some b) (fun z => absurd z h0)]
  rfl
end NEW
