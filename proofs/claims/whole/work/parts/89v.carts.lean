/-! ===== the packing as a search, without a machine ===== -/
def hup (H : Nat → Int) (c : Nat) (v : Int) : Nat → Int := fun j => if j = c then v else H j
def pkL (r w : Int) (H : Nat → Int) (p : Nat) (f : (Nat → Int) → Nat → Option (Nat → Nat)) : Nat → Nat → Option (Nat → Nat)
  | 0, _ => none
  | d + 1, c => if H c + w ≤ r then (match f (hup H c (H c + w)) c with | some A => some (fun q => if q = p then c else A q) | none => pkL r w H p f d (c + 1)) else pkL r w H p f d (c + 1)
def pk (r : Int) (ld : Nat → Int) : Nat → Nat → (Nat → Int) → Nat → Nat → Option (Nat → Nat)
  | 0, _, _, _, _ => some (fun _ => 0)
  | n + 1, p, H, u, l => pkL r (ld p) H p (fun H' c => pk r ld n (p + 1) H' (max u (c + 1)) l) (min (u + 1) l) 0
def fw (r : Int) (ld : Nat → Int) (L : Nat) : Nat → Nat → Option (Nat × (Nat → Nat))
  | 0, _ => none
  | d + 1, l => match pk r ld L 0 (fun _ => 0) 0 l with | some A => some (l, A) | none => fw r ld L d (l + 1)
theorem hup_at {H : Nat → Int} {c : Nat} {v : Int} : hup H c v c = v := if_pos rfl
theorem hup_o {H : Nat → Int} {c j : Nat} {v : Int} (h : j ≠ c) : hup H c v j = H j := if_neg h
theorem hup_hup {H : Nat → Int} {c : Nat} {v w : Int} (h : H c = w) : hup (hup H c v) c w = H := by
  funext j
  unfold hup
  by_cases e : j = c
  · rw [if_pos e, e, h]
  · rw [if_neg e, if_neg e]
section PCK
variable {r w : Int} {ld H H' : Nat → Int} {p : Nat} {f f' : (Nat → Int) → Nat → Option (Nat → Nat)}
theorem pkL_eq {l : Nat} (hH : ∀ c, c < l → H c = H' c) (hf : ∀ c, c < l → f (hup H c (H c + w)) c = f' (hup H' c (H' c + w)) c) : ∀ d c, d + c ≤ l → pkL r w H p f d c = pkL r w H' p f' d c
  | 0, _, _ => rfl
  | d + 1, c, h => by
    rw [pkL, pkL, hf c (by omega), pkL_eq hH hf d (c + 1) (by omega), hH c (by omega)]
theorem pkk_eq {l : Nat} : ∀ n p H H' u, (∀ c, c < l → H c = H' c) → pk r ld n p H u l = pk r ld n p H' u l
  | 0, _, _, _, _, _ => rfl
  | n + 1, p, H, H', u, h => by
    rw [pk, pk]
    refine pkL_eq h (fun c hc => ?_) _ _ (by omega)
    refine pkk_eq n (p + 1) _ _ _ (fun j hj => ?_)
    unfold hup
    rw [h c hc, h j hj]
theorem pkL_none : ∀ d c0, (∀ c, c0 ≤ c → c < c0 + d → H c + w ≤ r → f (hup H c (H c + w)) c = none) → pkL r w H p f d c0 = none
  | 0, _, _ => rfl
  | d + 1, c0, h => by
    have ih := pkL_none d (c0 + 1) (fun c h1 h2 => h c (by omega) (by omega))
    rw [pkL]
    by_cases e : H c0 + w ≤ r
    · rw [if_pos e, h c0 (by omega) (by omega) e]
      exact ih
    · rw [if_neg e]
      exact ih
theorem pkL_some : ∀ d c0, (∃ c, c0 ≤ c ∧ c < c0 + d ∧ H c + w ≤ r ∧ (f (hup H c (H c + w)) c).isSome = true) → (pkL r w H p f d c0).isSome = true
  | 0, _, h => by obtain ⟨c, h1, h2, _⟩ := h; omega
  | d + 1, c0, h => by
    obtain ⟨c, h1, h2, h3, h4⟩ := h
    rw [pkL]
    by_cases ec : c = c0
    · subst ec
      rw [if_pos h3]
      cases q : f (hup H c (H c + w)) c with
      | none => rw [q] at h4; exact absurd h4 (by decide)
      | some A => rfl
    · have ih := pkL_some d (c0 + 1) ⟨c, by omega, by omega, h3, h4⟩
      by_cases e : H c0 + w ≤ r
      · rw [if_pos e]
        cases q : f (hup H c0 (H c0 + w)) c0 with
        | none => exact ih
        | some A => rfl
      · rw [if_neg e]
        exact ih
theorem pk_no (hl : ∀ q, 0 ≤ ld q) {l : Nat} : ∀ n p H u, (∀ c, c < l → 0 ≤ H c) → (∃ q, p ≤ q ∧ q < p + n ∧ r < ld q) → pk r ld n p H u l = none
  | 0, p, H, u, h, hq => by obtain ⟨q, h1, h2, _⟩ := hq; omega
  | n + 1, p, H, u, h, hq => by
    obtain ⟨q, h1, h2, h3⟩ := hq
    rw [pk]
    refine pkL_none _ _ (fun c c1 c2 c3 => ?_)
    have c4 := h c (by omega)
    by_cases e : q = p
    · subst e
      omega
    · refine pk_no hl n (p + 1) _ _ (fun j hj => ?_) ⟨q, by omega, by omega, h3⟩
      unfold hup
      have := h j hj
      have := hl p
      split <;> omega
theorem pk_yes {l : Nat} : ∀ n p H u, u + n ≤ l → (∀ c, u ≤ c → c < l → H c = 0) → (∀ q, p ≤ q → q < p + n → ld q ≤ r) → (pk r ld n p H u l).isSome = true
  | 0, p, H, u, _, _, _ => rfl
  | n + 1, p, H, u, hu, h, hq => by
    rw [pk]
    have h0 := h u (by omega) (by omega)
    have h1 := hq p (by omega) (by omega)
    refine pkL_some _ _ ⟨u, by omega, by omega, by omega, ?_⟩
    show (pk r ld n (p + 1) (hup H u (H u + ld p)) (max u (u + 1)) l).isSome = true
    rw [show max u (u + 1) = u + 1 by omega]
    exact pk_yes n (p + 1) _ _ (by omega) (fun c c1 c2 => by rw [hup_o (by omega)]; exact h c (by omega) c2) (fun q q1 q2 => hq q (by omega) (by omega))
theorem fw_none {L : Nat} : ∀ d l, (∀ l', l ≤ l' → l' < l + d → pk r ld L 0 (fun _ => 0) 0 l' = none) → fw r ld L d l = none
  | 0, _, _ => rfl
  | d + 1, l, h => by
    rw [fw, h l (by omega) (by omega)]
    exact fw_none d (l + 1) (fun l' h1 h2 => h l' (by omega) (by omega))
theorem fw_some {L : Nat} : ∀ d l, (∃ l', l ≤ l' ∧ l' < l + d ∧ (pk r ld L 0 (fun _ => 0) 0 l').isSome = true) → ∃ l0 A, fw r ld L d l = some (l0, A) ∧ l ≤ l0 ∧ l0 < l + d
  | 0, _, h => by obtain ⟨c, h1, h2, _⟩ := h; omega
  | d + 1, l, h => by
    obtain ⟨c, h1, h2, h3⟩ := h
    rw [fw]
    cases q : pk r ld L 0 (fun _ => 0) 0 l with
    | some A => exact ⟨l, A, rfl, by omega, by omega⟩
    | none =>
      have ec : c ≠ l := fun e => by rw [e, q] at h3; exact absurd h3 (by decide)
      obtain ⟨l0, A, e1, e2, e3⟩ := fw_some d (l + 1) ⟨c, by omega, by omega, h3⟩
      exact ⟨l0, A, e1, by omega, by omega⟩
theorem pkL_f {f g : (Nat → Int) → Nat → Option (Nat → Nat)} (h : ∀ H' c, f H' c = g H' c) : ∀ d c, pkL r w H p f d c = pkL r w H p g d c := by
  have e : f = g := funext fun a => funext fun b => h a b
  intro d c
  rw [e]
theorem pk_ld {ld2 : Nat → Int} {l : Nat} : ∀ {n p : Nat} {H : Nat → Int} {u : Nat}, (∀ t, t < p + n → ld2 t = ld t) → pk r ld n p H u l = pk r ld2 n p H u l
  | 0, _, _, _, _ => rfl
  | n + 1, p, H, u, h => by
    rw [pk, pk, h p (by omega)]
    exact pkL_f (fun H' c => pk_ld (fun t ht => h t (by omega))) _ _
end PCK
