/-! ===== least ways: a matrix of edges, its closure ===== -/
def zFAR : Int := 1000000
/-- W is the closure of the edges E: lengths are at least 0, FAR where there is none -/
def Clo (E W : Nat → Nat → Int) : Prop :=
  (∀ a, W a a = 0) ∧ (∀ a b, 0 ≤ W a b ∧ W a b ≤ 1000000) ∧ (∀ a b, W a b ≤ E a b) ∧ (∀ a b c, W a b ≤ W a c + W c b) ∧
  ∀ φ : Nat → Int, (∀ a, 0 ≤ φ a ∧ φ a ≤ 1000000) → (∀ a c, φ a ≤ E a c + φ c) → ∀ a b, φ a ≤ W a b + φ b
theorem Clo.uniq {E W W2 : Nat → Nat → Int} (h : Clo E W) (h2 : Clo E W2) : ∀ a b, W2 a b ≤ W a b := fun a b => by
  obtain ⟨d2, r2, e2, t2, -⟩ := h2
  have := h.2.2.2.2 (fun a => W2 a b) (fun a => r2 a b) (fun a c => by have := t2 a b c; have := e2 a c; show W2 a b ≤ E a c + W2 c b; omega) a b
  have h0 := d2 b
  omega
theorem Clo.eq {E W W2 : Nat → Nat → Int} (h : Clo E W) (h2 : Clo E W2) : ∀ a b, W2 a b = W a b := fun a b => by
  have := h.uniq h2 a b
  have := h2.uniq h a b
  omega
theorem Clo.sym {E W : Nat → Nat → Int} (h : Clo E W) (hs : ∀ a b, E a b = E b a) : ∀ a b, W a b = W b a := by
  obtain ⟨d, r, e, t, p⟩ := h
  have h2 : Clo E (fun a b => W b a) := ⟨d, fun a b => r b a, fun a b => by have := e b a; rw [hs a b]; exact this, fun a b c => by have := t b a c; show W b a ≤ W c a + W b c; omega, fun φ hr hφ a b => by
    have := p (fun z => 1000000 - φ z) (fun z => by have := hr z; omega) (fun u v => by have := hφ v u; have := hs u v; show 1000000 - φ u ≤ E u v + (1000000 - φ v); omega) b a
    show φ a ≤ W b a + φ b
    omega⟩
  exact fun a b => Clo.eq h2 ⟨d, r, e, t, p⟩ a b
/-- the least of f over c < n, at most FAR -/
def zleast (f : Nat → Int) : Nat → Int
  | 0 => 1000000
  | n + 1 => if f n < zleast f n then f n else zleast f n
theorem zleast_le (f : Nat → Int) : ∀ n c, c < n → zleast f n ≤ f c
  | 0, c, h => absurd h (Nat.not_lt_zero c)
  | n + 1, c, h => by
    unfold zleast
    by_cases e : c = n
    · subst e; split <;> omega
    · have := zleast_le f n c (by omega)
      split <;> omega
theorem zleast_far (f : Nat → Int) : ∀ n, zleast f n ≤ 1000000
  | 0 => Int.le_refl _
  | n + 1 => by
    have := zleast_far f n
    unfold zleast
    split <;> omega
theorem zleast_at (f : Nat → Int) : ∀ n, zleast f n = 1000000 ∨ ∃ c, c < n ∧ zleast f n = f c
  | 0 => Or.inl rfl
  | n + 1 => by
    unfold zleast
    split
    · exact Or.inr ⟨n, Nat.lt_succ_self n, rfl⟩
    · rcases zleast_at f n with h | ⟨c, h1, h2⟩
      · exact Or.inl h
      · exact Or.inr ⟨c, by omega, h2⟩
/-- the first step of a least way -/
theorem Clo.step {E W : Nat → Nat → Int} {n : Nat} (h : Clo E W) (he : ∀ a b, 0 ≤ E a b) (hn : ∀ a c, n ≤ c → 1000000 ≤ E a c) {a b : Nat} (hab : a ≠ b) (hw : W a b < 1000000) : ∃ c, c < n ∧ E a c + W c b ≤ W a b := by
  obtain ⟨d, r, e, t, p⟩ := h
  have hφ : ∀ z, 0 ≤ zleast (fun c => E z c + W c b) n := fun z => by
    rcases zleast_at (fun c => E z c + W c b) n with q | ⟨c, -, q⟩
    · omega
    · rw [q]; have := he z c; have := r c b; show 0 ≤ E z c + W c b; omega
  have key := p (fun z => if z = b then 0 else zleast (fun c => E z c + W c b) n) (fun z => by
      have := hφ z
      have := zleast_far (fun c => E z c + W c b) n
      show 0 ≤ (if z = b then 0 else _) ∧ _ ≤ _
      split <;> omega) (fun u v => by
      show (if u = b then 0 else _) ≤ E u v + (if v = b then 0 else _)
      have h1 := he u v
      have h2 := hφ v
      by_cases eu : u = b
      · rw [if_pos eu]; split <;> omega
      · rw [if_neg eu]
        by_cases ev : v = b
        · rw [if_pos ev, ev]
          by_cases hb : b < n
          · have := zleast_le (fun c => E u c + W c b) n b hb
            have h3 := d b
            simp only [h3] at this
            omega
          · have := hn u b (by omega)
            have := zleast_far (fun c => E u c + W c b) n
            omega
        · rw [if_neg ev]
          by_cases hv : v < n
          · have h3 := zleast_le (fun c => E u c + W c b) n v hv
            have h4 : W v b ≤ zleast (fun c => E v c + W c b) n := by
              rcases zleast_at (fun c => E v c + W c b) n with q | ⟨c, -, q⟩
              · rw [q]; exact (r v b).2
              · rw [q]; have := t v b c; have := e v c; show W v b ≤ E v c + W c b; omega
            omega
          · have := hn u v (by omega)
            have := zleast_far (fun c => E u c + W c b) n
            omega) a b
  simp only [if_neg hab, if_pos] at key
  rcases zleast_at (fun c => E a c + W c b) n with q | ⟨c, hc, q⟩
  · omega
  · exact ⟨c, hc, by omega⟩
/-- how many of the first n are nearer to b than v -/
def zcnt (f : Nat → Int) (v : Int) : Nat → Nat
  | 0 => 0
  | n + 1 => zcnt f v n + if f n < v then 1 else 0
theorem zcnt_le (f : Nat → Int) (v : Int) : ∀ n, zcnt f v n ≤ n
  | 0 => Nat.le_refl 0
  | n + 1 => by
    have := zcnt_le f v n
    unfold zcnt
    split <;> omega
theorem zcnt_mono (f : Nat → Int) {v w : Int} (h : v ≤ w) : ∀ n, zcnt f v n ≤ zcnt f w n
  | 0 => Nat.le_refl 0
  | n + 1 => by
    have := zcnt_mono f h n
    unfold zcnt
    split <;> split <;> omega
theorem zcnt_lt (f : Nat → Int) {v w : Int} (h : v ≤ w) {c : Nat} (h1 : f c < w) (h2 : ¬ f c < v) : ∀ n, c < n → zcnt f v n < zcnt f w n
  | 0, hc => absurd hc (Nat.not_lt_zero c)
  | n + 1, hc => by
    unfold zcnt
    by_cases e : c = n
    · subst e
      have := zcnt_mono f h c
      rw [if_neg h2, if_pos h1]
      omega
    · have := zcnt_lt f h h1 h2 n (by omega)
      split <;> split <;> omega
theorem Clo.bound {E W : Nat → Nat → Int} {n : Nat} (h : Clo E W) (he : ∀ a b, 1 ≤ E a b) (hm : ∀ a b, E a b < 1000000 → E a b ≤ 99) (hn : ∀ a c, n ≤ c → 1000000 ≤ E a c) (b : Nat) : ∀ (k : Nat) (a : Nat), W a b ≤ k → W a b < 1000000 → W a b ≤ 99 * (zcnt (fun z => W z b) (W a b) n : Int) := by
  intro k
  induction k with
  | zero => intro a h1 h2; have := (h.2.1 a b).1; omega
  | succ k ih =>
    intro a h1 h2
    by_cases hab : a = b
    · subst hab; rw [h.1]; omega
    · obtain ⟨c, hc, hs⟩ := h.step (fun a b => by have := he a b; omega) hn hab h2
      have h3 := he a c
      have h4 := (h.2.1 c b).1
      have h5 := hm a c (by omega)
      have h8 := h.2.2.2.1 a b c
      have h9 := h.2.2.1 a c
      have h6 := ih c (by omega) (by omega)
      have h7 := zcnt_lt (fun z => W z b) (v := W c b) (w := W a b) (by omega) (c := c) (by show W c b < W a b; omega) (by show ¬ W c b < W c b; omega) n hc
      omega
theorem Clo.short {E W : Nat → Nat → Int} (h : Clo E W) (he : ∀ a b, 1 ≤ E a b) (hm : ∀ a b, E a b < 1000000 → E a b ≤ 99) (hn : ∀ a c, 30 ≤ c → 1000000 ≤ E a c) {a b : Nat} (hw : W a b < 1000000) : W a b ≤ 2970 := by
  have h1 := h.bound he hm hn b (W a b).toNat a (by have := (h.2.1 a b).1; omega) hw
  have h2 := zcnt_le (fun z => W z b) (W a b) 30
  omega
/-- a new street between u and v, shorter than the old one: what one offer of each pair gives -/
def zoff (W : Nat → Nat → Int) (u v : Nat) (l : Int) (a b : Nat) : Int := min (W a b) (min (W a u + l + W v b) (W a v + l + W u b))
theorem Clo.add {E W E' : Nat → Nat → Int} {u v : Nat} {l : Int} (h : Clo E W) (hs : ∀ a b, E a b = E b a) (hl : 1 ≤ l) (hE : ∀ a b, E' a b = if (a = u ∧ b = v) ∨ (a = v ∧ b = u) then l else E a b) (hlE : l ≤ E u v) : Clo E' (zoff W u v l) := by
  have hsy := h.sym hs
  obtain ⟨d, r, e, t, p⟩ := h
  have hoff : ∀ a b, zoff W u v l a b ≤ W a b ∧ zoff W u v l a b ≤ W a u + l + W v b ∧ zoff W u v l a b ≤ W a v + l + W u b ∧ (zoff W u v l a b = W a b ∨ zoff W u v l a b = W a u + l + W v b ∨ zoff W u v l a b = W a v + l + W u b) := fun a b => by
    unfold zoff; omega
  refine ⟨fun a => ?_, fun a b => ?_, fun a b => ?_, fun a b c => ?_, fun φ hr hφ a b => ?_⟩
  · have h1 := hoff a a
    have := d a; have := r a u; have := r v a; have := r a v; have := r u a
    omega
  · have h1 := hoff a b
    have := r a b; have := r a u; have := r v b; have := r a v; have := r u b
    omega
  · have h1 := hoff a b
    rw [hE]
    split
    · rename_i q
      rcases q with ⟨rfl, rfl⟩ | ⟨rfl, rfl⟩
      · have := d a; have := d b; omega
      · have := d a; have := d b; omega
    · have := e a b; omega
  · have h1 := hoff a b
    have h2 := hoff a c
    have h3 := hoff c b
    have t1 := t a b c
    have t2 := t a u c; have t3 := t a v c
    have t4 := t u b c; have t5 := t v b c
    have t6 := t a b u; have t7 := t a b v
    have r1 := r a c; have r2 := r c b; have r3 := r v c; have r4 := r c u; have r5 := r u c; have r6 := r c v
    have r7 := r a u; have r8 := r a v; have r9 := r u b; have r10 := r v b
    omega
  · have h1 := hoff a b
    have hEE : ∀ a b, E' a b ≤ E a b := fun a b => by
      rw [hE]
      split
      · rename_i q
        rcases q with ⟨rfl, rfl⟩ | ⟨rfl, rfl⟩
        · exact hlE
        · rw [hs]; exact hlE
      · exact Int.le_refl _
    have q := p φ hr (fun a c => by have := hφ a c; have := hEE a c; omega)
    have q1 := q a b; have q2 := q a u; have q3 := q v b; have q4 := q a v; have q5 := q u b
    have f1 := hφ u v; have f2 := hφ v u
    have e1 := hE u v; have e2 := hE v u
    rw [if_pos (Or.inl ⟨rfl, rfl⟩)] at e1
    rw [if_pos (Or.inr ⟨rfl, rfl⟩)] at e2
    omega
