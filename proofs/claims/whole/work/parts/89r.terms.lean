/-! ===== terms: a text kept ===== -/
section TRM
variable {k x m N N' FU : Nat} {c : Nat → Key} {V V' : Key → Nat → Int} {R : Key → Nat → Option Nat} {K : Key → Option (Nat × Nat)} {g g' W : Nat → Nat → Int} {b : Nat → Int} {n ln : Nat}
def cp (V : Key → Nat → Int) (n : Nat) (b : Nat → Int) (i : Nat) : Key → Nat → Int := fun key j => if key = (4, n, 0) ∧ j < i then b j else V key j
theorem cp_0 : cp V n b 0 = V := by
  funext key j
  unfold cp
  rw [if_neg (by omega)]
theorem cp_step (i : Nat) : ku (cp V n b i) (4, n, 0) i (b i) = cp V n b (i + 1) := by
  funext key j
  show (if key = (4, n, 0) ∧ j = i then b i else if key = (4, n, 0) ∧ j < i then b j else V key j) = (if key = (4, n, 0) ∧ j < i + 1 then b j else V key j)
  by_cases e : key = (4, n, 0)
  · by_cases e2 : j = i
    · subst e2
      rw [if_pos ⟨e, rfl⟩, if_pos ⟨e, by omega⟩]
    · rw [if_neg (fun z => e2 z.2)]
      by_cases e3 : j < i
      · rw [if_pos ⟨e, e3⟩, if_pos ⟨e, by omega⟩]
      · rw [if_neg (fun z => e3 z.2), if_neg (fun z => by have := z.2; omega)]
  · rw [if_neg (fun z => e z.1), if_neg (fun z => e z.1), if_neg (fun z => e z.1)]
theorem cp_o {key : Key} (h : key ≠ (4, n, 0)) (i j : Nat) : cp V n b i key j = V key j := if_neg (fun z => h z.1)
theorem xoQ {α : Type} {f : Nat → Option α} {q t j a : Nat} {key : Key} (hq : c q = key) (h0 : key.1 ≠ 0) (hK : K key = some (t, 0)) (hR : R key j = some a) : (zgQ (zX x c N V R K) q t j).bind f = f a := by
  unfold zgQ
  rw [if_pos (xKo hq h0 hK), xRo hq h0, hR]
  rfl
theorem copy_loop {a A : Nat} (hc : CX x c) (ha : c a = (3, n, 0)) (hK : K (3, n, 0) = some (9, 0)) (hR : R (3, n, 0) 4 = some A) (hA : c A = (4, n, 0)) (hKA : K (4, n, 0) = some (20, 120)) (hl : ln ≤ 120) (hb : ∀ j, j < ln → V (0, 124, 0) j = b j) : ∀ (d i fu : Nat), i + d = ln → d < fu → FText_init_L36 FU fu a (x + 124) (ln : Int) (i : Int) (zX x c N (cp V n b i) R K) = some ((), zX x c N (cp V n b ln) R K) := by
  intro d
  induction d with
  | zero =>
    intro i fu hi hf
    obtain ⟨fu, rfl⟩ : ∃ fu', fu = fu' + 1 := ⟨fu - 1, by omega⟩
    have : i = ln := by omega
    subst this
    rw [FText_init_L36, if_neg (by omega)]
  | succ d ih =>
    intro i fu hi hf
    obtain ⟨fu, rfl⟩ : ∃ fu', fu = fu' + 1 := ⟨fu - 1, by omega⟩
    have ti : (i : Int).toNat = i := by omega
    have hi1 : (i : Int) + 1 = ((i + 1 : Nat) : Int) := by omega
    have e1 := eB_at (FU := FU) (x := x) (N := N) (V := cp V n b i) (R := R) (K := K) (hc.2 124 (by omega)) (xK124 hc) (i := (i : Int)) (by omega)
    rw [ti, cp_o (by simp), hb i (by omega)] at e1
    have e2 := eB_put (FU := FU) (x := x) (N := N) (V := cp V n b i) (R := R) (K := K) hc hA (xKo hA (by simp) hKA) (i := (i : Int)) (v := b i) (by omega)
    rw [ti, cp_step] at e2
    rw [FText_init_L36, if_pos (by omega), xoQ ha (by simp) hK hR, bde e1, zbe e2, zckb (by omega), hi1]
    exact ih (i + 1) fu (by omega) (by omega)
def tC (c : Nat → Key) (n N : Nat) : Nat → Key := cu (cu c N (3, n, 0)) (N + 1) (4, n, 0)
def tK (K : Key → Option (Nat × Nat)) (n : Nat) : Key → Option (Nat × Nat) := knu (knu K (3, n, 0) 9 0) (4, n, 0) 20 120
def tR (R : Key → Nat → Option Nat) (n N : Nat) : Key → Nat → Option Nat := ru (rnu (rnu R (3, n, 0)) (4, n, 0)) (3, n, 0) 4 (some (N + 1))
def tV (V : Key → Nat → Int) (n : Nat) (kd fr mk ln : Int) : Key → Nat → Int := ku (ku (ku (ku (vu (vu V (3, n, 0)) (4, n, 0)) (3, n, 0) 0 kd) (3, n, 0) 1 fr) (3, n, 0) 2 mk) (3, n, 0) 3 ln
theorem IC.fresh3 (h : IC x c N g) (hn : (g 0 31).toNat ≤ n) : (∀ q, c q ≠ (3, n, 0)) ∧ ∀ q, c q ≠ (4, n, 0) := by
  refine ⟨fun q z => ?_, fun q z => ?_⟩
  all_goals
    have u := h.used q
    rw [z] at u
    simp at u
    omega
def TN (x : Nat) (c : Nat → Key) (K : Key → Option (Nat × Nat)) (n N : Nat) : Prop := (CX x (cu c N (3, n, 0))) ∧ (∀ q, cu c N (3, n, 0) q ≠ (4, n, 0)) ∧ ((cu c N (3, n, 0) (N + 1)).1 = 9) ∧ (CX x (tC c n N)) ∧ (tC c n N N = (3, n, 0)) ∧ (tC c n N (N + 1) = (4, n, 0)) ∧ (tK K n (3, n, 0) = some (9, 0)) ∧ (tK K n (4, n, 0) = some (20, 120))
theorem TN.c1 {x : Nat} {c : Nat → Key} {K : Key → Option (Nat × Nat)} {n N : Nat} (h : TN x c K n N) : CX x (cu c N (3, n, 0)) := h.1
theorem TN.f4 {x : Nat} {c : Nat → Key} {K : Key → Option (Nat × Nat)} {n N : Nat} (h : TN x c K n N) : ∀ q, cu c N (3, n, 0) q ≠ (4, n, 0) := h.2.1
theorem TN.n1 {x : Nat} {c : Nat → Key} {K : Key → Option (Nat × Nat)} {n N : Nat} (h : TN x c K n N) : (cu c N (3, n, 0) (N + 1)).1 = 9 := h.2.2.1
theorem TN.c2 {x : Nat} {c : Nat → Key} {K : Key → Option (Nat × Nat)} {n N : Nat} (h : TN x c K n N) : CX x (tC c n N) := h.2.2.2.1
theorem TN.a3 {x : Nat} {c : Nat → Key} {K : Key → Option (Nat × Nat)} {n N : Nat} (h : TN x c K n N) : tC c n N N = (3, n, 0) := h.2.2.2.2.1
theorem TN.a4 {x : Nat} {c : Nat → Key} {K : Key → Option (Nat × Nat)} {n N : Nat} (h : TN x c K n N) : tC c n N (N + 1) = (4, n, 0) := h.2.2.2.2.2.1
theorem TN.k3 {x : Nat} {c : Nat → Key} {K : Key → Option (Nat × Nat)} {n N : Nat} (h : TN x c K n N) : tK K n (3, n, 0) = some (9, 0) := h.2.2.2.2.2.2.1
theorem TN.k4 {x : Nat} {c : Nat → Key} {K : Key → Option (Nat × Nat)} {n N : Nat} (h : TN x c K n N) : tK K n (4, n, 0) = some (20, 120) := h.2.2.2.2.2.2.2
theorem IC.tn (h : IC x c N g) (hn : (g 0 31).toNat ≤ n) : TN x c K n N := by
  have f := h.fresh3 hn
  have hN : (c N).1 = 9 := h.new N (Nat.le_refl N)
  have c1 := cu_cx h.cx hN f.1
  have f4 : ∀ q, cu c N (3, n, 0) q ≠ (4, n, 0) := fun q z => by
    by_cases e : q = N
    · rw [e, cu_at] at z; simp at z
    · rw [cu_old e] at z; exact f.2 q z
  have hN1 : (cu c N (3, n, 0) (N + 1)).1 = 9 := cu_new (by omega) h.new (by omega)
  refine ⟨c1, f4, hN1, cu_cx c1 hN1 f4, ?_, ?_, ?_, ?_⟩
  · show cu (cu c N (3, n, 0)) (N + 1) (4, n, 0) N = (3, n, 0)
    rw [cu_old (by omega), cu_at]
  · show cu (cu c N (3, n, 0)) (N + 1) (4, n, 0) (N + 1) = (4, n, 0)
    rw [cu_at]
  · show knu (knu K (3, n, 0) 9 0) (4, n, 0) 20 120 (3, n, 0) = some (9, 0)
    rw [knu_o (by simp), knu_at]
  · show knu (knu K (3, n, 0) 9 0) (4, n, 0) 20 120 (4, n, 0) = some (20, 120)
    rw [knu_at]
theorem eT_init (h : IC x c N g) (hn : (g 0 31).toNat ≤ n) (hFU : 122 ≤ FU) (kd fr mk : Int) (hl : ln ≤ 120) (hb : ∀ j, j < ln → V (0, 124, 0) j = b j) : FText_init FU N kd fr mk (x + 124) (ln : Int) (zX x (cu c N (3, n, 0)) (N + 1) (vu V (3, n, 0)) (rnu R (3, n, 0)) (knu K (3, n, 0) 9 0)) = some ((), zX x (tC c n N) (N + 2) (cp (tV V n kd fr mk ln) n b ln) (tR R n N) (tK K n)) := by
  have T := h.tn (K := K) hn
  have pb : ∀ {α : Type} (f : Hp → Option α) (V : Key → Nat → Int) (R : Key → Nat → Option Nat) (N' j : Nat) (v : Int), (zpI (zX x (tC c n N) N' V R (tK K n)) N 9 j v).bind f = f (zX x (tC c n N) N' (ku V (3, n, 0) j v) R (tK K n)) := fun f V R N' j v => by
    rw [xoP T.c2 T.a3 (by simp) T.k3]; rfl
  unfold FText_init zbA
  rw [zX_new (by simp) T.f4]
  show (zpR (zX x (tC c n N) (N + 2) (vu (vu V (3, n, 0)) (4, n, 0)) (rnu (rnu R (3, n, 0)) (4, n, 0)) (tK K n)) N 9 4 (N + 1)).bind _ = _
  rw [xoR T.c2 T.a3 (by simp) T.k3, pb, pb, pb, pb]
  have e := copy_loop (FU := FU) (N := N + 2) (V := tV V n kd fr mk ln) (R := tR R n N) (b := b) T.c2 T.a3 T.k3 (by unfold tR; simp [ru]) T.a4 T.k4 hl (fun j hj => by
    unfold tV
    rw [ku_row (by simp), ku_row (by simp), ku_row (by simp), ku_row (by simp), vu_o (by simp), vu_o (by simp)]
    exact hb j hj) ln 0 FU (by omega) (by omega)
  rw [cp_0] at e
  exact e
def xG (g : Nat → Nat → Int) (n : Nat) (kd fr mk : Int) (ln : Nat) (b : Nat → Int) (a s : Nat) : Int :=
  if a = 16 ∧ 120 * n ≤ s ∧ s < 120 * n + ln then b (s - 120 * n) else if a = 17 ∧ s = n then (ln : Int) else if a = 18 ∧ s = n then kd else if a = 19 ∧ s = n then fr else if a = 20 ∧ s = n then mk else if a = 0 ∧ s = 31 then (n : Int) + 1 else g a s
def xV (V : Key → Nat → Int) (n : Nat) (kd fr mk : Int) (ln : Nat) (b : Nat → Int) : Key → Nat → Int := ku (cp (tV V n kd fr mk ln) n b ln) (0, 120, 0) 4 ((n : Int) + 1)
theorem ST.texted (h : ST k x c N V R K g W) (hn : (g 0 31).toNat = n) (hn2 : n < 20) {kd fr mk : Int} (hl : ln ≤ 120) (hbb : ∀ j, j < ln → 0 ≤ b j ∧ b j ≤ 255) (hgd : (pRead b ln).2.2 = false) : ST k x (tC c n N) (N + 2) (xV V n kd fr mk ln b) (ru (tR R n N) (0, 123, 0) n (some N)) (tK K n) (xG g n kd fr mk ln b) W := by
  have T := h.c.tn (K := K) (n := n) (by omega)
  have f := h.c.fresh3 (n := n) (by omega)
  have hN : (c N).1 = 9 := h.c.new N (Nat.le_refl N)
  have ih2 := (h.h.more (t := 9) (l := 0) (by simp) hN f.1).more (t := 20) (l := 120) (key := (4, n, 0)) (by simp) T.n1 T.f4
  have ih := (h.h.more (t := 9) (l := 0) (key := (3, n, 0)) (by simp) hN f.1)
  have im := (h.m.more (t := 9) (l := 0) h.h hN f.1).more (t := 20) (l := 120) (key := (4, n, 0)) ih T.n1 T.f4
  have iu := (h.u.more h.h f.1).more (key := (4, n, 0)) ih T.f4
  have ix := (h.x.more (t := 9) (l := 0) (key := (3, n, 0)) (by simp) hN f.1).more (t := 20) (l := 120) (key := (4, n, 0)) (by simp) T.n1 T.f4
  have vo : ∀ key q, key ≠ (3, n, 0) → key ≠ (4, n, 0) → (key = (0, 120, 0) → q ≠ 4) → xV V n kd fr mk ln b key q = vu (vu V (3, n, 0)) (4, n, 0) key q := fun key q z1 z2 z3 => by
    unfold xV
    rw [zku, if_neg (fun z => z3 z.1 z.2), cp_o z2]
    unfold tV
    simp only [zku]
    rw [if_neg (fun z => z1 z.1), if_neg (fun z => z1 z.1), if_neg (fun z => z1 z.1), if_neg (fun z => z1 z.1)]
  have v3 : ∀ q, xV V n kd fr mk ln b (3, n, 0) q = if q = 3 then (ln : Int) else if q = 2 then mk else if q = 1 then fr else if q = 0 then kd else 0 := fun q => by
    unfold xV
    rw [zku, if_neg (by simp), cp_o (by simp)]
    unfold tV
    simp only [zku]
    simp [vu]
  have v4 : ∀ j, j < ln → xV V n kd fr mk ln b (4, n, 0) j = b j := fun j hj => by
    unfold xV
    rw [zku, if_neg (by simp)]
    exact if_pos ⟨rfl, hj⟩
  have go : ∀ a s, (a = 0 → s ≠ 31) → (a = 16 → s < 120 * n ∨ 120 * n + ln ≤ s) → (17 ≤ a → a ≤ 20 → s ≠ n) → xG g n kd fr mk ln b a s = g a s := fun a s z1 z2 z3 => by
    unfold xG
    rw [if_neg (fun z => by have := z2 z.1; omega), if_neg (fun z => z3 (by omega) (by omega) z.2), if_neg (fun z => z3 (by omega) (by omega) z.2), if_neg (fun z => z3 (by omega) (by omega) z.2), if_neg (fun z => z3 (by omega) (by omega) z.2), if_neg (fun z => z1 z.1 z.2)]
  have g31 : xG g n kd fr mk ln b 0 31 = (n : Int) + 1 := by unfold xG; simp
  have gr : ∀ a, a ≠ 0 → (a < 16 ∨ 20 < a) → xG g n kd fr mk ln b a = g a := fun a z0 z1 => funext fun s => go a s (fun z => absurd z z0) (fun _ => by omega) (fun _ _ => by omega)
  have fV : ∀ key q, cV key q ≠ 7 → cV key q ≠ 17 → xV V n kd fr mk ln b key q = vu (vu V (3, n, 0)) (4, n, 0) key q := fun key q z1 z2 => vo key q (fun z => by subst z; exact z1 rfl) (fun z => by subst z; exact z1 rfl) (fun z w => by subst z; subst w; exact z2 rfl)
  have fG : ∀ a s, cG a s ≠ 7 → cG a s ≠ 17 → xG g n kd fr mk ln b a s = g a s := fun a s z1 z2 => go a s (fun z w => by subst z; subst w; exact z2 rfl) (fun z => by subst z; exact absurd rfl z1) (fun w1 w2 _ => by
    have : a = 17 ∨ a = 18 ∨ a = 19 ∨ a = 20 := by omega
    rcases this with rfl | rfl | rfl | rfl <;> exact z1 rfl)
  have rr : ∀ key, key ≠ (3, n, 0) → key ≠ (0, 123, 0) → ru (tR R n N) (0, 123, 0) n (some N) key = rnu (rnu R (3, n, 0)) (4, n, 0) key := fun key z1 z2 => funext fun q => by
    rw [ru_ne z2]
    unfold tR
    rw [ru_ne z1]
  refine ⟨?_, ?_, ?_, ?_, ?_, ?_, ?_, ?_, ?_, ?_, ?_, ?_⟩
  · exact ((h.s.more (key := (3, n, 0)) (by simp)).more (key := (4, n, 0)) (by simp)).fr (fun key i e => fV key i (by omega) (by omega)) (fun a s e => fG a s (by omega) (by omega))
  · exact ((h.t.more (key := (3, n, 0)) (by simp)).more (key := (4, n, 0)) (by simp)).fr (fun key i e => fV key i (by omega) (by omega)) (fun a s e => fG a s (by omega) (by omega))
  · exact ((h.z.more (key := (3, n, 0)) (by simp)).more (key := (4, n, 0)) (by simp)).fr (fun key i e => fV key i (by omega) (by omega)) (fun a s e => fG a s (by omega) (by omega))
  · have z := ih2.fr (V' := xV V n kd fr mk ln b) (g' := xG g n kd fr mk ln b) (fun key i e => fV key i (by omega) (by omega)) (fun a s e => fG a s (by omega) (by omega))
    have r1 : ∀ i, ru (tR R n N) (0, 123, 0) n (some N) (1, i, 0) = rnu (rnu R (3, n, 0)) (4, n, 0) (1, i, 0) := fun i => rr _ (by simp) (by simp)
    have r2 : ru (tR R n N) (0, 123, 0) n (some N) (0, 67, 0) = rnu (rnu R (3, n, 0)) (4, n, 0) (0, 67, 0) := rr _ (by simp) (by simp)
    unfold IH at z ⊢
    simp only [r1, r2]
    exact z
  · have z := im.fr (V' := xV V n kd fr mk ln b) (g' := xG g n kd fr mk ln b) (fun key i e => fV key i (by omega) (by omega)) (fun a s e => fG a s (by omega) (by omega))
    have r1 : ∀ i, ru (tR R n N) (0, 123, 0) n (some N) (5, i, 0) = rnu (rnu R (3, n, 0)) (4, n, 0) (5, i, 0) := fun i => rr _ (by simp) (by simp)
    unfold IM at z ⊢
    simp only [r1]
    exact z
  · exact iu.fr (fun key i e => fV key i (by omega) (by omega)) (fun a s e => fG a s (by omega) (by omega))
  · have e4 : ∀ i, i < n → ((4, i, 0) : Key) ≠ (4, n, 0) := fun i hi z => by simp at z; omega
    have e3 : ∀ i, i < n → ((3, i, 0) : Key) ≠ (3, n, 0) := fun i hi z => by simp at z; omega
    have w3 : ∀ i q, i < n → xV V n kd fr mk ln b (3, i, 0) q = V (3, i, 0) q := fun i q hi => by rw [vo _ _ (e3 i hi) (by simp) (by simp), vu_o (by simp), vu_o (e3 i hi)]
    have w4 : ∀ i q, i < n → xV V n kd fr mk ln b (4, i, 0) q = V (4, i, 0) q := fun i q hi => by rw [vo _ _ (by simp) (e4 i hi) (by simp), vu_o (e4 i hi), vu_o (by simp)]
    have hin : ∀ i, i < (g 0 31).toNat ↔ i < n := fun i => by omega
    have x4 : xV V n kd fr mk ln b (0, 120, 0) 4 = (n : Int) + 1 := by unfold xV; exact if_pos ⟨rfl, rfl⟩
    unfold IX
    rw [g31, show ((n : Int) + 1).toNat = n + 1 by omega, x4]
    refine ⟨rfl, by omega, fun i hi => ?_, fun i hi => ?_, fun i hi => ?_, fun i hi => ?_, fun i hi => ?_, fun i hi => ?_, fun i j hi hj => ?_, ?_, ?_, fun j hj => ?_, fun i hi => ?_⟩
    · by_cases e : i = n
      · subst e
        exact ⟨N, by simp [ru], T.a3, T.k3⟩
      · obtain ⟨a, h1, h2, h3⟩ := ix.at_ i (by omega)
        refine ⟨a, ?_, h2, h3⟩
        unfold tR
        simp only [ru]
        rw [if_neg (by simp [e]), if_neg (by simp)]
        exact h1
    · by_cases e : i = n
      · subst e
        exact ⟨N + 1, by unfold tR; simp [ru], T.a4, T.k4⟩
      · obtain ⟨a, h1, h2, h3⟩ := ix.bytes i (by omega)
        refine ⟨a, ?_, h2, h3⟩
        unfold tR
        simp only [ru]
        rw [if_neg (by simp), if_neg (by simp [e])]
        exact h1
    · by_cases e : i = n
      · subst e
        rw [v3]
        unfold xG
        simp
      · rw [w3 i 0 (by omega), go 18 i (by simp) (by simp) (fun _ _ => e)]
        exact h.x.kind i (by omega)
    · by_cases e : i = n
      · subst e
        rw [v3]
        unfold xG
        simp
      · rw [w3 i 1 (by omega), go 19 i (by simp) (by simp) (fun _ _ => e)]
        exact h.x.from_ i (by omega)
    · by_cases e : i = n
      · subst e
        rw [v3]
        unfold xG
        simp
      · rw [w3 i 2 (by omega), go 20 i (by simp) (by simp) (fun _ _ => e)]
        exact h.x.made i (by omega)
    · by_cases e : i = n
      · subst e
        have e17 : xG g i kd fr mk ln b 17 i = (ln : Int) := by unfold xG; simp
        rw [v3, e17]
        simp
        omega
      · rw [w3 i 3 (by omega), go 17 i (by simp) (by simp) (fun _ _ => e)]
        exact h.x.len i (by omega)
    · by_cases e : i = n
      · subst e
        have e17 : xG g i kd fr mk ln b 17 i = (ln : Int) := by unfold xG; simp
        have hj2 : j < ln := by rw [e17] at hj; omega
        have e16 : xG g i kd fr mk ln b 16 (120 * i + j) = b j := by
          unfold xG
          rw [if_pos ⟨rfl, by omega, by omega⟩, show 120 * i + j - 120 * i = j by omega]
        rw [v4 j hj2, e16]
        exact ⟨rfl, hbb j hj2⟩
      · rw [go 17 i (by simp) (by simp) (fun _ _ => e)] at hj
        have := h.x.len i (by omega)
        rw [w4 i j (by omega), go 16 _ (by simp) (fun _ => by omega) (by simp)]
        exact h.x.byte i j (by omega) hj
    · rw [vo _ _ (by simp) (by simp) (by simp), vu_o (by simp), vu_o (by simp), go 0 25 (by simp) (by simp) (by simp)]
      exact h.x.tlen
    · rw [go 0 25 (by simp) (by simp) (by simp)]
      exact h.x.tlen0
    · rw [go 0 25 (by simp) (by simp) (by simp)] at hj
      rw [vo _ _ (by simp) (by simp) (by simp), vu_o (by simp), vu_o (by simp), gr 15 (by decide) (by decide)]
      exact h.x.tape j hj
    · by_cases e : i = n
      · subst e
        have e17 : xG g i kd fr mk ln b 17 i = (ln : Int) := by unfold xG; simp
        rw [e17, Int.toNat_natCast]
        exact pRead_good (b := b) (fun j hj => by
          show xG g i kd fr mk ln b 16 (120 * i + j) = b j
          unfold xG
          rw [if_pos ⟨rfl, by omega, by omega⟩, show 120 * i + j - 120 * i = j by omega]) hgd
      · have lq := h.x.len i (by omega)
        rw [go 17 i (by simp) (by simp) (fun _ _ => e)]
        exact pRead_good (b := fun j => g 16 (120 * i + j)) (fun j hj => go 16 (120 * i + j) (by simp) (fun _ => by omega) (by simp)) (h.x.good i (by omega))
  · exact ((h.n.more (key := (3, n, 0)) (by simp)).more (key := (4, n, 0)) (by simp)).fr (fun key i e => fV key i (by omega) (by omega)) (fun a s e => fG a s (by omega) (by omega))
  · exact ((h.f.more (key := (3, n, 0)) (by simp)).more (key := (4, n, 0)) (by simp)).fr (fun key i e => fV key i (by omega) (by omega)) (fun a s e => fG a s (by omega) (by omega))
  · exact ((h.p.more (key := (3, n, 0)) (by simp)).more (key := (4, n, 0)) (by simp)).fr (fun key i e => fV key i (by omega) (by omega)) (fun a s e => fG a s (by omega) (by omega))
  · exact ((h.d.more (key := (3, n, 0)) (by simp)).more (key := (4, n, 0)) (by simp)).fr (fun key i e => fV key i (by omega) (by omega)) (fun a s e => fG a s (by omega) (by omega))
  · unfold IC
    rw [g31, show ((n : Int) + 1).toNat = n + 1 by omega, go 0 15 (by simp) (by simp) (by simp), gr 22 (by decide) (by decide)]
    have eo : ∀ q, q ≠ N → q ≠ N + 1 → tC c n N q = c q := fun q z1 z2 => by
      show cu (cu c N (3, n, 0)) (N + 1) (4, n, 0) q = c q
      rw [cu_old z2, cu_old z1]
    refine ⟨T.c2, fun q hq => by rw [eo q (by omega) (by omega)]; exact h.c.new q (by omega), fun q => ?_⟩
    by_cases z1 : q = N
    · rw [z1, T.a3]
      simp
    · by_cases z2 : q = N + 1
      · rw [z2, T.a4]
        simp
      · rw [eo q z1 z2]
        have u := h.c.used q
        rw [hn] at u
        rcases u with u | u | u | u | u | u | u
        · exact .inl u
        · exact .inr (.inl u)
        · exact .inr (.inr (.inl u))
        · exact .inr (.inr (.inr (.inl u)))
        · exact .inr (.inr (.inr (.inr (.inl u))))
        · exact .inr (.inr (.inr (.inr (.inr (.inl ⟨u.1, by omega⟩)))))
        · exact .inr (.inr (.inr (.inr (.inr (.inr ⟨u.1, by omega⟩)))))
/-- the tape emptied -/
theorem ST.empty (h : ST k x c N V R K g W) {A : Option Nat} (hv : ∀ key q, key ≠ (0, 121, 0) → V' key q = if key = (0, 120, 0) ∧ q = 5 then 0 else V key q) (hn : ∀ j, j < 5 → V' (0, 121, 0) (4 + j) = g 21 j) (hg : ∀ j q, (j = 0 → q ≠ 25 ∧ (q < 54 ∨ 59 < q)) → g' j q = g j q) (h25 : g' 0 25 = 0) : ST k x c N V' (ru R (0, 121, 0) 0 A) K g' W := by
  have r : ∀ a, a ≠ 0 → g' a = g a := fun a z => funext fun q => hg a q (fun z2 => absurd z2 z)
  refine ST.row (h.put (W' := W) (fun a => a == 7 || a == 8) (fun key i q0 q => ?_) (fun j i q0 q => ?_) (hx := fun _ => ?_) (n := fun _ i hi => ?_))
  · have e1 : key ≠ (0, 121, 0) := fun e => by
      subst e
      rcases cV_121 i with e | e
      · rw [e] at q
        exact absurd (show true = false from q) (by decide)
      · exact q0 e
    rw [hv key i e1, if_neg (fun e => ?_)]
    obtain ⟨e2, e3⟩ := e
    subst e2
    subst e3
    exact absurd (show true = false from q) (by decide)
  · refine hg j i (fun j0 => ?_)
    subst j0
    refine ⟨fun e => ?_, ?_⟩
    · subst e
      exact absurd (show true = false from q) (by decide)
    · by_cases e : i < 54 ∨ 59 < i
      · exact e
      · exact absurd (cG_5x (i := i) (by omega)) q0
  · have s3 : ∀ i q, V' (3, i, 0) q = V (3, i, 0) q := fun i q => by rw [hv _ _ (by simp), if_neg (by simp)]
    have s4 : ∀ i q, V' (4, i, 0) q = V (4, i, 0) q := fun i q => by rw [hv _ _ (by simp), if_neg (by simp)]
    have g31 : g' 0 31 = g 0 31 := hg 0 31 (by omega)
    unfold IX
    rw [g31, h25, r 15 (by decide), r 16 (by decide), r 17 (by decide), r 18 (by decide), r 19 (by decide), r 20 (by decide), hv (0, 120, 0) 4 (by simp), hv (0, 120, 0) 5 (by simp), if_neg (by simp), if_pos ⟨rfl, rfl⟩]
    simp only [s3, s4]
    exact ⟨h.x.many, h.x.many0, h.x.at_, h.x.bytes, h.x.kind, h.x.from_, h.x.made, h.x.len, h.x.byte, trivial, by omega, fun j hj => absurd hj (by simp), h.x.good⟩
  · rw [hn i hi, r 21 (by decide)]
    exact ⟨rfl, (h.n i hi).2⟩
theorem mcopy_loop {kd fr : Int} (hn2 : n < 20) (hl : ln ≤ 120) (h31 : g 0 31 = (n : Int)) (hd : 0 ≤ g 0 0 ∧ g 0 0 ≤ 9999) (hb : ∀ j, j < ln → g 15 j = b j) : ∀ (d i fu : Nat), i + d = ln → d < fu → FM_terms_L69 FU fu m kd fr (ln : Int) (i : Int) (zG m N (fun a s => if a = 16 ∧ 120 * n ≤ s ∧ s < 120 * n + i then b (s - 120 * n) else g a s)) = some ((n : Int), zG m N (xG g n kd fr (g 0 0) ln b)) := by
  intro d
  induction d with
  | zero =>
    intro i fu hi hf
    obtain ⟨fu, rfl⟩ : ∃ fu', fu = fu' + 1 := ⟨fu - 1, by omega⟩
    have : i = ln := by omega
    subst this
    have tn : (n : Int).toNat = n := by omega
    rw [FM_terms_L69, if_neg (by omega)]
    generalize hH : (fun a s => if a = 16 ∧ 120 * n ≤ s ∧ s < 120 * n + i then b (s - 120 * n) else g a s) = H
    have H31 : H 0 31 = (n : Int) := by rw [← hH]; simpa using h31
    have H0 : H 0 0 = g 0 0 := by rw [← hH]; simp
    rw [mQ27b, mIb, H31, mWo17b (by omega), mQ28b, mIb, gu_ne (by omega), H31, mWo18b (by omega), mQ29b, mIb, gu_ne (by omega), gu_ne (by omega), H31, mWo19b (by omega), mQ30b, mIb, gu_ne (by omega), gu_ne (by omega), gu_ne (by omega), H31, mIb, gu_ne (by omega), gu_ne (by omega), gu_ne (by omega), H0, mWo20b (by omega), mIb, gu_ne (by omega), gu_ne (by omega), gu_ne (by omega), gu_ne (by omega), H31, zckb (by omega), mPb, mIb, zgu, if_pos ⟨rfl, rfl⟩, zckb (by omega), tn]
    rw [show (n : Int) + 1 - 1 = (n : Int) by omega]
    refine congrArg (fun z => some ((n : Int), zG m N z)) ?_
    funext a s
    rw [← hH]
    unfold xG
    simp only [gu]
    by_cases c1 : a = 16 ∧ 120 * n ≤ s ∧ s < 120 * n + i
    · rw [if_pos c1, if_pos c1, if_neg (by omega), if_neg (by omega), if_neg (by omega), if_neg (by omega), if_neg (by omega)]
    · rw [if_neg c1, if_neg c1]
      repeat' split
      all_goals first | rfl | omega
  | succ d ih =>
    intro i fu hi hf
    obtain ⟨fu, rfl⟩ : ∃ fu', fu = fu' + 1 := ⟨fu - 1, by omega⟩
    have ti : (i : Int).toNat = i := by omega
    have hi1 : (i : Int) + 1 = ((i + 1 : Nat) : Int) := by omega
    have ts : (120 * (n : Int) + (i : Int)).toNat = 120 * n + i := by omega
    have ih1 := ih (i + 1) fu (by omega) (by omega)
    rw [← ih1, FM_terms_L69, if_pos (by omega)]
    generalize hH : (fun a s => if a = 16 ∧ 120 * n ≤ s ∧ s < 120 * n + i then b (s - 120 * n) else g a s) = H
    have H31 : H 0 31 = (n : Int) := by rw [← hH]; simpa using h31
    have H15 : H 15 i = b i := by rw [← hH]; simpa using hb i (by omega)
    rw [mQ26b, mIb, H31, zckb (by omega), zckb (by omega), mQ24b, mRo15b (by omega), ti, H15, mWo16b (by omega), ts, zckb (by omega), hi1]
    refine congrArg (fun z => FM_terms_L69 FU fu m kd fr (ln : Int) ((i + 1 : Nat) : Int) (zG m N z)) ?_
    funext a s
    rw [← hH]
    simp only [gu]
    by_cases c1 : a = 16 ∧ s = 120 * n + i
    · rw [if_pos c1, if_pos (by omega), show s - 120 * n = i by omega]
    · rw [if_neg c1]
      by_cases c2 : a = 16 ∧ 120 * n ≤ s ∧ s < 120 * n + i
      · rw [if_pos c2, if_pos (by omega)]
      · rw [if_neg c2, if_neg (by omega)]
theorem OP_terms {X M : Hp} (h : INV k x m X M) (hk : k < 512) (a1 a2 : Int) (h1 : zInI a1) (h2 : zInI a2) : ∃ (r : Int) (X' M' : Hp), FB_terms zFU x a1 a2 X = some (r, X') ∧ FM_terms zFU m a1 a2 M = some (r, M') ∧ INV (k + 1) x m X' M' := by
  obtain ⟨c, N, V, R, K, N', g, W, rfl, rfl, h⟩ := h
  have hc := h.c.cx
  have x0 := h.x.many0
  have t0 := h.x.tlen0
  have d0 := h.s.day0
  unfold FB_terms FB_terms_b FM_terms FM_terms_b FB_isKind FB_isDay FM_isDay
  by_cases q1 : 0 ≤ a1 ∧ a1 ≤ 2
  · by_cases q2 : 0 ≤ a2 ∧ a2 ≤ 9999
    · by_cases q3 : g 0 31 = 20
      · refine ⟨-2, zX x c N V R K, zG m N' g, ?_, ?_, INV.intro h.skip⟩
        · unfold FShelf_makeText FShelf_makeText_b
          simp (disch := omega) only [↓zcs, ↓zcn, ↓Option.bind_some, ↓zb_some, ↓zrz0b, ↓zrz1b, ↓zckb, zrz0, zrz1, ↓reduceIte, ↓xI0b hc, ↓xP0b hc, ↓xI1b hc, ↓xP1b hc, ↓xI66b hc, ↓xP66b hc, ↓xI68b hc, ↓xP68b hc, ↓xI115b hc, ↓xP115b hc, ↓xI120b hc, ↓xP120b hc, ↓xI121b hc, ↓xP121b hc, ↓xI125b hc, ↓xP125b hc, ↓xI127b hc, ↓xP127b hc, ↓xN2b hc, ↓xRo2b hc, ↓xWo2b hc, ↓xN65b hc, ↓xRo65b hc, ↓xWo65b hc, ↓xN113b hc, ↓xRo113b hc, ↓xWo113b hc, ↓xN114b hc, ↓xRo114b hc, ↓xWo114b hc, ↓xN116b hc, ↓xRo116b hc, ↓xWo116b hc, ↓xN117b hc, ↓xRo117b hc, ↓xWo117b hc, ↓xN118b hc, ↓xRo118b hc, ↓xWo118b hc, ↓xN119b hc, ↓xRo119b hc, ↓xWo119b hc, ↓xN122b hc, ↓xRo122b hc, ↓xWo122b hc, ↓xN124b hc, ↓xRo124b hc, ↓xWo124b hc, ↓xN126b hc, ↓xRo126b hc, ↓xWo126b hc, ↓xN128b hc, ↓xRo128b hc, ↓xWo128b hc, ↓xN129b hc, ↓xRo129b hc, ↓xWo129b hc, ↓xN130b hc, ↓xRo130b hc, ↓xWo130b hc, ↓xN131b hc, ↓xRo131b hc, ↓xWo131b hc, ↓xN132b hc, ↓xRo132b hc, ↓xWo132b hc, ↓xN133b hc, ↓xRo133b hc, ↓xWo133b hc, ↓xN67b hc, ↓xAo67b hc, ↓xN123b hc, ↓xAo123b hc, ↓xN3b hc, ↓xAo3b hc, ↓xN34b hc, ↓xAo34b hc, ↓xN69b hc, ↓xAo69b hc, ↓xQ0_0b hc, ↓xQ0_1b hc, ↓xQ0_2b hc, ↓xQ0_3b hc, ↓xQ0_4b hc, ↓xQ0_5b hc, ↓xQ0_6b hc, ↓xQ1_0b hc, ↓xQ1_1b hc, ↓xQ1_2b hc, ↓xQ1_3b hc, ↓xQ66_0b hc, ↓xQ66_1b hc, ↓xQ68_0b hc, ↓xQ68_1b hc, ↓xQ68_2b hc, ↓xQ68_3b hc, ↓xQ115_0b hc, ↓xQ115_1b hc, ↓xQ115_2b hc, ↓xQ115_3b hc, ↓xQ115_4b hc, ↓xQ115_5b hc, ↓xQ115_6b hc, ↓xQ120_0b hc, ↓xQ120_1b hc, ↓xQ120_2b hc, ↓xQ120_3b hc, ↓xQ125_0b hc, ↓xQ125_1b hc, ↓xQ127_0b hc, ↓xQ127_1b hc, ↓xQ127_2b hc, ↓xQ127_3b hc, ↓xQ127_4b hc, ↓xQ127_5b hc, ↓xD0 hc, ↓xD1 hc, ↓xD66 hc, ↓xD68 hc, ↓xD115 hc, ↓xD120 hc, ↓xD121 hc, ↓xD125 hc, ↓xD127 hc, ↓if_neg, ↓if_pos, ↓bde (eB_isWithin _ _ _ _), q1, q2, h.x.many, q3]
        · simp (disch := omega) only [↓zcs, ↓zcn, ↓mD, ↓Option.bind_some, ↓zb_some, ↓zrz0b, ↓zrz1b, ↓zckb, zrz0, zrz1, ↓reduceIte, ↓mIb, ↓mPb, ↓zck_ofb, ↓mPob, ↓mQ1b, ↓mRo1b, ↓mWo1b, ↓mQ3b, ↓mRo2b, ↓mWo2b, ↓mQ4b, ↓mRo3b, ↓mWo3b, ↓mQ8b, ↓mRo4b, ↓mWo4b, ↓mQ9b, ↓mRo5b, ↓mWo5b, ↓mQ10b, ↓mRo6b, ↓mWo6b, ↓mQ11b, ↓mRo7b, ↓mWo7b, ↓mQ12b, ↓mRo8b, ↓mWo8b, ↓mQ13b, ↓mRo9b, ↓mWo9b, ↓mQ14b, ↓mRo10b, ↓mWo10b, ↓mQ17b, ↓mRo11b, ↓mWo11b, ↓mQ19b, ↓mRo12b, ↓mWo12b, ↓mQ20b, ↓mRo13b, ↓mWo13b, ↓mQ23b, ↓mRo14b, ↓mWo14b, ↓mQ24b, ↓mRo15b, ↓mWo15b, ↓mQ26b, ↓mRo16b, ↓mWo16b, ↓mQ27b, ↓mRo17b, ↓mWo17b, ↓mQ28b, ↓mRo18b, ↓mWo18b, ↓mQ29b, ↓mRo19b, ↓mWo19b, ↓mQ30b, ↓mRo20b, ↓mWo20b, ↓mQ32b, ↓mRo21b, ↓mWo21b, ↓mQ33b, ↓mRo22b, ↓mWo22b, ↓mQ34b, ↓mRo23b, ↓mWo23b, ↓mQ35b, ↓mRo24b, ↓mWo24b, ↓mQ36b, ↓mRo25b, ↓mWo25b, ↓mQ37b, ↓mRo26b, ↓mWo26b, ↓mQ38b, ↓mRo27b, ↓mWo27b, ↓mQ39b, ↓mRo28b, ↓mWo28b, ↓mQ40b, ↓mRo29b, ↓mWo29b, ↓mQ41b, ↓mRo30b, ↓mWo30b, ↓mQ43b, ↓mRo31b, ↓mWo31b, ↓mQ44b, ↓mRo32b, ↓mWo32b, ↓mQ45b, ↓mRo33b, ↓mWo33b, ↓mQ46b, ↓mRo34b, ↓mWo34b, ↓mQ47b, ↓mRo35b, ↓mWo35b, ↓mQ48b, ↓mRo36b, ↓mWo36b, ↓mQ50b, ↓mRo37b, ↓mWo37b, ↓mQ51b, ↓mRo38b, ↓mWo38b, ↓mQ52b, ↓mRo39b, ↓mWo39b, ↓if_neg, ↓if_pos, ↓bde (eM_within _ _ _ _), q1, q2, q3]
      · obtain ⟨n, en⟩ : ∃ n : Nat, g 0 31 = (n : Int) := ⟨(g 0 31).toNat, by omega⟩
        obtain ⟨ln, el⟩ : ∃ ln : Nat, g 0 25 = (ln : Int) := ⟨(g 0 25).toNat, by omega⟩
        have hn : (g 0 31).toNat = n := by omega
        have hl : ln ≤ 120 := by omega
        have tp := h.x.tape
        rw [el, Int.toNat_natCast] at tp
        have k124 : ((0, 124, 0) : Key) ≠ (0, 120, 0) := by simp
        have kA : ((0, 124, 0) : Key) ≠ (0, 121, 0) := by simp
        have kB : ((0, 120, 0) : Key) ≠ (0, 121, 0) := by simp
        obtain ⟨v, e1, e2⟩ := eX_read (FU := zFU) (x := x) (c := c) (N := N) (V := ku V (0, 120, 0) 5 0) (R := R) (K := K) (A := x + 124) (n := ln) (bk := (0, 124, 0)) (b := g 15) (nm := g 21) hc (hc.2 124 (by omega)) (by rfl) kA hl (fun i hi => by rw [ku_ne k124]; exact tp i hi) (fun i hi => by rw [ku_ne (by simp)]; exact (h.n i hi).1) (by decide)
        have hB : MB (gu (gu g 0 54 (-1)) 0 56 (ln : Int)) (g 15) (g 21) ln := by
          refine ⟨if_pos ⟨rfl, rfl⟩, hl, ?_, fun p hp => ?_, fun i hi => ?_⟩
          · rw [gu_ne (by omega), zgu, if_pos ⟨rfl, rfl⟩]; omega
          · have e54 : gu (gu g 0 54 (-1)) 0 56 (ln : Int) 0 54 = -1 := by rw [gu_ne (by omega), zgu, if_pos ⟨rfl, rfl⟩]
            rw [e54, if_pos (by decide), gu_ne (by omega), gu_ne (by omega)]
            exact ⟨rfl, (tp p hp).2⟩
          · rw [gu_ne (by omega), gu_ne (by omega)]
        obtain ⟨w, a, o, z, k1, k2⟩ := eM_workOut (FU := zFU) (m := m) (N := N') hB (by decide)
        generalize hP : pRead (g 15) ln = P at e1 e2 k1 k2
        generalize hV1 : rX (ku (ku V (0, 120, 0) 5 0) (0, 121, 0) 1 (ln : Int)) P.2.1 (if P.2.2 = true then 1 else 0) = V1 at e1
        generalize hg1 : mG (gu (gu (gu g 0 54 (-1)) 0 56 (ln : Int)) 0 59 z) a (if P.2.2 = true then (P.2.1 : Int) else -1) o = g1 at k1
        have fv : ∀ key q, key ≠ (0, 121, 0) → V1 key q = if key = (0, 120, 0) ∧ q = 5 then 0 else V key q := fun key q hk => by
          rw [← hV1, rX_k _ _ _ hk, ku_ne hk]
          rfl
        have fn : ∀ j, j < 5 → V1 (0, 121, 0) (4 + j) = g 21 j := fun j hj => by
          rw [← hV1, rX_o _ _ (by omega) (by omega), zku, if_neg (by omega), ku_ne (by simp)]
          exact (h.n j hj).1
        have fg : ∀ j q, (j = 0 → q ≠ 25 ∧ (q < 54 ∨ 59 < q)) → gu g1 0 25 0 j q = g j q := fun j q hq => by
          rw [gu_ne (fun z => (hq z.1).1 z.2), ← hg1]
          by_cases j0 : j = 0
          · subst j0
            have := (hq rfl).2
            rw [mG_o _ _ _ (by omega) (by omega) (by omega), gu_ne (by omega), gu_ne (by omega), gu_ne (by omega)]
          · rw [mG_k _ _ _ _ j0, gu_ne (fun z => j0 z.1), gu_ne (fun z => j0 z.1), gu_ne (fun z => j0 z.1)]
        have st := h.empty (A := some (x + 124)) fv fn fg (if_pos ⟨rfl, rfl⟩)
        have v3 : V1 (0, 121, 0) 3 = if P.2.2 = true then 1 else 0 := by rw [← hV1, rX_3]
        have v2 : V1 (0, 121, 0) 2 = (P.2.1 : Int) := by rw [← hV1, rX_2]
        have v4 : V1 (0, 120, 0) 4 = (n : Int) := by rw [fv _ _ kB, if_neg (by simp), h.x.many, en]
        have f57 : g1 0 57 = if P.2.2 = true then (P.2.1 : Int) else -1 := by rw [← hg1, mG_57]
        have f25 : g1 0 25 = (ln : Int) := by rw [← hg1, mG_o _ _ _ (by decide) (by decide) (by decide), gu_ne (by omega), gu_ne (by omega), gu_ne (by omega), el]
        have f57' : gu g1 0 25 0 0 57 = if P.2.2 = true then (P.2.1 : Int) else -1 := by rw [gu_ne (by omega), f57]
        have tl : V (0, 120, 0) 5 = (ln : Int) := by rw [h.x.tlen, el]
        have pl : P.2.1 ≤ ln := by rw [← hP]; exact pRead_le
        by_cases cf : P.2.2 = true
        · rw [if_pos cf] at v3 f57'
          refine ⟨-100 - (P.2.1 : Int), _, _, ?_, ?_, INV.intro (N' := N') st.skip⟩
          · unfold FShelf_makeText FShelf_makeText_b
            simp (disch := omega) only [↓zcs, ↓zcn, ↓Option.bind_some, ↓zb_some, ↓zrz0b, ↓zrz1b, ↓zckb, zrz0, zrz1, ↓reduceIte, ↓xI0b hc, ↓xP0b hc, ↓xI1b hc, ↓xP1b hc, ↓xI66b hc, ↓xP66b hc, ↓xI68b hc, ↓xP68b hc, ↓xI115b hc, ↓xP115b hc, ↓xI120b hc, ↓xP120b hc, ↓xI121b hc, ↓xP121b hc, ↓xI125b hc, ↓xP125b hc, ↓xI127b hc, ↓xP127b hc, ↓xN2b hc, ↓xRo2b hc, ↓xWo2b hc, ↓xN65b hc, ↓xRo65b hc, ↓xWo65b hc, ↓xN113b hc, ↓xRo113b hc, ↓xWo113b hc, ↓xN114b hc, ↓xRo114b hc, ↓xWo114b hc, ↓xN116b hc, ↓xRo116b hc, ↓xWo116b hc, ↓xN117b hc, ↓xRo117b hc, ↓xWo117b hc, ↓xN118b hc, ↓xRo118b hc, ↓xWo118b hc, ↓xN119b hc, ↓xRo119b hc, ↓xWo119b hc, ↓xN122b hc, ↓xRo122b hc, ↓xWo122b hc, ↓xN124b hc, ↓xRo124b hc, ↓xWo124b hc, ↓xN126b hc, ↓xRo126b hc, ↓xWo126b hc, ↓xN128b hc, ↓xRo128b hc, ↓xWo128b hc, ↓xN129b hc, ↓xRo129b hc, ↓xWo129b hc, ↓xN130b hc, ↓xRo130b hc, ↓xWo130b hc, ↓xN131b hc, ↓xRo131b hc, ↓xWo131b hc, ↓xN132b hc, ↓xRo132b hc, ↓xWo132b hc, ↓xN133b hc, ↓xRo133b hc, ↓xWo133b hc, ↓xN67b hc, ↓xAo67b hc, ↓xN123b hc, ↓xAo123b hc, ↓xN3b hc, ↓xAo3b hc, ↓xN34b hc, ↓xAo34b hc, ↓xN69b hc, ↓xAo69b hc, ↓xQ0_0b hc, ↓xQ0_1b hc, ↓xQ0_2b hc, ↓xQ0_3b hc, ↓xQ0_4b hc, ↓xQ0_5b hc, ↓xQ0_6b hc, ↓xQ1_0b hc, ↓xQ1_1b hc, ↓xQ1_2b hc, ↓xQ1_3b hc, ↓xQ66_0b hc, ↓xQ66_1b hc, ↓xQ68_0b hc, ↓xQ68_1b hc, ↓xQ68_2b hc, ↓xQ68_3b hc, ↓xQ115_0b hc, ↓xQ115_1b hc, ↓xQ115_2b hc, ↓xQ115_3b hc, ↓xQ115_4b hc, ↓xQ115_5b hc, ↓xQ115_6b hc, ↓xQ120_0b hc, ↓xQ120_1b hc, ↓xQ120_2b hc, ↓xQ120_3b hc, ↓xQ125_0b hc, ↓xQ125_1b hc, ↓xQ127_0b hc, ↓xQ127_1b hc, ↓xQ127_2b hc, ↓xQ127_3b hc, ↓xQ127_4b hc, ↓xQ127_5b hc, ↓xD0 hc, ↓xD1 hc, ↓xD66 hc, ↓xD68 hc, ↓xD115 hc, ↓xD120 hc, ↓xD121 hc, ↓xD125 hc, ↓xD127 hc, ↓if_neg, ↓if_pos, ↓bde (eB_isWithin _ _ _ _), q1, q2, h.x.many, en, tl, ↓zbe e1, v3, v2]
          · simp (disch := omega) only [↓zcs, ↓zcn, ↓mD, ↓Option.bind_some, ↓zb_some, ↓zrz0b, ↓zrz1b, ↓zckb, zrz0, zrz1, ↓reduceIte, ↓mIb, ↓mPb, ↓zck_ofb, ↓mPob, ↓mQ1b, ↓mRo1b, ↓mWo1b, ↓mQ3b, ↓mRo2b, ↓mWo2b, ↓mQ4b, ↓mRo3b, ↓mWo3b, ↓mQ8b, ↓mRo4b, ↓mWo4b, ↓mQ9b, ↓mRo5b, ↓mWo5b, ↓mQ10b, ↓mRo6b, ↓mWo6b, ↓mQ11b, ↓mRo7b, ↓mWo7b, ↓mQ12b, ↓mRo8b, ↓mWo8b, ↓mQ13b, ↓mRo9b, ↓mWo9b, ↓mQ14b, ↓mRo10b, ↓mWo10b, ↓mQ17b, ↓mRo11b, ↓mWo11b, ↓mQ19b, ↓mRo12b, ↓mWo12b, ↓mQ20b, ↓mRo13b, ↓mWo13b, ↓mQ23b, ↓mRo14b, ↓mWo14b, ↓mQ24b, ↓mRo15b, ↓mWo15b, ↓mQ26b, ↓mRo16b, ↓mWo16b, ↓mQ27b, ↓mRo17b, ↓mWo17b, ↓mQ28b, ↓mRo18b, ↓mWo18b, ↓mQ29b, ↓mRo19b, ↓mWo19b, ↓mQ30b, ↓mRo20b, ↓mWo20b, ↓mQ32b, ↓mRo21b, ↓mWo21b, ↓mQ33b, ↓mRo22b, ↓mWo22b, ↓mQ34b, ↓mRo23b, ↓mWo23b, ↓mQ35b, ↓mRo24b, ↓mWo24b, ↓mQ36b, ↓mRo25b, ↓mWo25b, ↓mQ37b, ↓mRo26b, ↓mWo26b, ↓mQ38b, ↓mRo27b, ↓mWo27b, ↓mQ39b, ↓mRo28b, ↓mWo28b, ↓mQ40b, ↓mRo29b, ↓mWo29b, ↓mQ41b, ↓mRo30b, ↓mWo30b, ↓mQ43b, ↓mRo31b, ↓mWo31b, ↓mQ44b, ↓mRo32b, ↓mWo32b, ↓mQ45b, ↓mRo33b, ↓mWo33b, ↓mQ46b, ↓mRo34b, ↓mWo34b, ↓mQ47b, ↓mRo35b, ↓mWo35b, ↓mQ48b, ↓mRo36b, ↓mWo36b, ↓mQ50b, ↓mRo37b, ↓mWo37b, ↓mQ51b, ↓mRo38b, ↓mWo38b, ↓mQ52b, ↓mRo39b, ↓mWo39b, ↓if_neg, ↓if_pos, ↓bde (eM_within _ _ _ _), q1, q2, q3, el, ↓zbe k1, f25, f57']
        · rw [if_neg cf] at v3 f57'
          have cf' : P.2.2 = false := by simpa using cf
          have g31 : gu g1 0 25 0 0 31 = (n : Int) := by rw [fg 0 31 (by omega), en]
          have g00 : gu g1 0 25 0 0 0 = g 0 0 := fg 0 0 (by omega)
          have g15 : gu g1 0 25 0 15 = g 15 := funext fun q => fg 15 q (by simp)
          have st2 := st.texted (n := n) (ln := ln) (b := g 15) (kd := a1) (fr := a2) (mk := gu g1 0 25 0 0 0) (by rw [g31]; omega) (by omega) hl (fun j hj => (tp j hj).2) (by rw [hP]; exact cf')
          have hn1 : (gu g1 0 25 0 0 31).toNat ≤ n := by rw [g31]; omega
          have T := st.c.tn (K := K) (n := n) hn1
          have f3 := st.c.fresh3 (n := n) hn1
          have ei := eT_init (FU := zFU) (V := V1) (R := ru R (0, 121, 0) 0 (some (x + 124))) (K := K) (b := g 15) (ln := ln) st.c hn1 (by decide) a1 a2 (g 0 0) hl (fun j hj => by rw [fv _ _ kA, if_neg (by simp)]; exact (tp j hj).1)
          have zn := zX_new (x := x) (N := N) (c := c) (V := V1) (R := ru R (0, 121, 0) 0 (some (x + 124))) (K := K) (key := (3, n, 0)) (by simp) f3.1 9 0
          have zA : ∀ (K' : Nat → Hp → Option (Int × Hp)), zbA (zX x c N V1 (ru R (0, 121, 0) 0 (some (x + 124))) K) 9 0 K' = K' N (zX x (cu c N (3, n, 0)) (N + 1) (vu V1 (3, n, 0)) (rnu (ru R (0, 121, 0) 0 (some (x + 124))) (3, n, 0)) (knu K (3, n, 0) 9 0)) := fun K' => by
            rw [← zn]; rfl
          have eA : ∀ {α : Type} (f : Hp → Option α) (V2 : Key → Nat → Int) (R2 : Key → Nat → Option Nat), (zaSR (zX x (tC c n N) (N + 2) V2 R2 (tK K n)) (x + 123) 25 9 (n : Int) N).bind f = f (zX x (tC c n N) (N + 2) V2 (ru R2 (0, 123, 0) n (some N)) (tK K n)) := fun f V2 R2 => by
            unfold zaSR
            rw [xAt (xK123 T.c2), if_pos ⟨by simp; omega, xKo T.a3 (by simp) T.k3⟩, zX_sr T.c2 (T.c2.2 123 (by omega)) _ _ (fun _ => rfl), show (n : Int).toNat = n by omega]
            rfl
          have t4 : cp (tV V1 n a1 a2 (g 0 0) ln) n (g 15) ln (0, 120, 0) 4 = (n : Int) := by
            rw [cp_o (by simp)]
            unfold tV
            rw [ku_row (by simp), ku_row (by simp), ku_row (by simp), ku_row (by simp), vu_o (by simp), vu_o (by simp), v4]
          have t5 : ku (cp (tV V1 n a1 a2 (g 0 0) ln) n (g 15) ln) (0, 120, 0) 4 ((n : Int) + 1) (0, 120, 0) 4 = (n : Int) + 1 := if_pos ⟨rfl, rfl⟩
          have dd : V (0, 0, 0) 7 = g 0 0 := h.s.day
          have e9 : (n : Int) + 1 - 1 = (n : Int) := by omega
          rw [g00] at st2
          refine ⟨(n : Int), _, _, ?_, ?_, INV.intro (N' := N') st2.skip⟩
          · have c1 := T.c1
            have c2 := T.c2
            have y3 : ∀ {α : Type} (f : Nat → Option α), (zgQ (zX x (cu c N (3, n, 0)) (N + 1) (vu V1 (3, n, 0)) (rnu (ru R (0, 121, 0) 0 (some (x + 124))) (3, n, 0)) (knu K (3, n, 0) 9 0)) (x + 120) 6 3).bind f = f (x + 124) := fun f => xQ120_3b c1
            unfold FShelf_makeText FShelf_makeText_b
            simp (disch := omega) only [↓zcs, ↓zcn, ↓Option.bind_some, ↓zb_some, ↓zrz0b, ↓zrz1b, ↓zckb, zrz0, zrz1, ↓reduceIte, ↓xI0b hc, ↓xP0b hc, ↓xI1b hc, ↓xP1b hc, ↓xI66b hc, ↓xP66b hc, ↓xI68b hc, ↓xP68b hc, ↓xI115b hc, ↓xP115b hc, ↓xI120b hc, ↓xP120b hc, ↓xI121b hc, ↓xP121b hc, ↓xI125b hc, ↓xP125b hc, ↓xI127b hc, ↓xP127b hc, ↓xN2b hc, ↓xRo2b hc, ↓xWo2b hc, ↓xN65b hc, ↓xRo65b hc, ↓xWo65b hc, ↓xN113b hc, ↓xRo113b hc, ↓xWo113b hc, ↓xN114b hc, ↓xRo114b hc, ↓xWo114b hc, ↓xN116b hc, ↓xRo116b hc, ↓xWo116b hc, ↓xN117b hc, ↓xRo117b hc, ↓xWo117b hc, ↓xN118b hc, ↓xRo118b hc, ↓xWo118b hc, ↓xN119b hc, ↓xRo119b hc, ↓xWo119b hc, ↓xN122b hc, ↓xRo122b hc, ↓xWo122b hc, ↓xN124b hc, ↓xRo124b hc, ↓xWo124b hc, ↓xN126b hc, ↓xRo126b hc, ↓xWo126b hc, ↓xN128b hc, ↓xRo128b hc, ↓xWo128b hc, ↓xN129b hc, ↓xRo129b hc, ↓xWo129b hc, ↓xN130b hc, ↓xRo130b hc, ↓xWo130b hc, ↓xN131b hc, ↓xRo131b hc, ↓xWo131b hc, ↓xN132b hc, ↓xRo132b hc, ↓xWo132b hc, ↓xN133b hc, ↓xRo133b hc, ↓xWo133b hc, ↓xN67b hc, ↓xAo67b hc, ↓xN123b hc, ↓xAo123b hc, ↓xN3b hc, ↓xAo3b hc, ↓xN34b hc, ↓xAo34b hc, ↓xN69b hc, ↓xAo69b hc, ↓xQ0_0b hc, ↓xQ0_1b hc, ↓xQ0_2b hc, ↓xQ0_3b hc, ↓xQ0_4b hc, ↓xQ0_5b hc, ↓xQ0_6b hc, ↓xQ1_0b hc, ↓xQ1_1b hc, ↓xQ1_2b hc, ↓xQ1_3b hc, ↓xQ66_0b hc, ↓xQ66_1b hc, ↓xQ68_0b hc, ↓xQ68_1b hc, ↓xQ68_2b hc, ↓xQ68_3b hc, ↓xQ115_0b hc, ↓xQ115_1b hc, ↓xQ115_2b hc, ↓xQ115_3b hc, ↓xQ115_4b hc, ↓xQ115_5b hc, ↓xQ115_6b hc, ↓xQ120_0b hc, ↓xQ120_1b hc, ↓xQ120_2b hc, ↓xQ120_3b hc, ↓xQ125_0b hc, ↓xQ125_1b hc, ↓xQ127_0b hc, ↓xQ127_1b hc, ↓xQ127_2b hc, ↓xQ127_3b hc, ↓xQ127_4b hc, ↓xQ127_5b hc, ↓xD0 hc, ↓xD1 hc, ↓xD66 hc, ↓xD68 hc, ↓xD115 hc, ↓xD120 hc, ↓xD121 hc, ↓xD125 hc, ↓xD127 hc, ↓if_neg, ↓if_pos, ↓bde (eB_isWithin _ _ _ _), q1, q2, h.x.many, en, tl, dd, ↓zbe e1, v3, v4, ↓zA, ↓y3, ↓zbe ei, ↓eA, ↓xI120b c2, ↓xP120b c2, t4, t5, e9]
            rfl
          · have ec := mcopy_loop (FU := zFU) (m := m) (N := N') (g := gu g1 0 25 0) (n := n) (ln := ln) (b := g 15) (kd := a1) (fr := a2) (by omega) hl g31 (by rw [g00]; exact d0) (fun j _ => by rw [g15]) ln 0 zFU (by omega) (by unfold zFU; omega)
            have e0 : (fun a s => if a = 16 ∧ 120 * n ≤ s ∧ s < 120 * n + 0 then g 15 (s - 120 * n) else gu g1 0 25 0 a s) = gu g1 0 25 0 := by
              funext a s
              rw [if_neg (by omega)]
            rw [e0, g00] at ec
            simp (disch := omega) only [↓zcs, ↓zcn, ↓mD, ↓Option.bind_some, ↓zb_some, ↓zrz0b, ↓zrz1b, ↓zckb, zrz0, zrz1, ↓reduceIte, ↓mIb, ↓mPb, ↓zck_ofb, ↓mPob, ↓mQ1b, ↓mRo1b, ↓mWo1b, ↓mQ3b, ↓mRo2b, ↓mWo2b, ↓mQ4b, ↓mRo3b, ↓mWo3b, ↓mQ8b, ↓mRo4b, ↓mWo4b, ↓mQ9b, ↓mRo5b, ↓mWo5b, ↓mQ10b, ↓mRo6b, ↓mWo6b, ↓mQ11b, ↓mRo7b, ↓mWo7b, ↓mQ12b, ↓mRo8b, ↓mWo8b, ↓mQ13b, ↓mRo9b, ↓mWo9b, ↓mQ14b, ↓mRo10b, ↓mWo10b, ↓mQ17b, ↓mRo11b, ↓mWo11b, ↓mQ19b, ↓mRo12b, ↓mWo12b, ↓mQ20b, ↓mRo13b, ↓mWo13b, ↓mQ23b, ↓mRo14b, ↓mWo14b, ↓mQ24b, ↓mRo15b, ↓mWo15b, ↓mQ26b, ↓mRo16b, ↓mWo16b, ↓mQ27b, ↓mRo17b, ↓mWo17b, ↓mQ28b, ↓mRo18b, ↓mWo18b, ↓mQ29b, ↓mRo19b, ↓mWo19b, ↓mQ30b, ↓mRo20b, ↓mWo20b, ↓mQ32b, ↓mRo21b, ↓mWo21b, ↓mQ33b, ↓mRo22b, ↓mWo22b, ↓mQ34b, ↓mRo23b, ↓mWo23b, ↓mQ35b, ↓mRo24b, ↓mWo24b, ↓mQ36b, ↓mRo25b, ↓mWo25b, ↓mQ37b, ↓mRo26b, ↓mWo26b, ↓mQ38b, ↓mRo27b, ↓mWo27b, ↓mQ39b, ↓mRo28b, ↓mWo28b, ↓mQ40b, ↓mRo29b, ↓mWo29b, ↓mQ41b, ↓mRo30b, ↓mWo30b, ↓mQ43b, ↓mRo31b, ↓mWo31b, ↓mQ44b, ↓mRo32b, ↓mWo32b, ↓mQ45b, ↓mRo33b, ↓mWo33b, ↓mQ46b, ↓mRo34b, ↓mWo34b, ↓mQ47b, ↓mRo35b, ↓mWo35b, ↓mQ48b, ↓mRo36b, ↓mWo36b, ↓mQ50b, ↓mRo37b, ↓mWo37b, ↓mQ51b, ↓mRo38b, ↓mWo38b, ↓mQ52b, ↓mRo39b, ↓mWo39b, ↓if_neg, ↓if_pos, ↓bde (eM_within _ _ _ _), q1, q2, q3, el, ↓zbe k1, f25, f57']
            exact ec
    · refine ⟨-1, zX x c N V R K, zG m N' g, ?_, ?_, INV.intro h.skip⟩
      · simp (disch := omega) only [↓zcs, ↓zcn, ↓Option.bind_some, ↓zb_some, ↓zrz0b, ↓zrz1b, ↓zckb, zrz0, zrz1, ↓reduceIte, ↓xI0b hc, ↓xP0b hc, ↓xI1b hc, ↓xP1b hc, ↓xI66b hc, ↓xP66b hc, ↓xI68b hc, ↓xP68b hc, ↓xI115b hc, ↓xP115b hc, ↓xI120b hc, ↓xP120b hc, ↓xI121b hc, ↓xP121b hc, ↓xI125b hc, ↓xP125b hc, ↓xI127b hc, ↓xP127b hc, ↓xN2b hc, ↓xRo2b hc, ↓xWo2b hc, ↓xN65b hc, ↓xRo65b hc, ↓xWo65b hc, ↓xN113b hc, ↓xRo113b hc, ↓xWo113b hc, ↓xN114b hc, ↓xRo114b hc, ↓xWo114b hc, ↓xN116b hc, ↓xRo116b hc, ↓xWo116b hc, ↓xN117b hc, ↓xRo117b hc, ↓xWo117b hc, ↓xN118b hc, ↓xRo118b hc, ↓xWo118b hc, ↓xN119b hc, ↓xRo119b hc, ↓xWo119b hc, ↓xN122b hc, ↓xRo122b hc, ↓xWo122b hc, ↓xN124b hc, ↓xRo124b hc, ↓xWo124b hc, ↓xN126b hc, ↓xRo126b hc, ↓xWo126b hc, ↓xN128b hc, ↓xRo128b hc, ↓xWo128b hc, ↓xN129b hc, ↓xRo129b hc, ↓xWo129b hc, ↓xN130b hc, ↓xRo130b hc, ↓xWo130b hc, ↓xN131b hc, ↓xRo131b hc, ↓xWo131b hc, ↓xN132b hc, ↓xRo132b hc, ↓xWo132b hc, ↓xN133b hc, ↓xRo133b hc, ↓xWo133b hc, ↓xN67b hc, ↓xAo67b hc, ↓xN123b hc, ↓xAo123b hc, ↓xN3b hc, ↓xAo3b hc, ↓xN34b hc, ↓xAo34b hc, ↓xN69b hc, ↓xAo69b hc, ↓xQ0_0b hc, ↓xQ0_1b hc, ↓xQ0_2b hc, ↓xQ0_3b hc, ↓xQ0_4b hc, ↓xQ0_5b hc, ↓xQ0_6b hc, ↓xQ1_0b hc, ↓xQ1_1b hc, ↓xQ1_2b hc, ↓xQ1_3b hc, ↓xQ66_0b hc, ↓xQ66_1b hc, ↓xQ68_0b hc, ↓xQ68_1b hc, ↓xQ68_2b hc, ↓xQ68_3b hc, ↓xQ115_0b hc, ↓xQ115_1b hc, ↓xQ115_2b hc, ↓xQ115_3b hc, ↓xQ115_4b hc, ↓xQ115_5b hc, ↓xQ115_6b hc, ↓xQ120_0b hc, ↓xQ120_1b hc, ↓xQ120_2b hc, ↓xQ120_3b hc, ↓xQ125_0b hc, ↓xQ125_1b hc, ↓xQ127_0b hc, ↓xQ127_1b hc, ↓xQ127_2b hc, ↓xQ127_3b hc, ↓xQ127_4b hc, ↓xQ127_5b hc, ↓xD0 hc, ↓xD1 hc, ↓xD66 hc, ↓xD68 hc, ↓xD115 hc, ↓xD120 hc, ↓xD121 hc, ↓xD125 hc, ↓xD127 hc, ↓if_neg, ↓if_pos, ↓bde (eB_isWithin _ _ _ _), q1, q2]
      · simp (disch := omega) only [↓zcs, ↓zcn, ↓mD, ↓Option.bind_some, ↓zb_some, ↓zrz0b, ↓zrz1b, ↓zckb, zrz0, zrz1, ↓reduceIte, ↓mIb, ↓mPb, ↓zck_ofb, ↓mPob, ↓mQ1b, ↓mRo1b, ↓mWo1b, ↓mQ3b, ↓mRo2b, ↓mWo2b, ↓mQ4b, ↓mRo3b, ↓mWo3b, ↓mQ8b, ↓mRo4b, ↓mWo4b, ↓mQ9b, ↓mRo5b, ↓mWo5b, ↓mQ10b, ↓mRo6b, ↓mWo6b, ↓mQ11b, ↓mRo7b, ↓mWo7b, ↓mQ12b, ↓mRo8b, ↓mWo8b, ↓mQ13b, ↓mRo9b, ↓mWo9b, ↓mQ14b, ↓mRo10b, ↓mWo10b, ↓mQ17b, ↓mRo11b, ↓mWo11b, ↓mQ19b, ↓mRo12b, ↓mWo12b, ↓mQ20b, ↓mRo13b, ↓mWo13b, ↓mQ23b, ↓mRo14b, ↓mWo14b, ↓mQ24b, ↓mRo15b, ↓mWo15b, ↓mQ26b, ↓mRo16b, ↓mWo16b, ↓mQ27b, ↓mRo17b, ↓mWo17b, ↓mQ28b, ↓mRo18b, ↓mWo18b, ↓mQ29b, ↓mRo19b, ↓mWo19b, ↓mQ30b, ↓mRo20b, ↓mWo20b, ↓mQ32b, ↓mRo21b, ↓mWo21b, ↓mQ33b, ↓mRo22b, ↓mWo22b, ↓mQ34b, ↓mRo23b, ↓mWo23b, ↓mQ35b, ↓mRo24b, ↓mWo24b, ↓mQ36b, ↓mRo25b, ↓mWo25b, ↓mQ37b, ↓mRo26b, ↓mWo26b, ↓mQ38b, ↓mRo27b, ↓mWo27b, ↓mQ39b, ↓mRo28b, ↓mWo28b, ↓mQ40b, ↓mRo29b, ↓mWo29b, ↓mQ41b, ↓mRo30b, ↓mWo30b, ↓mQ43b, ↓mRo31b, ↓mWo31b, ↓mQ44b, ↓mRo32b, ↓mWo32b, ↓mQ45b, ↓mRo33b, ↓mWo33b, ↓mQ46b, ↓mRo34b, ↓mWo34b, ↓mQ47b, ↓mRo35b, ↓mWo35b, ↓mQ48b, ↓mRo36b, ↓mWo36b, ↓mQ50b, ↓mRo37b, ↓mWo37b, ↓mQ51b, ↓mRo38b, ↓mWo38b, ↓mQ52b, ↓mRo39b, ↓mWo39b, ↓if_neg, ↓if_pos, ↓bde (eM_within _ _ _ _), q1, q2]
  · refine ⟨-1, zX x c N V R K, zG m N' g, ?_, ?_, INV.intro h.skip⟩
    · simp (disch := omega) only [↓zcs, ↓zcn, ↓Option.bind_some, ↓zb_some, ↓zrz0b, ↓zrz1b, ↓zckb, zrz0, zrz1, ↓reduceIte, ↓xI0b hc, ↓xP0b hc, ↓xI1b hc, ↓xP1b hc, ↓xI66b hc, ↓xP66b hc, ↓xI68b hc, ↓xP68b hc, ↓xI115b hc, ↓xP115b hc, ↓xI120b hc, ↓xP120b hc, ↓xI121b hc, ↓xP121b hc, ↓xI125b hc, ↓xP125b hc, ↓xI127b hc, ↓xP127b hc, ↓xN2b hc, ↓xRo2b hc, ↓xWo2b hc, ↓xN65b hc, ↓xRo65b hc, ↓xWo65b hc, ↓xN113b hc, ↓xRo113b hc, ↓xWo113b hc, ↓xN114b hc, ↓xRo114b hc, ↓xWo114b hc, ↓xN116b hc, ↓xRo116b hc, ↓xWo116b hc, ↓xN117b hc, ↓xRo117b hc, ↓xWo117b hc, ↓xN118b hc, ↓xRo118b hc, ↓xWo118b hc, ↓xN119b hc, ↓xRo119b hc, ↓xWo119b hc, ↓xN122b hc, ↓xRo122b hc, ↓xWo122b hc, ↓xN124b hc, ↓xRo124b hc, ↓xWo124b hc, ↓xN126b hc, ↓xRo126b hc, ↓xWo126b hc, ↓xN128b hc, ↓xRo128b hc, ↓xWo128b hc, ↓xN129b hc, ↓xRo129b hc, ↓xWo129b hc, ↓xN130b hc, ↓xRo130b hc, ↓xWo130b hc, ↓xN131b hc, ↓xRo131b hc, ↓xWo131b hc, ↓xN132b hc, ↓xRo132b hc, ↓xWo132b hc, ↓xN133b hc, ↓xRo133b hc, ↓xWo133b hc, ↓xN67b hc, ↓xAo67b hc, ↓xN123b hc, ↓xAo123b hc, ↓xN3b hc, ↓xAo3b hc, ↓xN34b hc, ↓xAo34b hc, ↓xN69b hc, ↓xAo69b hc, ↓xQ0_0b hc, ↓xQ0_1b hc, ↓xQ0_2b hc, ↓xQ0_3b hc, ↓xQ0_4b hc, ↓xQ0_5b hc, ↓xQ0_6b hc, ↓xQ1_0b hc, ↓xQ1_1b hc, ↓xQ1_2b hc, ↓xQ1_3b hc, ↓xQ66_0b hc, ↓xQ66_1b hc, ↓xQ68_0b hc, ↓xQ68_1b hc, ↓xQ68_2b hc, ↓xQ68_3b hc, ↓xQ115_0b hc, ↓xQ115_1b hc, ↓xQ115_2b hc, ↓xQ115_3b hc, ↓xQ115_4b hc, ↓xQ115_5b hc, ↓xQ115_6b hc, ↓xQ120_0b hc, ↓xQ120_1b hc, ↓xQ120_2b hc, ↓xQ120_3b hc, ↓xQ125_0b hc, ↓xQ125_1b hc, ↓xQ127_0b hc, ↓xQ127_1b hc, ↓xQ127_2b hc, ↓xQ127_3b hc, ↓xQ127_4b hc, ↓xQ127_5b hc, ↓xD0 hc, ↓xD1 hc, ↓xD66 hc, ↓xD68 hc, ↓xD115 hc, ↓xD120 hc, ↓xD121 hc, ↓xD125 hc, ↓xD127 hc, ↓if_neg, ↓if_pos, ↓bde (eB_isWithin _ _ _ _), q1]
    · simp (disch := omega) only [↓zcs, ↓zcn, ↓mD, ↓Option.bind_some, ↓zb_some, ↓zrz0b, ↓zrz1b, ↓zckb, zrz0, zrz1, ↓reduceIte, ↓mIb, ↓mPb, ↓zck_ofb, ↓mPob, ↓mQ1b, ↓mRo1b, ↓mWo1b, ↓mQ3b, ↓mRo2b, ↓mWo2b, ↓mQ4b, ↓mRo3b, ↓mWo3b, ↓mQ8b, ↓mRo4b, ↓mWo4b, ↓mQ9b, ↓mRo5b, ↓mWo5b, ↓mQ10b, ↓mRo6b, ↓mWo6b, ↓mQ11b, ↓mRo7b, ↓mWo7b, ↓mQ12b, ↓mRo8b, ↓mWo8b, ↓mQ13b, ↓mRo9b, ↓mWo9b, ↓mQ14b, ↓mRo10b, ↓mWo10b, ↓mQ17b, ↓mRo11b, ↓mWo11b, ↓mQ19b, ↓mRo12b, ↓mWo12b, ↓mQ20b, ↓mRo13b, ↓mWo13b, ↓mQ23b, ↓mRo14b, ↓mWo14b, ↓mQ24b, ↓mRo15b, ↓mWo15b, ↓mQ26b, ↓mRo16b, ↓mWo16b, ↓mQ27b, ↓mRo17b, ↓mWo17b, ↓mQ28b, ↓mRo18b, ↓mWo18b, ↓mQ29b, ↓mRo19b, ↓mWo19b, ↓mQ30b, ↓mRo20b, ↓mWo20b, ↓mQ32b, ↓mRo21b, ↓mWo21b, ↓mQ33b, ↓mRo22b, ↓mWo22b, ↓mQ34b, ↓mRo23b, ↓mWo23b, ↓mQ35b, ↓mRo24b, ↓mWo24b, ↓mQ36b, ↓mRo25b, ↓mWo25b, ↓mQ37b, ↓mRo26b, ↓mWo26b, ↓mQ38b, ↓mRo27b, ↓mWo27b, ↓mQ39b, ↓mRo28b, ↓mWo28b, ↓mQ40b, ↓mRo29b, ↓mWo29b, ↓mQ41b, ↓mRo30b, ↓mWo30b, ↓mQ43b, ↓mRo31b, ↓mWo31b, ↓mQ44b, ↓mRo32b, ↓mWo32b, ↓mQ45b, ↓mRo33b, ↓mWo33b, ↓mQ46b, ↓mRo34b, ↓mWo34b, ↓mQ47b, ↓mRo35b, ↓mWo35b, ↓mQ48b, ↓mRo36b, ↓mWo36b, ↓mQ50b, ↓mRo37b, ↓mWo37b, ↓mQ51b, ↓mRo38b, ↓mWo38b, ↓mQ52b, ↓mRo39b, ↓mWo39b, ↓if_neg, ↓if_pos, ↓bde (eM_within _ _ _ _), q1]
end TRM
