/-! ===== open: what holds afterwards ===== -/
section OPS
variable {k x N : Nat} {c : Nat → Key} {V : Key → Nat → Int} {R : Key → Nat → Option Nat} {K : Key → Option (Nat × Nat)} {g W : Nat → Nat → Int}
def oG (g : Nat → Nat → Int) (n : Nat) (p o l d : Int) : Nat → Nat → Int := gu (gu (gu (gu (gu g 4 n p) 5 n o) 6 n l) 7 n d) 0 15 ((n : Int) + 1)
theorem ST.opened (h : ST k x c N V R K g W) {n : Nat} (hn : (g 0 15).toNat = n) (hn4 : n < 40) {p o l : Int} (hp : 0 ≤ p ∧ p < g 0 2) (ho : 0 ≤ o ∧ o ≤ 14) (hl : 1 ≤ l ∧ l ≤ 99) : ST k x (oC c n N) (N + 2) (ku (oV V n p o l (g 0 0)) (0, 66, 0) 2 ((n : Int) + 1)) (ru (oR R n N) (0, 67, 0) n (some N)) (oK K n) (oG g n p o l (g 0 0)) W := by
  have f := h.c.fresh (n := n) (by omega)
  have hN : (c N).1 = 9 := h.c.new N (Nat.le_refl N)
  have c1 := cu_cx h.c.cx hN f.1
  have f5 : ∀ q, cu c N (1, n, 0) q ≠ (5, n, 0) := fun q z => by
    by_cases e : q = N
    · rw [e, cu_at] at z; simp at z
    · rw [cu_old e] at z; exact f.2 q z
  have hN1 : (cu c N (1, n, 0) (N + 1)).1 = 9 := cu_new (by omega) h.c.new (by omega)
  have hc : CX x (oC c n N) := cu_cx c1 hN1 f5
  have ih := (h.h.more (t := 7) (l := 0) (by simp) hN f.1)
  have ih2 := ih.more (t := 24) (l := 333) (key := (5, n, 0)) (by simp) hN1 f5
  have im := (h.m.more (t := 7) (l := 0) h.h hN f.1).more (t := 24) (l := 333) (key := (5, n, 0)) ih hN1 f5
  have iu := (h.u.more h.h f.1).more (key := (5, n, 0)) ih f5
  have ix := (h.x.more (t := 7) (l := 0) (key := (1, n, 0)) (by simp) hN f.1).more (t := 24) (l := 333) (key := (5, n, 0)) (by simp) hN1 f5
  have vo : ∀ key q, key ≠ (1, n, 0) → (key = (0, 66, 0) → q ≠ 2) → ku (oV V n p o l (g 0 0)) (0, 66, 0) 2 ((n : Int) + 1) key q = vu (vu V (1, n, 0)) (5, n, 0) key q := fun key q z1 z2 => by
    unfold oV
    simp only [zku]
    rw [if_neg (fun z => z2 z.1 z.2), if_neg (fun z => z1 z.1), if_neg (fun z => z1 z.1), if_neg (fun z => z1 z.1), if_neg (fun z => z1 z.1), if_neg (fun z => z1 z.1), if_neg (fun z => z1 z.1)]
  have v1 : ∀ q, ku (oV V n p o l (g 0 0)) (0, 66, 0) 2 ((n : Int) + 1) (1, n, 0) q = if q = 3 then g 0 0 else if q = 2 then l else if q = 1 then o else if q = 0 then p else if q = 11 then -1 else if q = 5 then -1 else 0 := fun q => by
    unfold oV
    simp only [zku]
    simp [vu]
  have go : ∀ a s, (a = 0 → s ≠ 15) → (4 ≤ a → a ≤ 7 → s ≠ n) → oG g n p o l (g 0 0) a s = g a s := fun a s z1 z2 => by
    unfold oG
    simp only [zgu]
    rw [if_neg (fun z => z1 z.1 z.2), if_neg (fun z => z2 (by omega) (by omega) z.2), if_neg (fun z => z2 (by omega) (by omega) z.2), if_neg (fun z => z2 (by omega) (by omega) z.2), if_neg (fun z => z2 (by omega) (by omega) z.2)]
  have g15 : oG g n p o l (g 0 0) 0 15 = (n : Int) + 1 := by unfold oG; simp [zgu]
  have gr : ∀ a, a ≠ 0 → a ≠ 4 → a ≠ 5 → a ≠ 6 → a ≠ 7 → oG g n p o l (g 0 0) a = g a := fun a z0 z4 z5 z6 z7 => funext fun s => go a s (fun z => absurd z z0) (fun _ _ => by omega)
  have cV1 : ∀ q, cV (1, n, 0) q = 4 ∨ cV (1, n, 0) q = 15 ∨ cV (1, n, 0) q = 6 := fun q => by
    show (if q = 9 ∨ q = 10 then 6 else if q = 11 ∨ q = 13 then 15 else 4) = 4 ∨ (if q = 9 ∨ q = 10 then 6 else if q = 11 ∨ q = 13 then 15 else 4) = 15 ∨ (if q = 9 ∨ q = 10 then 6 else if q = 11 ∨ q = 13 then 15 else 4) = 6
    (repeat' split) <;> simp
  have fV : ∀ key q, cV key q ≠ 4 → cV key q ≠ 15 → cV key q ≠ 6 → cV key q ≠ 13 → ku (oV V n p o l (g 0 0)) (0, 66, 0) 2 ((n : Int) + 1) key q = vu (vu V (1, n, 0)) (5, n, 0) key q := fun key q z1 z2 z3 z4 => vo key q (fun z => by
    subst z
    rcases cV1 q with w | w | w
    · exact z1 w
    · exact z2 w
    · exact z3 w) (fun z => by
    subst z
    exact absurd rfl z4)
  have fG : ∀ a s, cG a s ≠ 4 → cG a s ≠ 13 → oG g n p o l (g 0 0) a s = g a s := fun a s z1 z2 => go a s (fun z w => by
    subst z; subst w
    exact z2 rfl) (fun w1 w2 w => by
    subst w
    have : a = 4 ∨ a = 5 ∨ a = 6 ∨ a = 7 := by omega
    rcases this with rfl | rfl | rfl | rfl
    · exact z1 (if_pos hn4)
    · exact z1 (if_pos hn4)
    · exact z1 (if_pos hn4)
    · exact z1 rfl)
  refine ⟨?_, ?_, ?_, ?_, ?_, ?_, ?_, ?_, ?_, ?_, ?_, ?_⟩
  · exact ((h.s.more (key := (1, n, 0)) (by simp)).more (key := (5, n, 0)) (by simp)).fr (fun key i e => fV key i (by omega) (by omega) (by omega) (by omega)) (fun a s e => fG a s (by omega) (by omega))
  · exact ((h.t.more (key := (1, n, 0)) (by simp)).more (key := (5, n, 0)) (by simp)).fr (fun key i e => fV key i (by omega) (by omega) (by omega) (by omega)) (fun a s e => fG a s (by omega) (by omega))
  · exact ((h.z.more (key := (1, n, 0)) (by simp)).more (key := (5, n, 0)) (by simp)).fr (fun key i e => fV key i (by omega) (by omega) (by omega) (by omega)) (fun a s e => fG a s (by omega) (by omega))
  · have nn := h.h.none_ n (by omega) hn4
    have d0 := h.s.day0
    unfold IH
    rw [g15, ku_at, if_pos rfl, show ((n : Int) + 1).toNat = n + 1 by omega]
    refine ⟨rfl, by omega, fun i hi => ?_, fun i hi => ?_, fun i hi => ?_, fun i hi hi2 => ?_⟩
    · by_cases e : i = n
      · subst e
        refine ⟨N, by simp [ru], ?_, ?_⟩
        · show cu (cu c N (1, i, 0)) (N + 1) (5, i, 0) N = (1, i, 0)
          rw [cu_old (by omega), cu_at]
        · show knu (knu K (1, i, 0) 7 0) (5, i, 0) 24 333 (1, i, 0) = some (7, 0)
          rw [knu_o (by simp), knu_at]
      · obtain ⟨a, h1, h2, h3⟩ := ih2.at_ i (by omega)
        refine ⟨a, ?_, h2, h3⟩
        unfold oR
        simp only [ru]
        rw [if_neg (by simp [e]), if_neg (by simp)]
        exact h1
    · by_cases e : i = n
      · subst e
        refine ⟨N + 1, by unfold oR; simp [ru], ?_, ?_⟩
        · show cu (cu c N (1, i, 0)) (N + 1) (5, i, 0) (N + 1) = (5, i, 0)
          rw [cu_at]
        · show knu (knu K (1, i, 0) 7 0) (5, i, 0) 24 333 (5, i, 0) = some (24, 333)
          rw [knu_at]
      · obtain ⟨a, h1, h2, h3⟩ := ih2.months i (by omega)
        refine ⟨a, ?_, h2, h3⟩
        unfold oR
        simp only [ru]
        rw [if_neg (by simp), if_neg (by simp [e])]
        exact h1
    · have g02 := go 0 2 (by simp) (by simp)
      by_cases e : i = n
      · subst e
        unfold IHi
        simp only [v1]
        rw [g02, gr 8 (by decide) (by decide) (by decide) (by decide) (by decide), gr 9 (by decide) (by decide) (by decide) (by decide) (by decide), gr 10 (by decide) (by decide) (by decide) (by decide) (by decide), gr 31 (by decide) (by decide) (by decide) (by decide) (by decide), gr 32 (by decide) (by decide) (by decide) (by decide) (by decide), gr 33 (by decide) (by decide) (by decide) (by decide) (by decide), gr 34 (by decide) (by decide) (by decide) (by decide) (by decide), gr 35 (by decide) (by decide) (by decide) (by decide) (by decide)]
        simp [oG, zgu, nn]
        omega
      · exact (ih2.num i (by omega)).fr (fun j _ _ => vo _ j (by simp [e]) (by simp)) (fun j hj => go j i (by omega) (fun _ _ => e)) g02
    · rw [gr 8 (by decide) (by decide) (by decide) (by decide) (by decide), gr 9 (by decide) (by decide) (by decide) (by decide) (by decide), gr 10 (by decide) (by decide) (by decide) (by decide) (by decide), gr 31 (by decide) (by decide) (by decide) (by decide) (by decide), gr 32 (by decide) (by decide) (by decide) (by decide) (by decide), gr 33 (by decide) (by decide) (by decide) (by decide) (by decide), gr 34 (by decide) (by decide) (by decide) (by decide) (by decide), gr 35 (by decide) (by decide) (by decide) (by decide) (by decide)]
      exact h.h.none_ i (by omega) hi2
  · have g22 := gr 22 (by decide) (by decide) (by decide) (by decide) (by decide)
    have lat : ∀ j, j < 333 → g 22 (333 * n + j) = 0 := fun j hj => h.m.later _ (by omega) (by omega)
    unfold IM
    rw [g15, show ((n : Int) + 1).toNat = n + 1 by omega, g22, gr 26 (by decide) (by decide) (by decide) (by decide) (by decide), gr 27 (by decide) (by decide) (by decide) (by decide) (by decide), gr 28 (by decide) (by decide) (by decide) (by decide) (by decide), gr 29 (by decide) (by decide) (by decide) (by decide) (by decide)]
    refine ⟨h.m.flag, fun i j hi hj q => ?_, fun i j hi hj q => ?_, fun i j hi hj q => ?_, h.m.due0, h.m.zero, fun s hs hs2 => h.m.later s (by omega) hs2⟩
    · by_cases e : i = n
      · subst e
        unfold oR
        simp [ru, rnu]
      · have := im.none_ i j (by omega) hj q
        unfold oR
        simp only [ru]
        rw [if_neg (by simp), if_neg (by simp)]
        exact this
    · have e : i ≠ n := fun e => by rw [e, lat j hj] at q; exact absurd q (by decide)
      obtain ⟨a, h1, h2, h3⟩ := im.some_ i j (by omega) hj q
      refine ⟨a, ?_, h2, h3⟩
      unfold oR
      simp only [ru]
      rw [if_neg (by simp), if_neg (by simp)]
      exact h1
    · have e : i ≠ n := fun e => by rw [e, lat j hj] at q; exact absurd q (by decide)
      exact (im.num i j (by omega) hj q).fr (fun u _ => vo _ u (by simp) (by simp)) (fun a ha => by rw [gr a (by omega) (by omega) (by omega) (by omega) (by omega)])
  · have rd : mDue (oG g n p o l (g 0 0)) = mDue g := by
      funext s
      unfold mDue
      rw [gr 26 (by decide) (by decide) (by decide) (by decide) (by decide), gr 27 (by decide) (by decide) (by decide) (by decide) (by decide), gr 28 (by decide) (by decide) (by decide) (by decide) (by decide), gr 29 (by decide) (by decide) (by decide) (by decide) (by decide)]
    have z0 : zsum (fun j => mDue g (333 * n + j)) 333 = 0 := by
      have := zsum_0 (f := fun j => mDue g (333 * n + j)) (n := 0) 333 (fun j _ h2 => by
        have a := h.m.zero (333 * n + j) (by omega) (h.m.later _ (by omega) (by omega))
        have b := h.m.due0 (333 * n + j) (by omega)
        show mDue g (333 * n + j) = 0
        unfold mDue
        omega)
      exact this
    have cr0 := h.u.later n (by omega) hn4
    have ndn := (h.h.none_ n (by omega) hn4).2.2.2.2.1
    unfold IU
    rw [g15, show ((n : Int) + 1).toNat = n + 1 by omega, rd, gr 30 (by decide) (by decide) (by decide) (by decide) (by decide), gr 31 (by decide) (by decide) (by decide) (by decide) (by decide), gr 33 (by decide) (by decide) (by decide) (by decide) (by decide)]
    refine ⟨fun i hi => ?_, fun i hi => ?_, fun i hi => ?_, fun i hi => ?_, fun i hi hi2 => h.u.later i (by omega) hi2⟩
    all_goals by_cases e : i = n
    · subst e; rw [v1, cr0]; simp; omega
    · rw [vo _ 10 (by simp [e]) (by simp)]; exact iu.credit i (by omega)
    · subst e; rw [v1, z0]; simp; omega
    · rw [vo _ 9 (by simp [e]) (by simp)]; exact iu.unpaid i (by omega)
    · subst e; rw [cr0]; intro z; exact absurd z (by decide)
    · rw [vo _ 9 (by simp [e]) (by simp)]; exact iu.one i (by omega)
    · subst e; rw [ndn]; intro z; exact absurd z (by decide)
    · rw [vo _ 9 (by simp [e]) (by simp)]; exact iu.runs i (by omega)
  · have ix2 := ix.fr (V' := ku (oV V n p o l (g 0 0)) (0, 66, 0) 2 ((n : Int) + 1)) (g' := oG g n p o l (g 0 0)) (fun key i e => fV key i (by omega) (by omega) (by omega) (by omega)) (fun a s e => fG a s (by omega) (by omega))
    refine ⟨ix2.many, ix2.many0, fun i hi => ?_, fun i hi => ?_, ix2.kind, ix2.from_, ix2.made, ix2.len, ix2.byte, ix2.tlen, ix2.tlen0, ix2.tape, ix2.good⟩
    · obtain ⟨a, h1, h2, h3⟩ := ix2.at_ i hi
      refine ⟨a, ?_, h2, h3⟩
      unfold oR
      simp only [ru]
      rw [if_neg (by simp), if_neg (by simp)]
      exact h1
    · obtain ⟨a, h1, h2, h3⟩ := ix2.bytes i hi
      refine ⟨a, ?_, h2, h3⟩
      unfold oR
      simp only [ru]
      rw [if_neg (by simp), if_neg (by simp)]
      exact h1
  · exact ((h.n.more (key := (1, n, 0)) (by simp)).more (key := (5, n, 0)) (by simp)).fr (fun key i e => fV key i (by omega) (by omega) (by omega) (by omega)) (fun a s e => fG a s (by omega) (by omega))
  · exact ((h.f.more (key := (1, n, 0)) (by simp)).more (key := (5, n, 0)) (by simp)).fr (fun key i e => fV key i (by omega) (by omega) (by omega) (by omega)) (fun a s e => fG a s (by omega) (by omega))
  · have vr : ∀ b, b ≠ 66 → ku (oV V n p o l (g 0 0)) (0, 66, 0) 2 ((n : Int) + 1) (0, b, 0) = V (0, b, 0) := fun b hb => funext fun q => by
      rw [vo _ q (by simp) (by simp [hb]), vu_o (by simp), vu_o (by simp)]
    unfold IP
    rw [g15, go 0 49 (by simp) (by simp), gr 36 (by decide) (by decide) (by decide) (by decide) (by decide), gr 38 (by decide) (by decide) (by decide) (by decide) (by decide), gr 39 (by decide) (by decide) (by decide) (by decide) (by decide), vr 127 (by decide), vr 128 (by decide), vr 129 (by decide), vr 132 (by decide), vr 133 (by decide)]
    have n0 := h.h.many0
    exact ⟨h.p.many, h.p.many0, fun t ht => ⟨(h.p.shop t ht).1, by have := (h.p.shop t ht).2; omega⟩, h.p.rise, h.p.load, h.p.rest, h.p.packed0, fun t ht => ⟨(h.p.cart t ht).1, by have := (h.p.cart t ht).2.1; omega, (h.p.cart t ht).2.2⟩, h.p.none_, h.p.held⟩
  · exact ((h.d.more (key := (1, n, 0)) (by simp)).more (key := (5, n, 0)) (by simp)).fr (fun key i e => fV key i (by omega) (by omega) (by omega) (by omega)) (fun a s e => fG a s (by omega) (by omega))
  · unfold IC
    rw [g15, show ((n : Int) + 1).toNat = n + 1 by omega, go 0 31 (by simp) (by simp), gr 22 (by decide) (by decide) (by decide) (by decide) (by decide)]
    have eo : ∀ q, q ≠ N → q ≠ N + 1 → oC c n N q = c q := fun q z1 z2 => by
      show cu (cu c N (1, n, 0)) (N + 1) (5, n, 0) q = c q
      rw [cu_old z2, cu_old z1]
    refine ⟨hc, fun q hq => by rw [eo q (by omega) (by omega)]; exact h.c.new q (by omega), fun q => ?_⟩
    by_cases z1 : q = N
    · have : oC c n N q = (1, n, 0) := by
        rw [z1]
        show cu (cu c N (1, n, 0)) (N + 1) (5, n, 0) N = (1, n, 0)
        rw [cu_old (by omega), cu_at]
      rw [this]
      simp
    · by_cases z2 : q = N + 1
      · have : oC c n N q = (5, n, 0) := by
          rw [z2]
          show cu (cu c N (1, n, 0)) (N + 1) (5, n, 0) (N + 1) = (5, n, 0)
          rw [cu_at]
        rw [this]
        simp
      · rw [eo q z1 z2]
        have u := h.c.used q
        rw [hn] at u
        rcases u with u | u | u | u | u | u | u
        · exact .inl u
        · exact .inr (.inl u)
        · exact .inr (.inr (.inl ⟨u.1, by omega⟩))
        · exact .inr (.inr (.inr (.inl ⟨u.1, by omega⟩)))
        · exact .inr (.inr (.inr (.inr (.inl ⟨u.1, by omega, u.2.2⟩))))
        · exact .inr (.inr (.inr (.inr (.inr (.inl u)))))
        · exact .inr (.inr (.inr (.inr (.inr (.inr u)))))
end OPS
