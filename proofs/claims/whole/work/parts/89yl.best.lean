/-! ===== best: both ===== -/
section BSZ
variable {k x m : Nat} {X M : Hp}
theorem ST.mc {N : Nat} {c : Nat → Key} {V : Key → Nat → Int} {R : Key → Nat → Option Nat} {K : Key → Option (Nat × Nat)} {g W : Nat → Nat → Int} (h : ST k x c N V R K g W) {kk cnt Z : Nat} {lk o lim : Int} (hc : g 0 15 = (cnt : Int)) (hz : g 0 18 = (Z : Int)) (hk : 1 ≤ kk ∧ kk ≤ 3) (hl : 0 ≤ lk ∧ lk ≤ 99) (hm : 0 ≤ lim ∧ lim ≤ 1000) : MC g W kk cnt Z lk o lim := by
  have n0 := h.h.many0
  have z0 := h.z.many0
  exact ⟨⟨hc, by omega⟩, ⟨hz, by omega⟩, hk, hl, hm, fun y hy => (h.z.site y (by omega)).2, fun s hs => (h.h.num s (by omega)).place0, fun s hs => (h.h.num s (by omega)).like0, fun p hp => (h.t.doors p hp).2, h.s.spend0, h.wk, h.t.many0⟩
theorem OP_best (h : INV k x m X M) (hk : k < 512) (a1 a2 a3 : Int) (h1 : zInI a1) (h2 : zInI a2) (h3 : zInI a3) : ∃ (r : Int) (X' M' : Hp), FB_best zFU x a1 a2 a3 X = some (r, X') ∧ FM_best zFU m a1 a2 a3 M = some (r, M') ∧ INV (k + 1) x m X' M' := by
  obtain ⟨c, N, V, R, K, N', g, W, rfl, rfl, h⟩ := h
  have hc := h.c.cx
  have n0 := h.h.many0
  have z0 := h.z.many0
  have tm := h.t.many0
  have e16 : gu g 0 16 0 = g := gu_same h.s.tried
  unfold FB_best FB_best_b FM_best FM_best_b
  by_cases q1 : 1 ≤ a1 ∧ a1 ≤ 3
  · by_cases q2 : isWhoB a2
    · have w1 := (eB_isWho (FU := zFU) h2 (zX x c N V R K)).1 q2
      have w2 := (eM_isWho (FU := zFU) h2 (zG m N' g)).1 q2
      by_cases q3 : 0 ≤ a3 ∧ a3 ≤ 1000
      · have dv := who_div (w := a2) (by have := q2.1; have := q2.2.1; omega)
        have hw := q2
        unfold isWhoB at hw
        have oI : ∀ G, FB_ownerIn zFU a2 G = some (a2 / 100) := fun G => by unfold FB_ownerIn; rw [dv.1]; rfl
        have lI : ∀ G, FB_likeIn zFU a2 G = some (a2 % 100) := fun G => by unfold FB_likeIn; rw [dv.2]; rfl
        obtain ⟨kk, rfl⟩ : ∃ kk : Nat, a1 = (kk : Int) := ⟨a1.toNat, by omega⟩
        obtain ⟨cnt, ec⟩ : ∃ cnt : Nat, g 0 15 = (cnt : Int) := ⟨(g 0 15).toNat, by omega⟩
        obtain ⟨Z, ez⟩ : ∃ Z : Nat, g 0 18 = (Z : Int) := ⟨(g 0 18).toNat, by omega⟩
        have s0 : MC g W kk cnt Z (a2 % 100) (a2 / 100) a3 := h.mc ec ez (by omega) (by omega) q3
        have hW := h.wk
        -- the class's beginning
        generalize hV1 : ku (ku (ku (ku (ku V (0, 115, 0) 9 (kk : Int)) (0, 115, 0) 10 (a2 / 100)) (0, 115, 0) 11 (a2 % 100)) (0, 115, 0) 12 a3) (0, 115, 0) 13 (-4) = V1
        have f1 : ∀ key q, (key = (0, 115, 0) → q < 9 ∨ 13 < q) → V1 key q = V key q := fun key q z => by
          rw [← hV1, zku, if_neg (fun e => by have := z e.1; omega), zku, if_neg (fun e => by have := z e.1; omega), zku, if_neg (fun e => by have := z e.1; omega), zku, if_neg (fun e => by have := z e.1; omega), zku, if_neg (fun e => by have := z e.1; omega)]
        have p9 : V1 (0, 115, 0) 9 = (kk : Int) := by rw [← hV1, ku_at, if_neg (by decide), ku_at, if_neg (by decide), ku_at, if_neg (by decide), ku_at, if_neg (by decide), ku_at, if_pos rfl]
        have p10 : V1 (0, 115, 0) 10 = a2 / 100 := by rw [← hV1, ku_at, if_neg (by decide), ku_at, if_neg (by decide), ku_at, if_neg (by decide), ku_at, if_pos rfl]
        have p11 : V1 (0, 115, 0) 11 = a2 % 100 := by rw [← hV1, ku_at, if_neg (by decide), ku_at, if_neg (by decide), ku_at, if_pos rfl]
        have p12 : V1 (0, 115, 0) 12 = a3 := by rw [← hV1, ku_at, if_neg (by decide), ku_at, if_pos rfl]
        have p13 : V1 (0, 115, 0) 13 = -4 := by rw [← hV1, ku_at, if_pos rfl]
        have b1 : bfr V V1 := fun key q _ z2 => f1 key q (fun e => absurd ⟨115, by omega, by omega, e⟩ z2)
        obtain ⟨V2, c1, c2, c3, c4⟩ := eK_fill (FU := zFU) (N := N) (V := V1) (R := R) (K := K) hc (by decide) hW (b1.ih h.h) tm.2 (b1.mw h.mw) (n := cnt) (by omega)
        have b2 : bfr V V2 := b1.trans (bfr.of_m c2)
        obtain ⟨V3, d1, d2, d3, d4⟩ := base_loop (FU := zFU) (N := N) (R := R) (K := K) (d := g 1) (e := g 0 6) hc (by decide) hW c4 (by omega) 40 0 zFU V2 (by omega) (by unfold zFU; omega) (b2.mw h.mw) c3
        have b3 : bfr V V3 := fun key q z1 z2 => by rw [d2 key (fun e => z2 ⟨117, by omega, by omega, e⟩)]; exact b2 key q z1 z2
        generalize hV3 : ku V3 (0, 115, 0) 7 0 = V3'
        have b3' : bfr V V3' := fun key q z1 z2 => by rw [← hV3, ku_row (fun e => z2 ⟨115, by omega, by omega, e⟩)]; exact b3 key q z1 z2
        have g115 : ∀ q, q ≠ 7 → V3' (0, 115, 0) q = V1 (0, 115, 0) q := fun q z => by
          rw [← hV3, ku_at, if_neg z, d2 _ (by simp), c2 _ _ (mkey_no (by omega))]
        obtain ⟨V4, k1, k2, k3, k4⟩ := collect_loop (FU := zFU) (N := N) (Z := Z) (cnt := cnt) (o := a2 / 100) hc (by decide) (b3'.ih h.h) (b3'.it h.t) ec ⟨by rw [b3' _ _ (mkey_o (by omega)) (b_o (by omega)), h.z.many, ez], by omega⟩ (fun y hy => by rw [b3' _ _ (mkey_o (by omega)) (b_o (by omega))]; exact h.z.site y (by omega)) (by rw [g115 10 (by decide)]; exact p10) Z 0 zFU V3' (by omega) (by unfold zFU; omega) (fun _ _ _ _ => rfl) (by rw [← hV3, ku_at, if_pos rfl]; rfl) (fun t ht => absurd ht (by omega))
        have k1' : FSearch_collectFree zFU (x + 115) (zX x c N V3 R K) = some ((), zX x c N V4 R K) := by
          unfold FSearch_collectFree FSearch_collectFree_b
          rw [xD115 hc, xP115b hc, hV3]
          exact k1
        have b4 : bfr V V4 := fun key q z1 z2 => by rw [k2 key q (fun e => z2 ⟨116, by omega, by omega, e⟩) (fun e => absurd ⟨115, by omega, by omega, e⟩ z2)]; exact b3' key q z1 z2
        have v4c : ∀ q, q ≠ 7 → V4 (0, 115, 0) q = V1 (0, 115, 0) q := fun q z => by rw [k2 _ _ (by simp) (fun _ => z), g115 q z]
        have hk4 : MK V4 W (stP g) (stL g) (g 5) cnt := c3.keep (by omega) (fun key q z => by
          rw [k2 key q (fun e => by rw [e] at z; exact mkey_no (by omega) z) (fun e => by rw [e] at z; exact absurd z (mkey_no (by omega))), ← hV3, ku_row (fun e => by rw [e] at z; exact mkey_no (by omega) z), d2 key (fun e => by rw [e] at z; exact mkey_no (by omega) z)])
        have sc : SC V4 c R K g W kk cnt Z (a2 % 100) (a2 / 100) a3 := by
          refine ⟨⟨by rw [b4 _ _ (mkey_o (by omega)) (b_o (by omega)), h.h.many, ec], by omega⟩, by omega, by omega, k3, by rw [v4c 9 (by decide)]; exact p9, by rw [v4c 10 (by decide)]; exact p10, by rw [v4c 11 (by decide)]; exact p11, by rw [v4c 12 (by decide)]; exact p12, by omega, q3.1, k4, fun y hy => ?_, fun s hs => ?_, b4.mw h.mw, hW, c4, fun s hs => ?_⟩
          · have := (h.z.site y (by omega)).2
            omega
          · rw [k2 _ _ (by simp) (by simp), ← hV3, ku_row (by simp), d3 s (by omega) hs]
            rfl
          · obtain ⟨a, ha⟩ := h.h.sa (i := s) (by omega)
            exact ⟨a, ha, by rw [b4 _ _ (mkey_t (by simp)) (b_t (by simp))]; exact (h.h.num s (by omega)).owner⟩
        have sx : SX V4 V4 g kk none := ⟨fun _ _ _ _ _ _ => rfl, by rw [v4c 13 (by decide), p13]; rfl, fun _ => ⟨rfl, rfl⟩, fun r z => absurd z (by simp)⟩
        have hk4' : MK V4 W (bP g cnt (fun _ => 0)) (bL g cnt (a2 % 100)) (bO g cnt (a2 / 100)) (cnt + 0) := hk4.congr (fun t ht => ⟨by unfold bP; rw [if_pos (by omega)], by unfold bL; rw [if_pos (by omega)], by unfold bO; rw [if_pos (by omega)]⟩)
        obtain ⟨V5, m1, m2, m3, m4⟩ := choose_X (FU := zFU) (N := N) hc (by decide) sc kk 0 0 8 (fun _ => 0) V4 none (by omega) (by omega) (by omega) (fun t ht => absurd ht (by omega)) sx hk4' (fun t ht => absurd ht (by omega))
        have m1' : FSearch_choose_n zFU 8 (x + 115) 0 0 (zX x c N V4 R K) = some ((), zX x c N V5 R K) := m1
        generalize hS : goZ (bUp g W cnt kk (a2 % 100) (a2 / 100) a3) (bFree g W cnt (a2 / 100)) Z kk kk 0 (fun _ => 0) none = S at m2
        have d1' : FSearch_findBest_L46 zFU zFU (x + 115) 0 (zX x c N V2 R K) = some (sV S (-4), zX x c N V5 R K) := by
          refine Eq.trans d1 ?_
          rw [zbe k1', zbe m1', xI115b hc, m2.best]
        have fb : FSearch_findBest zFU (x + 115) (kk : Int) a2 a3 (zX x c N V R K) = some (sV S (-4), zX x c N V5 R K) := by
          unfold FSearch_findBest FSearch_findBest_b
          rw [xD115 hc, xP115b hc, bde (oI _), xP115b hc, bde (lI _), xP115b hc, xP115b hc, xP115b hc, hV1, xQ115_2b hc, xQ115_1b hc, zbe c1]
          exact d1'
        have b5 : bfr V V5 := fun key q z1 z2 => by
          rw [m2.fr key q z1 (fun e => z2 ⟨118, by omega, by omega, e⟩) (fun e => z2 ⟨119, by omega, by omega, e⟩) (fun e => absurd ⟨115, by omega, by omega, e⟩ z2)]
          exact b4 key q z1 z2
        -- the reference
        obtain ⟨g1, j1, j2, j3, j4, j5⟩ := mbase_loop (FU := zFU) (m := m) (N := N') (a1 := (kk : Int)) (a2 := a2) (a3 := a3) (by decide) s0 cnt 0 zFU g (by omega) (by unfold zFU; omega) (fun _ _ _ _ _ => rfl) h.t.tg h.s.tried (fun t ht => absurd ht (by omega))
        have bm : BM g (gu g1 0 22 (-1)) W cnt := ⟨fun a s z => by rw [gu_ne (fun e => z (by unfold scrM; omega))]; exact j2 a s (fun e => z (by unfold scrM; omega)) (fun e => z (by unfold scrM; omega)) (fun e1 e2 => z (by unfold scrM; omega)), j3.same (gu_row (by decide)) (gu_row (by decide)) (gu_ne (by omega)) (gu_ne (by omega)), by rw [gu_ne (by omega)]; exact j4, fun s hs => by rw [gu_ne (by omega)]; exact j5 s hs⟩
        have sm : SM g (gu g1 0 22 (-1)) kk none := ⟨by rw [gu_at, if_pos rfl]; rfl, fun _ => ⟨by rw [gu_ne (by omega)]; exact j2 0 21 (by decide) (by decide) (by simp), by rw [gu_row (by decide)]; exact funext fun t => j2 13 t (by decide) (by decide) (by simp)⟩, fun r z => absurd z (by simp)⟩
        obtain ⟨g5, l1, l2, l3, l4⟩ := go_M (FU := zFU) (m := m) (N := N') (by decide) s0 kk 0 0 6 (fun _ => 0) (gu g1 0 22 (-1)) none (by omega) (by omega) (by omega) (fun t ht => absurd ht (by omega)) bm sm (fun t ht => absurd ht (by omega))
        rw [hS] at l3
        have l1' : FM_goSites_n zFU 6 m 0 0 (kk : Int) (a2 / 100) (a2 % 100) a3 (zG m N' (gu g1 0 22 (-1))) = some ((), zG m N' g5) := l1
        have mb : FM_best_L37 zFU zFU m (kk : Int) a2 a3 0 (zG m N' g) = some (sV S (-4), zG m N' g5) := by
          refine Eq.trans j1 ?_
          rw [mPb, bde dv.1, bde dv.2, zbe l1', mIb, l3.best, Option.bind_some]
          cases S with
          | none =>
            have z : zcmp (sV none (-1)) 0 < 0 := (zcmp_lt _ _).mpr (by show (-1 : Int) < 0; omega)
            rw [if_pos z]
            rfl
          | some r =>
            have b := (l3.some_ r rfl).1
            have z : ¬ zcmp (sV (some r) (-1)) 0 < 0 := fun z => by
              have := (zcmp_lt _ _).mp z
              have e : sV (some r) (-1) = r.1 := rfl
              omega
            rw [if_neg z, mIb, l3.best]
            show (zck r.1).bind _ = some (r.1, zG m N' g5)
            rw [zckb (by omega)]
        -- what holds afterwards
        have st : ST (k + 1) x c N V5 R K g5 W := by
          refine h.skip.put (W' := W) (fun a => a == 2 || a == 11) (fun key q q0 qq => ?_) (fun a s q0 qq => ?_) (t := fun _ => ?_) (d := fun _ => ?_)
          · refine b5 key q (fun z => q0 (cV_mk z)) (fun z => ?_)
            rcases cV_b z q with e | e
            · exact q0 e
            · rw [e] at qq
              exact absurd (show true = false from qq) (by decide)
          · by_cases z : scrM a s
            · rcases z with z | z | z | z | ⟨z, z2⟩ | ⟨z, z2⟩
              · subst z; exact absurd (show true = false from qq) (by decide)
              · subst z; exact absurd rfl q0
              · subst z; exact absurd (show true = false from qq) (by decide)
              · subst z; exact absurd rfl q0
              · subst z
                rcases z2 with z2 | z2 | z2 | z2
                · subst z2; exact absurd (show true = false from qq) (by decide)
                · subst z2; rw [l2.zero]; exact h.s.tried.symm
                · subst z2; exact absurd (show true = false from qq) (by decide)
                · subst z2; exact absurd rfl q0
              · rcases z with z | z | z
                · subst z; exact absurd (if_neg (by omega)) q0
                · subst z; exact absurd (if_neg (by omega)) q0
                · subst z; exact absurd (if_neg (by omega)) q0
            · exact l2.fr a s z
          · have it := b5.it h.t
            have y2 : g5 0 2 = g 0 2 := l2.fr 0 2 (by unfold scrM; omega)
            have y1 : g5 1 = g 1 := funext fun s => l2.fr 1 s (by unfold scrM; omega)
            have y22 : g5 2 = g 2 := funext fun s => l2.fr 2 s (by unfold scrM; omega)
            exact ⟨by rw [y2]; exact it.many, l2.tg.many0, by rw [y1]; exact it.doors, by rw [y22]; exact it.len, l2.tg.ok, l2.tg.clo, it.ways, l2.tg.flag, l2.tg.kept⟩
          · cases S with
            | none =>
              have a1 := m2.none_ rfl
              have a2 := l3.none_ rfl
              have v8 : V4 (0, 115, 0) 8 = V (0, 115, 0) 8 := by rw [v4c 8 (by decide), f1 _ _ (by omega)]
              have v119 : V4 (0, 119, 0) = V (0, 119, 0) := funext fun q => by
                rw [k2 _ _ (by simp) (by simp), ← hV3, ku_row (by simp), d2 _ (by simp), c2 _ _ (mkey_no (by omega)), f1 _ _ (by simp)]
              unfold ID
              rw [a1.1, a1.2, v8, v119, a2.1, a2.2]
              exact h.d
            | some r =>
              have a1 := m2.some_ r rfl
              have a2 := l3.some_ r rfl
              unfold ID
              rw [a1.2.1, a2.2.1]
              exact ⟨rfl, by omega, fun i hi => by rw [a1.2.2 i (by omega), a2.2.2 i (by omega)]⟩
        refine ⟨sV S (-4), zX x c N V5 R K, zG m N' g5, ?_, ?_, INV.intro st⟩
        · simp (disch := omega) only [↓zcs, ↓zcn, ↓Option.bind_some, ↓zb_some, ↓zrz0b, ↓zrz1b, ↓zckb, zrz0, zrz1, ↓reduceIte, ↓xI0b hc, ↓xP0b hc, ↓xI1b hc, ↓xP1b hc, ↓xI66b hc, ↓xP66b hc, ↓xI68b hc, ↓xP68b hc, ↓xI115b hc, ↓xP115b hc, ↓xI120b hc, ↓xP120b hc, ↓xI121b hc, ↓xP121b hc, ↓xI125b hc, ↓xP125b hc, ↓xI127b hc, ↓xP127b hc, ↓xN2b hc, ↓xRo2b hc, ↓xWo2b hc, ↓xN65b hc, ↓xRo65b hc, ↓xWo65b hc, ↓xN113b hc, ↓xRo113b hc, ↓xWo113b hc, ↓xN114b hc, ↓xRo114b hc, ↓xWo114b hc, ↓xN116b hc, ↓xRo116b hc, ↓xWo116b hc, ↓xN117b hc, ↓xRo117b hc, ↓xWo117b hc, ↓xN118b hc, ↓xRo118b hc, ↓xWo118b hc, ↓xN119b hc, ↓xRo119b hc, ↓xWo119b hc, ↓xN122b hc, ↓xRo122b hc, ↓xWo122b hc, ↓xN124b hc, ↓xRo124b hc, ↓xWo124b hc, ↓xN126b hc, ↓xRo126b hc, ↓xWo126b hc, ↓xN128b hc, ↓xRo128b hc, ↓xWo128b hc, ↓xN129b hc, ↓xRo129b hc, ↓xWo129b hc, ↓xN130b hc, ↓xRo130b hc, ↓xWo130b hc, ↓xN131b hc, ↓xRo131b hc, ↓xWo131b hc, ↓xN132b hc, ↓xRo132b hc, ↓xWo132b hc, ↓xN133b hc, ↓xRo133b hc, ↓xWo133b hc, ↓xN67b hc, ↓xAo67b hc, ↓xN123b hc, ↓xAo123b hc, ↓xN3b hc, ↓xAo3b hc, ↓xN34b hc, ↓xAo34b hc, ↓xN69b hc, ↓xAo69b hc, ↓xQ0_0b hc, ↓xQ0_1b hc, ↓xQ0_2b hc, ↓xQ0_3b hc, ↓xQ0_4b hc, ↓xQ0_5b hc, ↓xQ0_6b hc, ↓xQ1_0b hc, ↓xQ1_1b hc, ↓xQ1_2b hc, ↓xQ1_3b hc, ↓xQ66_0b hc, ↓xQ66_1b hc, ↓xQ68_0b hc, ↓xQ68_1b hc, ↓xQ68_2b hc, ↓xQ68_3b hc, ↓xQ115_0b hc, ↓xQ115_1b hc, ↓xQ115_2b hc, ↓xQ115_3b hc, ↓xQ115_4b hc, ↓xQ115_5b hc, ↓xQ115_6b hc, ↓xQ120_0b hc, ↓xQ120_1b hc, ↓xQ120_2b hc, ↓xQ120_3b hc, ↓xQ125_0b hc, ↓xQ125_1b hc, ↓xQ127_0b hc, ↓xQ127_1b hc, ↓xQ127_2b hc, ↓xQ127_3b hc, ↓xQ127_4b hc, ↓xQ127_5b hc, ↓xD0 hc, ↓xD1 hc, ↓xD66 hc, ↓xD68 hc, ↓xD115 hc, ↓xD120 hc, ↓xD121 hc, ↓xD125 hc, ↓xD127 hc, ↓if_pos, ↓if_neg, ↓bde (eB_isWithin _ _ _ _), q1, ↓bde w1, q3, ↓zbe fb]
        · simp (disch := omega) only [↓zcs, ↓zcn, ↓mD, ↓Option.bind_some, ↓zb_some, ↓zrz0b, ↓zrz1b, ↓zckb, zrz0, zrz1, ↓reduceIte, ↓mIb, ↓mPb, ↓zck_ofb, ↓mPob, ↓mQ1b, ↓mRo1b, ↓mWo1b, ↓mQ3b, ↓mRo2b, ↓mWo2b, ↓mQ4b, ↓mRo3b, ↓mWo3b, ↓mQ8b, ↓mRo4b, ↓mWo4b, ↓mQ9b, ↓mRo5b, ↓mWo5b, ↓mQ10b, ↓mRo6b, ↓mWo6b, ↓mQ11b, ↓mRo7b, ↓mWo7b, ↓mQ12b, ↓mRo8b, ↓mWo8b, ↓mQ13b, ↓mRo9b, ↓mWo9b, ↓mQ14b, ↓mRo10b, ↓mWo10b, ↓mQ17b, ↓mRo11b, ↓mWo11b, ↓mQ19b, ↓mRo12b, ↓mWo12b, ↓mQ20b, ↓mRo13b, ↓mWo13b, ↓mQ23b, ↓mRo14b, ↓mWo14b, ↓mQ24b, ↓mRo15b, ↓mWo15b, ↓mQ26b, ↓mRo16b, ↓mWo16b, ↓mQ27b, ↓mRo17b, ↓mWo17b, ↓mQ28b, ↓mRo18b, ↓mWo18b, ↓mQ29b, ↓mRo19b, ↓mWo19b, ↓mQ30b, ↓mRo20b, ↓mWo20b, ↓mQ32b, ↓mRo21b, ↓mWo21b, ↓mQ33b, ↓mRo22b, ↓mWo22b, ↓mQ34b, ↓mRo23b, ↓mWo23b, ↓mQ35b, ↓mRo24b, ↓mWo24b, ↓mQ36b, ↓mRo25b, ↓mWo25b, ↓mQ37b, ↓mRo26b, ↓mWo26b, ↓mQ38b, ↓mRo27b, ↓mWo27b, ↓mQ39b, ↓mRo28b, ↓mWo28b, ↓mQ40b, ↓mRo29b, ↓mWo29b, ↓mQ41b, ↓mRo30b, ↓mWo30b, ↓mQ43b, ↓mRo31b, ↓mWo31b, ↓mQ44b, ↓mRo32b, ↓mWo32b, ↓mQ45b, ↓mRo33b, ↓mWo33b, ↓mQ46b, ↓mRo34b, ↓mWo34b, ↓mQ47b, ↓mRo35b, ↓mWo35b, ↓mQ48b, ↓mRo36b, ↓mWo36b, ↓mQ50b, ↓mRo37b, ↓mWo37b, ↓mQ51b, ↓mRo38b, ↓mWo38b, ↓mQ52b, ↓mRo39b, ↓mWo39b, ↓if_pos, ↓if_neg, ↓bde (eM_within _ _ _ _), q1, ↓bde w2, q3, e16, mb]
      · refine ⟨-1, zX x c N V R K, zG m N' g, ?_, ?_, INV.intro h.skip⟩
        · simp (disch := omega) only [↓zcs, ↓zcn, ↓Option.bind_some, ↓zb_some, ↓zrz0b, ↓zrz1b, ↓zckb, zrz0, zrz1, ↓reduceIte, ↓xI0b hc, ↓xP0b hc, ↓xI1b hc, ↓xP1b hc, ↓xI66b hc, ↓xP66b hc, ↓xI68b hc, ↓xP68b hc, ↓xI115b hc, ↓xP115b hc, ↓xI120b hc, ↓xP120b hc, ↓xI121b hc, ↓xP121b hc, ↓xI125b hc, ↓xP125b hc, ↓xI127b hc, ↓xP127b hc, ↓xN2b hc, ↓xRo2b hc, ↓xWo2b hc, ↓xN65b hc, ↓xRo65b hc, ↓xWo65b hc, ↓xN113b hc, ↓xRo113b hc, ↓xWo113b hc, ↓xN114b hc, ↓xRo114b hc, ↓xWo114b hc, ↓xN116b hc, ↓xRo116b hc, ↓xWo116b hc, ↓xN117b hc, ↓xRo117b hc, ↓xWo117b hc, ↓xN118b hc, ↓xRo118b hc, ↓xWo118b hc, ↓xN119b hc, ↓xRo119b hc, ↓xWo119b hc, ↓xN122b hc, ↓xRo122b hc, ↓xWo122b hc, ↓xN124b hc, ↓xRo124b hc, ↓xWo124b hc, ↓xN126b hc, ↓xRo126b hc, ↓xWo126b hc, ↓xN128b hc, ↓xRo128b hc, ↓xWo128b hc, ↓xN129b hc, ↓xRo129b hc, ↓xWo129b hc, ↓xN130b hc, ↓xRo130b hc, ↓xWo130b hc, ↓xN131b hc, ↓xRo131b hc, ↓xWo131b hc, ↓xN132b hc, ↓xRo132b hc, ↓xWo132b hc, ↓xN133b hc, ↓xRo133b hc, ↓xWo133b hc, ↓xN67b hc, ↓xAo67b hc, ↓xN123b hc, ↓xAo123b hc, ↓xN3b hc, ↓xAo3b hc, ↓xN34b hc, ↓xAo34b hc, ↓xN69b hc, ↓xAo69b hc, ↓xQ0_0b hc, ↓xQ0_1b hc, ↓xQ0_2b hc, ↓xQ0_3b hc, ↓xQ0_4b hc, ↓xQ0_5b hc, ↓xQ0_6b hc, ↓xQ1_0b hc, ↓xQ1_1b hc, ↓xQ1_2b hc, ↓xQ1_3b hc, ↓xQ66_0b hc, ↓xQ66_1b hc, ↓xQ68_0b hc, ↓xQ68_1b hc, ↓xQ68_2b hc, ↓xQ68_3b hc, ↓xQ115_0b hc, ↓xQ115_1b hc, ↓xQ115_2b hc, ↓xQ115_3b hc, ↓xQ115_4b hc, ↓xQ115_5b hc, ↓xQ115_6b hc, ↓xQ120_0b hc, ↓xQ120_1b hc, ↓xQ120_2b hc, ↓xQ120_3b hc, ↓xQ125_0b hc, ↓xQ125_1b hc, ↓xQ127_0b hc, ↓xQ127_1b hc, ↓xQ127_2b hc, ↓xQ127_3b hc, ↓xQ127_4b hc, ↓xQ127_5b hc, ↓xD0 hc, ↓xD1 hc, ↓xD66 hc, ↓xD68 hc, ↓xD115 hc, ↓xD120 hc, ↓xD121 hc, ↓xD125 hc, ↓xD127 hc, ↓if_pos, ↓if_neg, ↓bde (eB_isWithin _ _ _ _), q1, ↓bde w1, q3]
        · simp (disch := omega) only [↓zcs, ↓zcn, ↓mD, ↓Option.bind_some, ↓zb_some, ↓zrz0b, ↓zrz1b, ↓zckb, zrz0, zrz1, ↓reduceIte, ↓mIb, ↓mPb, ↓zck_ofb, ↓mPob, ↓mQ1b, ↓mRo1b, ↓mWo1b, ↓mQ3b, ↓mRo2b, ↓mWo2b, ↓mQ4b, ↓mRo3b, ↓mWo3b, ↓mQ8b, ↓mRo4b, ↓mWo4b, ↓mQ9b, ↓mRo5b, ↓mWo5b, ↓mQ10b, ↓mRo6b, ↓mWo6b, ↓mQ11b, ↓mRo7b, ↓mWo7b, ↓mQ12b, ↓mRo8b, ↓mWo8b, ↓mQ13b, ↓mRo9b, ↓mWo9b, ↓mQ14b, ↓mRo10b, ↓mWo10b, ↓mQ17b, ↓mRo11b, ↓mWo11b, ↓mQ19b, ↓mRo12b, ↓mWo12b, ↓mQ20b, ↓mRo13b, ↓mWo13b, ↓mQ23b, ↓mRo14b, ↓mWo14b, ↓mQ24b, ↓mRo15b, ↓mWo15b, ↓mQ26b, ↓mRo16b, ↓mWo16b, ↓mQ27b, ↓mRo17b, ↓mWo17b, ↓mQ28b, ↓mRo18b, ↓mWo18b, ↓mQ29b, ↓mRo19b, ↓mWo19b, ↓mQ30b, ↓mRo20b, ↓mWo20b, ↓mQ32b, ↓mRo21b, ↓mWo21b, ↓mQ33b, ↓mRo22b, ↓mWo22b, ↓mQ34b, ↓mRo23b, ↓mWo23b, ↓mQ35b, ↓mRo24b, ↓mWo24b, ↓mQ36b, ↓mRo25b, ↓mWo25b, ↓mQ37b, ↓mRo26b, ↓mWo26b, ↓mQ38b, ↓mRo27b, ↓mWo27b, ↓mQ39b, ↓mRo28b, ↓mWo28b, ↓mQ40b, ↓mRo29b, ↓mWo29b, ↓mQ41b, ↓mRo30b, ↓mWo30b, ↓mQ43b, ↓mRo31b, ↓mWo31b, ↓mQ44b, ↓mRo32b, ↓mWo32b, ↓mQ45b, ↓mRo33b, ↓mWo33b, ↓mQ46b, ↓mRo34b, ↓mWo34b, ↓mQ47b, ↓mRo35b, ↓mWo35b, ↓mQ48b, ↓mRo36b, ↓mWo36b, ↓mQ50b, ↓mRo37b, ↓mWo37b, ↓mQ51b, ↓mRo38b, ↓mWo38b, ↓mQ52b, ↓mRo39b, ↓mWo39b, ↓if_pos, ↓if_neg, ↓bde (eM_within _ _ _ _), q1, ↓bde w2, q3]
    · have w1 := (eB_isWho (FU := zFU) h2 (zX x c N V R K)).2 q2
      have w2 := (eM_isWho (FU := zFU) h2 (zG m N' g)).2 q2
      refine ⟨-1, zX x c N V R K, zG m N' g, ?_, ?_, INV.intro h.skip⟩
      · simp (disch := omega) only [↓zcs, ↓zcn, ↓Option.bind_some, ↓zb_some, ↓zrz0b, ↓zrz1b, ↓zckb, zrz0, zrz1, ↓reduceIte, ↓xI0b hc, ↓xP0b hc, ↓xI1b hc, ↓xP1b hc, ↓xI66b hc, ↓xP66b hc, ↓xI68b hc, ↓xP68b hc, ↓xI115b hc, ↓xP115b hc, ↓xI120b hc, ↓xP120b hc, ↓xI121b hc, ↓xP121b hc, ↓xI125b hc, ↓xP125b hc, ↓xI127b hc, ↓xP127b hc, ↓xN2b hc, ↓xRo2b hc, ↓xWo2b hc, ↓xN65b hc, ↓xRo65b hc, ↓xWo65b hc, ↓xN113b hc, ↓xRo113b hc, ↓xWo113b hc, ↓xN114b hc, ↓xRo114b hc, ↓xWo114b hc, ↓xN116b hc, ↓xRo116b hc, ↓xWo116b hc, ↓xN117b hc, ↓xRo117b hc, ↓xWo117b hc, ↓xN118b hc, ↓xRo118b hc, ↓xWo118b hc, ↓xN119b hc, ↓xRo119b hc, ↓xWo119b hc, ↓xN122b hc, ↓xRo122b hc, ↓xWo122b hc, ↓xN124b hc, ↓xRo124b hc, ↓xWo124b hc, ↓xN126b hc, ↓xRo126b hc, ↓xWo126b hc, ↓xN128b hc, ↓xRo128b hc, ↓xWo128b hc, ↓xN129b hc, ↓xRo129b hc, ↓xWo129b hc, ↓xN130b hc, ↓xRo130b hc, ↓xWo130b hc, ↓xN131b hc, ↓xRo131b hc, ↓xWo131b hc, ↓xN132b hc, ↓xRo132b hc, ↓xWo132b hc, ↓xN133b hc, ↓xRo133b hc, ↓xWo133b hc, ↓xN67b hc, ↓xAo67b hc, ↓xN123b hc, ↓xAo123b hc, ↓xN3b hc, ↓xAo3b hc, ↓xN34b hc, ↓xAo34b hc, ↓xN69b hc, ↓xAo69b hc, ↓xQ0_0b hc, ↓xQ0_1b hc, ↓xQ0_2b hc, ↓xQ0_3b hc, ↓xQ0_4b hc, ↓xQ0_5b hc, ↓xQ0_6b hc, ↓xQ1_0b hc, ↓xQ1_1b hc, ↓xQ1_2b hc, ↓xQ1_3b hc, ↓xQ66_0b hc, ↓xQ66_1b hc, ↓xQ68_0b hc, ↓xQ68_1b hc, ↓xQ68_2b hc, ↓xQ68_3b hc, ↓xQ115_0b hc, ↓xQ115_1b hc, ↓xQ115_2b hc, ↓xQ115_3b hc, ↓xQ115_4b hc, ↓xQ115_5b hc, ↓xQ115_6b hc, ↓xQ120_0b hc, ↓xQ120_1b hc, ↓xQ120_2b hc, ↓xQ120_3b hc, ↓xQ125_0b hc, ↓xQ125_1b hc, ↓xQ127_0b hc, ↓xQ127_1b hc, ↓xQ127_2b hc, ↓xQ127_3b hc, ↓xQ127_4b hc, ↓xQ127_5b hc, ↓xD0 hc, ↓xD1 hc, ↓xD66 hc, ↓xD68 hc, ↓xD115 hc, ↓xD120 hc, ↓xD121 hc, ↓xD125 hc, ↓xD127 hc, ↓if_pos, ↓if_neg, ↓bde (eB_isWithin _ _ _ _), q1, ↓bde w1]
      · simp (disch := omega) only [↓zcs, ↓zcn, ↓mD, ↓Option.bind_some, ↓zb_some, ↓zrz0b, ↓zrz1b, ↓zckb, zrz0, zrz1, ↓reduceIte, ↓mIb, ↓mPb, ↓zck_ofb, ↓mPob, ↓mQ1b, ↓mRo1b, ↓mWo1b, ↓mQ3b, ↓mRo2b, ↓mWo2b, ↓mQ4b, ↓mRo3b, ↓mWo3b, ↓mQ8b, ↓mRo4b, ↓mWo4b, ↓mQ9b, ↓mRo5b, ↓mWo5b, ↓mQ10b, ↓mRo6b, ↓mWo6b, ↓mQ11b, ↓mRo7b, ↓mWo7b, ↓mQ12b, ↓mRo8b, ↓mWo8b, ↓mQ13b, ↓mRo9b, ↓mWo9b, ↓mQ14b, ↓mRo10b, ↓mWo10b, ↓mQ17b, ↓mRo11b, ↓mWo11b, ↓mQ19b, ↓mRo12b, ↓mWo12b, ↓mQ20b, ↓mRo13b, ↓mWo13b, ↓mQ23b, ↓mRo14b, ↓mWo14b, ↓mQ24b, ↓mRo15b, ↓mWo15b, ↓mQ26b, ↓mRo16b, ↓mWo16b, ↓mQ27b, ↓mRo17b, ↓mWo17b, ↓mQ28b, ↓mRo18b, ↓mWo18b, ↓mQ29b, ↓mRo19b, ↓mWo19b, ↓mQ30b, ↓mRo20b, ↓mWo20b, ↓mQ32b, ↓mRo21b, ↓mWo21b, ↓mQ33b, ↓mRo22b, ↓mWo22b, ↓mQ34b, ↓mRo23b, ↓mWo23b, ↓mQ35b, ↓mRo24b, ↓mWo24b, ↓mQ36b, ↓mRo25b, ↓mWo25b, ↓mQ37b, ↓mRo26b, ↓mWo26b, ↓mQ38b, ↓mRo27b, ↓mWo27b, ↓mQ39b, ↓mRo28b, ↓mWo28b, ↓mQ40b, ↓mRo29b, ↓mWo29b, ↓mQ41b, ↓mRo30b, ↓mWo30b, ↓mQ43b, ↓mRo31b, ↓mWo31b, ↓mQ44b, ↓mRo32b, ↓mWo32b, ↓mQ45b, ↓mRo33b, ↓mWo33b, ↓mQ46b, ↓mRo34b, ↓mWo34b, ↓mQ47b, ↓mRo35b, ↓mWo35b, ↓mQ48b, ↓mRo36b, ↓mWo36b, ↓mQ50b, ↓mRo37b, ↓mWo37b, ↓mQ51b, ↓mRo38b, ↓mWo38b, ↓mQ52b, ↓mRo39b, ↓mWo39b, ↓if_pos, ↓if_neg, ↓bde (eM_within _ _ _ _), q1, ↓bde w2]
  · refine ⟨-1, zX x c N V R K, zG m N' g, ?_, ?_, INV.intro h.skip⟩
    · simp (disch := omega) only [↓zcs, ↓zcn, ↓Option.bind_some, ↓zb_some, ↓zrz0b, ↓zrz1b, ↓zckb, zrz0, zrz1, ↓reduceIte, ↓xI0b hc, ↓xP0b hc, ↓xI1b hc, ↓xP1b hc, ↓xI66b hc, ↓xP66b hc, ↓xI68b hc, ↓xP68b hc, ↓xI115b hc, ↓xP115b hc, ↓xI120b hc, ↓xP120b hc, ↓xI121b hc, ↓xP121b hc, ↓xI125b hc, ↓xP125b hc, ↓xI127b hc, ↓xP127b hc, ↓xN2b hc, ↓xRo2b hc, ↓xWo2b hc, ↓xN65b hc, ↓xRo65b hc, ↓xWo65b hc, ↓xN113b hc, ↓xRo113b hc, ↓xWo113b hc, ↓xN114b hc, ↓xRo114b hc, ↓xWo114b hc, ↓xN116b hc, ↓xRo116b hc, ↓xWo116b hc, ↓xN117b hc, ↓xRo117b hc, ↓xWo117b hc, ↓xN118b hc, ↓xRo118b hc, ↓xWo118b hc, ↓xN119b hc, ↓xRo119b hc, ↓xWo119b hc, ↓xN122b hc, ↓xRo122b hc, ↓xWo122b hc, ↓xN124b hc, ↓xRo124b hc, ↓xWo124b hc, ↓xN126b hc, ↓xRo126b hc, ↓xWo126b hc, ↓xN128b hc, ↓xRo128b hc, ↓xWo128b hc, ↓xN129b hc, ↓xRo129b hc, ↓xWo129b hc, ↓xN130b hc, ↓xRo130b hc, ↓xWo130b hc, ↓xN131b hc, ↓xRo131b hc, ↓xWo131b hc, ↓xN132b hc, ↓xRo132b hc, ↓xWo132b hc, ↓xN133b hc, ↓xRo133b hc, ↓xWo133b hc, ↓xN67b hc, ↓xAo67b hc, ↓xN123b hc, ↓xAo123b hc, ↓xN3b hc, ↓xAo3b hc, ↓xN34b hc, ↓xAo34b hc, ↓xN69b hc, ↓xAo69b hc, ↓xQ0_0b hc, ↓xQ0_1b hc, ↓xQ0_2b hc, ↓xQ0_3b hc, ↓xQ0_4b hc, ↓xQ0_5b hc, ↓xQ0_6b hc, ↓xQ1_0b hc, ↓xQ1_1b hc, ↓xQ1_2b hc, ↓xQ1_3b hc, ↓xQ66_0b hc, ↓xQ66_1b hc, ↓xQ68_0b hc, ↓xQ68_1b hc, ↓xQ68_2b hc, ↓xQ68_3b hc, ↓xQ115_0b hc, ↓xQ115_1b hc, ↓xQ115_2b hc, ↓xQ115_3b hc, ↓xQ115_4b hc, ↓xQ115_5b hc, ↓xQ115_6b hc, ↓xQ120_0b hc, ↓xQ120_1b hc, ↓xQ120_2b hc, ↓xQ120_3b hc, ↓xQ125_0b hc, ↓xQ125_1b hc, ↓xQ127_0b hc, ↓xQ127_1b hc, ↓xQ127_2b hc, ↓xQ127_3b hc, ↓xQ127_4b hc, ↓xQ127_5b hc, ↓xD0 hc, ↓xD1 hc, ↓xD66 hc, ↓xD68 hc, ↓xD115 hc, ↓xD120 hc, ↓xD121 hc, ↓xD125 hc, ↓xD127 hc, ↓if_pos, ↓if_neg, ↓bde (eB_isWithin _ _ _ _), q1]
    · simp (disch := omega) only [↓zcs, ↓zcn, ↓mD, ↓Option.bind_some, ↓zb_some, ↓zrz0b, ↓zrz1b, ↓zckb, zrz0, zrz1, ↓reduceIte, ↓mIb, ↓mPb, ↓zck_ofb, ↓mPob, ↓mQ1b, ↓mRo1b, ↓mWo1b, ↓mQ3b, ↓mRo2b, ↓mWo2b, ↓mQ4b, ↓mRo3b, ↓mWo3b, ↓mQ8b, ↓mRo4b, ↓mWo4b, ↓mQ9b, ↓mRo5b, ↓mWo5b, ↓mQ10b, ↓mRo6b, ↓mWo6b, ↓mQ11b, ↓mRo7b, ↓mWo7b, ↓mQ12b, ↓mRo8b, ↓mWo8b, ↓mQ13b, ↓mRo9b, ↓mWo9b, ↓mQ14b, ↓mRo10b, ↓mWo10b, ↓mQ17b, ↓mRo11b, ↓mWo11b, ↓mQ19b, ↓mRo12b, ↓mWo12b, ↓mQ20b, ↓mRo13b, ↓mWo13b, ↓mQ23b, ↓mRo14b, ↓mWo14b, ↓mQ24b, ↓mRo15b, ↓mWo15b, ↓mQ26b, ↓mRo16b, ↓mWo16b, ↓mQ27b, ↓mRo17b, ↓mWo17b, ↓mQ28b, ↓mRo18b, ↓mWo18b, ↓mQ29b, ↓mRo19b, ↓mWo19b, ↓mQ30b, ↓mRo20b, ↓mWo20b, ↓mQ32b, ↓mRo21b, ↓mWo21b, ↓mQ33b, ↓mRo22b, ↓mWo22b, ↓mQ34b, ↓mRo23b, ↓mWo23b, ↓mQ35b, ↓mRo24b, ↓mWo24b, ↓mQ36b, ↓mRo25b, ↓mWo25b, ↓mQ37b, ↓mRo26b, ↓mWo26b, ↓mQ38b, ↓mRo27b, ↓mWo27b, ↓mQ39b, ↓mRo28b, ↓mWo28b, ↓mQ40b, ↓mRo29b, ↓mWo29b, ↓mQ41b, ↓mRo30b, ↓mWo30b, ↓mQ43b, ↓mRo31b, ↓mWo31b, ↓mQ44b, ↓mRo32b, ↓mWo32b, ↓mQ45b, ↓mRo33b, ↓mWo33b, ↓mQ46b, ↓mRo34b, ↓mWo34b, ↓mQ47b, ↓mRo35b, ↓mWo35b, ↓mQ48b, ↓mRo36b, ↓mWo36b, ↓mQ50b, ↓mRo37b, ↓mWo37b, ↓mQ51b, ↓mRo38b, ↓mWo38b, ↓mQ52b, ↓mRo39b, ↓mWo39b, ↓if_pos, ↓if_neg, ↓bde (eM_within _ _ _ _), q1]
end BSZ
