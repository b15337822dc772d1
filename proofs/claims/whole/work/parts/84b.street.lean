/-! ===== street and way ===== -/
theorem cV_in (o z i : Nat) (h1 : 2 ≤ o) (h2 : o ≤ 64) : cV (0, o, z) i = 2 := by
  unfold cV
  simp only
  split <;> first | omega | (rw [if_pos h2])
/-- what the reference knows of the town -/
def TG (g W : Nat → Nat → Int) : Prop := (0 ≤ g 0 2 ∧ g 0 2 ≤ 30) ∧ (mEok g (g 0 2).toNat) ∧ (Clo (mE g) W) ∧ (g 0 5 = 0 ∨ g 0 5 = 1) ∧ (g 0 5 = 1 → ∀ a b, a < (g 0 2).toNat → b < (g 0 2).toNat → g 3 (30 * a + b) = W a b)
theorem TG.many0 {g W : Nat → Nat → Int} (h : TG g W) : 0 ≤ g 0 2 ∧ g 0 2 ≤ 30 := h.1
theorem TG.ok {g W : Nat → Nat → Int} (h : TG g W) : mEok g (g 0 2).toNat := h.2.1
theorem TG.clo {g W : Nat → Nat → Int} (h : TG g W) : Clo (mE g) W := h.2.2.1
theorem TG.flag {g W : Nat → Nat → Int} (h : TG g W) : g 0 5 = 0 ∨ g 0 5 = 1 := h.2.2.2.1
theorem TG.kept {g W : Nat → Nat → Int} (h : TG g W) : g 0 5 = 1 → ∀ a b, a < (g 0 2).toNat → b < (g 0 2).toNat → g 3 (30 * a + b) = W a b := h.2.2.2.2
/-- only the ways kept have changed -/
def gW (g g' : Nat → Nat → Int) : Prop := (∀ j, j ≠ 3 → j ≠ 0 → g' j = g j) ∧ (∀ i, i ≠ 5 → g' 0 i = g 0 i)
theorem gW.row {g g' : Nat → Nat → Int} (h : gW g g') : ∀ j, j ≠ 3 → j ≠ 0 → g' j = g j := h.1
theorem gW.num {g g' : Nat → Nat → Int} (h : gW g g') : ∀ i, i ≠ 5 → g' 0 i = g 0 i := h.2
theorem gW.rfl' {g : Nat → Nat → Int} : gW g g := ⟨fun _ _ _ => rfl, fun _ _ => rfl⟩
theorem gW.trans {g g' g2 : Nat → Nat → Int} (h : gW g g') (h2 : gW g' g2) : gW g g2 := ⟨fun j a b => by rw [h2.row j a b, h.row j a b], fun i a => by rw [h2.num i a, h.num i a]⟩
theorem IT.tg {V : Key → Nat → Int} {g W : Nat → Nat → Int} (h : IT V g W) : TG g W := ⟨h.many0, h.ok, h.clo, h.flag, h.kept⟩
theorem gW.town {V : Key → Nat → Int} {g g' W : Nat → Nat → Int} (hw : gW g g') (h : IT V g W) (h' : TG g' W) : IT V g' W := by
  have g02 : g' 0 2 = g 0 2 := hw.num 2 (by decide)
  have g1 : g' 1 = g 1 := hw.row 1 (by decide) (by decide)
  have g2 : g' 2 = g 2 := hw.row 2 (by decide) (by decide)
  refine ⟨by rw [g02]; exact h.many, h'.many0, by rw [g1]; exact h.doors, by rw [g2]; exact h.len, h'.ok, h'.clo, h.ways, h'.flag, h'.kept⟩
theorem ST.cache {k x N : Nat} {c : Nat → Key} {V : Key → Nat → Int} {R : Key → Nat → Option Nat} {K : Key → Option (Nat × Nat)} {g g' W : Nat → Nat → Int} (h : ST k x c N V R K g W) (hw : gW g g') (ht : TG g' W) : ST k x c N V R K g' W := by
  refine h.put (W' := W) (fun a => a == 2) (fun _ _ _ _ => rfl) (fun j i q0 q => ?_) (t := fun _ => hw.town h.t ht)
  by_cases j3 : j = 3
  · subst j3; exact absurd (show true = false from q) (by decide)
  · by_cases j0 : j = 0
    · subst j0
      by_cases i5 : i = 5
      · subst i5; exact absurd (show true = false from q) (by decide)
      · exact hw.num i i5
    · rw [hw.row j j3 j0]
theorem TG.wayOf {m N FU : Nat} {g W : Nat → Nat → Int} (h : TG g W) (hFU : 31 ≤ FU) {a b : Int} (ha : 0 ≤ a ∧ a < g 0 2) (hb : 0 ≤ b ∧ b < g 0 2) : ∃ g', FM_wayOf FU m a b (zG m N g) = some (W a.toNat b.toNat, zG m N g') ∧ gW g g' ∧ TG g' W := by
  have h0 := h.many0
  obtain ⟨g', e1, e2, e3, e4, e5⟩ := eM_findWays (m := m) (N := N) (FU := FU) (P := (g 0 2).toNat) (by omega) hFU (by omega) h.ok h.clo h.flag h.kept
  have g2 : g' 2 = g 2 := e2 2 (by decide) (by decide)
  have g02 : g' 0 2 = g 0 2 := e3 2 (by decide)
  have hi : (30 * a + b).toNat = 30 * a.toNat + b.toNat := by omega
  refine ⟨g', ?_, ⟨e2, e3⟩, ⟨by rw [g02]; exact h0, ?_, by rw [mE_row g2]; exact h.clo, .inr e4, fun _ => by rw [g02]; exact e5⟩⟩
  · unfold FM_wayOf FM_wayOf_b
    simp (disch := omega) only [mI, mP, mPo, mD, Option.bind_some, zb_some, zrz0, zrz1, zck_of, mQ1, mRo1, mWo1, mQ3, mRo2, mWo2, mQ4, mRo3, mWo3, mQ8, mRo4, mWo4, mQ9, mRo5, mWo5, mQ10, mRo6, mWo6, mQ11, mRo7, mWo7, mQ12, mRo8, mWo8, mQ13, mRo9, mWo9, mQ14, mRo10, mWo10, mQ17, mRo11, mWo11, mQ19, mRo12, mWo12, mQ20, mRo13, mWo13, mQ23, mRo14, mWo14, mQ24, mRo15, mWo15, mQ26, mRo16, mWo16, mQ27, mRo17, mWo17, mQ28, mRo18, mWo18, mQ29, mRo19, mWo19, mQ30, mRo20, mWo20, mQ32, mRo21, mWo21, mQ33, mRo22, mWo22, mQ34, mRo23, mWo23, mQ35, mRo24, mWo24, mQ36, mRo25, mWo25, mQ37, mRo26, mWo26, mQ38, mRo27, mWo27, mQ39, mRo28, mWo28, mQ40, mRo29, mWo29, mQ41, mRo30, mWo30, mQ43, mRo31, mWo31, mQ44, mRo32, mWo32, mQ45, mRo33, mWo33, mQ46, mRo34, mWo34, mQ47, mRo35, mWo35, mQ48, mRo36, mWo36, mQ50, mRo37, mWo37, mQ51, mRo38, mWo38, mQ52, mRo39, mWo39, ite_true, ite_false, if_pos, if_neg, e1, hi, e5 a.toNat b.toNat (by omega) (by omega)]
  · intro p q hp hq
    rw [g2, g02]
    exact h.ok p q hp hq
theorem TG.W0 {g W : Nat → Nat → Int} (h : TG g W) (a b : Nat) : 0 ≤ W a b ∧ W a b ≤ 1000000 ∧ (W a b < 1000000 → W a b ≤ 2970) := by
  have h0 := h.many0
  have := h.clo.2.1 a b
  exact ⟨this.1, this.2, fun q => Clo.short h.clo (mE_ge h.ok) (mE_le h.ok) (fun p q hq => mE_far h.ok p q (by omega)) q⟩
theorem TG.sym {g W : Nat → Nat → Int} (h : TG g W) (a b : Nat) : W a b = W b a := h.clo.sym (mE_sym h.ok) a b
theorem TG.far {g W : Nat → Nat → Int} (h : TG g W) {a b : Nat} (ha : (g 0 2).toNat ≤ a) (hab : a ≠ b) : W a b = 1000000 := by
  have h1 := h.clo.2.1 a b
  by_cases q : W a b < 1000000
  · obtain ⟨c, hc, e⟩ := Clo.step (n := (g 0 2).toNat) h.clo (fun a b => by have := mE_ge h.ok a b; omega) (fun a c hc => mE_far h.ok a c hc) hab q
    have e2 := mE_far h.ok c a ha
    rw [mE_sym h.ok] at e2
    have := h.clo.2.1 c b
    omega
  · omega
theorem wEnc_lt {w : Int} (h : 0 ≤ w) : (wEnc w < 0) = ¬ w < 1000000 := by
  unfold wEnc
  split <;> simp <;> omega
section OPB
variable {k x m : Nat} {X M : Hp}
theorem OP_way (h : INV k x m X M) (hk : k < 512) (a1 a2 : Int) (h1 : zInI a1) (h2 : zInI a2) : ∃ (r : Int) (X' M' : Hp), FB_way zFU x a1 a2 X = some r ∧ X' = X ∧ FM_way zFU m a1 a2 M = some (r, M') ∧ INV (k + 1) x m X' M' := by
  obtain ⟨c, N, V, R, K, N', g, W, rfl, rfl, h⟩ := h
  have hc := h.c.cx
  have P0 := h.t.many0
  have PV := h.t.many
  unfold FB_way FB_way_b FM_way FM_way_b
  by_cases q1 : 0 ≤ a1 ∧ a1 < g 0 2
  · by_cases q2 : 0 ≤ a2 ∧ a2 < g 0 2
    · obtain ⟨g', e1, e2, e3⟩ := h.t.tg.wayOf (m := m) (N := N') (FU := zFU) (by decide) q1 q2
      have w0 := h.t.tg.W0 a1.toNat a2.toNat
      have hw := h.t.ways a1.toNat a2.toNat (by omega) (by omega)
      by_cases q3 : W a1.toNat a2.toNat < 1000000
      · refine ⟨W a1.toNat a2.toNat, zX x c N V R K, zG m N' g', ?_, rfl, ?_, INV.intro (h.skip.cache e2 e3)⟩
        · simp (disch := omega) only [Option.bind_some, zb_some, zrz0, zrz1, zck_of, xI0 hc, xP0 hc, xD0 hc, xI1 hc, xP1 hc, xD1 hc, xI66 hc, xP66 hc, xD66 hc, xI68 hc, xP68 hc, xD68 hc, xI115 hc, xP115 hc, xD115 hc, xI120 hc, xP120 hc, xD120 hc, xI121 hc, xP121 hc, xD121 hc, xI125 hc, xP125 hc, xD125 hc, xI127 hc, xP127 hc, xD127 hc, xQ0_0 hc, xQ0_1 hc, xQ0_2 hc, xQ0_3 hc, xQ0_4 hc, xQ0_5 hc, xQ0_6 hc, xQ1_0 hc, xQ1_1 hc, xQ1_2 hc, xQ1_3 hc, xQ66_0 hc, xQ66_1 hc, xQ68_0 hc, xQ68_1 hc, xQ68_2 hc, xQ68_3 hc, xQ115_0 hc, xQ115_1 hc, xQ115_2 hc, xQ115_3 hc, xQ115_4 hc, xQ115_5 hc, xQ115_6 hc, xQ120_0 hc, xQ120_1 hc, xQ120_2 hc, xQ120_3 hc, xQ125_0 hc, xQ125_1 hc, xQ127_0 hc, xQ127_1 hc, xQ127_2 hc, xQ127_3 hc, xQ127_4 hc, xQ127_5 hc, xRo2 hc, xWo2 hc, xN2 hc, xRo65 hc, xWo65 hc, xN65 hc, xRo113 hc, xWo113 hc, xN113 hc, xRo114 hc, xWo114 hc, xN114 hc, xRo116 hc, xWo116 hc, xN116 hc, xRo117 hc, xWo117 hc, xN117 hc, xRo118 hc, xWo118 hc, xN118 hc, xRo119 hc, xWo119 hc, xN119 hc, xRo122 hc, xWo122 hc, xN122 hc, xRo124 hc, xWo124 hc, xN124 hc, xRo126 hc, xWo126 hc, xN126 hc, xRo128 hc, xWo128 hc, xN128 hc, xRo129 hc, xWo129 hc, xN129 hc, xRo130 hc, xWo130 hc, xN130 hc, xRo131 hc, xWo131 hc, xN131 hc, xRo132 hc, xWo132 hc, xN132 hc, xRo133 hc, xWo133 hc, xN133 hc, xN67 hc, xAo67 hc, xN123 hc, xAo123 hc, xN3 hc, xAo3 hc, xN34 hc, xAo34 hc, xN69 hc, xAo69 hc, ite_true, ite_false, if_pos, if_neg, eT_hasPlace hc, PV, if_pos q1, if_pos q2, eT_way hc (a := a1) (b := a2) (by omega) (by omega), hw, wEnc, if_pos q3]
        · simp (disch := omega) only [mI, mP, mPo, mD, Option.bind_some, zb_some, zrz0, zrz1, zck_of, mQ1, mRo1, mWo1, mQ3, mRo2, mWo2, mQ4, mRo3, mWo3, mQ8, mRo4, mWo4, mQ9, mRo5, mWo5, mQ10, mRo6, mWo6, mQ11, mRo7, mWo7, mQ12, mRo8, mWo8, mQ13, mRo9, mWo9, mQ14, mRo10, mWo10, mQ17, mRo11, mWo11, mQ19, mRo12, mWo12, mQ20, mRo13, mWo13, mQ23, mRo14, mWo14, mQ24, mRo15, mWo15, mQ26, mRo16, mWo16, mQ27, mRo17, mWo17, mQ28, mRo18, mWo18, mQ29, mRo19, mWo19, mQ30, mRo20, mWo20, mQ32, mRo21, mWo21, mQ33, mRo22, mWo22, mQ34, mRo23, mWo23, mQ35, mRo24, mWo24, mQ36, mRo25, mWo25, mQ37, mRo26, mWo26, mQ38, mRo27, mWo27, mQ39, mRo28, mWo28, mQ40, mRo29, mWo29, mQ41, mRo30, mWo30, mQ43, mRo31, mWo31, mQ44, mRo32, mWo32, mQ45, mRo33, mWo33, mQ46, mRo34, mWo34, mQ47, mRo35, mWo35, mQ48, mRo36, mWo36, mQ50, mRo37, mWo37, mQ51, mRo38, mWo38, mQ52, mRo39, mWo39, ite_true, ite_false, if_pos, if_neg, eM_isPlace, if_pos q1, if_pos q2, e1, if_pos q3]
      · refine ⟨-4, zX x c N V R K, zG m N' g', ?_, rfl, ?_, INV.intro (h.skip.cache e2 e3)⟩
        · simp (disch := omega) only [Option.bind_some, zb_some, zrz0, zrz1, zck_of, xI0 hc, xP0 hc, xD0 hc, xI1 hc, xP1 hc, xD1 hc, xI66 hc, xP66 hc, xD66 hc, xI68 hc, xP68 hc, xD68 hc, xI115 hc, xP115 hc, xD115 hc, xI120 hc, xP120 hc, xD120 hc, xI121 hc, xP121 hc, xD121 hc, xI125 hc, xP125 hc, xD125 hc, xI127 hc, xP127 hc, xD127 hc, xQ0_0 hc, xQ0_1 hc, xQ0_2 hc, xQ0_3 hc, xQ0_4 hc, xQ0_5 hc, xQ0_6 hc, xQ1_0 hc, xQ1_1 hc, xQ1_2 hc, xQ1_3 hc, xQ66_0 hc, xQ66_1 hc, xQ68_0 hc, xQ68_1 hc, xQ68_2 hc, xQ68_3 hc, xQ115_0 hc, xQ115_1 hc, xQ115_2 hc, xQ115_3 hc, xQ115_4 hc, xQ115_5 hc, xQ115_6 hc, xQ120_0 hc, xQ120_1 hc, xQ120_2 hc, xQ120_3 hc, xQ125_0 hc, xQ125_1 hc, xQ127_0 hc, xQ127_1 hc, xQ127_2 hc, xQ127_3 hc, xQ127_4 hc, xQ127_5 hc, xRo2 hc, xWo2 hc, xN2 hc, xRo65 hc, xWo65 hc, xN65 hc, xRo113 hc, xWo113 hc, xN113 hc, xRo114 hc, xWo114 hc, xN114 hc, xRo116 hc, xWo116 hc, xN116 hc, xRo117 hc, xWo117 hc, xN117 hc, xRo118 hc, xWo118 hc, xN118 hc, xRo119 hc, xWo119 hc, xN119 hc, xRo122 hc, xWo122 hc, xN122 hc, xRo124 hc, xWo124 hc, xN124 hc, xRo126 hc, xWo126 hc, xN126 hc, xRo128 hc, xWo128 hc, xN128 hc, xRo129 hc, xWo129 hc, xN129 hc, xRo130 hc, xWo130 hc, xN130 hc, xRo131 hc, xWo131 hc, xN131 hc, xRo132 hc, xWo132 hc, xN132 hc, xRo133 hc, xWo133 hc, xN133 hc, xN67 hc, xAo67 hc, xN123 hc, xAo123 hc, xN3 hc, xAo3 hc, xN34 hc, xAo34 hc, xN69 hc, xAo69 hc, ite_true, ite_false, if_pos, if_neg, eT_hasPlace hc, PV, if_pos q1, if_pos q2, eT_way hc (a := a1) (b := a2) (by omega) (by omega), hw, wEnc, if_neg q3]
        · simp (disch := omega) only [mI, mP, mPo, mD, Option.bind_some, zb_some, zrz0, zrz1, zck_of, mQ1, mRo1, mWo1, mQ3, mRo2, mWo2, mQ4, mRo3, mWo3, mQ8, mRo4, mWo4, mQ9, mRo5, mWo5, mQ10, mRo6, mWo6, mQ11, mRo7, mWo7, mQ12, mRo8, mWo8, mQ13, mRo9, mWo9, mQ14, mRo10, mWo10, mQ17, mRo11, mWo11, mQ19, mRo12, mWo12, mQ20, mRo13, mWo13, mQ23, mRo14, mWo14, mQ24, mRo15, mWo15, mQ26, mRo16, mWo16, mQ27, mRo17, mWo17, mQ28, mRo18, mWo18, mQ29, mRo19, mWo19, mQ30, mRo20, mWo20, mQ32, mRo21, mWo21, mQ33, mRo22, mWo22, mQ34, mRo23, mWo23, mQ35, mRo24, mWo24, mQ36, mRo25, mWo25, mQ37, mRo26, mWo26, mQ38, mRo27, mWo27, mQ39, mRo28, mWo28, mQ40, mRo29, mWo29, mQ41, mRo30, mWo30, mQ43, mRo31, mWo31, mQ44, mRo32, mWo32, mQ45, mRo33, mWo33, mQ46, mRo34, mWo34, mQ47, mRo35, mWo35, mQ48, mRo36, mWo36, mQ50, mRo37, mWo37, mQ51, mRo38, mWo38, mQ52, mRo39, mWo39, ite_true, ite_false, if_pos, if_neg, eM_isPlace, if_pos q1, if_pos q2, e1, if_neg q3]
    · refine ⟨-1, zX x c N V R K, zG m N' g, ?_, rfl, ?_, INV.intro h.skip⟩
      · simp (disch := omega) only [Option.bind_some, zb_some, zrz0, zrz1, zck_of, xI0 hc, xP0 hc, xD0 hc, xI1 hc, xP1 hc, xD1 hc, xI66 hc, xP66 hc, xD66 hc, xI68 hc, xP68 hc, xD68 hc, xI115 hc, xP115 hc, xD115 hc, xI120 hc, xP120 hc, xD120 hc, xI121 hc, xP121 hc, xD121 hc, xI125 hc, xP125 hc, xD125 hc, xI127 hc, xP127 hc, xD127 hc, xQ0_0 hc, xQ0_1 hc, xQ0_2 hc, xQ0_3 hc, xQ0_4 hc, xQ0_5 hc, xQ0_6 hc, xQ1_0 hc, xQ1_1 hc, xQ1_2 hc, xQ1_3 hc, xQ66_0 hc, xQ66_1 hc, xQ68_0 hc, xQ68_1 hc, xQ68_2 hc, xQ68_3 hc, xQ115_0 hc, xQ115_1 hc, xQ115_2 hc, xQ115_3 hc, xQ115_4 hc, xQ115_5 hc, xQ115_6 hc, xQ120_0 hc, xQ120_1 hc, xQ120_2 hc, xQ120_3 hc, xQ125_0 hc, xQ125_1 hc, xQ127_0 hc, xQ127_1 hc, xQ127_2 hc, xQ127_3 hc, xQ127_4 hc, xQ127_5 hc, xRo2 hc, xWo2 hc, xN2 hc, xRo65 hc, xWo65 hc, xN65 hc, xRo113 hc, xWo113 hc, xN113 hc, xRo114 hc, xWo114 hc, xN114 hc, xRo116 hc, xWo116 hc, xN116 hc, xRo117 hc, xWo117 hc, xN117 hc, xRo118 hc, xWo118 hc, xN118 hc, xRo119 hc, xWo119 hc, xN119 hc, xRo122 hc, xWo122 hc, xN122 hc, xRo124 hc, xWo124 hc, xN124 hc, xRo126 hc, xWo126 hc, xN126 hc, xRo128 hc, xWo128 hc, xN128 hc, xRo129 hc, xWo129 hc, xN129 hc, xRo130 hc, xWo130 hc, xN130 hc, xRo131 hc, xWo131 hc, xN131 hc, xRo132 hc, xWo132 hc, xN132 hc, xRo133 hc, xWo133 hc, xN133 hc, xN67 hc, xAo67 hc, xN123 hc, xAo123 hc, xN3 hc, xAo3 hc, xN34 hc, xAo34 hc, xN69 hc, xAo69 hc, ite_true, ite_false, if_pos, if_neg, eT_hasPlace hc, PV, if_pos q1, if_neg q2]
      · simp (disch := omega) only [mI, mP, mPo, mD, Option.bind_some, zb_some, zrz0, zrz1, zck_of, mQ1, mRo1, mWo1, mQ3, mRo2, mWo2, mQ4, mRo3, mWo3, mQ8, mRo4, mWo4, mQ9, mRo5, mWo5, mQ10, mRo6, mWo6, mQ11, mRo7, mWo7, mQ12, mRo8, mWo8, mQ13, mRo9, mWo9, mQ14, mRo10, mWo10, mQ17, mRo11, mWo11, mQ19, mRo12, mWo12, mQ20, mRo13, mWo13, mQ23, mRo14, mWo14, mQ24, mRo15, mWo15, mQ26, mRo16, mWo16, mQ27, mRo17, mWo17, mQ28, mRo18, mWo18, mQ29, mRo19, mWo19, mQ30, mRo20, mWo20, mQ32, mRo21, mWo21, mQ33, mRo22, mWo22, mQ34, mRo23, mWo23, mQ35, mRo24, mWo24, mQ36, mRo25, mWo25, mQ37, mRo26, mWo26, mQ38, mRo27, mWo27, mQ39, mRo28, mWo28, mQ40, mRo29, mWo29, mQ41, mRo30, mWo30, mQ43, mRo31, mWo31, mQ44, mRo32, mWo32, mQ45, mRo33, mWo33, mQ46, mRo34, mWo34, mQ47, mRo35, mWo35, mQ48, mRo36, mWo36, mQ50, mRo37, mWo37, mQ51, mRo38, mWo38, mQ52, mRo39, mWo39, ite_true, ite_false, if_pos, if_neg, eM_isPlace, if_pos q1, if_neg q2]
  · refine ⟨-1, zX x c N V R K, zG m N' g, ?_, rfl, ?_, INV.intro h.skip⟩
    · simp (disch := omega) only [Option.bind_some, zb_some, zrz0, zrz1, zck_of, xI0 hc, xP0 hc, xD0 hc, xI1 hc, xP1 hc, xD1 hc, xI66 hc, xP66 hc, xD66 hc, xI68 hc, xP68 hc, xD68 hc, xI115 hc, xP115 hc, xD115 hc, xI120 hc, xP120 hc, xD120 hc, xI121 hc, xP121 hc, xD121 hc, xI125 hc, xP125 hc, xD125 hc, xI127 hc, xP127 hc, xD127 hc, xQ0_0 hc, xQ0_1 hc, xQ0_2 hc, xQ0_3 hc, xQ0_4 hc, xQ0_5 hc, xQ0_6 hc, xQ1_0 hc, xQ1_1 hc, xQ1_2 hc, xQ1_3 hc, xQ66_0 hc, xQ66_1 hc, xQ68_0 hc, xQ68_1 hc, xQ68_2 hc, xQ68_3 hc, xQ115_0 hc, xQ115_1 hc, xQ115_2 hc, xQ115_3 hc, xQ115_4 hc, xQ115_5 hc, xQ115_6 hc, xQ120_0 hc, xQ120_1 hc, xQ120_2 hc, xQ120_3 hc, xQ125_0 hc, xQ125_1 hc, xQ127_0 hc, xQ127_1 hc, xQ127_2 hc, xQ127_3 hc, xQ127_4 hc, xQ127_5 hc, xRo2 hc, xWo2 hc, xN2 hc, xRo65 hc, xWo65 hc, xN65 hc, xRo113 hc, xWo113 hc, xN113 hc, xRo114 hc, xWo114 hc, xN114 hc, xRo116 hc, xWo116 hc, xN116 hc, xRo117 hc, xWo117 hc, xN117 hc, xRo118 hc, xWo118 hc, xN118 hc, xRo119 hc, xWo119 hc, xN119 hc, xRo122 hc, xWo122 hc, xN122 hc, xRo124 hc, xWo124 hc, xN124 hc, xRo126 hc, xWo126 hc, xN126 hc, xRo128 hc, xWo128 hc, xN128 hc, xRo129 hc, xWo129 hc, xN129 hc, xRo130 hc, xWo130 hc, xN130 hc, xRo131 hc, xWo131 hc, xN131 hc, xRo132 hc, xWo132 hc, xN132 hc, xRo133 hc, xWo133 hc, xN133 hc, xN67 hc, xAo67 hc, xN123 hc, xAo123 hc, xN3 hc, xAo3 hc, xN34 hc, xAo34 hc, xN69 hc, xAo69 hc, ite_true, ite_false, if_pos, if_neg, eT_hasPlace hc, PV, if_neg q1]
    · simp (disch := omega) only [mI, mP, mPo, mD, Option.bind_some, zb_some, zrz0, zrz1, zck_of, mQ1, mRo1, mWo1, mQ3, mRo2, mWo2, mQ4, mRo3, mWo3, mQ8, mRo4, mWo4, mQ9, mRo5, mWo5, mQ10, mRo6, mWo6, mQ11, mRo7, mWo7, mQ12, mRo8, mWo8, mQ13, mRo9, mWo9, mQ14, mRo10, mWo10, mQ17, mRo11, mWo11, mQ19, mRo12, mWo12, mQ20, mRo13, mWo13, mQ23, mRo14, mWo14, mQ24, mRo15, mWo15, mQ26, mRo16, mWo16, mQ27, mRo17, mWo17, mQ28, mRo18, mWo18, mQ29, mRo19, mWo19, mQ30, mRo20, mWo20, mQ32, mRo21, mWo21, mQ33, mRo22, mWo22, mQ34, mRo23, mWo23, mQ35, mRo24, mWo24, mQ36, mRo25, mWo25, mQ37, mRo26, mWo26, mQ38, mRo27, mWo27, mQ39, mRo28, mWo28, mQ40, mRo29, mWo29, mQ41, mRo30, mWo30, mQ43, mRo31, mWo31, mQ44, mRo32, mWo32, mQ45, mRo33, mWo33, mQ46, mRo34, mWo34, mQ47, mRo35, mWo35, mQ48, mRo36, mWo36, mQ50, mRo37, mWo37, mQ51, mRo38, mWo38, mQ52, mRo39, mWo39, ite_true, ite_false, if_pos, if_neg, eM_isPlace, if_neg q1]
theorem OP_street (h : INV k x m X M) (hk : k < 512) (a1 a2 a3 : Int) (h1 : zInI a1) (h2 : zInI a2) (h3 : zInI a3) : ∃ (r : Int) (X' M' : Hp), FB_street zFU x a1 a2 a3 X = some (r, X') ∧ FM_street zFU m a1 a2 a3 M = some (r, M') ∧ INV (k + 1) x m X' M' := by
  obtain ⟨c, N, V, R, K, N', g, W, rfl, rfl, h⟩ := h
  have hc := h.c.cx
  have P0 := h.t.many0
  have PV := h.t.many
  unfold FB_street FB_street_b FM_street FM_street_b
  by_cases q1 : 0 ≤ a1 ∧ a1 < g 0 2
  · by_cases q2 : 0 ≤ a2 ∧ a2 < g 0 2
    · by_cases q3 : a1 = a2
      · refine ⟨-1, zX x c N V R K, zG m N' g, ?_, ?_, INV.intro h.skip⟩
        · simp (disch := omega) only [Option.bind_some, zb_some, zrz0, zrz1, zck_of, xI0 hc, xP0 hc, xD0 hc, xI1 hc, xP1 hc, xD1 hc, xI66 hc, xP66 hc, xD66 hc, xI68 hc, xP68 hc, xD68 hc, xI115 hc, xP115 hc, xD115 hc, xI120 hc, xP120 hc, xD120 hc, xI121 hc, xP121 hc, xD121 hc, xI125 hc, xP125 hc, xD125 hc, xI127 hc, xP127 hc, xD127 hc, xQ0_0 hc, xQ0_1 hc, xQ0_2 hc, xQ0_3 hc, xQ0_4 hc, xQ0_5 hc, xQ0_6 hc, xQ1_0 hc, xQ1_1 hc, xQ1_2 hc, xQ1_3 hc, xQ66_0 hc, xQ66_1 hc, xQ68_0 hc, xQ68_1 hc, xQ68_2 hc, xQ68_3 hc, xQ115_0 hc, xQ115_1 hc, xQ115_2 hc, xQ115_3 hc, xQ115_4 hc, xQ115_5 hc, xQ115_6 hc, xQ120_0 hc, xQ120_1 hc, xQ120_2 hc, xQ120_3 hc, xQ125_0 hc, xQ125_1 hc, xQ127_0 hc, xQ127_1 hc, xQ127_2 hc, xQ127_3 hc, xQ127_4 hc, xQ127_5 hc, xRo2 hc, xWo2 hc, xN2 hc, xRo65 hc, xWo65 hc, xN65 hc, xRo113 hc, xWo113 hc, xN113 hc, xRo114 hc, xWo114 hc, xN114 hc, xRo116 hc, xWo116 hc, xN116 hc, xRo117 hc, xWo117 hc, xN117 hc, xRo118 hc, xWo118 hc, xN118 hc, xRo119 hc, xWo119 hc, xN119 hc, xRo122 hc, xWo122 hc, xN122 hc, xRo124 hc, xWo124 hc, xN124 hc, xRo126 hc, xWo126 hc, xN126 hc, xRo128 hc, xWo128 hc, xN128 hc, xRo129 hc, xWo129 hc, xN129 hc, xRo130 hc, xWo130 hc, xN130 hc, xRo131 hc, xWo131 hc, xN131 hc, xRo132 hc, xWo132 hc, xN132 hc, xRo133 hc, xWo133 hc, xN133 hc, xN67 hc, xAo67 hc, xN123 hc, xAo123 hc, xN3 hc, xAo3 hc, xN34 hc, xAo34 hc, xN69 hc, xAo69 hc, ite_true, ite_false, if_pos, if_neg, eT_hasPlace hc, PV, if_pos q1, if_pos q2, if_pos q3]
        · simp (disch := omega) only [mI, mP, mPo, mD, Option.bind_some, zb_some, zrz0, zrz1, zck_of, mQ1, mRo1, mWo1, mQ3, mRo2, mWo2, mQ4, mRo3, mWo3, mQ8, mRo4, mWo4, mQ9, mRo5, mWo5, mQ10, mRo6, mWo6, mQ11, mRo7, mWo7, mQ12, mRo8, mWo8, mQ13, mRo9, mWo9, mQ14, mRo10, mWo10, mQ17, mRo11, mWo11, mQ19, mRo12, mWo12, mQ20, mRo13, mWo13, mQ23, mRo14, mWo14, mQ24, mRo15, mWo15, mQ26, mRo16, mWo16, mQ27, mRo17, mWo17, mQ28, mRo18, mWo18, mQ29, mRo19, mWo19, mQ30, mRo20, mWo20, mQ32, mRo21, mWo21, mQ33, mRo22, mWo22, mQ34, mRo23, mWo23, mQ35, mRo24, mWo24, mQ36, mRo25, mWo25, mQ37, mRo26, mWo26, mQ38, mRo27, mWo27, mQ39, mRo28, mWo28, mQ40, mRo29, mWo29, mQ41, mRo30, mWo30, mQ43, mRo31, mWo31, mQ44, mRo32, mWo32, mQ45, mRo33, mWo33, mQ46, mRo34, mWo34, mQ47, mRo35, mWo35, mQ48, mRo36, mWo36, mQ50, mRo37, mWo37, mQ51, mRo38, mWo38, mQ52, mRo39, mWo39, ite_true, ite_false, if_pos, if_neg, eM_isPlace, if_pos q1, if_pos q2, if_pos q3]
      · by_cases q4 : 1 ≤ a3 ∧ a3 ≤ 99
        · obtain ⟨a, rfl⟩ : ∃ a : Nat, a1 = (a : Int) := ⟨a1.toNat, by omega⟩
          obtain ⟨b, rfl⟩ : ∃ b : Nat, a2 = (b : Int) := ⟨a2.toNat, by omega⟩
          have ha : a < 30 := by omega
          have hb : b < 30 := by omega
          have hab : a ≠ b := by omega
          have ta : (a : Int).toNat = a := by omega
          have tb : (b : Int).toNat = b := by omega
          have i1 : (30 * (a : Int) + (b : Int)).toNat = 30 * a + b := by omega
          have i2 : (30 * (b : Int) + (a : Int)).toNat = 30 * b + a := by omega
          have ok := h.t.ok a b ha hb
          have hl := h.t.len a b ha hb
          have i12 : 30 * a + b ≠ 30 * b + a := by omega
          -- the reference, whichever length stands
          have hM : ∀ v : Int, (v = if g 2 (30 * a + b) ≤ 0 then a3 else if g 2 (30 * a + b) < a3 then g 2 (30 * a + b) else a3) → FM_street zFU m (a : Int) (b : Int) a3 (zG m N' g) = some (v, zG m N' (gu (gu (gu g 2 (30 * a + b) v) 2 (30 * b + a) v) 0 5 0)) := by
            intro v hv
            unfold FM_street FM_street_b FM_street_B62 FM_street_B63
            simp (disch := omega) only [mI, mP, mPo, mD, Option.bind_some, zb_some, zrz0, zrz1, zck_of, mQ1, mRo1, mWo1, mQ3, mRo2, mWo2, mQ4, mRo3, mWo3, mQ8, mRo4, mWo4, mQ9, mRo5, mWo5, mQ10, mRo6, mWo6, mQ11, mRo7, mWo7, mQ12, mRo8, mWo8, mQ13, mRo9, mWo9, mQ14, mRo10, mWo10, mQ17, mRo11, mWo11, mQ19, mRo12, mWo12, mQ20, mRo13, mWo13, mQ23, mRo14, mWo14, mQ24, mRo15, mWo15, mQ26, mRo16, mWo16, mQ27, mRo17, mWo17, mQ28, mRo18, mWo18, mQ29, mRo19, mWo19, mQ30, mRo20, mWo20, mQ32, mRo21, mWo21, mQ33, mRo22, mWo22, mQ34, mRo23, mWo23, mQ35, mRo24, mWo24, mQ36, mRo25, mWo25, mQ37, mRo26, mWo26, mQ38, mRo27, mWo27, mQ39, mRo28, mWo28, mQ40, mRo29, mWo29, mQ41, mRo30, mWo30, mQ43, mRo31, mWo31, mQ44, mRo32, mWo32, mQ45, mRo33, mWo33, mQ46, mRo34, mWo34, mQ47, mRo35, mWo35, mQ48, mRo36, mWo36, mQ50, mRo37, mWo37, mQ51, mRo38, mWo38, mQ52, mRo39, mWo39, ite_true, ite_false, if_pos, if_neg, eM_isPlace, eM_within, if_pos q1, if_pos q2, if_neg q3, if_pos q4, i1, i2]
            subst hv
            by_cases z1 : g 2 (30 * a + b) ≤ 0
            · simp (disch := omega) only [mI, mP, mPo, mD, Option.bind_some, zb_some, zrz0, zrz1, zck_of, mQ1, mRo1, mWo1, mQ3, mRo2, mWo2, mQ4, mRo3, mWo3, mQ8, mRo4, mWo4, mQ9, mRo5, mWo5, mQ10, mRo6, mWo6, mQ11, mRo7, mWo7, mQ12, mRo8, mWo8, mQ13, mRo9, mWo9, mQ14, mRo10, mWo10, mQ17, mRo11, mWo11, mQ19, mRo12, mWo12, mQ20, mRo13, mWo13, mQ23, mRo14, mWo14, mQ24, mRo15, mWo15, mQ26, mRo16, mWo16, mQ27, mRo17, mWo17, mQ28, mRo18, mWo18, mQ29, mRo19, mWo19, mQ30, mRo20, mWo20, mQ32, mRo21, mWo21, mQ33, mRo22, mWo22, mQ34, mRo23, mWo23, mQ35, mRo24, mWo24, mQ36, mRo25, mWo25, mQ37, mRo26, mWo26, mQ38, mRo27, mWo27, mQ39, mRo28, mWo28, mQ40, mRo29, mWo29, mQ41, mRo30, mWo30, mQ43, mRo31, mWo31, mQ44, mRo32, mWo32, mQ45, mRo33, mWo33, mQ46, mRo34, mWo34, mQ47, mRo35, mWo35, mQ48, mRo36, mWo36, mQ50, mRo37, mWo37, mQ51, mRo38, mWo38, mQ52, mRo39, mWo39, ite_true, ite_false, if_pos, if_neg, if_pos z1]
            · by_cases z2 : g 2 (30 * a + b) < a3
              · simp (disch := omega) only [mI, mP, mPo, mD, Option.bind_some, zb_some, zrz0, zrz1, zck_of, mQ1, mRo1, mWo1, mQ3, mRo2, mWo2, mQ4, mRo3, mWo3, mQ8, mRo4, mWo4, mQ9, mRo5, mWo5, mQ10, mRo6, mWo6, mQ11, mRo7, mWo7, mQ12, mRo8, mWo8, mQ13, mRo9, mWo9, mQ14, mRo10, mWo10, mQ17, mRo11, mWo11, mQ19, mRo12, mWo12, mQ20, mRo13, mWo13, mQ23, mRo14, mWo14, mQ24, mRo15, mWo15, mQ26, mRo16, mWo16, mQ27, mRo17, mWo17, mQ28, mRo18, mWo18, mQ29, mRo19, mWo19, mQ30, mRo20, mWo20, mQ32, mRo21, mWo21, mQ33, mRo22, mWo22, mQ34, mRo23, mWo23, mQ35, mRo24, mWo24, mQ36, mRo25, mWo25, mQ37, mRo26, mWo26, mQ38, mRo27, mWo27, mQ39, mRo28, mWo28, mQ40, mRo29, mWo29, mQ41, mRo30, mWo30, mQ43, mRo31, mWo31, mQ44, mRo32, mWo32, mQ45, mRo33, mWo33, mQ46, mRo34, mWo34, mQ47, mRo35, mWo35, mQ48, mRo36, mWo36, mQ50, mRo37, mWo37, mQ51, mRo38, mWo38, mQ52, mRo39, mWo39, ite_true, ite_false, if_pos, if_neg, if_neg z1, if_pos z2]
              · simp (disch := omega) only [mI, mP, mPo, mD, Option.bind_some, zb_some, zrz0, zrz1, zck_of, mQ1, mRo1, mWo1, mQ3, mRo2, mWo2, mQ4, mRo3, mWo3, mQ8, mRo4, mWo4, mQ9, mRo5, mWo5, mQ10, mRo6, mWo6, mQ11, mRo7, mWo7, mQ12, mRo8, mWo8, mQ13, mRo9, mWo9, mQ14, mRo10, mWo10, mQ17, mRo11, mWo11, mQ19, mRo12, mWo12, mQ20, mRo13, mWo13, mQ23, mRo14, mWo14, mQ24, mRo15, mWo15, mQ26, mRo16, mWo16, mQ27, mRo17, mWo17, mQ28, mRo18, mWo18, mQ29, mRo19, mWo19, mQ30, mRo20, mWo20, mQ32, mRo21, mWo21, mQ33, mRo22, mWo22, mQ34, mRo23, mWo23, mQ35, mRo24, mWo24, mQ36, mRo25, mWo25, mQ37, mRo26, mWo26, mQ38, mRo27, mWo27, mQ39, mRo28, mWo28, mQ40, mRo29, mWo29, mQ41, mRo30, mWo30, mQ43, mRo31, mWo31, mQ44, mRo32, mWo32, mQ45, mRo33, mWo33, mQ46, mRo34, mWo34, mQ47, mRo35, mWo35, mQ48, mRo36, mWo36, mQ50, mRo37, mWo37, mQ51, mRo38, mWo38, mQ52, mRo39, mWo39, ite_true, ite_false, if_pos, if_neg, if_neg z1, if_neg z2]
          by_cases z : 0 < g 2 (30 * a + b) ∧ g 2 (30 * a + b) ≤ a3
          · have e1 := hM (g 2 (30 * a + b)) (by
              rw [if_neg (by omega)]
              split <;> omega)
            refine ⟨_, zX x c N V R K, _, ?_, e1, INV.intro (W := W) ?_⟩
            · unfold FTown_addStreet FTown_addStreet_b
              simp (disch := omega) only [Option.bind_some, zb_some, zrz0, zrz1, zck_of, xI0 hc, xP0 hc, xD0 hc, xI1 hc, xP1 hc, xD1 hc, xI66 hc, xP66 hc, xD66 hc, xI68 hc, xP68 hc, xD68 hc, xI115 hc, xP115 hc, xD115 hc, xI120 hc, xP120 hc, xD120 hc, xI121 hc, xP121 hc, xD121 hc, xI125 hc, xP125 hc, xD125 hc, xI127 hc, xP127 hc, xD127 hc, xQ0_0 hc, xQ0_1 hc, xQ0_2 hc, xQ0_3 hc, xQ0_4 hc, xQ0_5 hc, xQ0_6 hc, xQ1_0 hc, xQ1_1 hc, xQ1_2 hc, xQ1_3 hc, xQ66_0 hc, xQ66_1 hc, xQ68_0 hc, xQ68_1 hc, xQ68_2 hc, xQ68_3 hc, xQ115_0 hc, xQ115_1 hc, xQ115_2 hc, xQ115_3 hc, xQ115_4 hc, xQ115_5 hc, xQ115_6 hc, xQ120_0 hc, xQ120_1 hc, xQ120_2 hc, xQ120_3 hc, xQ125_0 hc, xQ125_1 hc, xQ127_0 hc, xQ127_1 hc, xQ127_2 hc, xQ127_3 hc, xQ127_4 hc, xQ127_5 hc, xRo2 hc, xWo2 hc, xN2 hc, xRo65 hc, xWo65 hc, xN65 hc, xRo113 hc, xWo113 hc, xN113 hc, xRo114 hc, xWo114 hc, xN114 hc, xRo116 hc, xWo116 hc, xN116 hc, xRo117 hc, xWo117 hc, xN117 hc, xRo118 hc, xWo118 hc, xN118 hc, xRo119 hc, xWo119 hc, xN119 hc, xRo122 hc, xWo122 hc, xN122 hc, xRo124 hc, xWo124 hc, xN124 hc, xRo126 hc, xWo126 hc, xN126 hc, xRo128 hc, xWo128 hc, xN128 hc, xRo129 hc, xWo129 hc, xN129 hc, xRo130 hc, xWo130 hc, xN130 hc, xRo131 hc, xWo131 hc, xN131 hc, xRo132 hc, xWo132 hc, xN132 hc, xRo133 hc, xWo133 hc, xN133 hc, xN67 hc, xAo67 hc, xN123 hc, xAo123 hc, xN3 hc, xAo3 hc, xN34 hc, xAo34 hc, xN69 hc, xAo69 hc, ite_true, ite_false, if_pos, if_neg, eT_hasPlace hc, eB_isWithin, PV, if_pos q1, if_pos q2, if_neg q3, if_pos q4, eT_cellL hc (a := (a : Int)) (b := (b : Int)) (by omega) (by omega), ta, tb, hl, z]
            · have r2 : gu (gu (gu g 2 (30 * a + b) (g 2 (30 * a + b))) 2 (30 * b + a) (g 2 (30 * a + b))) 0 5 0 2 = g 2 := by
                funext i
                simp only [zgu]
                by_cases j1 : i = 30 * b + a
                · simp [j1, ok.2.2.1]
                · by_cases j2 : i = 30 * a + b
                  · simp [j2]
                  · simp [j1, j2]
              refine h.skip.put (W' := W) (fun a => a == 2) (by first | (intro key i q0 q; rfl) | (intro key i q0 q; (try simp only [zku]); (repeat' split) <;> first | rfl | (rename_i z; obtain ⟨z1, z2⟩ := z; subst z1; subst z2; first | exact absurd (show true = false from q) (by decide) | exact absurd rfl q0))) (by first | (intro key i q0 q; rfl) | (intro key i q0 q; (try simp only [zgu]); (repeat' split) <;> first | rfl | (rename_i z; obtain ⟨z1, z2⟩ := z; subst z1; subst z2; first | exact absurd (show true = false from q) (by decide) | exact absurd rfl q0))) (t := fun _ => ?_)
              unfold IT
              rw [mE_row r2, r2]
              exact ⟨h.t.many, h.t.many0, h.t.doors, h.t.len, by unfold mEok; rw [r2]; exact h.t.ok, h.t.clo, h.t.ways, .inl rfl, fun q => absurd q (by simp [zgu])⟩
          · have e1 := hM a3 (by
              by_cases z1 : g 2 (30 * a + b) ≤ 0
              · rw [if_pos z1]
              · rw [if_neg z1, if_neg (by omega)])
            have r2 : ∀ i, gu (gu (gu g 2 (30 * a + b) a3) 2 (30 * b + a) a3) 0 5 0 2 i = if i = 30 * b + a ∨ i = 30 * a + b then a3 else g 2 i := fun i => by
              simp only [zgu]
              by_cases j1 : i = 30 * b + a
              · simp [j1]
              · by_cases j2 : i = 30 * a + b
                · simp [j2]
                · simp [j1, j2]
            generalize hg' : gu (gu (gu g 2 (30 * a + b) a3) 2 (30 * b + a) a3) 0 5 0 = g' at r2 e1
            have g02 : g' 0 2 = g 0 2 := by rw [← hg']; rfl
            have ok' : mEok g' (g' 0 2).toNat := by
              intro p q hp hq
              have o := h.t.ok p q hp hq
              rw [r2, r2, g02]
              by_cases j1 : 30 * p + q = 30 * b + a ∨ 30 * p + q = 30 * a + b
              · rw [if_pos j1, if_pos (by omega)]
                exact ⟨by omega, by omega, rfl, fun _ => by omega⟩
              · rw [if_neg j1, if_neg (by omega)]
                exact o
            have hE : ∀ p q, mE g' p q = if (p = a ∧ q = b) ∨ (p = b ∧ q = a) then a3 else mE g p q := fun p q => by
              unfold mE
              by_cases j1 : (p = a ∧ q = b) ∨ (p = b ∧ q = a)
              · rw [if_pos j1]
                have j2 : 30 * p + q = 30 * b + a ∨ 30 * p + q = 30 * a + b := by rcases j1 with ⟨rfl, rfl⟩ | ⟨rfl, rfl⟩ <;> simp
                rw [r2, if_pos j2, if_pos (by omega)]
              · rw [if_neg j1]
                by_cases j3 : p < 30 ∧ q < 30
                · have e : g' 2 (30 * p + q) = g 2 (30 * p + q) := by rw [r2, if_neg (by omega)]
                  rw [e]
                · rw [if_neg (by omega), if_neg (by omega)]
            have hle : a3 ≤ mE g a b := by
              unfold mE
              split <;> omega
            have clo' := h.t.clo.add (mE_sym h.t.ok) q4.1 hE hle
            have tg' : TG g' (zoff W a b a3) := ⟨by rw [g02]; exact P0, ok', clo', .inl (by rw [← hg']; rfl), fun q => absurd q (by rw [← hg']; simp [zgu])⟩
            have hfar : ∀ p q, (g 0 2).toNat ≤ p ∨ (g 0 2).toNat ≤ q → zoff W a b a3 p q = W p q := fun p q hpq => by
              have w1 := h.t.clo.2.1 p q
              have w2 := h.t.clo.2.1 p a; have w3 := h.t.clo.2.1 b q; have w4 := h.t.clo.2.1 p b; have w5 := h.t.clo.2.1 a q
              unfold zoff
              rcases hpq with hp | hq
              · have := h.t.tg.far (b := a) hp (by omega)
                have := h.t.tg.far (b := b) hp (by omega)
                omega
              · have s1 := h.t.tg.sym b q; have s2 := h.t.tg.sym a q
                have := h.t.tg.far (b := a) hq (by omega)
                have := h.t.tg.far (b := b) hq (by omega)
                omega
            obtain ⟨V', f1, f2, f3⟩ := street_all (x := x) (N := N) (FU := zFU) (c := c) (R := R) (K := K) (W := W) (W' := zoff W a b a3) (u := a) (v := b) (P := (g 0 2).toNat) (l := a3) hc (by omega) (by decide) (by omega) (by omega) q4 (fun p q => h.t.tg.W0 p q) (fun p q => tg'.W0 p q) (fun p q r => clo'.2.2.2.1 p q r) (fun _ _ => rfl) (by
                have d1 := h.t.clo.1 a; have d2 := h.t.clo.1 b
                unfold zoff
                omega) hfar (g 0 2).toNat 0 (ku (ku V (0, 4 + a, 0) b a3) (0, 4 + b, 0) a a3) zFU (by omega) (by unfold zFU; omega) (by rw [ku_row (by simp <;> omega), ku_row (by simp <;> omega), PV]; omega) (fun p q hp hq => by
                rw [ku_row (by simp <;> omega), ku_row (by simp <;> omega), h.t.ways p q hp hq]
                unfold wMid
                rw [if_neg (by omega)])
            refine ⟨a3, zX x c N V' R K, _, ?_, e1, INV.intro (W := zoff W a b a3) ?_⟩
            · unfold FTown_addStreet FTown_addStreet_b FTown_addStreet_B25
              have f0 : FTown_addStreet_L48 zFU zFU (x + 1) a b a3 0 (zX x c N (ku (ku V (0, 4 + a, 0) b a3) (0, 4 + b, 0) a a3) R K) = _ := f1
              by_cases z1 : g 2 (30 * a + b) ≤ 0
              · simp (disch := omega) only [Option.bind_some, zb_some, zrz0, zrz1, zck_of, xI0 hc, xP0 hc, xD0 hc, xI1 hc, xP1 hc, xD1 hc, xI66 hc, xP66 hc, xD66 hc, xI68 hc, xP68 hc, xD68 hc, xI115 hc, xP115 hc, xD115 hc, xI120 hc, xP120 hc, xD120 hc, xI121 hc, xP121 hc, xD121 hc, xI125 hc, xP125 hc, xD125 hc, xI127 hc, xP127 hc, xD127 hc, xQ0_0 hc, xQ0_1 hc, xQ0_2 hc, xQ0_3 hc, xQ0_4 hc, xQ0_5 hc, xQ0_6 hc, xQ1_0 hc, xQ1_1 hc, xQ1_2 hc, xQ1_3 hc, xQ66_0 hc, xQ66_1 hc, xQ68_0 hc, xQ68_1 hc, xQ68_2 hc, xQ68_3 hc, xQ115_0 hc, xQ115_1 hc, xQ115_2 hc, xQ115_3 hc, xQ115_4 hc, xQ115_5 hc, xQ115_6 hc, xQ120_0 hc, xQ120_1 hc, xQ120_2 hc, xQ120_3 hc, xQ125_0 hc, xQ125_1 hc, xQ127_0 hc, xQ127_1 hc, xQ127_2 hc, xQ127_3 hc, xQ127_4 hc, xQ127_5 hc, xRo2 hc, xWo2 hc, xN2 hc, xRo65 hc, xWo65 hc, xN65 hc, xRo113 hc, xWo113 hc, xN113 hc, xRo114 hc, xWo114 hc, xN114 hc, xRo116 hc, xWo116 hc, xN116 hc, xRo117 hc, xWo117 hc, xN117 hc, xRo118 hc, xWo118 hc, xN118 hc, xRo119 hc, xWo119 hc, xN119 hc, xRo122 hc, xWo122 hc, xN122 hc, xRo124 hc, xWo124 hc, xN124 hc, xRo126 hc, xWo126 hc, xN126 hc, xRo128 hc, xWo128 hc, xN128 hc, xRo129 hc, xWo129 hc, xN129 hc, xRo130 hc, xWo130 hc, xN130 hc, xRo131 hc, xWo131 hc, xN131 hc, xRo132 hc, xWo132 hc, xN132 hc, xRo133 hc, xWo133 hc, xN133 hc, xN67 hc, xAo67 hc, xN123 hc, xAo123 hc, xN3 hc, xAo3 hc, xN34 hc, xAo34 hc, xN69 hc, xAo69 hc, ite_true, ite_false, if_neg, eT_hasPlace hc, eB_isWithin, PV, if_pos q1, if_pos q2, if_neg q3, if_pos q4, eT_cellL hc (a := (a : Int)) (b := (b : Int)) (by omega) (by omega), eT_setL hc (a := (a : Int)) (b := (b : Int)) (by omega) (by omega), eT_setL hc (a := (b : Int)) (b := (a : Int)) (by omega) (by omega), ta, tb, hl, if_pos z1, f0]
              · have z2 : ¬ g 2 (30 * a + b) ≤ a3 := by omega
                simp (disch := omega) only [Option.bind_some, zb_some, zrz0, zrz1, zck_of, xI0 hc, xP0 hc, xD0 hc, xI1 hc, xP1 hc, xD1 hc, xI66 hc, xP66 hc, xD66 hc, xI68 hc, xP68 hc, xD68 hc, xI115 hc, xP115 hc, xD115 hc, xI120 hc, xP120 hc, xD120 hc, xI121 hc, xP121 hc, xD121 hc, xI125 hc, xP125 hc, xD125 hc, xI127 hc, xP127 hc, xD127 hc, xQ0_0 hc, xQ0_1 hc, xQ0_2 hc, xQ0_3 hc, xQ0_4 hc, xQ0_5 hc, xQ0_6 hc, xQ1_0 hc, xQ1_1 hc, xQ1_2 hc, xQ1_3 hc, xQ66_0 hc, xQ66_1 hc, xQ68_0 hc, xQ68_1 hc, xQ68_2 hc, xQ68_3 hc, xQ115_0 hc, xQ115_1 hc, xQ115_2 hc, xQ115_3 hc, xQ115_4 hc, xQ115_5 hc, xQ115_6 hc, xQ120_0 hc, xQ120_1 hc, xQ120_2 hc, xQ120_3 hc, xQ125_0 hc, xQ125_1 hc, xQ127_0 hc, xQ127_1 hc, xQ127_2 hc, xQ127_3 hc, xQ127_4 hc, xQ127_5 hc, xRo2 hc, xWo2 hc, xN2 hc, xRo65 hc, xWo65 hc, xN65 hc, xRo113 hc, xWo113 hc, xN113 hc, xRo114 hc, xWo114 hc, xN114 hc, xRo116 hc, xWo116 hc, xN116 hc, xRo117 hc, xWo117 hc, xN117 hc, xRo118 hc, xWo118 hc, xN118 hc, xRo119 hc, xWo119 hc, xN119 hc, xRo122 hc, xWo122 hc, xN122 hc, xRo124 hc, xWo124 hc, xN124 hc, xRo126 hc, xWo126 hc, xN126 hc, xRo128 hc, xWo128 hc, xN128 hc, xRo129 hc, xWo129 hc, xN129 hc, xRo130 hc, xWo130 hc, xN130 hc, xRo131 hc, xWo131 hc, xN131 hc, xRo132 hc, xWo132 hc, xN132 hc, xRo133 hc, xWo133 hc, xN133 hc, xN67 hc, xAo67 hc, xN123 hc, xAo123 hc, xN3 hc, xAo3 hc, xN34 hc, xAo34 hc, xN69 hc, xAo69 hc, ite_true, ite_false, if_pos, if_neg, eT_hasPlace hc, eB_isWithin, PV, if_pos q1, if_pos q2, if_neg q3, if_pos q4, eT_cellL hc (a := (a : Int)) (b := (b : Int)) (by omega) (by omega), eT_setL hc (a := (a : Int)) (b := (b : Int)) (by omega) (by omega), eT_setL hc (a := (b : Int)) (b := (a : Int)) (by omega) (by omega), ta, tb, hl, if_neg z1, if_neg z2, f0]
            · have fV : ∀ key : Key, (¬ (key.1 = 0 ∧ 4 ≤ key.2.1 ∧ key.2.1 ≤ 33)) → (¬ (key.1 = 0 ∧ 35 ≤ key.2.1 ∧ key.2.1 ≤ 64)) → V' key = V key := fun key n1 n2 => by
                rw [f2 key n2, ku_row (fun z => n1 (by rw [z]; exact ⟨rfl, by simp only; omega, by simp only; omega⟩)), ku_row (fun z => n1 (by rw [z]; exact ⟨rfl, by simp only; omega, by simp only; omega⟩))]
              refine h.skip.put (fun a => a == 2) (fun key i q0 q => ?_) (fun j i q0 q => ?_) (t := fun _ => ?_) (hW := fun q => absurd q (by decide))
              · obtain ⟨ka, kb, kd⟩ := key
                have hk : ¬ (ka = 0 ∧ 2 ≤ kb ∧ kb ≤ 64) := fun z => by
                  rw [z.1, cV_in kb kd i z.2.1 z.2.2] at q
                  exact absurd q (by decide)
                rw [fV (ka, kb, kd) (fun z => hk ⟨z.1, by have := z.2.1; simp only at this; omega, by have := z.2.2; simp only at this; omega⟩) (fun z => hk ⟨z.1, by have := z.2.1; simp only at this; omega, z.2.2⟩)]
              · rw [← hg']
                simp only [zgu]
                (repeat' split) <;> first | rfl | (rename_i z; obtain ⟨z1, z2⟩ := z; subst z1; subst z2; exact absurd (show true = false from q) (by decide))
              · refine ⟨by rw [fV _ (by simp) (by simp), g02]; exact h.t.many, tg'.many0, fun i hi => ?_, fun p q hp hq => ?_, tg'.ok, tg'.clo, f3, tg'.flag, tg'.kept⟩
                · rw [fV _ (by simp) (by simp)]
                  have : g' 1 = g 1 := by rw [← hg']; rfl
                  rw [this]
                  exact h.t.doors i hi
                · rw [f2 _ (by simp <;> omega), r2]
                  simp only [zku]
                  have hl2 := h.t.len p q hp hq
                  by_cases j1 : p = b ∧ q = a
                  · rw [if_pos ⟨by rw [j1.1], j1.2⟩, if_pos (by omega)]
                  · rw [if_neg (by simp; omega)]
                    by_cases j2 : p = a ∧ q = b
                    · rw [if_pos ⟨by rw [j2.1], j2.2⟩, if_pos (by omega)]
                    · rw [if_neg (by simp; omega), if_neg (by omega)]
                      exact hl2
        · refine ⟨-1, zX x c N V R K, zG m N' g, ?_, ?_, INV.intro h.skip⟩
          · simp (disch := omega) only [Option.bind_some, zb_some, zrz0, zrz1, zck_of, xI0 hc, xP0 hc, xD0 hc, xI1 hc, xP1 hc, xD1 hc, xI66 hc, xP66 hc, xD66 hc, xI68 hc, xP68 hc, xD68 hc, xI115 hc, xP115 hc, xD115 hc, xI120 hc, xP120 hc, xD120 hc, xI121 hc, xP121 hc, xD121 hc, xI125 hc, xP125 hc, xD125 hc, xI127 hc, xP127 hc, xD127 hc, xQ0_0 hc, xQ0_1 hc, xQ0_2 hc, xQ0_3 hc, xQ0_4 hc, xQ0_5 hc, xQ0_6 hc, xQ1_0 hc, xQ1_1 hc, xQ1_2 hc, xQ1_3 hc, xQ66_0 hc, xQ66_1 hc, xQ68_0 hc, xQ68_1 hc, xQ68_2 hc, xQ68_3 hc, xQ115_0 hc, xQ115_1 hc, xQ115_2 hc, xQ115_3 hc, xQ115_4 hc, xQ115_5 hc, xQ115_6 hc, xQ120_0 hc, xQ120_1 hc, xQ120_2 hc, xQ120_3 hc, xQ125_0 hc, xQ125_1 hc, xQ127_0 hc, xQ127_1 hc, xQ127_2 hc, xQ127_3 hc, xQ127_4 hc, xQ127_5 hc, xRo2 hc, xWo2 hc, xN2 hc, xRo65 hc, xWo65 hc, xN65 hc, xRo113 hc, xWo113 hc, xN113 hc, xRo114 hc, xWo114 hc, xN114 hc, xRo116 hc, xWo116 hc, xN116 hc, xRo117 hc, xWo117 hc, xN117 hc, xRo118 hc, xWo118 hc, xN118 hc, xRo119 hc, xWo119 hc, xN119 hc, xRo122 hc, xWo122 hc, xN122 hc, xRo124 hc, xWo124 hc, xN124 hc, xRo126 hc, xWo126 hc, xN126 hc, xRo128 hc, xWo128 hc, xN128 hc, xRo129 hc, xWo129 hc, xN129 hc, xRo130 hc, xWo130 hc, xN130 hc, xRo131 hc, xWo131 hc, xN131 hc, xRo132 hc, xWo132 hc, xN132 hc, xRo133 hc, xWo133 hc, xN133 hc, xN67 hc, xAo67 hc, xN123 hc, xAo123 hc, xN3 hc, xAo3 hc, xN34 hc, xAo34 hc, xN69 hc, xAo69 hc, ite_true, ite_false, if_pos, if_neg, eT_hasPlace hc, eB_isWithin, PV, if_pos q1, if_pos q2, if_neg q3, if_neg q4]
          · simp (disch := omega) only [mI, mP, mPo, mD, Option.bind_some, zb_some, zrz0, zrz1, zck_of, mQ1, mRo1, mWo1, mQ3, mRo2, mWo2, mQ4, mRo3, mWo3, mQ8, mRo4, mWo4, mQ9, mRo5, mWo5, mQ10, mRo6, mWo6, mQ11, mRo7, mWo7, mQ12, mRo8, mWo8, mQ13, mRo9, mWo9, mQ14, mRo10, mWo10, mQ17, mRo11, mWo11, mQ19, mRo12, mWo12, mQ20, mRo13, mWo13, mQ23, mRo14, mWo14, mQ24, mRo15, mWo15, mQ26, mRo16, mWo16, mQ27, mRo17, mWo17, mQ28, mRo18, mWo18, mQ29, mRo19, mWo19, mQ30, mRo20, mWo20, mQ32, mRo21, mWo21, mQ33, mRo22, mWo22, mQ34, mRo23, mWo23, mQ35, mRo24, mWo24, mQ36, mRo25, mWo25, mQ37, mRo26, mWo26, mQ38, mRo27, mWo27, mQ39, mRo28, mWo28, mQ40, mRo29, mWo29, mQ41, mRo30, mWo30, mQ43, mRo31, mWo31, mQ44, mRo32, mWo32, mQ45, mRo33, mWo33, mQ46, mRo34, mWo34, mQ47, mRo35, mWo35, mQ48, mRo36, mWo36, mQ50, mRo37, mWo37, mQ51, mRo38, mWo38, mQ52, mRo39, mWo39, ite_true, ite_false, if_pos, if_neg, eM_isPlace, eM_within, if_pos q1, if_pos q2, if_neg q3, if_neg q4]
    · refine ⟨-1, zX x c N V R K, zG m N' g, ?_, ?_, INV.intro h.skip⟩
      · simp (disch := omega) only [Option.bind_some, zb_some, zrz0, zrz1, zck_of, xI0 hc, xP0 hc, xD0 hc, xI1 hc, xP1 hc, xD1 hc, xI66 hc, xP66 hc, xD66 hc, xI68 hc, xP68 hc, xD68 hc, xI115 hc, xP115 hc, xD115 hc, xI120 hc, xP120 hc, xD120 hc, xI121 hc, xP121 hc, xD121 hc, xI125 hc, xP125 hc, xD125 hc, xI127 hc, xP127 hc, xD127 hc, xQ0_0 hc, xQ0_1 hc, xQ0_2 hc, xQ0_3 hc, xQ0_4 hc, xQ0_5 hc, xQ0_6 hc, xQ1_0 hc, xQ1_1 hc, xQ1_2 hc, xQ1_3 hc, xQ66_0 hc, xQ66_1 hc, xQ68_0 hc, xQ68_1 hc, xQ68_2 hc, xQ68_3 hc, xQ115_0 hc, xQ115_1 hc, xQ115_2 hc, xQ115_3 hc, xQ115_4 hc, xQ115_5 hc, xQ115_6 hc, xQ120_0 hc, xQ120_1 hc, xQ120_2 hc, xQ120_3 hc, xQ125_0 hc, xQ125_1 hc, xQ127_0 hc, xQ127_1 hc, xQ127_2 hc, xQ127_3 hc, xQ127_4 hc, xQ127_5 hc, xRo2 hc, xWo2 hc, xN2 hc, xRo65 hc, xWo65 hc, xN65 hc, xRo113 hc, xWo113 hc, xN113 hc, xRo114 hc, xWo114 hc, xN114 hc, xRo116 hc, xWo116 hc, xN116 hc, xRo117 hc, xWo117 hc, xN117 hc, xRo118 hc, xWo118 hc, xN118 hc, xRo119 hc, xWo119 hc, xN119 hc, xRo122 hc, xWo122 hc, xN122 hc, xRo124 hc, xWo124 hc, xN124 hc, xRo126 hc, xWo126 hc, xN126 hc, xRo128 hc, xWo128 hc, xN128 hc, xRo129 hc, xWo129 hc, xN129 hc, xRo130 hc, xWo130 hc, xN130 hc, xRo131 hc, xWo131 hc, xN131 hc, xRo132 hc, xWo132 hc, xN132 hc, xRo133 hc, xWo133 hc, xN133 hc, xN67 hc, xAo67 hc, xN123 hc, xAo123 hc, xN3 hc, xAo3 hc, xN34 hc, xAo34 hc, xN69 hc, xAo69 hc, ite_true, ite_false, if_pos, if_neg, eT_hasPlace hc, PV, if_pos q1, if_neg q2]
      · simp (disch := omega) only [mI, mP, mPo, mD, Option.bind_some, zb_some, zrz0, zrz1, zck_of, mQ1, mRo1, mWo1, mQ3, mRo2, mWo2, mQ4, mRo3, mWo3, mQ8, mRo4, mWo4, mQ9, mRo5, mWo5, mQ10, mRo6, mWo6, mQ11, mRo7, mWo7, mQ12, mRo8, mWo8, mQ13, mRo9, mWo9, mQ14, mRo10, mWo10, mQ17, mRo11, mWo11, mQ19, mRo12, mWo12, mQ20, mRo13, mWo13, mQ23, mRo14, mWo14, mQ24, mRo15, mWo15, mQ26, mRo16, mWo16, mQ27, mRo17, mWo17, mQ28, mRo18, mWo18, mQ29, mRo19, mWo19, mQ30, mRo20, mWo20, mQ32, mRo21, mWo21, mQ33, mRo22, mWo22, mQ34, mRo23, mWo23, mQ35, mRo24, mWo24, mQ36, mRo25, mWo25, mQ37, mRo26, mWo26, mQ38, mRo27, mWo27, mQ39, mRo28, mWo28, mQ40, mRo29, mWo29, mQ41, mRo30, mWo30, mQ43, mRo31, mWo31, mQ44, mRo32, mWo32, mQ45, mRo33, mWo33, mQ46, mRo34, mWo34, mQ47, mRo35, mWo35, mQ48, mRo36, mWo36, mQ50, mRo37, mWo37, mQ51, mRo38, mWo38, mQ52, mRo39, mWo39, ite_true, ite_false, if_pos, if_neg, eM_isPlace, if_pos q1, if_neg q2]
  · refine ⟨-1, zX x c N V R K, zG m N' g, ?_, ?_, INV.intro h.skip⟩
    · simp (disch := omega) only [Option.bind_some, zb_some, zrz0, zrz1, zck_of, xI0 hc, xP0 hc, xD0 hc, xI1 hc, xP1 hc, xD1 hc, xI66 hc, xP66 hc, xD66 hc, xI68 hc, xP68 hc, xD68 hc, xI115 hc, xP115 hc, xD115 hc, xI120 hc, xP120 hc, xD120 hc, xI121 hc, xP121 hc, xD121 hc, xI125 hc, xP125 hc, xD125 hc, xI127 hc, xP127 hc, xD127 hc, xQ0_0 hc, xQ0_1 hc, xQ0_2 hc, xQ0_3 hc, xQ0_4 hc, xQ0_5 hc, xQ0_6 hc, xQ1_0 hc, xQ1_1 hc, xQ1_2 hc, xQ1_3 hc, xQ66_0 hc, xQ66_1 hc, xQ68_0 hc, xQ68_1 hc, xQ68_2 hc, xQ68_3 hc, xQ115_0 hc, xQ115_1 hc, xQ115_2 hc, xQ115_3 hc, xQ115_4 hc, xQ115_5 hc, xQ115_6 hc, xQ120_0 hc, xQ120_1 hc, xQ120_2 hc, xQ120_3 hc, xQ125_0 hc, xQ125_1 hc, xQ127_0 hc, xQ127_1 hc, xQ127_2 hc, xQ127_3 hc, xQ127_4 hc, xQ127_5 hc, xRo2 hc, xWo2 hc, xN2 hc, xRo65 hc, xWo65 hc, xN65 hc, xRo113 hc, xWo113 hc, xN113 hc, xRo114 hc, xWo114 hc, xN114 hc, xRo116 hc, xWo116 hc, xN116 hc, xRo117 hc, xWo117 hc, xN117 hc, xRo118 hc, xWo118 hc, xN118 hc, xRo119 hc, xWo119 hc, xN119 hc, xRo122 hc, xWo122 hc, xN122 hc, xRo124 hc, xWo124 hc, xN124 hc, xRo126 hc, xWo126 hc, xN126 hc, xRo128 hc, xWo128 hc, xN128 hc, xRo129 hc, xWo129 hc, xN129 hc, xRo130 hc, xWo130 hc, xN130 hc, xRo131 hc, xWo131 hc, xN131 hc, xRo132 hc, xWo132 hc, xN132 hc, xRo133 hc, xWo133 hc, xN133 hc, xN67 hc, xAo67 hc, xN123 hc, xAo123 hc, xN3 hc, xAo3 hc, xN34 hc, xAo34 hc, xN69 hc, xAo69 hc, ite_true, ite_false, if_pos, if_neg, eT_hasPlace hc, PV, if_neg q1]
    · simp (disch := omega) only [mI, mP, mPo, mD, Option.bind_some, zb_some, zrz0, zrz1, zck_of, mQ1, mRo1, mWo1, mQ3, mRo2, mWo2, mQ4, mRo3, mWo3, mQ8, mRo4, mWo4, mQ9, mRo5, mWo5, mQ10, mRo6, mWo6, mQ11, mRo7, mWo7, mQ12, mRo8, mWo8, mQ13, mRo9, mWo9, mQ14, mRo10, mWo10, mQ17, mRo11, mWo11, mQ19, mRo12, mWo12, mQ20, mRo13, mWo13, mQ23, mRo14, mWo14, mQ24, mRo15, mWo15, mQ26, mRo16, mWo16, mQ27, mRo17, mWo17, mQ28, mRo18, mWo18, mQ29, mRo19, mWo19, mQ30, mRo20, mWo20, mQ32, mRo21, mWo21, mQ33, mRo22, mWo22, mQ34, mRo23, mWo23, mQ35, mRo24, mWo24, mQ36, mRo25, mWo25, mQ37, mRo26, mWo26, mQ38, mRo27, mWo27, mQ39, mRo28, mWo28, mQ40, mRo29, mWo29, mQ41, mRo30, mWo30, mQ43, mRo31, mWo31, mQ44, mRo32, mWo32, mQ45, mRo33, mWo33, mQ46, mRo34, mWo34, mQ47, mRo35, mWo35, mQ48, mRo36, mWo36, mQ50, mRo37, mWo37, mQ51, mRo38, mWo38, mQ52, mRo39, mWo39, ite_true, ite_false, if_pos, if_neg, eM_isPlace, if_neg q1]
end OPB
