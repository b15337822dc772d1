/-! ===== open, the call ===== -/
def isWhoB (w : Int) : Prop := 1 ≤ w ∧ w ≤ 1499 ∧ w % 100 ≠ 0
theorem who_div {w : Int} (h : 0 ≤ w ∧ w ≤ 2147483647) : zdv w 100 = some (w / 100) ∧ zrm w 100 = some (w % 100) := by
  unfold zdv zrm
  rw [if_neg (by decide), if_neg (by decide), Int.tdiv_eq_ediv_of_nonneg h.1, Int.tmod_eq_emod_of_nonneg h.1, zck_of (by omega)]
  exact ⟨rfl, rfl⟩
theorem eB_isWho {FU : Nat} {w : Int} (h : zInI w) (G : Hp) : (isWhoB w → FB_isWho FU w G = some 1) ∧ (¬ isWhoB w → FB_isWho FU w G = some 0) := by
  unfold FB_isWho FB_likeIn isWhoB
  rw [eB_isWithin, Option.bind_some]
  by_cases q : 1 ≤ w ∧ w ≤ 1499
  · have d := who_div (w := w) (by omega)
    rw [if_pos q, if_neg (by decide), d.2, Option.bind_some, Option.bind_some]
    by_cases r : w % 100 = 0
    · rw [if_pos r]; exact ⟨fun z => absurd r z.2.2, fun _ => rfl⟩
    · rw [if_neg r]; exact ⟨fun _ => rfl, fun z => absurd ⟨q.1, q.2, r⟩ z⟩
  · rw [if_neg q, if_pos rfl]
    exact ⟨fun z => absurd ⟨z.1, z.2.1⟩ q, fun _ => rfl⟩
theorem eM_isWho {FU : Nat} {w : Int} (h : zInI w) (G : Hp) : (isWhoB w → FM_isWho FU w G = some 1) ∧ (¬ isWhoB w → FM_isWho FU w G = some 0) := by
  unfold FM_isWho isWhoB
  by_cases q : w < 0
  · rw [if_pos q]; exact ⟨fun z => absurd z.1 (by omega), fun _ => rfl⟩
  · have d := who_div (w := w) (by omega)
    rw [if_neg q, d.1, d.2, Option.bind_some, Option.bind_some]
    by_cases r : w / 100 < 15
    · rw [if_pos r]
      by_cases s : w % 100 ≤ 0
      · rw [if_pos s]; exact ⟨fun z => absurd z.2.2 (by omega), fun _ => rfl⟩
      · rw [if_neg s]; exact ⟨fun _ => rfl, fun z => absurd ⟨by omega, by omega, by omega⟩ z⟩
    · rw [if_neg r]; exact ⟨fun z => absurd z.2.1 (by omega), fun _ => rfl⟩
