theorem ze_int {aC : Nat → ClassId} {n : Nat} {f : Nat → Int} {g : Nat → Option Nat} : ze aC 20 n f g = .inl (aC 20, n, .inl fun j => zi (f j)) := rfl
theorem ze_bool {aC : Nat → ClassId} {n : Nat} {f : Nat → Int} {g : Nat → Option Nat} : ze aC 21 n f g = .inl (aC 21, n, .inl fun j => zi (f j)) := rfl
theorem ze_long {aC : Nat → ClassId} {n : Nat} {f : Nat → Int} {g : Nat → Option Nat} : ze aC 22 n f g = .inl (aC 22, n, .inr (.inl fun j => zl (f j))) := rfl
theorem ze_refs {aC : Nat → ClassId} {t n : Nat} {f : Nat → Int} {g : Nat → Option Nat} (h : 23 ≤ t) : ze aC t n f g = .inl (aC t, n, .inr (.inr (.inr (.inr g)))) := by
  unfold ze
  rw [if_neg (by omega), if_neg (by omega), if_neg (by omega)]
theorem ztoNat {i : Int} {n : Nat} (hi : zInI i) (h0 : 0 ≤ i) (h1 : i < (n : Int)) : ¬ (zi i < 0 ∨ n ≤ (zi i).toNatClampNeg) := zi_vpin hi h0 h1
/-- the element type of the kinds of arrays -/
def zat_ty (t : Nat) : FieldType := match t with
  | 20 => .int
  | 21 => .boolean
  | 22 => .long
  | 23 => .object "BreadLands$Shop"
  | 24 => .object "BreadLands$Month"
  | 25 => .object "BreadLands$Text"
  | _ => .array .int
theorem ztys_at {aC : Nat → ClassId} {t : Nat} (h : 20 ≤ t) (h2 : t < 27) : (ztys aC)[t - 20]? = some (aC t, zat_ty t) := by
  match t, h, h2 with
  | 20, _, _ => rfl
  | 21, _, _ => rfl
  | 22, _, _ => rfl
  | 23, _, _ => rfl
  | 24, _, _ => rfl
  | 25, _, _ => rfl
  | 26, _, _ => rfl
  | t + 27, _, h => omega
  | 0, h, _ => omega
  | 1, h, _ => omega
  | 2, h, _ => omega
  | 3, h, _ => omega
  | 4, h, _ => omega
  | 5, h, _ => omega
  | 6, h, _ => omega
  | 7, h, _ => omega
  | 8, h, _ => omega
  | 9, h, _ => omega
  | 10, h, _ => omega
  | 11, h, _ => omega
  | 12, h, _ => omega
  | 13, h, _ => omega
  | 14, h, _ => omega
  | 15, h, _ => omega
  | 16, h, _ => omega
  | 17, h, _ => omega
  | 18, h, _ => omega
  | 19, h, _ => omega
section ZA
variable {ρ : Type} {p : Program} {l : Launch} {e : Env} {R : Room} {s : State} {m : MethodId} {args : Array Value} {below : List Frame} {meth : Method} {c : Code} {D : va_G} {aC : Nat → ClassId} {G0 G : Hp} {fin : ρ → State → Prop} {nL cells slots : Nat} {cc : ByteArray} {own : String} {pc : Nat} {lo : List (Nat × Value)} {rest : List Value}
variable {H : Heap} {locs : List Loc} {ls : Array Slot} {Q : State → Prop}
theorem z_iald (hC : zC p m c meth s args cc nL own D aC) {K : Int → Option ρ} {a : Nat} {i : Int} (hi : zInI i) (hdg : decode cc pc = .ok (.iaload, 1)) (kk : ∀ v : Int, zInI v → zS p l e R s m args below meth c D aC G0 fin nL cells slots (K v) (G) (pc + 1) (lo) (.int (zi v) :: rest)) : zS p l e R s m args below meth c D aC G0 fin nL cells slots ((zaI G a 20 i).bind K) (G) (pc) (lo) (.int (zi i) :: .ref a :: rest) := fun H locs ls r hI hl hK => by
  obtain ⟨v, hv, hk⟩ := Option.bind_eq_some_iff.mp hK
  unfold zaI at hv
  split at hv
  · rename_i hka
    cases hv
    obtain ⟨n, hka, h0, h1⟩ := zat_s hka
    obtain ⟨-, hat, hok⟩ := hI.1.2 a 20 n hka
    refine va_iald hC.1 hC.2.1 hC.2.2.2.2.2.2.1 (zP1 hat) 0 0 rfl rfl (zi_vpin hi h0 h1) hdg ?_
    rw [zi_clamp hi]
    exact kk _ (hok.2.2.1 rfl _) H locs ls r hI hl hk
  · cases hv
theorem z_zald (hC : zC p m c meth s args cc nL own D aC) {K : Int → Option ρ} {a : Nat} {i : Int} (hi : zInI i) (hdg : decode cc pc = .ok (.baload, 1)) (kk : ∀ v : Int, zIn01 v → zS p l e R s m args below meth c D aC G0 fin nL cells slots (K v) (G) (pc + 1) (lo) (.int (zi v) :: rest)) : zS p l e R s m args below meth c D aC G0 fin nL cells slots ((zaI G a 21 i).bind K) (G) (pc) (lo) (.int (zi i) :: .ref a :: rest) := fun H locs ls r hI hl hK => by
  obtain ⟨v, hv, hk⟩ := Option.bind_eq_some_iff.mp hK
  unfold zaI at hv
  split at hv
  · rename_i hka
    cases hv
    obtain ⟨n, hka, h0, h1⟩ := zat_s hka
    obtain ⟨-, hat, hok⟩ := hI.1.2 a 21 n hka
    refine va_zald hC.1 hC.2.1 hC.2.2.2.2.2.2.1 (zP1 hat) 0 1 rfl rfl (zi_vpin hi h0 h1) hdg ?_
    rw [zi_clamp hi]
    exact kk _ (hok.2.2.2.1 rfl _) H locs ls r hI hl hk
  · cases hv
theorem z_lald (hC : zC p m c meth s args cc nL own D aC) {K : Int → Option ρ} {a : Nat} {i : Int} (hi : zInI i) (hdg : decode cc pc = .ok (.laload, 1)) (kk : ∀ v : Int, zInL v → zS p l e R s m args below meth c D aC G0 fin nL cells slots (K v) (G) (pc + 1) (lo) (.long (zl v) :: rest)) : zS p l e R s m args below meth c D aC G0 fin nL cells slots ((zaI G a 22 i).bind K) (G) (pc) (lo) (.int (zi i) :: .ref a :: rest) := fun H locs ls r hI hl hK => by
  obtain ⟨v, hv, hk⟩ := Option.bind_eq_some_iff.mp hK
  unfold zaI at hv
  split at hv
  · rename_i hka
    cases hv
    obtain ⟨n, hka, h0, h1⟩ := zat_s hka
    obtain ⟨-, hat, hok⟩ := hI.1.2 a 22 n hka
    refine va_lald hC.1 hC.2.1 hC.2.2.2.2.2.2.1 (zP1 hat) 0 2 rfl rfl (zi_vpin hi h0 h1) hdg ?_
    rw [zi_clamp hi]
    exact kk _ (hok.2.2.2.2 rfl _) H locs ls r hI hl hk
  · cases hv
theorem z_aald23 (hC : zC p m c meth s args cc nL own D aC) {K : Option Nat → Option ρ} {a : Nat} {i : Int} (hi : zInI i) (hdg : decode cc pc = .ok (.aaload, 1)) (kk : ∀ v : Option Nat, zS p l e R s m args below meth c D aC G0 fin nL cells slots (K v) (G) (pc + 1) (lo) (va_rf v :: rest)) : zS p l e R s m args below meth c D aC G0 fin nL cells slots ((zaR G a 23 i).bind K) (G) (pc) (lo) (.int (zi i) :: .ref a :: rest) := fun H locs ls r hI hl hK => by
  obtain ⟨v, hv, hk⟩ := Option.bind_eq_some_iff.mp hK
  unfold zaR at hv
  split at hv
  · rename_i hka
    cases hv
    obtain ⟨n, hka, h0, h1⟩ := zat_s hka
    obtain ⟨-, hat, hok⟩ := hI.1.2 a 23 n hka
    rw [ze_refs (by decide)] at hat
    refine va_aldq hC.1 hC.2.1 hC.2.2.2.2.2.2.1 (zP1 hat) 0 3 rfl rfl (zi_vpin hi h0 h1) hdg ?_
    rw [zi_clamp hi]
    exact kk _ H locs ls r hI hl hk
  · cases hv
theorem z_aald24 (hC : zC p m c meth s args cc nL own D aC) {K : Option Nat → Option ρ} {a : Nat} {i : Int} (hi : zInI i) (hdg : decode cc pc = .ok (.aaload, 1)) (kk : ∀ v : Option Nat, zS p l e R s m args below meth c D aC G0 fin nL cells slots (K v) (G) (pc + 1) (lo) (va_rf v :: rest)) : zS p l e R s m args below meth c D aC G0 fin nL cells slots ((zaR G a 24 i).bind K) (G) (pc) (lo) (.int (zi i) :: .ref a :: rest) := fun H locs ls r hI hl hK => by
  obtain ⟨v, hv, hk⟩ := Option.bind_eq_some_iff.mp hK
  unfold zaR at hv
  split at hv
  · rename_i hka
    cases hv
    obtain ⟨n, hka, h0, h1⟩ := zat_s hka
    obtain ⟨-, hat, hok⟩ := hI.1.2 a 24 n hka
    rw [ze_refs (by decide)] at hat
    refine va_aldq hC.1 hC.2.1 hC.2.2.2.2.2.2.1 (zP1 hat) 0 4 rfl rfl (zi_vpin hi h0 h1) hdg ?_
    rw [zi_clamp hi]
    exact kk _ H locs ls r hI hl hk
  · cases hv
theorem z_aald25 (hC : zC p m c meth s args cc nL own D aC) {K : Option Nat → Option ρ} {a : Nat} {i : Int} (hi : zInI i) (hdg : decode cc pc = .ok (.aaload, 1)) (kk : ∀ v : Option Nat, zS p l e R s m args below meth c D aC G0 fin nL cells slots (K v) (G) (pc + 1) (lo) (va_rf v :: rest)) : zS p l e R s m args below meth c D aC G0 fin nL cells slots ((zaR G a 25 i).bind K) (G) (pc) (lo) (.int (zi i) :: .ref a :: rest) := fun H locs ls r hI hl hK => by
  obtain ⟨v, hv, hk⟩ := Option.bind_eq_some_iff.mp hK
  unfold zaR at hv
  split at hv
  · rename_i hka
    cases hv
    obtain ⟨n, hka, h0, h1⟩ := zat_s hka
    obtain ⟨-, hat, hok⟩ := hI.1.2 a 25 n hka
    rw [ze_refs (by decide)] at hat
    refine va_aldq hC.1 hC.2.1 hC.2.2.2.2.2.2.1 (zP1 hat) 0 5 rfl rfl (zi_vpin hi h0 h1) hdg ?_
    rw [zi_clamp hi]
    exact kk _ H locs ls r hI hl hk
  · cases hv
theorem z_aald26 (hC : zC p m c meth s args cc nL own D aC) {K : Nat → Option ρ} {a : Nat} {i : Int} (hi : zInI i) (hdg : decode cc pc = .ok (.aaload, 1)) (kk : ∀ v : Nat, zS p l e R s m args below meth c D aC G0 fin nL cells slots (K v) (G) (pc + 1) (lo) (.ref v :: rest)) : zS p l e R s m args below meth c D aC G0 fin nL cells slots ((zaQ G a 26 i).bind K) (G) (pc) (lo) (.int (zi i) :: .ref a :: rest) := fun H locs ls r hI hl hK => by
  obtain ⟨v, hv, hk⟩ := Option.bind_eq_some_iff.mp hK
  unfold zaQ at hv
  split at hv
  · rename_i hka
    obtain ⟨n, hka, h0, h1⟩ := zat_s hka
    obtain ⟨-, hat, hok⟩ := hI.1.2 a 26 n hka
    rw [ze_refs (by decide)] at hat
    have hlt : i.toNat < n := by omega
    refine W.aald (v := .ref v) (ty := .array .int) hC.1 hC.2.1 hat ((hC.2.2.2.2.2.2.1.2 6 _ rfl).1 n (fun j => va_rf (zr G a j))) rfl (fun q => by cases q) ?_ ?_ rfl rfl hdg (kk _ H locs ls r hI hl hk)
    · show ¬ (zi i < 0 ∨ (arrV _ _ _).slots.size ≤ _)
      rw [arrV_size]
      exact zi_vpin hi h0 h1
    · show (arrV _ _ _).slots[_]? = _
      rw [zi_clamp hi, arrV_read _ _ hlt, hv]
      rfl
  · cases hv
theorem z_iast (hC : zC p m c meth s args cc nL own D aC) {K : Hp → Option ρ} {a : Nat} {i v : Int} (hi : zInI i) (hx : zInI v) (hdg : decode cc pc = .ok (.iastore, 1)) (kk : ∀ G1 : Hp, zS p l e R s m args below meth c D aC G0 fin nL cells slots (K G1) (G1) (pc + 1) (lo) (rest)) : zS p l e R s m args below meth c D aC G0 fin nL cells slots ((zaS G a 20 i v).bind K) (G) (pc) (lo) (.int (zi v) :: .int (zi i) :: .ref a :: rest) := fun H locs ls r hI hl hK => by
  obtain ⟨G1, hv, hk⟩ := Option.bind_eq_some_iff.mp hK
  unfold zaS at hv
  split at hv
  · rename_i hka
    cases hv
    obtain ⟨n, hka, h0, h1⟩ := zat_s hka
    obtain ⟨-, hat, hok⟩ := hI.1.2 a 20 n hka
    have hat : H[a]? = some (arrV (aC 20) n (fun j => .int (zi (zv G a j)))) := hat
    refine W.iast hC.1 hC.2.1 hat ((hC.2.2.2.2.2.2.1.2 0 _ rfl).1 n _) (fun q => by cases q) (by rw [arrV_size]; exact zi_vpin hi h0 h1) rfl rfl hdg fun H1 e1 z1 o1 => ?_
    rw [arrV_store, zi_clamp hi] at e1
    refine kk _ H1 _ ls r (hI.upd hka (zk_sv G a i.toNat v) (zn_sv G a i.toNat v) z1 o1 zsv_other ?_ ?_) hl hk
    · show H1[a]? = some (arrV _ n (fun j => .int (zi (zv (zsv G a i.toNat v) a j))))
      rw [e1]
      congr 2
      funext j
      rw [zsv_self]
      unfold updV
      by_cases e : j = i.toNat
      · rw [if_pos e]; simp only [if_pos e]
      · rw [if_neg e]; simp only [if_neg e]
    · rw [zsv_self]
      refine ⟨hok.1, fun q => by omega, fun _ j => ?_, fun q => by omega, fun q => by omega⟩
      have := hok.2.2.1 rfl j
      by_cases e : j = i.toNat
      · simp only [if_pos e]; exact hx
      · simp only [if_neg e]; exact this
  · cases hv
theorem z_last (hC : zC p m c meth s args cc nL own D aC) {K : Hp → Option ρ} {a : Nat} {i v : Int} (hi : zInI i) (hx : zInL v) (hdg : decode cc pc = .ok (.lastore, 1)) (kk : ∀ G1 : Hp, zS p l e R s m args below meth c D aC G0 fin nL cells slots (K G1) (G1) (pc + 1) (lo) (rest)) : zS p l e R s m args below meth c D aC G0 fin nL cells slots ((zaS G a 22 i v).bind K) (G) (pc) (lo) (.long (zl v) :: .int (zi i) :: .ref a :: rest) := fun H locs ls r hI hl hK => by
  obtain ⟨G1, hv, hk⟩ := Option.bind_eq_some_iff.mp hK
  unfold zaS at hv
  split at hv
  · rename_i hka
    cases hv
    obtain ⟨n, hka, h0, h1⟩ := zat_s hka
    obtain ⟨-, hat, hok⟩ := hI.1.2 a 22 n hka
    have hat : H[a]? = some (arrV (aC 22) n (fun j => .long (zl (zv G a j)))) := hat
    refine W.last hC.1 hC.2.1 hat ((hC.2.2.2.2.2.2.1.2 2 _ rfl).1 n _) (fun q => by cases q) (by rw [arrV_size]; exact zi_vpin hi h0 h1) rfl rfl hdg fun H1 e1 z1 o1 => ?_
    rw [arrV_store, zi_clamp hi] at e1
    refine kk _ H1 _ ls r (hI.upd hka (zk_sv G a i.toNat v) (zn_sv G a i.toNat v) z1 o1 zsv_other ?_ ?_) hl hk
    · show H1[a]? = some (arrV _ n (fun j => .long (zl (zv (zsv G a i.toNat v) a j))))
      rw [e1]
      congr 2
      funext j
      rw [zsv_self]
      unfold updV
      by_cases e : j = i.toNat
      · rw [if_pos e]; simp only [if_pos e]
      · rw [if_neg e]; simp only [if_neg e]
    · rw [zsv_self]
      refine ⟨hok.1, fun q => by omega, fun q => by omega, fun q => by omega, fun _ j => ?_⟩
      have := hok.2.2.2.2 rfl j
      by_cases e : j = i.toNat
      · simp only [if_pos e]; exact hx
      · simp only [if_neg e]; exact this
  · cases hv
theorem z_zast (hC : zC p m c meth s args cc nL own D aC) {K : Hp → Option ρ} {a : Nat} {i v : Int} (hi : zInI i)  (hdg : decode cc pc = .ok (.bastore, 1)) (kk : ∀ G1 : Hp, zS p l e R s m args below meth c D aC G0 fin nL cells slots (K G1) (G1) (pc + 1) (lo) (rest)) : zS p l e R s m args below meth c D aC G0 fin nL cells slots ((zaSZ G a 21 i v).bind K) (G) (pc) (lo) (.int (zi v) :: .int (zi i) :: .ref a :: rest) := fun H locs ls r hI hl hK => by
  obtain ⟨G1, hv, hk⟩ := Option.bind_eq_some_iff.mp hK
  unfold zaSZ at hv
  split at hv
  · rename_i hka
    obtain ⟨hka, hx⟩ := hka
    cases hv
    obtain ⟨n, hka, h0, h1⟩ := zat_s hka
    obtain ⟨-, hat, hok⟩ := hI.1.2 a 21 n hka
    have hat : H[a]? = some (arrV (aC 21) n (fun j => .int (zi (zv G a j)))) := hat
    have hnar : narrow .boolean (.int (zi v)) = .int (zi v) := by rcases hx with rfl | rfl <;> rfl
    refine W.zast hC.1 hC.2.1 hat ((hC.2.2.2.2.2.2.1.2 1 _ rfl).1 n _) (fun q => by cases q) (by rw [arrV_size]; exact zi_vpin hi h0 h1) rfl rfl hdg fun H1 e1 z1 o1 => ?_
    rw [hnar] at e1
    rw [arrV_store, zi_clamp hi] at e1
    refine kk _ H1 _ ls r (hI.upd hka (zk_sv G a i.toNat v) (zn_sv G a i.toNat v) z1 o1 zsv_other ?_ ?_) hl hk
    · show H1[a]? = some (arrV _ n (fun j => .int (zi (zv (zsv G a i.toNat v) a j))))
      rw [e1]
      congr 2
      funext j
      rw [zsv_self]
      unfold updV
      by_cases e : j = i.toNat
      · rw [if_pos e]; simp only [if_pos e]
      · rw [if_neg e]; simp only [if_neg e]
    · rw [zsv_self]
      refine ⟨hok.1, fun q => by omega, fun q => by omega, fun _ j => ?_, fun q => by omega⟩
      have := hok.2.2.2.1 rfl j
      by_cases e : j = i.toNat
      · simp only [if_pos e]; exact hx
      · simp only [if_neg e]; exact this
  · cases hv
theorem z_aast23 (hC : zC p m c meth s args cc nL own D aC) {K : Hp → Option ρ} {a v : Nat} {i : Int} (hi : zInI i) (hdg : decode cc pc = .ok (.aastore, 1)) (kk : ∀ G1 : Hp, zS p l e R s m args below meth c D aC G0 fin nL cells slots (K G1) (G1) (pc + 1) (lo) (rest)) : zS p l e R s m args below meth c D aC G0 fin nL cells slots ((zaSR G a 23 7 i v).bind K) (G) (pc) (lo) (.ref v :: .int (zi i) :: .ref a :: rest) := fun H locs ls r hI hl hK => by
  obtain ⟨G1, hv, hk⟩ := Option.bind_eq_some_iff.mp hK
  unfold zaSR at hv
  split at hv
  · rename_i hka
    obtain ⟨hka, hkv⟩ := hka
    cases hv
    obtain ⟨n, hka, h0, h1⟩ := zat_s hka
    obtain ⟨-, hat, hok⟩ := hI.1.2 a 23 n hka
    obtain ⟨-, hatv, -⟩ := hI.1.2 v 7 0 hkv
    rw [ze_refs (by decide)] at hat
    rw [ze_obj (by decide)] at hatv
    have hat : H[a]? = some (arrV (aC 23) n (fun j => va_rf (zr G a j))) := hat
    obtain ⟨r', hr', cellV, g1, g2, g3, -⟩ := hatv
    cases hr'
    have hK := hC.2.2.2.2.2.2.1
    have hcls := (hK.1 7 _ rfl).2
    obtain ⟨kA, comp, k1, k2, k3, -⟩ := (hK.2 3 _ rfl).2
    have hcomp : comp = D.1 7 := Option.some.inj (k3.symm.trans hcls.1)
    subst hcomp
    obtain ⟨kC, hkC, -⟩ := id hcls.2
    have hi0 : ¬ zi i < 0 := fun q => (zi_vpin hi h0 h1) (Or.inl q)
    have hin1 : (zi i).toNatClampNeg < n := by rw [zi_clamp hi]; omega
    refine W.aast hC.1 hC.2.1 hat (fun q h => by cases h) (fun h => by cases h) k1 k2 rfl hkC ⟨hi0, by show _ < (arrV _ _ _).slots.size; rw [arrV_size]; exact hin1⟩ g1 (fun q h => by rw [g3] at h; cases h) (by rw [g2]; exact hkC) (by rw [g2]; exact va_assign hcls) rfl rfl hdg fun H1 e1 z1 o1 => ?_
    rw [arrV_store, zi_clamp hi] at e1
    refine kk _ H1 _ ls r (hI.upd hka (zk_sr G a i.toNat _) (zn_sr G a i.toNat _) z1 o1 zsr_other ?_ hok) hl hk
    rw [ze_refs (by decide)]
    show H1[a]? = some (arrV _ n (fun j => va_rf (zr (zsr G a i.toNat (some v)) a j)))
    rw [e1]
    congr 2
    funext j
    rw [zsr_self]
    unfold updV
    by_cases e : j = i.toNat
    · rw [if_pos e]; simp only [if_pos e]; rfl
    · rw [if_neg e]; simp only [if_neg e]
  · cases hv
theorem z_aast24 (hC : zC p m c meth s args cc nL own D aC) {K : Hp → Option ρ} {a v : Nat} {i : Int} (hi : zInI i) (hdg : decode cc pc = .ok (.aastore, 1)) (kk : ∀ G1 : Hp, zS p l e R s m args below meth c D aC G0 fin nL cells slots (K G1) (G1) (pc + 1) (lo) (rest)) : zS p l e R s m args below meth c D aC G0 fin nL cells slots ((zaSR G a 24 3 i v).bind K) (G) (pc) (lo) (.ref v :: .int (zi i) :: .ref a :: rest) := fun H locs ls r hI hl hK => by
  obtain ⟨G1, hv, hk⟩ := Option.bind_eq_some_iff.mp hK
  unfold zaSR at hv
  split at hv
  · rename_i hka
    obtain ⟨hka, hkv⟩ := hka
    cases hv
    obtain ⟨n, hka, h0, h1⟩ := zat_s hka
    obtain ⟨-, hat, hok⟩ := hI.1.2 a 24 n hka
    obtain ⟨-, hatv, -⟩ := hI.1.2 v 3 0 hkv
    rw [ze_refs (by decide)] at hat
    rw [ze_obj (by decide)] at hatv
    have hat : H[a]? = some (arrV (aC 24) n (fun j => va_rf (zr G a j))) := hat
    obtain ⟨r', hr', cellV, g1, g2, g3, -⟩ := hatv
    cases hr'
    have hK := hC.2.2.2.2.2.2.1
    have hcls := (hK.1 3 _ rfl).2
    obtain ⟨kA, comp, k1, k2, k3, -⟩ := (hK.2 4 _ rfl).2
    have hcomp : comp = D.1 3 := Option.some.inj (k3.symm.trans hcls.1)
    subst hcomp
    obtain ⟨kC, hkC, -⟩ := id hcls.2
    have hi0 : ¬ zi i < 0 := fun q => (zi_vpin hi h0 h1) (Or.inl q)
    have hin1 : (zi i).toNatClampNeg < n := by rw [zi_clamp hi]; omega
    refine W.aast hC.1 hC.2.1 hat (fun q h => by cases h) (fun h => by cases h) k1 k2 rfl hkC ⟨hi0, by show _ < (arrV _ _ _).slots.size; rw [arrV_size]; exact hin1⟩ g1 (fun q h => by rw [g3] at h; cases h) (by rw [g2]; exact hkC) (by rw [g2]; exact va_assign hcls) rfl rfl hdg fun H1 e1 z1 o1 => ?_
    rw [arrV_store, zi_clamp hi] at e1
    refine kk _ H1 _ ls r (hI.upd hka (zk_sr G a i.toNat _) (zn_sr G a i.toNat _) z1 o1 zsr_other ?_ hok) hl hk
    rw [ze_refs (by decide)]
    show H1[a]? = some (arrV _ n (fun j => va_rf (zr (zsr G a i.toNat (some v)) a j)))
    rw [e1]
    congr 2
    funext j
    rw [zsr_self]
    unfold updV
    by_cases e : j = i.toNat
    · rw [if_pos e]; simp only [if_pos e]; rfl
    · rw [if_neg e]; simp only [if_neg e]
  · cases hv
theorem z_aast25 (hC : zC p m c meth s args cc nL own D aC) {K : Hp → Option ρ} {a v : Nat} {i : Int} (hi : zInI i) (hdg : decode cc pc = .ok (.aastore, 1)) (kk : ∀ G1 : Hp, zS p l e R s m args below meth c D aC G0 fin nL cells slots (K G1) (G1) (pc + 1) (lo) (rest)) : zS p l e R s m args below meth c D aC G0 fin nL cells slots ((zaSR G a 25 9 i v).bind K) (G) (pc) (lo) (.ref v :: .int (zi i) :: .ref a :: rest) := fun H locs ls r hI hl hK => by
  obtain ⟨G1, hv, hk⟩ := Option.bind_eq_some_iff.mp hK
  unfold zaSR at hv
  split at hv
  · rename_i hka
    obtain ⟨hka, hkv⟩ := hka
    cases hv
    obtain ⟨n, hka, h0, h1⟩ := zat_s hka
    obtain ⟨-, hat, hok⟩ := hI.1.2 a 25 n hka
    obtain ⟨-, hatv, -⟩ := hI.1.2 v 9 0 hkv
    rw [ze_refs (by decide)] at hat
    rw [ze_obj (by decide)] at hatv
    have hat : H[a]? = some (arrV (aC 25) n (fun j => va_rf (zr G a j))) := hat
    obtain ⟨r', hr', cellV, g1, g2, g3, -⟩ := hatv
    cases hr'
    have hK := hC.2.2.2.2.2.2.1
    have hcls := (hK.1 9 _ rfl).2
    obtain ⟨kA, comp, k1, k2, k3, -⟩ := (hK.2 5 _ rfl).2
    have hcomp : comp = D.1 9 := Option.some.inj (k3.symm.trans hcls.1)
    subst hcomp
    obtain ⟨kC, hkC, -⟩ := id hcls.2
    have hi0 : ¬ zi i < 0 := fun q => (zi_vpin hi h0 h1) (Or.inl q)
    have hin1 : (zi i).toNatClampNeg < n := by rw [zi_clamp hi]; omega
    refine W.aast hC.1 hC.2.1 hat (fun q h => by cases h) (fun h => by cases h) k1 k2 rfl hkC ⟨hi0, by show _ < (arrV _ _ _).slots.size; rw [arrV_size]; exact hin1⟩ g1 (fun q h => by rw [g3] at h; cases h) (by rw [g2]; exact hkC) (by rw [g2]; exact va_assign hcls) rfl rfl hdg fun H1 e1 z1 o1 => ?_
    rw [arrV_store, zi_clamp hi] at e1
    refine kk _ H1 _ ls r (hI.upd hka (zk_sr G a i.toNat _) (zn_sr G a i.toNat _) z1 o1 zsr_other ?_ hok) hl hk
    rw [ze_refs (by decide)]
    show H1[a]? = some (arrV _ n (fun j => va_rf (zr (zsr G a i.toNat (some v)) a j)))
    rw [e1]
    congr 2
    funext j
    rw [zsr_self]
    unfold updV
    by_cases e : j = i.toNat
    · rw [if_pos e]; simp only [if_pos e]; rfl
    · rw [if_neg e]; simp only [if_neg e]
  · cases hv
theorem z_alen20 (hC : zC p m c meth s args cc nL own D aC) {K : Int → Option ρ} {a : Nat} (hdg : decode cc pc = .ok (.arraylength, 1)) (kk : ∀ v : Int, zInI v → zS p l e R s m args below meth c D aC G0 fin nL cells slots (K v) (G) (pc + 1) (lo) (.int (zi v) :: rest)) : zS p l e R s m args below meth c D aC G0 fin nL cells slots ((zaN G a 20).bind K) (G) (pc) (lo) (.ref a :: rest) := fun H locs ls r hI hl hK => by
  obtain ⟨v, hv, hk⟩ := Option.bind_eq_some_iff.mp hK
  unfold zaN at hv
  cases hka : zk G a with
  | none => rw [hka] at hv; cases hv
  | some q =>
    obtain ⟨t', n⟩ := q
    rw [hka] at hv
    simp only at hv
    split at hv
    · rename_i ht
      subst ht
      cases hv
      obtain ⟨-, hat, hok⟩ := hI.1.2 a 20 n hka
      have hat : H[a]? = some (arrV (aC 20) n (fun j => .int (zi (zv G a j)))) := hat
      refine W.alen (n := zi (n : Int)) hC.1 hC.2.1 hat ((hC.2.2.2.2.2.2.1.2 0 _ rfl).1 n _) (by rw [arrV_size, ← zi_nat]) rfl rfl hdg (kk _ ⟨by omega, by have := hok.1; omega⟩ H locs ls r hI hl hk)
    · cases hv
theorem z_alen23 (hC : zC p m c meth s args cc nL own D aC) {K : Int → Option ρ} {a : Nat} (hdg : decode cc pc = .ok (.arraylength, 1)) (kk : ∀ v : Int, zInI v → zS p l e R s m args below meth c D aC G0 fin nL cells slots (K v) (G) (pc + 1) (lo) (.int (zi v) :: rest)) : zS p l e R s m args below meth c D aC G0 fin nL cells slots ((zaN G a 23).bind K) (G) (pc) (lo) (.ref a :: rest) := fun H locs ls r hI hl hK => by
  obtain ⟨v, hv, hk⟩ := Option.bind_eq_some_iff.mp hK
  unfold zaN at hv
  cases hka : zk G a with
  | none => rw [hka] at hv; cases hv
  | some q =>
    obtain ⟨t', n⟩ := q
    rw [hka] at hv
    simp only at hv
    split at hv
    · rename_i ht
      subst ht
      cases hv
      obtain ⟨-, hat, hok⟩ := hI.1.2 a 23 n hka
      rw [ze_refs (by decide)] at hat
      have hat : H[a]? = some (arrV (aC 23) n (fun j => va_rf (zr G a j))) := hat
      refine W.alen (n := zi (n : Int)) hC.1 hC.2.1 hat ((hC.2.2.2.2.2.2.1.2 3 _ rfl).1 n _) (by rw [arrV_size, ← zi_nat]) rfl rfl hdg (kk _ ⟨by omega, by have := hok.1; omega⟩ H locs ls r hI hl hk)
    · cases hv
theorem z_alen24 (hC : zC p m c meth s args cc nL own D aC) {K : Int → Option ρ} {a : Nat} (hdg : decode cc pc = .ok (.arraylength, 1)) (kk : ∀ v : Int, zInI v → zS p l e R s m args below meth c D aC G0 fin nL cells slots (K v) (G) (pc + 1) (lo) (.int (zi v) :: rest)) : zS p l e R s m args below meth c D aC G0 fin nL cells slots ((zaN G a 24).bind K) (G) (pc) (lo) (.ref a :: rest) := fun H locs ls r hI hl hK => by
  obtain ⟨v, hv, hk⟩ := Option.bind_eq_some_iff.mp hK
  unfold zaN at hv
  cases hka : zk G a with
  | none => rw [hka] at hv; cases hv
  | some q =>
    obtain ⟨t', n⟩ := q
    rw [hka] at hv
    simp only at hv
    split at hv
    · rename_i ht
      subst ht
      cases hv
      obtain ⟨-, hat, hok⟩ := hI.1.2 a 24 n hka
      rw [ze_refs (by decide)] at hat
      have hat : H[a]? = some (arrV (aC 24) n (fun j => va_rf (zr G a j))) := hat
      refine W.alen (n := zi (n : Int)) hC.1 hC.2.1 hat ((hC.2.2.2.2.2.2.1.2 4 _ rfl).1 n _) (by rw [arrV_size, ← zi_nat]) rfl rfl hdg (kk _ ⟨by omega, by have := hok.1; omega⟩ H locs ls r hI hl hk)
    · cases hv
theorem z_alen25 (hC : zC p m c meth s args cc nL own D aC) {K : Int → Option ρ} {a : Nat} (hdg : decode cc pc = .ok (.arraylength, 1)) (kk : ∀ v : Int, zInI v → zS p l e R s m args below meth c D aC G0 fin nL cells slots (K v) (G) (pc + 1) (lo) (.int (zi v) :: rest)) : zS p l e R s m args below meth c D aC G0 fin nL cells slots ((zaN G a 25).bind K) (G) (pc) (lo) (.ref a :: rest) := fun H locs ls r hI hl hK => by
  obtain ⟨v, hv, hk⟩ := Option.bind_eq_some_iff.mp hK
  unfold zaN at hv
  cases hka : zk G a with
  | none => rw [hka] at hv; cases hv
  | some q =>
    obtain ⟨t', n⟩ := q
    rw [hka] at hv
    simp only at hv
    split at hv
    · rename_i ht
      subst ht
      cases hv
      obtain ⟨-, hat, hok⟩ := hI.1.2 a 25 n hka
      rw [ze_refs (by decide)] at hat
      have hat : H[a]? = some (arrV (aC 25) n (fun j => va_rf (zr G a j))) := hat
      refine W.alen (n := zi (n : Int)) hC.1 hC.2.1 hat ((hC.2.2.2.2.2.2.1.2 5 _ rfl).1 n _) (by rw [arrV_size, ← zi_nat]) rfl rfl hdg (kk _ ⟨by omega, by have := hok.1; omega⟩ H locs ls r hI hl hk)
    · cases hv
theorem z_alen26 (hC : zC p m c meth s args cc nL own D aC) {K : Int → Option ρ} {a : Nat} (hdg : decode cc pc = .ok (.arraylength, 1)) (kk : ∀ v : Int, zInI v → zS p l e R s m args below meth c D aC G0 fin nL cells slots (K v) (G) (pc + 1) (lo) (.int (zi v) :: rest)) : zS p l e R s m args below meth c D aC G0 fin nL cells slots ((zaN G a 26).bind K) (G) (pc) (lo) (.ref a :: rest) := fun H locs ls r hI hl hK => by
  obtain ⟨v, hv, hk⟩ := Option.bind_eq_some_iff.mp hK
  unfold zaN at hv
  cases hka : zk G a with
  | none => rw [hka] at hv; cases hv
  | some q =>
    obtain ⟨t', n⟩ := q
    rw [hka] at hv
    simp only at hv
    split at hv
    · rename_i ht
      subst ht
      cases hv
      obtain ⟨-, hat, hok⟩ := hI.1.2 a 26 n hka
      rw [ze_refs (by decide)] at hat
      have hat : H[a]? = some (arrV (aC 26) n (fun j => va_rf (zr G a j))) := hat
      refine W.alen (n := zi (n : Int)) hC.1 hC.2.1 hat ((hC.2.2.2.2.2.2.1.2 6 _ rfl).1 n _) (by rw [arrV_size, ← zi_nat]) rfl rfl hdg (kk _ ⟨by omega, by have := hok.1; omega⟩ H locs ls r hI hl hk)
    · cases hv
end ZA
