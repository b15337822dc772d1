/-! ===== field facts, by the tables ===== -/
/-- field k of the kind t, read or written by class own through its entry idx -/
def zFld (own : String) (idx t k : Nat) : Prop := ∃ r : vw_C, zcl[t]? = some r ∧ k < r.2.2 ∧ (r.2.1 k).1 = r.1 ∧ ((Cond.fieldLink own idx r.1 (r.2.1 k).2.1 (r.2.1 k).2.2.1 ∈ zgood) ∨ (Cond.fieldLinkNest own idx r.1 (r.2.1 k).2.1 (r.2.1 k).2.2.1 "BreadLands" ∈ znest))
def zFin (t k : Nat) : Bool := match zcl[t]? with
  | some r => (r.2.1 k).2.2.2
  | none => false
theorem zcl_same {s : State} {r : vw_C} {k : Nat} (h : (r.2.1 k).1 = r.1) : ∀ x, s.fieldFound? (r.2.1 k).1 (r.2.1 k).2.1 (r.2.1 k).2.2.1 = some x → s.fieldFound? r.1 (r.2.1 k).2.1 (r.2.1 k).2.2.1 = some x := fun x hx => by rw [← h]; rw [h] at hx; rw [← h] at hx; exact hx
section ZF
variable {ρ : Type} {p : Program} {l : Launch} {e : Env} {R : Room} {s : State} {m : MethodId} {args : Array Value} {below : List Frame} {meth : Method} {c : Code} {D : va_G} {aC : Nat → ClassId} {G0 G : Hp} {fin : ρ → State → Prop} {nL cells slots : Nat} {cc : ByteArray} {own : String} {pc : Nat} {lo : List (Nat × Value)} {rest : List Value}
variable {H : Heap} {locs : List Loc} {ls : Array Slot} {Q : State → Prop}
/-- the machine reads field k of the object at a -/
theorem z_getW (hC : zC p m c meth s args cc nL own D aC) (hH : zH D aC G H) {a t k idx : Nat} (hF : zFld own idx t k) (ha : zk G a = some (t, 0)) (hdg : decode cc pc = .ok (.getfield idx, 3))
    (kk : W p l e R s m args below meth c H locs cells slots Q (F0 m (pc + 3) ls (zval (zty t k) (zv G a k) (zr G a k) :: rest))) : W p l e R s m args below meth c H locs cells slots Q (F0 m pc ls (.ref a :: rest)) := by
  obtain ⟨r, hc, hk, hd, hw⟩ := hF
  obtain ⟨hNN, ht⟩ := zcl_N t r hc
  obtain ⟨-, hat, -⟩ := hH.2 a t 0 ha
  rw [ze_obj ht] at hat
  have hv := zfs_at (t := t) (f := zv G a) (g := zr G a) (show k < zN t by rw [← hNN]; exact hk)
  rcases hw with hw | hw
  · exact va_get hC.1 hC.2.1 hC.2.2.2.2.1 (zwords hc) hC.2.2.2.1 hC.2.2.2.2.2.2.1 (zP1 hat) 0 rfl hc k hk (hC.2.2.2.2.1 _ hw) (zcl_same hd) hv hdg kk
  · exact va_getN hC.1 hC.2.1 hC.2.2.2.2.1 (zwords hc) hC.2.2.2.1 hC.2.2.2.2.2.2.1 (zP1 hat) 0 rfl hc k hk (va_Nw.use (by rfl) (hC.2.2.2.2.2.2.2.1 _ hw)) (zcl_same hd) hv hdg kk
theorem z_atput {a t k : Nat} {r : vw_C} {v : Value} {H1 : Heap} {cell : Cell} {f' : Nat → Int} {g' : Nat → Option Nat} {f : Nat → Int} {g : Nat → Option Nat} (hc : zcl[t]? = some r) (hk : k < r.2.2) (q1 : H1[a]? = some (cell.setSlot ((D.2 t) k) v)) (q2 : cell.cls = D.1 t) (q3 : cell.vm = .none) (q4 : ∀ j, j < r.2.2 → cell.slots[(D.2 t) j]? = some (vp_V (zfs t f g) j)) (hap : ∀ x y, x < r.2.2 → y < r.2.2 → x ≠ y → (D.2 t) x ≠ (D.2 t) y)
    (he : ∀ j, j < zN t → zval (zty t j) (f' j) (g' j) = if j = k then v else zval (zty t j) (f j) (g j)) : va_at D zcl (a, ze aC t 0 f' g') H1 := by
  obtain ⟨hNN, ht⟩ := zcl_N t r hc
  rw [ze_obj ht]
  refine ⟨r, hc, _, q1, q2, q3, fun j hj => ?_⟩
  have hj' : j < zN t := by rw [← hNN]; exact hj
  rw [t_set q4 hap hk v j hj, zfs_V hj', he j hj']
  unfold updV
  by_cases e : j = k
  · rw [if_pos e, if_pos e]
  · rw [if_neg e, if_neg e, zfs_V hj']
theorem z_putW (hC : zC p m c meth s args cc nL own D aC) (hI : zI D aC G0 s.heap G H locs) {a t k idx : Nat} (hF : zFld own idx t k) (hnf : zFin t k = false) (ha : zk G a = some (t, 0)) {v : Value} (hn : narrow (zty t k) v = v) (hfit : fits (zty t k) v = true) {G' : Hp} (hk' : zk G' = zk G) (hn' : zn G' = zn G) (hv : ∀ q, q ≠ a → zv G' q = zv G q ∧ zr G' q = zr G q)
    (he : ∀ j, j < zN t → zval (zty t j) (zv G' a j) (zr G' a j) = if j = k then v else zval (zty t j) (zv G a j) (zr G a j)) (hok : zok t 0 (zv G' a)) (hdg : decode cc pc = .ok (.putfield idx, 3))
    (kk : ∀ (H1 : Heap) (locs1 : List Loc), zI D aC G0 s.heap G' H1 locs1 → W p l e R s m args below meth c H1 locs1 cells slots Q (F0 m (pc + 3) ls rest)) : W p l e R s m args below meth c H locs cells slots Q (F0 m pc ls (v :: .ref a :: rest)) := by
  obtain ⟨hx, hb, -, hown, hts, -, hK⟩ := hC
  obtain ⟨r, hc, hk, hd, hw⟩ := hF
  have hap := zvapart hts hK hc
  obtain ⟨hNN, ht⟩ := zcl_N t r hc
  obtain ⟨-, hat, -⟩ := hI.1.2 a t 0 ha
  rw [ze_obj ht] at hat
  obtain ⟨r', h1, cell, q1, q2, q3, q4⟩ := hat
  have hr : r' = r := Option.some.inj (h1.symm.trans hc)
  subst hr
  obtain ⟨hS, hfc, kC, hkC, hkind⟩ := hK.1.1 t _ hc
  obtain ⟨cf, kf, fi, f, hi, hsl⟩ := hS k hk
  have hlay := hts _ (zwords hc _ (u_in_lay hk))
  unfold u_lay at hlay
  have hnf' : (r'.2.1 k).2.2.2 = false := by unfold zFin at hnf; rw [hc] at hnf; exact hnf
  rw [if_neg (by rw [hnf']; decide)] at hlay
  have hst := (u_facts hfc hkC (u_lays hts (zwords hc) hk) hi).1
  have h6 := u_store hfc hkC hkind hlay hi (zcl_ty t _ hc k hk) hn hfit
  have hlt : f.slot < cell.slots.size := by rw [hsl]; exact k2_hasslot (q4 k hk)
  have kk' : ∀ H' : Heap, H'[a]? = some (cell.setSlot f.slot v) → H'.size = H.size → (∀ q, q ≠ a → H'[q]? = H[q]?) → W p l e R s m args below meth c H' (locs ++ [⟨a, f.slot⟩]) cells slots Q (F0 m (pc + 3) ls rest) := fun H' e1 e2 e3 => by
    rw [hsl] at e1
    exact kk H' _ (hI.upd ha hk' hn' e2 e3 hv (z_atput hc hk e1 q2 q3 q4 hap he) hok)
  rcases hw with hw | hw
  · exact W.putK hx hb (f := f) ⟨hown, hts _ hw, ⟨_, _, _, zcl_same hd _ hi⟩, hst⟩ (by rw [q2]; exact h6) q1 q3 hlt rfl rfl hdg kk'
  · exact va_WputK hx hb (f := f) hown (va_Nw.use (by rfl) (hK.2.1 _ hw)) (zcl_same hd _ hi) hst (by rw [q2]; exact h6) q1 q3 hlt rfl rfl hdg kk'
theorem z_putFW (hC : zC p m c meth s args cc nL own D aC) (hI : zI D aC G0 s.heap G H locs) {a t k idx : Nat} {r : vw_C} (hc : zcl[t]? = some r) (hk : k < r.2.2) (hd : (r.2.1 k).1 = r.1) (hw : Cond.fieldLink own idx r.1 (r.2.1 k).2.1 (r.2.1 k).2.2.1 ∈ zgood) (hnf : (r.2.1 k).2.2.2 = true) (hdecl : (r.2.1 k).1 = own) (hin2 : meth.name = "<init>") (ha : zk G a = some (t, 0)) {v : Value} (hn : narrow (zty t k) v = v) (hfit : fits (zty t k) v = true) {G' : Hp} (hk' : zk G' = zk G) (hn' : zn G' = zn G) (hv : ∀ q, q ≠ a → zv G' q = zv G q ∧ zr G' q = zr G q)
    (he : ∀ j, j < zN t → zval (zty t j) (zv G' a j) (zr G' a j) = if j = k then v else zval (zty t j) (zv G a j) (zr G a j)) (hok : zok t 0 (zv G' a)) (hdg : decode cc pc = .ok (.putfield idx, 3))
    (kk : ∀ (H1 : Heap) (locs1 : List Loc), zI D aC G0 s.heap G' H1 locs1 → W p l e R s m args below meth c H1 locs1 cells slots Q (F0 m (pc + 3) ls rest)) : W p l e R s m args below meth c H locs cells slots Q (F0 m pc ls (v :: .ref a :: rest)) := by
  obtain ⟨hx, hb, -, hown, hts, -, hK⟩ := hC
  have hap := zvapart hts hK hc
  obtain ⟨hNN, ht⟩ := zcl_N t r hc
  obtain ⟨-, hat, -⟩ := hI.1.2 a t 0 ha
  rw [ze_obj ht] at hat
  obtain ⟨r', h1, cell, q1, q2, q3, q4⟩ := hat
  have hr : r' = r := Option.some.inj (h1.symm.trans hc)
  subst hr
  obtain ⟨hS, hfc, kC, hkC, hkind⟩ := hK.1.1 t _ hc
  obtain ⟨cf, kf, fi, f, hi, hsl⟩ := hS k hk
  have hlay := hts _ (zwords hc _ (u_in_lay hk))
  unfold u_lay at hlay
  rw [if_pos hnf] at hlay
  have hst := (u_facts hfc hkC (u_lays hts (zwords hc) hk) hi).1
  have hcf : m.cls = cf := by
    obtain ⟨_, _, c', _, _, _, -, -, hf', -, -, -, hown2, -⟩ := Cond.laysFinal_spec hlay
    have e1 : c' = cf := by have := hi.symm.trans hf'; simp at this; exact this.1.symm
    rw [hdecl] at hown2
    rw [← e1]; exact Option.some.inj (hown.symm.trans hown2)
  have h6 := u_fits hfc hkC hkind (Or.inr hlay) hi (zcl_ty t _ hc k hk) hn hfit
  refine W.putFinK hx hb hown (hts _ hw) (zcl_same hd _ hi) hst hcf hin2 (by rw [q2]; exact h6) q1 q3 (by rw [hsl]; exact k2_hasslot (q4 k hk)) rfl rfl hdg fun H' e1 e2 e3 => ?_
  rw [hsl] at e1 ⊢
  exact kk H' _ (hI.upd ha hk' hn' e2 e3 hv (z_atput hc hk e1 q2 q3 q4 hap he) hok)
end ZF
theorem zok_set {t k : Nat} {f : Nat → Int} {v : Int} (h : zok t 0 f) (hv : t < 13 → zrg (zty t k) v) (ht : t < 13) : zok t 0 (fun j => if j = k then v else f j) := by
  obtain ⟨h1, h2, h3, h4, h5⟩ := h
  refine ⟨h1, fun _ j hj => ?_, fun q => by omega, fun q => by omega, fun q => by omega⟩
  by_cases e : j = k
  · subst e; simp only [if_pos]; exact hv ht
  · simp only [if_neg e]; exact h2 ht j hj
theorem zval_sv {t k : Nat} {f : Nat → Int} {g : Nat → Option Nat} {v : Int} (j : Nat) : zval (zty t j) (if j = k then v else f j) (g j) = if j = k then zval (zty t k) v (g k) else zval (zty t j) (f j) (g j) := by
  by_cases e : j = k
  · subst e; simp
  · simp [e]
theorem zval_sr {t k : Nat} {f : Nat → Int} {g : Nat → Option Nat} {v : Option Nat} (j : Nat) : zval (zty t j) (f j) (if j = k then v else g j) = if j = k then zval (zty t k) (f k) v else zval (zty t j) (f j) (g j) := by
  by_cases e : j = k
  · subst e; simp
  · simp [e]
theorem narrow_ref {ty : FieldType} (h : ty.isReference = true) (a : Nat) : narrow ty (.ref a) = .ref a ∧ fits ty (.ref a) = true := by cases ty <;> simp [FieldType.isReference] at h <;> exact ⟨rfl, rfl⟩
theorem zval_ref {ty : FieldType} (h : ty.isReference = true) (z : Int) (r : Option Nat) : zval ty z r = va_rf r := by cases ty <;> simp [FieldType.isReference] at h <;> rfl
theorem zrg_ref {ty : FieldType} (h : ty.isReference = true) (z : Int) : zrg ty z := by cases ty <;> simp [FieldType.isReference] at h <;> trivial
section ZG
variable {ρ : Type} {p : Program} {l : Launch} {e : Env} {R : Room} {s : State} {m : MethodId} {args : Array Value} {below : List Frame} {meth : Method} {c : Code} {D : va_G} {aC : Nat → ClassId} {G0 G : Hp} {fin : ρ → State → Prop} {nL cells slots : Nat} {cc : ByteArray} {own : String} {pc : Nat} {lo : List (Nat × Value)} {rest : List Value}
theorem z_getI (hC : zC p m c meth s args cc nL own D aC) {K : Int → Option ρ} {a t k idx : Nat} (hF : zFld own idx t k) (hty : zty t k = .int) (hdg : decode cc pc = .ok (.getfield idx, 3)) (kk : ∀ v : Int, zInI v → zS p l e R s m args below meth c D aC G0 fin nL cells slots (K v) (G) (pc + 3) (lo) (.int (zi v) :: rest)) : zS p l e R s m args below meth c D aC G0 fin nL cells slots ((zgI G a t k).bind K) (G) (pc) (lo) (.ref a :: rest) := fun H locs ls r hI hl hK => by
  obtain ⟨v, hv, hk⟩ := Option.bind_eq_some_iff.mp hK
  unfold zgI at hv
  split at hv
  · rename_i hka
    cases hv
    refine z_getW hC hI.1 hF hka hdg ?_
    rw [hty]
    have hok := (hI.1.2 a t 0 hka).2.2
    obtain ⟨r0, hc, hkk, -⟩ := id hF
    obtain ⟨hNN, ht⟩ := zcl_N t r0 hc
    have h := hok.2.1 ht k (by rw [← hNN]; exact hkk)
    rw [hty] at h
    exact kk _ h H locs ls r hI hl hk
  · cases hv
theorem z_getZ (hC : zC p m c meth s args cc nL own D aC) {K : Int → Option ρ} {a t k idx : Nat} (hF : zFld own idx t k) (hty : zty t k = .boolean) (hdg : decode cc pc = .ok (.getfield idx, 3)) (kk : ∀ v : Int, zIn01 v → zS p l e R s m args below meth c D aC G0 fin nL cells slots (K v) (G) (pc + 3) (lo) (.int (zi v) :: rest)) : zS p l e R s m args below meth c D aC G0 fin nL cells slots ((zgI G a t k).bind K) (G) (pc) (lo) (.ref a :: rest) := fun H locs ls r hI hl hK => by
  obtain ⟨v, hv, hk⟩ := Option.bind_eq_some_iff.mp hK
  unfold zgI at hv
  split at hv
  · rename_i hka
    cases hv
    refine z_getW hC hI.1 hF hka hdg ?_
    rw [hty]
    have hok := (hI.1.2 a t 0 hka).2.2
    obtain ⟨r0, hc, hkk, -⟩ := id hF
    obtain ⟨hNN, ht⟩ := zcl_N t r0 hc
    have h := hok.2.1 ht k (by rw [← hNN]; exact hkk)
    rw [hty] at h
    exact kk _ h H locs ls r hI hl hk
  · cases hv
theorem z_getL (hC : zC p m c meth s args cc nL own D aC) {K : Int → Option ρ} {a t k idx : Nat} (hF : zFld own idx t k) (hty : zty t k = .long) (hdg : decode cc pc = .ok (.getfield idx, 3)) (kk : ∀ v : Int, zInL v → zS p l e R s m args below meth c D aC G0 fin nL cells slots (K v) (G) (pc + 3) (lo) (.long (zl v) :: rest)) : zS p l e R s m args below meth c D aC G0 fin nL cells slots ((zgI G a t k).bind K) (G) (pc) (lo) (.ref a :: rest) := fun H locs ls r hI hl hK => by
  obtain ⟨v, hv, hk⟩ := Option.bind_eq_some_iff.mp hK
  unfold zgI at hv
  split at hv
  · rename_i hka
    cases hv
    refine z_getW hC hI.1 hF hka hdg ?_
    rw [hty]
    have hok := (hI.1.2 a t 0 hka).2.2
    obtain ⟨r0, hc, hkk, -⟩ := id hF
    obtain ⟨hNN, ht⟩ := zcl_N t r0 hc
    have h := hok.2.1 ht k (by rw [← hNN]; exact hkk)
    rw [hty] at h
    exact kk _ h H locs ls r hI hl hk
  · cases hv
theorem z_getQ (hC : zC p m c meth s args cc nL own D aC) {K : Nat → Option ρ} {a t k idx : Nat} (hF : zFld own idx t k) (hty : (zty t k).isReference = true) (hdg : decode cc pc = .ok (.getfield idx, 3)) (kk : ∀ v : Nat, zS p l e R s m args below meth c D aC G0 fin nL cells slots (K v) (G) (pc + 3) (lo) (.ref v :: rest)) : zS p l e R s m args below meth c D aC G0 fin nL cells slots ((zgQ G a t k).bind K) (G) (pc) (lo) (.ref a :: rest) := fun H locs ls r hI hl hK => by
  obtain ⟨v, hv, hk⟩ := Option.bind_eq_some_iff.mp hK
  unfold zgQ at hv
  split at hv
  · rename_i hka
    refine z_getW hC hI.1 hF hka hdg ?_
    rw [zval_ref hty, hv]
    exact kk v H locs ls r hI hl hk
  · cases hv
theorem z_putI (hC : zC p m c meth s args cc nL own D aC) {K : Hp → Option ρ} {a t k idx : Nat} {v : Int} (hv0 : zInI v) (hF : zFld own idx t k) (hnf : zFin t k = false) (hty : zty t k = .int) (hdg : decode cc pc = .ok (.putfield idx, 3)) (kk : ∀ G1 : Hp, zS p l e R s m args below meth c D aC G0 fin nL cells slots (K G1) (G1) (pc + 3) (lo) (rest)) : zS p l e R s m args below meth c D aC G0 fin nL cells slots ((zpI G a t k v).bind K) (G) (pc) (lo) (.int (zi v) :: .ref a :: rest) := fun H locs ls r hI hl hK => by
  obtain ⟨G1, hv, hk⟩ := Option.bind_eq_some_iff.mp hK
  unfold zpI at hv
  split at hv
  · rename_i hka
    cases hv
    have hok := (hI.1.2 a t 0 hka).2.2
    obtain ⟨r0, hc, -⟩ := id hF
    obtain ⟨-, ht⟩ := zcl_N t r0 hc
    refine z_putW hC hI hF hnf hka (by rw [hty]; rfl) (by rw [hty]; rfl) (zk_sv G a k v) (zn_sv G a k v) zsv_other (fun j _ => ?_) ?_ hdg (fun H1 locs1 hI1 => kk _ H1 locs1 ls r hI1 hl hk)
    · rw [zsv_self, zr_sv, zval_sv, hty]; rfl
    · rw [zsv_self]; exact zok_set hok (fun _ => by rw [hty]; exact hv0) ht
  · cases hv
theorem z_putL (hC : zC p m c meth s args cc nL own D aC) {K : Hp → Option ρ} {a t k idx : Nat} {v : Int} (hv0 : zInL v) (hF : zFld own idx t k) (hnf : zFin t k = false) (hty : zty t k = .long) (hdg : decode cc pc = .ok (.putfield idx, 3)) (kk : ∀ G1 : Hp, zS p l e R s m args below meth c D aC G0 fin nL cells slots (K G1) (G1) (pc + 3) (lo) (rest)) : zS p l e R s m args below meth c D aC G0 fin nL cells slots ((zpI G a t k v).bind K) (G) (pc) (lo) (.long (zl v) :: .ref a :: rest) := fun H locs ls r hI hl hK => by
  obtain ⟨G1, hv, hk⟩ := Option.bind_eq_some_iff.mp hK
  unfold zpI at hv
  split at hv
  · rename_i hka
    cases hv
    have hok := (hI.1.2 a t 0 hka).2.2
    obtain ⟨r0, hc, -⟩ := id hF
    obtain ⟨-, ht⟩ := zcl_N t r0 hc
    refine z_putW hC hI hF hnf hka (by rw [hty]; rfl) (by rw [hty]; rfl) (zk_sv G a k v) (zn_sv G a k v) zsv_other (fun j _ => ?_) ?_ hdg (fun H1 locs1 hI1 => kk _ H1 locs1 ls r hI1 hl hk)
    · rw [zsv_self, zr_sv, zval_sv, hty]; rfl
    · rw [zsv_self]; exact zok_set hok (fun _ => by rw [hty]; exact hv0) ht
  · cases hv
theorem z_putZ (hC : zC p m c meth s args cc nL own D aC) {K : Hp → Option ρ} {a t k idx : Nat} {v : Int} (hF : zFld own idx t k) (hnf : zFin t k = false) (hty : zty t k = .boolean) (hdg : decode cc pc = .ok (.putfield idx, 3)) (kk : ∀ G1 : Hp, zS p l e R s m args below meth c D aC G0 fin nL cells slots (K G1) (G1) (pc + 3) (lo) (rest)) : zS p l e R s m args below meth c D aC G0 fin nL cells slots ((zpZ G a t k v).bind K) (G) (pc) (lo) (.int (zi v) :: .ref a :: rest) := fun H locs ls r hI hl hK => by
  obtain ⟨G1, hv, hk⟩ := Option.bind_eq_some_iff.mp hK
  unfold zpZ at hv
  split at hv
  · rename_i hka
    obtain ⟨hka, hv0⟩ := hka
    cases hv
    have hok := (hI.1.2 a t 0 hka).2.2
    obtain ⟨r0, hc, -⟩ := id hF
    obtain ⟨-, ht⟩ := zcl_N t r0 hc
    refine z_putW hC hI hF hnf hka (by rw [hty]; rcases hv0 with rfl | rfl <;> rfl) (by rw [hty]; rcases hv0 with rfl | rfl <;> rfl) (zk_sv G a k v) (zn_sv G a k v) zsv_other (fun j _ => ?_) ?_ hdg (fun H1 locs1 hI1 => kk _ H1 locs1 ls r hI1 hl hk)
    · rw [zsv_self, zr_sv, zval_sv, hty]; rfl
    · rw [zsv_self]; exact zok_set hok (fun _ => by rw [hty]; exact hv0) ht
  · cases hv
theorem z_putR (hC : zC p m c meth s args cc nL own D aC) {K : Hp → Option ρ} {a t k idx v : Nat} (hF : zFld own idx t k) (hnf : zFin t k = false) (hty : (zty t k).isReference = true) (hdg : decode cc pc = .ok (.putfield idx, 3)) (kk : ∀ G1 : Hp, zS p l e R s m args below meth c D aC G0 fin nL cells slots (K G1) (G1) (pc + 3) (lo) (rest)) : zS p l e R s m args below meth c D aC G0 fin nL cells slots ((zpR G a t k v).bind K) (G) (pc) (lo) (.ref v :: .ref a :: rest) := fun H locs ls r hI hl hK => by
  obtain ⟨G1, hv, hk⟩ := Option.bind_eq_some_iff.mp hK
  unfold zpR at hv
  split at hv
  · rename_i hka
    cases hv
    have hok := (hI.1.2 a t 0 hka).2.2
    refine z_putW hC hI hF hnf hka (narrow_ref hty v).1 (narrow_ref hty v).2 (zk_sr G a k _) (zn_sr G a k _) zsr_other (fun j _ => ?_) ?_ hdg (fun H1 locs1 hI1 => kk _ H1 locs1 ls r hI1 hl hk)
    · rw [zsr_self, zv_sr, zval_sr, zval_ref hty]; rfl
    · rw [zv_sr]; exact hok
  · cases hv
theorem z_putFI (hC : zC p m c meth s args cc nL own D aC) {K : Hp → Option ρ} {a t k idx : Nat} {v : Int} (hv0 : zInI v) {r0 : vw_C} (hc : zcl[t]? = some r0) (hkk : k < r0.2.2) (hd : (r0.2.1 k).1 = r0.1) (hw : Cond.fieldLink own idx r0.1 (r0.2.1 k).2.1 (r0.2.1 k).2.2.1 ∈ zgood) (hnf : (r0.2.1 k).2.2.2 = true) (hdecl : (r0.2.1 k).1 = own) (hin2 : meth.name = "<init>") (hty : zty t k = .int) (hdg : decode cc pc = .ok (.putfield idx, 3)) (kk : ∀ G1 : Hp, zS p l e R s m args below meth c D aC G0 fin nL cells slots (K G1) (G1) (pc + 3) (lo) (rest)) : zS p l e R s m args below meth c D aC G0 fin nL cells slots ((zpI G a t k v).bind K) (G) (pc) (lo) (.int (zi v) :: .ref a :: rest) := fun H locs ls r hI hl hK => by
  obtain ⟨G1, hv, hk⟩ := Option.bind_eq_some_iff.mp hK
  unfold zpI at hv
  split at hv
  · rename_i hka
    cases hv
    have hok := (hI.1.2 a t 0 hka).2.2
    obtain ⟨-, ht⟩ := zcl_N t r0 hc
    refine z_putFW hC hI hc hkk hd hw hnf hdecl hin2 hka (by rw [hty]; rfl) (by rw [hty]; rfl) (zk_sv G a k v) (zn_sv G a k v) zsv_other (fun j _ => ?_) ?_ hdg (fun H1 locs1 hI1 => kk _ H1 locs1 ls r hI1 hl hk)
    · rw [zsv_self, zr_sv, zval_sv, hty]; rfl
    · rw [zsv_self]; exact zok_set hok (fun _ => by rw [hty]; exact hv0) ht
  · cases hv
theorem z_putFR (hC : zC p m c meth s args cc nL own D aC) {K : Hp → Option ρ} {a t k idx v : Nat} {r0 : vw_C} (hc : zcl[t]? = some r0) (hkk : k < r0.2.2) (hd : (r0.2.1 k).1 = r0.1) (hw : Cond.fieldLink own idx r0.1 (r0.2.1 k).2.1 (r0.2.1 k).2.2.1 ∈ zgood) (hnf : (r0.2.1 k).2.2.2 = true) (hdecl : (r0.2.1 k).1 = own) (hin2 : meth.name = "<init>") (hty : (zty t k).isReference = true) (hdg : decode cc pc = .ok (.putfield idx, 3)) (kk : ∀ G1 : Hp, zS p l e R s m args below meth c D aC G0 fin nL cells slots (K G1) (G1) (pc + 3) (lo) (rest)) : zS p l e R s m args below meth c D aC G0 fin nL cells slots ((zpR G a t k v).bind K) (G) (pc) (lo) (.ref v :: .ref a :: rest) := fun H locs ls r hI hl hK => by
  obtain ⟨G1, hv, hk⟩ := Option.bind_eq_some_iff.mp hK
  unfold zpR at hv
  split at hv
  · rename_i hka
    cases hv
    have hok := (hI.1.2 a t 0 hka).2.2
    refine z_putFW hC hI hc hkk hd hw hnf hdecl hin2 hka (narrow_ref hty v).1 (narrow_ref hty v).2 (zk_sr G a k _) (zn_sr G a k _) zsr_other (fun j _ => ?_) ?_ hdg (fun H1 locs1 hI1 => kk _ H1 locs1 ls r hI1 hl hk)
    · rw [zsr_self, zv_sr, zval_sr, zval_ref hty]; rfl
    · rw [zv_sr]; exact hok
  · cases hv
end ZG
