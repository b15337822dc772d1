/-! ===== new cells ===== -/
set_option maxRecDepth 100000 in
theorem zty_kinds : ∀ t, t < 13 → ∀ k, k < zN t → (decide (zty t k = .int) || decide (zty t k = .boolean) || decide (zty t k = .long) || (zty t k).isReference) = true := by decide +kernel
theorem zval_default {t k : Nat} (ht : t < 13) (hk : k < zN t) : defaultValue (zty t k) = zval (zty t k) 0 none ∧ zrg (zty t k) 0 := by
  have h := zty_kinds t ht k hk
  simp only [Bool.or_eq_true, decide_eq_true_eq] at h
  rcases h with ((h | h) | h) | h
  · rw [h]; exact ⟨rfl, by show zInI 0; decide⟩
  · rw [h]; exact ⟨rfl, Or.inl rfl⟩
  · rw [h]; exact ⟨rfl, by show zInL 0; decide⟩
  · rw [zval_ref h]
    refine ⟨?_, zrg_ref h 0⟩
    cases hx : zty t k <;> rw [hx] at h <;> simp [FieldType.isReference] at h <;> rfl
theorem zk_nw (G : Hp) (t n q : Nat) : zk (znw G t n) q = if q = zn G then some (t, n) else zk G q := rfl
theorem zn_nw (G : Hp) (t n : Nat) : zn (znw G t n) = zn G + 1 := rfl
theorem zv_nw (G : Hp) (t n a j : Nat) : zv (znw G t n) a j = if a = zn G then 0 else zv G a j := rfl
theorem zr_nw (G : Hp) (t n a j : Nat) : zr (znw G t n) a j = if a = zn G then none else zr G a j := rfl
theorem zI.new {D : va_G} {aC : Nat → ClassId} {G0 G : Hp} {H0 H H1 : Heap} {locs : List Loc} {t n : Nat} (h : zI D aC G0 H0 G H locs) (hkd : t < 13 ∨ 20 ≤ t ∧ t < 27) (hs : H1.size = H.size + 1) (ho : ∀ q, q < H.size → H1[q]? = H[q]?) (hat : va_at D zcl (H.size, ze aC t n (fun _ => 0) (fun _ => none)) H1) (hok : zok t n (fun _ => 0)) : zI D aC G0 H0 (znw G t n) H1 locs := by
  obtain ⟨⟨hz, hc⟩, hS, hM, hn⟩ := h
  refine ⟨⟨by rw [zn_nw, hz, hs], fun q t' n' hq => ?_⟩, ⟨Nat.le_trans hS.1 (by omega), fun q h1 h2 => (ho q (Nat.lt_of_lt_of_le h1 hS.1)).trans (hS.2.1 q h1 h2), hS.2.2⟩, ⟨by rw [zn_nw]; exact Nat.le_succ_of_le hM.1, fun q hq => ?_⟩, hn⟩
  · rw [zk_nw] at hq
    by_cases e : q = zn G
    · rw [if_pos e] at hq
      cases hq
      have e1 : zv (znw G t n) q = fun _ => 0 := funext fun j => by rw [zv_nw, if_pos e]
      have e2 : zr (znw G t n) q = fun _ => none := funext fun j => by rw [zr_nw, if_pos e]
      rw [e1, e2, e, hz]
      exact ⟨hkd, hat, hok⟩
    · rw [if_neg e] at hq
      obtain ⟨h1, h2, h3⟩ := hc q t' n' hq
      have e1 : zv (znw G t n) q = zv G q := funext fun j => by rw [zv_nw, if_neg e]
      have e2 : zr (znw G t n) q = zr G q := funext fun j => by rw [zr_nw, if_neg e]
      rw [e1, e2]
      exact ⟨h1, h2.kept (ho q h2.lt), h3⟩
  · rw [zk_nw] at hq
    by_cases e : q = zn G
    · rw [e]; exact Or.inr hM.1
    · rw [if_neg e] at hq; exact hM.2 q hq
section ZN
variable {ρ : Type} {p : Program} {l : Launch} {e : Env} {R : Room} {s : State} {m : MethodId} {args : Array Value} {below : List Frame} {meth : Method} {c : Code} {D : va_G} {aC : Nat → ClassId} {G0 G : Hp} {fin : ρ → State → Prop} {nL cells slots : Nat} {cc : ByteArray} {own : String} {pc : Nat} {lo : List (Nat × Value)} {rest : List Value}
variable {H : Heap} {locs : List Loc} {ls : Array Slot} {Q : State → Prop}
theorem z_new (hC : zC p m c meth s args cc nL own D aC) {K : Nat → Hp → Option ρ} {t idx : Nat} {r0 : vw_C} (hc : zcl[t]? = some r0) (hcl : Cond.classLink own idx r0.1 ∈ zgood) (hin : Cond.instantiable r0.1 r0.2.2 ∈ zgood) (hini : Cond.initialized r0.1 ∈ zgood) (hcells : cells + 1 ≤ R.cells) (hslots : slots + r0.2.2 ≤ R.slots) (hdg : decode cc pc = .ok (.new idx, 3)) (kk : ∀ (a : Nat) (G1 : Hp), zS p l e R s m args below meth c D aC G0 fin nL (cells + 1) (slots + r0.2.2) (K a G1) (G1) (pc + 3) (lo) (.ref a :: rest)) : zS p l e R s m args below meth c D aC G0 fin nL cells slots (zbA G t 0 K) (G) (pc) (lo) (rest) := fun H locs ls r hI hl hK => by
  obtain ⟨hx, hb, -, hown, hts, -, hKK⟩ := id hC
  obtain ⟨hNN, ht⟩ := zcl_N t r0 hc
  have hKn := hKK.1.1 t _ hc
  refine W.newcK hx hb hown (hts _ hcl) (hts _ hin) (hts _ hini) rfl hdg hcells hslots hKn.2.1 rfl fun H1 kC hkC e1 z1 o1 => ?_
  have hat : va_at D zcl (H.size, ze aC t 0 (fun _ => 0) (fun _ => none)) H1 := by
    rw [ze_obj ht]
    refine ⟨r0, hc, (u_born (zty t) hts (zwords hc) hKn hkC e1 (zcl_ty t r0 hc)).to fun k hk => ?_⟩
    have hk' : k < zN t := by rw [← hNN]; exact hk
    rw [zfs_V hk']
    exact (zval_default ht hk').1
  have hI1 := zI.new hI (Or.inl ht) z1 o1 hat ⟨by decide, fun _ k hk => (zval_default ht hk).2, fun q => by omega, fun q => by omega, fun q => by omega⟩
  have h := kk (zn G) (znw G t 0) H1 locs ls r hI1 hl hK
  rw [show zn G = H.size from hI.1.1] at h
  exact h
theorem z_newarr20 (hC : zC p m c meth s args cc nL own D aC) {K : Nat → Hp → Option ρ} {v : Int} (n : Nat) (hv : v = (n : Int)) (hn : n < 1000000) (harr : Cond.arrayClass .int ∈ zgood) (hcells : cells + 1 ≤ R.cells) (hslots : slots + n ≤ R.slots) (hdg : decode cc pc = .ok (.newarray .int, 2)) (kk : ∀ (a : Nat) (G1 : Hp), zS p l e R s m args below meth c D aC G0 fin nL (cells + 1) (slots + n) (K a G1) (G1) (pc + 2) (lo) (.ref a :: rest)) : zS p l e R s m args below meth c D aC G0 fin nL cells slots (zbA G 20 n K) (G) (pc) (lo) (.int (zi v) :: rest) := fun H locs ls r hI hl hK => by
  subst hv
  have hi : zInI (n : Int) := ⟨by omega, by omega⟩
  have hcl : (zi (n : Int)).toNatClampNeg = n := by rw [zi_clamp hi]; omega
  refine va_newaK (atype := .int) hC.1 hC.2.1 (hC.2.2.2.2.1 _ harr) rfl hdg rfl (fun q => by have := (zi_lt hi z0in).mp q; omega) hcl (by show n * componentBytes _ ≤ _; simp only [newarray.typeOf, componentBytes]; omega) hcells hslots rfl fun H1 cA e1 z1 o1 hAr hNm => ?_
  have hcA : cA = aC 20 := Option.some.inj (hNm.symm.trans ((hC.2.2.2.2.2.2.1.2 0 _ rfl).2))
  subst hcA
  have hI1 := zI.new (t := 20) (n := n) hI (Or.inr ⟨by decide, by decide⟩) z1 o1 e1 ⟨by omega, fun q => by omega, fun _ _ => z0in, fun _ _ => Or.inl rfl, fun _ _ => z0in.l⟩
  have h := kk (zn G) (znw G 20 n) H1 locs ls r hI1 hl hK
  rw [show zn G = H.size from hI.1.1] at h
  exact h
theorem z_newarr21 (hC : zC p m c meth s args cc nL own D aC) {K : Nat → Hp → Option ρ} {v : Int} (n : Nat) (hv : v = (n : Int)) (hn : n < 1000000) (harr : Cond.arrayClass .boolean ∈ zgood) (hcells : cells + 1 ≤ R.cells) (hslots : slots + n ≤ R.slots) (hdg : decode cc pc = .ok (.newarray .boolean, 2)) (kk : ∀ (a : Nat) (G1 : Hp), zS p l e R s m args below meth c D aC G0 fin nL (cells + 1) (slots + n) (K a G1) (G1) (pc + 2) (lo) (.ref a :: rest)) : zS p l e R s m args below meth c D aC G0 fin nL cells slots (zbA G 21 n K) (G) (pc) (lo) (.int (zi v) :: rest) := fun H locs ls r hI hl hK => by
  subst hv
  have hi : zInI (n : Int) := ⟨by omega, by omega⟩
  have hcl : (zi (n : Int)).toNatClampNeg = n := by rw [zi_clamp hi]; omega
  refine va_newaK (atype := .boolean) hC.1 hC.2.1 (hC.2.2.2.2.1 _ harr) rfl hdg rfl (fun q => by have := (zi_lt hi z0in).mp q; omega) hcl (by show n * componentBytes _ ≤ _; simp only [newarray.typeOf, componentBytes]; omega) hcells hslots rfl fun H1 cA e1 z1 o1 hAr hNm => ?_
  have hcA : cA = aC 21 := Option.some.inj (hNm.symm.trans ((hC.2.2.2.2.2.2.1.2 1 _ rfl).2))
  subst hcA
  have hI1 := zI.new (t := 21) (n := n) hI (Or.inr ⟨by decide, by decide⟩) z1 o1 e1 ⟨by omega, fun q => by omega, fun _ _ => z0in, fun _ _ => Or.inl rfl, fun _ _ => z0in.l⟩
  have h := kk (zn G) (znw G 21 n) H1 locs ls r hI1 hl hK
  rw [show zn G = H.size from hI.1.1] at h
  exact h
theorem z_newarr22 (hC : zC p m c meth s args cc nL own D aC) {K : Nat → Hp → Option ρ} {v : Int} (n : Nat) (hv : v = (n : Int)) (hn : n < 1000000) (harr : Cond.arrayClass .long ∈ zgood) (hcells : cells + 1 ≤ R.cells) (hslots : slots + n ≤ R.slots) (hdg : decode cc pc = .ok (.newarray .long, 2)) (kk : ∀ (a : Nat) (G1 : Hp), zS p l e R s m args below meth c D aC G0 fin nL (cells + 1) (slots + n) (K a G1) (G1) (pc + 2) (lo) (.ref a :: rest)) : zS p l e R s m args below meth c D aC G0 fin nL cells slots (zbA G 22 n K) (G) (pc) (lo) (.int (zi v) :: rest) := fun H locs ls r hI hl hK => by
  subst hv
  have hi : zInI (n : Int) := ⟨by omega, by omega⟩
  have hcl : (zi (n : Int)).toNatClampNeg = n := by rw [zi_clamp hi]; omega
  refine va_newaK (atype := .long) hC.1 hC.2.1 (hC.2.2.2.2.1 _ harr) rfl hdg rfl (fun q => by have := (zi_lt hi z0in).mp q; omega) hcl (by show n * componentBytes _ ≤ _; simp only [newarray.typeOf, componentBytes]; omega) hcells hslots rfl fun H1 cA e1 z1 o1 hAr hNm => ?_
  have hcA : cA = aC 22 := Option.some.inj (hNm.symm.trans ((hC.2.2.2.2.2.2.1.2 2 _ rfl).2))
  subst hcA
  have hI1 := zI.new (t := 22) (n := n) hI (Or.inr ⟨by decide, by decide⟩) z1 o1 e1 ⟨by omega, fun q => by omega, fun _ _ => z0in, fun _ _ => Or.inl rfl, fun _ _ => z0in.l⟩
  have h := kk (zn G) (znw G 22 n) H1 locs ls r hI1 hl hK
  rw [show zn G = H.size from hI.1.1] at h
  exact h
theorem z_anew23 (hC : zC p m c meth s args cc nL own D aC) {K : Nat → Hp → Option ρ} {v : Int} {idx : Nat} (n : Nat) (hv : v = (n : Int)) (hn : n < 1000000) (hcl : Cond.classLink own idx "BreadLands$Shop" ∈ zgood) (hcells : cells + 1 ≤ R.cells) (hslots : slots + n ≤ R.slots) (hdg : decode cc pc = .ok (.anewarray idx, 3)) (kk : ∀ (a : Nat) (G1 : Hp), zS p l e R s m args below meth c D aC G0 fin nL (cells + 1) (slots + n) (K a G1) (G1) (pc + 3) (lo) (.ref a :: rest)) : zS p l e R s m args below meth c D aC G0 fin nL cells slots (zbA G 23 n K) (G) (pc) (lo) (.int (zi v) :: rest) := fun H locs ls r hI hl hK => by
  subst hv
  have hi : zInI (n : Int) := ⟨by omega, by omega⟩
  have hc0 : (zi (n : Int)).toNatClampNeg = n := by rw [zi_clamp hi]; omega
  refine W.anew hC.1 hC.2.1 hC.2.2.2.1 (hC.2.2.2.2.1 _ hcl) (va_AO.use hC.2.2.2.2.2.2.2.2.1) rfl hdg rfl (fun q => by have := (zi_lt hi z0in).mp q; omega) (by rw [hc0]; omega) hcells (by rw [hc0]; exact hslots) fun cA kA comp f1 f2 f3 f4 => ?_
  rw [hc0]
  obtain ⟨-, -, -, -, -, g4⟩ := (hC.2.2.2.2.2.2.1.2 3 _ rfl).2
  have hcA : cA = aC 23 := Option.some.inj (f1.symm.trans g4)
  subst hcA
  generalize hH1 : H.push ({ cls := aC 23, slots := Array.replicate n .null, vm := .none } : Cell) = H1
  have z1 : H1.size = H.size + 1 := by rw [← hH1, Array.size_push]
  have e1 : H1[H.size]? = some (arrV (aC 23) n (fun _ => .null)) := by rw [← hH1, Array.getElem?_push_size, ← arrV_new]
  have o1 : ∀ q : Nat, q < H.size → H1[q]? = H[q]? := fun q hq => by rw [← hH1, Array.getElem?_push, if_neg (Nat.ne_of_lt hq)]
  have hI1 := zI.new (t := 23) (n := n) hI (Or.inr ⟨by decide, by decide⟩) z1 o1 (by rw [ze_refs (by decide)]; exact e1) ⟨by omega, fun q => by omega, fun q => by omega, fun q => by omega, fun q => by omega⟩
  have h := kk (zn G) (znw G 23 n) H1 locs ls r hI1 hl hK
  rw [show zn G = H.size from hI.1.1] at h
  exact h
theorem z_anew24 (hC : zC p m c meth s args cc nL own D aC) {K : Nat → Hp → Option ρ} {v : Int} {idx : Nat} (n : Nat) (hv : v = (n : Int)) (hn : n < 1000000) (hcl : Cond.classLink own idx "BreadLands$Month" ∈ zgood) (hcells : cells + 1 ≤ R.cells) (hslots : slots + n ≤ R.slots) (hdg : decode cc pc = .ok (.anewarray idx, 3)) (kk : ∀ (a : Nat) (G1 : Hp), zS p l e R s m args below meth c D aC G0 fin nL (cells + 1) (slots + n) (K a G1) (G1) (pc + 3) (lo) (.ref a :: rest)) : zS p l e R s m args below meth c D aC G0 fin nL cells slots (zbA G 24 n K) (G) (pc) (lo) (.int (zi v) :: rest) := fun H locs ls r hI hl hK => by
  subst hv
  have hi : zInI (n : Int) := ⟨by omega, by omega⟩
  have hc0 : (zi (n : Int)).toNatClampNeg = n := by rw [zi_clamp hi]; omega
  refine W.anew hC.1 hC.2.1 hC.2.2.2.1 (hC.2.2.2.2.1 _ hcl) (va_AO.use hC.2.2.2.2.2.2.2.2.2.1) rfl hdg rfl (fun q => by have := (zi_lt hi z0in).mp q; omega) (by rw [hc0]; omega) hcells (by rw [hc0]; exact hslots) fun cA kA comp f1 f2 f3 f4 => ?_
  rw [hc0]
  obtain ⟨-, -, -, -, -, g4⟩ := (hC.2.2.2.2.2.2.1.2 4 _ rfl).2
  have hcA : cA = aC 24 := Option.some.inj (f1.symm.trans g4)
  subst hcA
  generalize hH1 : H.push ({ cls := aC 24, slots := Array.replicate n .null, vm := .none } : Cell) = H1
  have z1 : H1.size = H.size + 1 := by rw [← hH1, Array.size_push]
  have e1 : H1[H.size]? = some (arrV (aC 24) n (fun _ => .null)) := by rw [← hH1, Array.getElem?_push_size, ← arrV_new]
  have o1 : ∀ q : Nat, q < H.size → H1[q]? = H[q]? := fun q hq => by rw [← hH1, Array.getElem?_push, if_neg (Nat.ne_of_lt hq)]
  have hI1 := zI.new (t := 24) (n := n) hI (Or.inr ⟨by decide, by decide⟩) z1 o1 (by rw [ze_refs (by decide)]; exact e1) ⟨by omega, fun q => by omega, fun q => by omega, fun q => by omega, fun q => by omega⟩
  have h := kk (zn G) (znw G 24 n) H1 locs ls r hI1 hl hK
  rw [show zn G = H.size from hI.1.1] at h
  exact h
theorem z_anew25 (hC : zC p m c meth s args cc nL own D aC) {K : Nat → Hp → Option ρ} {v : Int} {idx : Nat} (n : Nat) (hv : v = (n : Int)) (hn : n < 1000000) (hcl : Cond.classLink own idx "BreadLands$Text" ∈ zgood) (hcells : cells + 1 ≤ R.cells) (hslots : slots + n ≤ R.slots) (hdg : decode cc pc = .ok (.anewarray idx, 3)) (kk : ∀ (a : Nat) (G1 : Hp), zS p l e R s m args below meth c D aC G0 fin nL (cells + 1) (slots + n) (K a G1) (G1) (pc + 3) (lo) (.ref a :: rest)) : zS p l e R s m args below meth c D aC G0 fin nL cells slots (zbA G 25 n K) (G) (pc) (lo) (.int (zi v) :: rest) := fun H locs ls r hI hl hK => by
  subst hv
  have hi : zInI (n : Int) := ⟨by omega, by omega⟩
  have hc0 : (zi (n : Int)).toNatClampNeg = n := by rw [zi_clamp hi]; omega
  refine W.anew hC.1 hC.2.1 hC.2.2.2.1 (hC.2.2.2.2.1 _ hcl) (va_AO.use hC.2.2.2.2.2.2.2.2.2.2.1) rfl hdg rfl (fun q => by have := (zi_lt hi z0in).mp q; omega) (by rw [hc0]; omega) hcells (by rw [hc0]; exact hslots) fun cA kA comp f1 f2 f3 f4 => ?_
  rw [hc0]
  obtain ⟨-, -, -, -, -, g4⟩ := (hC.2.2.2.2.2.2.1.2 5 _ rfl).2
  have hcA : cA = aC 25 := Option.some.inj (f1.symm.trans g4)
  subst hcA
  generalize hH1 : H.push ({ cls := aC 25, slots := Array.replicate n .null, vm := .none } : Cell) = H1
  have z1 : H1.size = H.size + 1 := by rw [← hH1, Array.size_push]
  have e1 : H1[H.size]? = some (arrV (aC 25) n (fun _ => .null)) := by rw [← hH1, Array.getElem?_push_size, ← arrV_new]
  have o1 : ∀ q : Nat, q < H.size → H1[q]? = H[q]? := fun q hq => by rw [← hH1, Array.getElem?_push, if_neg (Nat.ne_of_lt hq)]
  have hI1 := zI.new (t := 25) (n := n) hI (Or.inr ⟨by decide, by decide⟩) z1 o1 (by rw [ze_refs (by decide)]; exact e1) ⟨by omega, fun q => by omega, fun q => by omega, fun q => by omega, fun q => by omega⟩
  have h := kk (zn G) (znw G 25 n) H1 locs ls r hI1 hl hK
  rw [show zn G = H.size from hI.1.1] at h
  exact h
theorem zk_nw2 (G : Hp) (n k q : Nat) : zk (znw2 G n k) q = if q = zn G then some (26, n) else if zn G < q ∧ q ≤ zn G + n then some (20, k) else zk G q := rfl
theorem zn_nw2 (G : Hp) (n k : Nat) : zn (znw2 G n k) = zn G + 1 + n := rfl
theorem zv_nw2 (G : Hp) (n k a j : Nat) : zv (znw2 G n k) a j = if zn G ≤ a then 0 else zv G a j := rfl
theorem zr_nw2 (G : Hp) (n k a j : Nat) : zr (znw2 G n k) a j = if a = zn G then (if j < n then some (zn G + 1 + j) else none) else if zn G < a then none else zr G a j := rfl
theorem zouter (c0 : ClassId) (N h0 : Nat) : ∀ i : Nat, Jvm.Free.Multi.outerC c0 N h0 i = arrV c0 N (fun j => va_rf (if j < i then some (h0 + 1 + j) else none))
  | 0 => by
    show ({ cls := c0, slots := Array.replicate N .null, vm := .none } : Cell) = _
    rw [arrV_new]
    exact congrArg (arrV c0 N) (funext fun j => by simp [va_rf])
  | i + 1 => by
    show (Jvm.Free.Multi.outerC c0 N h0 i).setSlot i (.ref (h0 + 1 + i)) = _
    rw [zouter c0 N h0 i, arrV_store]
    refine congrArg (arrV c0 N) (funext fun j => ?_)
    unfold updV
    by_cases e : j = i
    · subst e
      rw [if_pos rfl, if_pos (Nat.lt_succ_self j)]
      rfl
    · rw [if_neg e]
      show va_rf (if j < i then some (h0 + 1 + j) else none) = _
      by_cases h : j < i
      · rw [if_pos h, if_pos (Nat.lt_succ_of_lt h)]
      · rw [if_neg h, if_neg (by omega)]
theorem z_multi (hC : zC p m c meth s args cc nL own D aC) {K : Nat → Hp → Option ρ} {v w : Int} {idx : Nat} (n k : Nat) (hv : v = (n : Int)) (hw : w = (k : Int)) (hn : n < 1000) (hk : k < 1000) (hcl : Cond.classLink own idx ("[" ++ (FieldType.array .int).toString) ∈ zgood) (harr : Cond.arrayClass .int ∈ zgood) (hcells : cells + (1 + n) ≤ R.cells) (hslots : slots + (n + n * k) ≤ R.slots) (hdg : decode cc pc = .ok (.multianewarray idx 2, 4)) (kk : ∀ (a : Nat) (G1 : Hp), zS p l e R s m args below meth c D aC G0 fin nL (cells + 1 + n) (slots + n + n * k) (K a G1) (G1) (pc + 4) (lo) (.ref a :: rest)) : zS p l e R s m args below meth c D aC G0 fin nL cells slots (zbM G n k K) (G) (pc) (lo) (.int (zi w) :: .int (zi v) :: rest) := fun H locs ls r hI hl hK => by
  subst hv
  subst hw
  have hi : zInI (n : Int) := ⟨by omega, by omega⟩
  have hi2 : zInI (k : Int) := ⟨by omega, by omega⟩
  have hc0 : (zi (n : Int)).toNatClampNeg = n := by rw [zi_clamp hi]; omega
  have hc2 : (zi (k : Int)).toNatClampNeg = k := by rw [zi_clamp hi2]; omega
  intro T hT Xs
  obtain ⟨vm₁, cA, comp, -, fA, fC, hO, -, X', step⟩ := Xs.multianewarray2F hC.1 hC.2.2.2.1 (hC.2.2.2.2.1 _ hcl) (show (Cond.arrayOver (.array .int)).before args s = true from hC.2.2.2.2.2.2.2.2.2.2.2) (hC.2.2.2.2.1 _ harr) (g := F0 m pc ls (.int (zi (k : Int)) :: .int (zi (n : Int)) :: rest)) rfl (by rw [hC.2.1]; exact hdg) rfl (fun q => by have := (zi_lt hi z0in).mp q; omega) (fun q => by have := (zi_lt hi2 z0in).mp q; omega) (by rw [hc0]; omega) (by rw [hc2]; show k * componentBytes _ ≤ _; simp only [componentBytes]; omega) (by rw [hc2]; omega) rfl rfl (by rw [hc0]; exact hcells) (by rw [hc0, hc2]; exact hslots)
  rw [hc0, hc2] at X' step
  have e26 : cA = aC 26 := Option.some.inj (fA.symm.trans ((hC.2.2.2.2.2.2.1.2 6 _ rfl).2))
  have e20 : comp = aC 20 := Option.some.inj (fC.symm.trans ((hC.2.2.2.2.2.2.1.2 0 _ rfl).2))
  subst e26
  subst e20
  generalize hF : Jvm.Free.Multi.fill (T.setVm vm₁) (aC 26) (aC 20) n k (defaultValue .int) n = F at X' step
  have hTh : (T.setVm vm₁).heap = H := hT
  obtain ⟨f1, f2, -, -⟩ := Jvm.Free.Multi.fill_facts (T.setVm vm₁) (aC 26) (aC 20) n k (defaultValue .int) n
  rw [hF, hTh] at f1 f2
  have hold : ∀ x : Nat, x < H.size → F.heap[x]? = H[x]? := fun x hx => by
    have := Jvm.Free.Multi.fill_old (T.setVm vm₁) (aC 26) (aC 20) n k (defaultValue .int) (a := x) (by rw [hTh]; exact hx) n
    rw [hF, hTh] at this
    exact this
  have hrow : ∀ j : Nat, j < n → F.heap[H.size + 1 + j]? = some (arrV (aC 20) k (fun _ => .int (zi 0))) := fun j hj => by
    have := Jvm.Free.Multi.fill_inner (T.setVm vm₁) (aC 26) (aC 20) n k (defaultValue .int) n j hj
    rw [hF, hTh] at this
    rw [this]
    show some ({ cls := aC 20, slots := Array.replicate k (defaultValue .int), vm := .none } : Cell) = _
    rw [arrV_new]
    rfl
  rw [zouter] at f2
  have hz : zn G = H.size := hI.1.1
  have hI1 : zI D aC G0 s.heap (znw2 G n k) F.heap locs := by
    obtain ⟨⟨-, hc⟩, hS, hM, hn0⟩ := hI
    refine ⟨⟨by rw [zn_nw2, f1, hz], fun q t' n' hq => ?_⟩, ⟨by rw [f1]; have := hS.1; omega, fun q h1 h2 => (hold q (Nat.lt_of_lt_of_le h1 hS.1)).trans (hS.2.1 q h1 h2), hS.2.2⟩, ⟨by rw [zn_nw2]; have := hM.1; omega, fun q hq => ?_⟩, hn0⟩
    · rw [zk_nw2] at hq
      by_cases e : q = zn G
      · rw [if_pos e] at hq
        cases hq
        refine ⟨Or.inr ⟨by decide, by decide⟩, ?_, ⟨by omega, fun q => by omega, fun q => by omega, fun q => by omega, fun q => by omega⟩⟩
        rw [ze_refs (by decide), e, hz]
        show F.heap[H.size]? = some (arrV (aC 26) n (fun j => va_rf (zr (znw2 G n k) H.size j)))
        rw [f2]
        congr 2
        funext j
        rw [zr_nw2, if_pos hz.symm, hz]
      · rw [if_neg e] at hq
        by_cases e2 : zn G < q ∧ q ≤ zn G + n
        · rw [if_pos e2] at hq
          cases hq
          have e3 : zv (znw2 G n k) q = fun _ => 0 := funext fun j => by rw [zv_nw2, if_pos (Nat.le_of_lt e2.1)]
          refine ⟨Or.inr ⟨by decide, by decide⟩, ?_, ⟨by omega, fun q => by omega, fun _ j => by rw [e3]; exact z0in, fun q => by omega, fun q => by omega⟩⟩
          have h := hrow (q - (H.size + 1)) (by omega)
          rw [show H.size + 1 + (q - (H.size + 1)) = q by omega] at h
          show F.heap[q]? = some (arrV (aC 20) k (fun j => .int (zi (zv (znw2 G n k) q j))))
          rw [h, e3]
        · rw [if_neg e2] at hq
          obtain ⟨h1, h2, h3⟩ := hc q t' n' hq
          have hlt := h2.lt
          have hlt' : q < H.size := hlt
          have e3 : zv (znw2 G n k) q = zv G q := funext fun j => by rw [zv_nw2, if_neg (by omega)]
          have e4 : zr (znw2 G n k) q = zr G q := funext fun j => by rw [zr_nw2, if_neg e, if_neg (by omega)]
          rw [e3, e4]
          exact ⟨h1, h2.kept (hold q hlt'), h3⟩
    · by_cases e : zn G ≤ q
      · exact Or.inr (Nat.le_trans hM.1 e)
      · rw [zk_nw2, if_neg (by omega), if_neg (by omega)] at hq
        exact hM.2 q hq
  obtain ⟨t, a1, b1⟩ := kk (zn G) (znw2 G n k) F.heap locs ls r hI1 hl hK F rfl X'
  refine ⟨t, step t ?_, b1⟩
  have e : T.heap.size = H.size := by rw [hT]
  rw [e, ← hz]
  exact a1
end ZN
