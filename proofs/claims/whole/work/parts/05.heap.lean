/-! ===== kinds, cells, what the tables say ===== -/
def zty : Nat → Nat → FieldType := fun t => match t with
  | 0 => tyX0 | 1 => tyX1 | 2 => tyX2 | 3 => tyX3 | 4 => tyX4 | 5 => tyX5 | 6 => tyX6 | 7 => tyX7 | 8 => tyX8 | 9 => tyX9 | 10 => tyX10 | 11 => tyX11 | _ => tyX12
def zcl : List vw_C := [(RX0, TX0, 3), (RX1, TX1, 3), (RX2, TX2, 6), (RX3, TX3, 7), (RX4, TX4, 9), (RX5, TX5, 9), (RX6, TX6, 6), (RX7, TX7, 15), (RX8, TX8, 14), (RX9, TX9, 5), (RX10, TX10, 6), (RX11, TX11, 9), (RX12, TX12, 60)]
def zN : Nat → Nat := fun t => match t with
  | 0 => 3 | 1 => 3 | 2 => 6 | 3 => 7 | 4 => 9 | 5 => 9 | 6 => 6 | 7 => 15 | 8 => 14 | 9 => 5 | 10 => 6 | 11 => 9 | _ => 60
def zval (ty : FieldType) (z : Int) (r : Option Nat) : Value := match ty with
  | .int => .int (zi z)
  | .boolean => .int (zi z)
  | .long => .long (zl z)
  | _ => va_rf r
def zrg (ty : FieldType) (z : Int) : Prop := match ty with
  | .int => zInI z
  | .boolean => z = 0 ∨ z = 1
  | .long => zInL z
  | _ => True
def zfs (t : Nat) (f : Nat → Int) (g : Nat → Option Nat) : List Value := (List.range (zN t)).map fun k => zval (zty t k) (f k) (g k)
def ze (aC : Nat → ClassId) (t n : Nat) (f : Nat → Int) (g : Nat → Option Nat) : va_E :=
  if t < 13 then .inr (t, zfs t f g)
  else if t = 20 ∨ t = 21 then .inl (aC t, n, .inl fun j => zi (f j))
  else if t = 22 then .inl (aC t, n, .inr (.inl fun j => zl (f j)))
  else .inl (aC t, n, .inr (.inr (.inr (.inr g))))
def zok (t n : Nat) (f : Nat → Int) : Prop := n < 2147483648 ∧ (t < 13 → ∀ k, k < zN t → zrg (zty t k) (f k)) ∧ (t = 20 → ∀ j, zInI (f j)) ∧ (t = 21 → ∀ j, f j = 0 ∨ f j = 1) ∧ (t = 22 → ∀ j, zInL (f j))
def zH (D : va_G) (aC : Nat → ClassId) (G : Hp) (H : Heap) : Prop := zn G = H.size ∧ ∀ q t n, zk G q = some (t, n) → (t < 13 ∨ 20 ≤ t ∧ t < 27) ∧ va_at D zcl (q, ze aC t n (zv G q) (zr G q)) H ∧ zok t n (zv G q)
def ztys (aC : Nat → ClassId) : List (ClassId × FieldType) := [(aC 20, .int), (aC 21, .boolean), (aC 22, .long), (aC 23, .object "BreadLands$Shop"), (aC 24, .object "BreadLands$Month"), (aC 25, .object "BreadLands$Text"), (aC 26, .array .int)]
def zisN : Cond → Bool
  | .fieldLinkNest .. => true
  | .methodLinkNest .. => true
  | _ => false
def znest : List Cond := tables_1.filter zisN
def zgood : List Cond := lw_tbl.filter goodWord
def zNs (U : State) : Prop := ∀ w ∈ znest, va_Nw w U
def zAA (U : State) : Prop := (Cond.arrayOver (.array .int)).before #[] U = true
def zK (D : va_G) (aC : Nat → ClassId) (U : State) : Prop := va_K D zcl (ztys aC) U ∧ zNs U ∧ (va_AO "BreadLands$Shop" U ∧ va_AO "BreadLands$Month" U ∧ va_AO "BreadLands$Text" U ∧ zAA U)
def zU (D : va_G) (aC : Nat → ClassId) (G : Hp) (U : State) : Prop := zK D aC U ∧ zH D aC G U.heap
def zA (G : Hp) (q : Nat) : Prop := zk G q ≠ none ∨ zn G ≤ q
def zM (G0 G : Hp) : Prop := zn G0 ≤ zn G ∧ ∀ q, zk G q ≠ none → zA G0 q
def zI (D : va_G) (aC : Nat → ClassId) (G0 : Hp) (H0 : Heap) (G : Hp) (H : Heap) (locs : List Loc) : Prop := zH D aC G H ∧ va_S (zA G0) H0 H locs ∧ zM G0 G ∧ zn G0 = H0.size
def zC (p : Program) (m : MethodId) (c : Code) (meth : Method) (s : State) (args : Array Value) (cc : ByteArray) (nL : Nat) (own : String) (D : va_G) (aC : Nat → ClassId) : Prop :=
  p.tables.exec = Jvm.exec ∧ c.code = cc ∧ c.maxLocals = nL ∧ s.vm.findClass own = some m.cls ∧ (∀ w ∈ zgood, w.before args s = true) ∧ meth.locks = false ∧ zK D aC s
def zS {ρ : Type} (p : Program) (l : Launch) (e : Env) (R : Room) (s : State) (m : MethodId) (args : Array Value) (below : List Frame) (meth : Method) (c : Code) (D : va_G) (aC : Nat → ClassId) (G0 : Hp) (fin : ρ → State → Prop) (nL cells slots : Nat) (K : Option ρ) (G : Hp) (pc : Nat) (lo : List (Nat × Value)) (st : List Value) : Prop :=
  ∀ (H : Heap) (locs : List Loc) (ls : Array Slot) (r : ρ), zI D aC G0 s.heap G H locs → lv_has ls nL lo → K = some r → W p l e R s m args below meth c H locs cells slots (fin r) (F0 m pc ls st)
/-- a method's end: what it answers, the heap behind it -/
def zQ (D : va_G) (aC : Nat → ClassId) (G0 : Hp) (I : Prop) (w : Option Value) (G1 : Hp) : Array Value → State → Outcome → State → Prop := fun _ st oc t => I ∧ oc = .returned w ∧ zH D aC G1 t.heap ∧ zM G0 G1 ∧ va_F (zA G0) st t
def zfin (D : va_G) (aC : Nat → ClassId) (G0 : Hp) (below : List Frame) (args : Array Value) (s : State) (mc ms : Nat) (I : Prop) (w : Option Value) (G1 : Hp) : State → Prop := MQ below (zQ D aC G0 I w G1) args s mc ms (zA G0)
def zfI (D : va_G) (aC : Nat → ClassId) (G0 : Hp) (below : List Frame) (args : Array Value) (s : State) (mc ms : Nat) (r : Int × Hp) : State → Prop := zfin D aC G0 below args s mc ms (zInI r.1) (some (.int (zi r.1))) r.2
def zfZ (D : va_G) (aC : Nat → ClassId) (G0 : Hp) (below : List Frame) (args : Array Value) (s : State) (mc ms : Nat) (r : Int × Hp) : State → Prop := zfin D aC G0 below args s mc ms (zIn01 r.1) (some (.int (zi r.1))) r.2
def zfL (D : va_G) (aC : Nat → ClassId) (G0 : Hp) (below : List Frame) (args : Array Value) (s : State) (mc ms : Nat) (r : Int × Hp) : State → Prop := zfin D aC G0 below args s mc ms (zInL r.1) (some (.long (zl r.1))) r.2
def zfA (D : va_G) (aC : Nat → ClassId) (G0 : Hp) (below : List Frame) (args : Array Value) (s : State) (mc ms : Nat) (r : Option Nat × Hp) : State → Prop := zfin D aC G0 below args s mc ms True (some (va_rf r.1)) r.2
def zfV (D : va_G) (aC : Nat → ClassId) (G0 : Hp) (below : List Frame) (args : Array Value) (s : State) (mc ms : Nat) (r : Unit × Hp) : State → Prop := zfin D aC G0 below args s mc ms True none r.2
/-! ===== facts of them ===== -/
theorem zgood_in {w : Cond} (i : Nat) (h : lw_tbl[i]? = some w) (hg : goodWord w = true) : w ∈ zgood := List.mem_filter.mpr ⟨List.mem_of_getElem? h, hg⟩
theorem znest_in {w : Cond} (i : Nat) (h : tables_1[i]? = some w) (hg : zisN w = true) : w ∈ znest := List.mem_filter.mpr ⟨List.mem_of_getElem? h, hg⟩
theorem zgood_good : GoodIn zgood zgood := fun w hw => ⟨hw, good_of_word (List.mem_filter.mp hw).2⟩
theorem zgood_cons {w : Cond} (h : w ∈ zgood) : GoodIn zgood (w :: zgood) := fun v hv => by
  rcases List.mem_cons.mp hv with e | e
  · rw [e]; exact zgood_good w h
  · exact zgood_good v e
theorem zNs.warm {s U : State} (hW : s.WarmedH U.vm) (h : zNs s) : zNs U := fun w hw => by
  have h1 := h w hw
  have h2 := (List.mem_filter.mp hw).2
  cases w <;> first | (simp [zisN] at h2; done) | exact va_Nw.warmF hW h1 | exact va_Nw.warmM hW h1
theorem zNs.same {s U : State} (hv : s.vm = U.vm) (h : zNs s) : zNs U := fun w hw => by
  have h1 := h w hw
  have h2 := (List.mem_filter.mp hw).2
  cases w <;> first | (simp [zisN] at h2; done) | exact va_Nw.same rfl hv h1
theorem zAA.moved {u U : State} (hvm : u.vm.Alike U.vm) (h : zAA u) : zAA U := by
  unfold zAA Cond.before Cond.holds at h ⊢
  simp only [Cond.value] at h ⊢
  rw [hvm.findClass, hvm.findClass]
  cases hc : u.vm.findClass (FieldType.array FieldType.int).toString with
  | none => rw [hc] at h; simp at h
  | some comp =>
    rw [hc] at h
    rw [Option.bind_some] at h ⊢
    rw [hvm.findIdx?_eqK _ (fun _ => rfl)]
    revert h
    generalize (Array.findIdx? _ u.vm.classes) = o
    intro h
    cases o with
    | none => simp at h
    | some c =>
      simp only [Option.bind_some] at h ⊢
      cases hk : u.vm.classes[c]? with
      | none => rw [hk] at h; simp at h
      | some k =>
        obtain ⟨k', hk', he⟩ := hvm.2.2 _ _ hk
        rw [hk] at h
        rw [hk']
        simp only [Option.map_some] at h ⊢
        rw [he]
        exact h
theorem zK.warm {D : va_G} {aC : Nat → ClassId} {s U : State} (hW : s.WarmedH U.vm) (h : zK D aC s) : zK D aC U :=
  ⟨va_K.moved hW.alike h.1, zNs.warm hW h.2.1, h.2.2.1.moved hW.alike, h.2.2.2.1.moved hW.alike, h.2.2.2.2.1.moved hW.alike, h.2.2.2.2.2.moved hW.alike⟩
theorem zU.blind {D : va_G} {aC : Nat → ClassId} {G : Hp} {As : List Value} : FrameBlind (va_Pc As (zU D aC G)) := fun a U g mk h =>
  ⟨h.1, ⟨va_K.moved (u := U) (U := U.calling g mk a) (Vm.Alike.refl U.vm) h.2.1.1, zNs.same (s := U) (U := U.calling g mk a) rfl h.2.1.2.1, h.2.1.2.2.1.moved (U := U.calling g mk a) (Vm.Alike.refl U.vm), h.2.1.2.2.2.1.moved (U := U.calling g mk a) (Vm.Alike.refl U.vm), h.2.1.2.2.2.2.1.moved (U := U.calling g mk a) (Vm.Alike.refl U.vm), h.2.1.2.2.2.2.2.moved (U := U.calling g mk a) (Vm.Alike.refl U.vm)⟩, h.2.2⟩
theorem zM.rf (G : Hp) : zM G G := ⟨Nat.le_refl _, fun _ h => Or.inl h⟩
theorem zA.mono {G0 G : Hp} (h : zM G0 G) {q : Nat} (hq : zA G q) : zA G0 q := by
  rcases hq with hq | hq
  · exact h.2 q hq
  · exact Or.inr (Nat.le_trans h.1 hq)
theorem zM.tr {G0 G1 G2 : Hp} (h : zM G0 G1) (h2 : zM G1 G2) : zM G0 G2 := ⟨Nat.le_trans h.1 h2.1, fun q hq => zA.mono h (h2.2 q hq)⟩
theorem zM.same {G0 G1 G2 : Hp} (h : zM G0 G1) (hk : zk G2 = zk G1) (hn : zn G2 = zn G1) : zM G0 G2 := ⟨by rw [hn]; exact h.1, fun q hq => h.2 q (by rw [← hk]; exact hq)⟩
theorem zI.start {D : va_G} {aC : Nat → ClassId} {G : Hp} {H : Heap} (h : zH D aC G H) : zI D aC G H G H [] := ⟨h, va_S.rf, zM.rf G, h.1⟩
theorem zI.A {D : va_G} {aC : Nat → ClassId} {G0 G : Hp} {H0 H : Heap} {locs : List Loc} (h : zI D aC G0 H0 G H locs) {q : Nat} (hq : zk G q ≠ none) : zA G0 q := h.2.2.1.2 q hq
theorem zH.lt {D : va_G} {aC : Nat → ClassId} {G : Hp} {H : Heap} (h : zH D aC G H) {q : Nat} {x : Nat × Nat} (hq : zk G q = some x) : q < zn G := by
  have := (h.2 q x.1 x.2 hq).2.1.lt
  rw [h.1]; exact this
theorem zP1 {D : va_G} {cl : List vw_C} {q : Nat × va_E} {H : Heap} (h : va_at D cl q H) : va_P D cl [q] H := fun k x hx => by
  have hz : k < 1 := (List.getElem?_eq_some_iff.mp hx).1
  rw [show k = 0 by omega] at hx
  cases hx
  exact h
/-- one cell changed -/
theorem zH.upd {D : va_G} {aC : Nat → ClassId} {G G' : Hp} {H H' : Heap} {a t n : Nat} (h : zH D aC G H) (ha : zk G a = some (t, n)) (hk : zk G' = zk G) (hn : zn G' = zn G) (hs : H'.size = H.size) (ho : ∀ q, q ≠ a → H'[q]? = H[q]?) (hv : ∀ q, q ≠ a → zv G' q = zv G q ∧ zr G' q = zr G q) (hat : va_at D zcl (a, ze aC t n (zv G' a) (zr G' a)) H') (hok : zok t n (zv G' a)) : zH D aC G' H' := by
  refine ⟨by rw [hn, hs]; exact h.1, fun q t' n' hq => ?_⟩
  rw [hk] at hq
  by_cases e : q = a
  · subst e
    rw [ha] at hq
    cases hq
    exact ⟨(h.2 q t n ha).1, hat, hok⟩
  · obtain ⟨h1, h2, h3⟩ := h.2 q t' n' hq
    obtain ⟨e1, e2⟩ := hv q e
    rw [e1, e2]
    exact ⟨h1, h2.kept (ho q e), h3⟩
theorem zI.upd {D : va_G} {aC : Nat → ClassId} {G0 G G' : Hp} {H0 H H' : Heap} {locs : List Loc} {a t n j : Nat} (h : zI D aC G0 H0 G H locs) (ha : zk G a = some (t, n)) (hk : zk G' = zk G) (hn : zn G' = zn G) (hs : H'.size = H.size) (ho : ∀ q, q ≠ a → H'[q]? = H[q]?) (hv : ∀ q, q ≠ a → zv G' q = zv G q ∧ zr G' q = zr G q) (hat : va_at D zcl (a, ze aC t n (zv G' a) (zr G' a)) H') (hok : zok t n (zv G' a)) : zI D aC G0 H0 G' H' (locs ++ [⟨a, j⟩]) :=
  ⟨zH.upd h.1 ha hk hn hs ho hv hat hok, h.2.1.put hs ho (h.A (by rw [ha]; exact fun q => by cases q)), h.2.2.1.same hk hn, h.2.2.2⟩
theorem zsv_other {G : Hp} {a k : Nat} {v : Int} : ∀ q, q ≠ a → zv (zsv G a k v) q = zv G q ∧ zr (zsv G a k v) q = zr G q := fun q hq => ⟨funext fun j => by rw [zv_sv, if_neg (fun z => hq z.1)], rfl⟩
theorem zsr_other {G : Hp} {a k : Nat} {v : Option Nat} : ∀ q, q ≠ a → zv (zsr G a k v) q = zv G q ∧ zr (zsr G a k v) q = zr G q := fun q hq => ⟨rfl, funext fun j => by rw [zr_sr, if_neg (fun z => hq z.1)]⟩
theorem zsv_self {G : Hp} {a k : Nat} {v : Int} : zv (zsv G a k v) a = fun j => if j = k then v else zv G a j := funext fun j => by rw [zv_sv]; simp
theorem zsr_self {G : Hp} {a k : Nat} {v : Option Nat} : zr (zsr G a k v) a = fun j => if j = k then v else zr G a j := funext fun j => by rw [zr_sr]; simp
theorem ze_obj {aC : Nat → ClassId} {t n : Nat} {f : Nat → Int} {g : Nat → Option Nat} (h : t < 13) : ze aC t n f g = .inr (t, zfs t f g) := if_pos h
theorem zfs_at {t : Nat} {f : Nat → Int} {g : Nat → Option Nat} {k : Nat} (h : k < zN t) : (zfs t f g)[k]? = some (zval (zty t k) (f k) (g k)) := by
  unfold zfs
  rw [List.getElem?_map, List.getElem?_range h]
  rfl
theorem zfs_V {t : Nat} {f : Nat → Int} {g : Nat → Option Nat} {k : Nat} (h : k < zN t) : vp_V (zfs t f g) k = zval (zty t k) (f k) (g k) := by
  unfold vp_V
  rw [List.getD_eq_getElem?_getD, zfs_at h]
  rfl
/-- a class of the table: its fields' types, its names apart, its words -/
theorem zcl_ty : ∀ (t : Nat) (r : vw_C), zcl[t]? = some r → ∀ k, k < r.2.2 → parseFieldDescriptor (r.2.1 k).2.2.1 = some (zty t k) := by
  intro t r h
  match t, h with
  | 0, h => cases h; exact tyX0_ok
  | 1, h => cases h; exact tyX1_ok
  | 2, h => cases h; exact tyX2_ok
  | 3, h => cases h; exact tyX3_ok
  | 4, h => cases h; exact tyX4_ok
  | 5, h => cases h; exact tyX5_ok
  | 6, h => cases h; exact tyX6_ok
  | 7, h => cases h; exact tyX7_ok
  | 8, h => cases h; exact tyX8_ok
  | 9, h => cases h; exact tyX9_ok
  | 10, h => cases h; exact tyX10_ok
  | 11, h => cases h; exact tyX11_ok
  | 12, h => cases h; exact tyX12_ok
  | t + 13, h => simp [zcl] at h
theorem zcl_nm : ∀ (t : Nat) (r : vw_C), zcl[t]? = some r → ∀ a, a < r.2.2 → ∀ b, b < r.2.2 → a ≠ b → (r.2.1 a).2.1 ≠ (r.2.1 b).2.1 := by
  intro t r h
  match t, h with
  | 0, h => cases h; exact nmX0
  | 1, h => cases h; exact nmX1
  | 2, h => cases h; exact nmX2
  | 3, h => cases h; exact nmX3
  | 4, h => cases h; exact nmX4
  | 5, h => cases h; exact nmX5
  | 6, h => cases h; exact nmX6
  | 7, h => cases h; exact nmX7
  | 8, h => cases h; exact nmX8
  | 9, h => cases h; exact nmX9
  | 10, h => cases h; exact nmX10
  | 11, h => cases h; exact nmX11
  | 12, h => cases h; exact nmX12
  | t + 13, h => simp [zcl] at h
theorem zcl_N : ∀ (t : Nat) (r : vw_C), zcl[t]? = some r → r.2.2 = zN t ∧ t < 13 := by
  intro t r h
  match t, h with
  | 0, h => cases h; exact ⟨rfl, by decide⟩
  | 1, h => cases h; exact ⟨rfl, by decide⟩
  | 2, h => cases h; exact ⟨rfl, by decide⟩
  | 3, h => cases h; exact ⟨rfl, by decide⟩
  | 4, h => cases h; exact ⟨rfl, by decide⟩
  | 5, h => cases h; exact ⟨rfl, by decide⟩
  | 6, h => cases h; exact ⟨rfl, by decide⟩
  | 7, h => cases h; exact ⟨rfl, by decide⟩
  | 8, h => cases h; exact ⟨rfl, by decide⟩
  | 9, h => cases h; exact ⟨rfl, by decide⟩
  | 10, h => cases h; exact ⟨rfl, by decide⟩
  | 11, h => cases h; exact ⟨rfl, by decide⟩
  | 12, h => cases h; exact ⟨rfl, by decide⟩
  | t + 13, h => simp [zcl] at h
set_option maxRecDepth 100000 in
theorem zwords_ok : zcl.all (fun r => (u_ws r.1 r.2.1 r.2.2).all (fun w => decide (w ∈ tables_1) && goodWord w)) = true := by decide +kernel
theorem zwords {t : Nat} {r : vw_C} (h : zcl[t]? = some r) : ∀ w ∈ u_ws r.1 r.2.1 r.2.2, w ∈ zgood := fun w hw => by
  have h1 := List.all_eq_true.mp zwords_ok r (List.mem_of_getElem? h)
  have h2 := List.all_eq_true.mp h1 w hw
  rw [Bool.and_eq_true] at h2
  exact List.mem_filter.mpr ⟨List.mem_append_right _ (of_decide_eq_true h2.1), h2.2⟩
theorem zvapart {D : va_G} {aC : Nat → ClassId} {s : State} {args : Array Value} {t : Nat} {r : vw_C} (hts : ∀ w ∈ zgood, w.before args s = true) (hK : zK D aC s) (hc : zcl[t]? = some r) : ∀ x y, x < r.2.2 → y < r.2.2 → x ≠ y → (D.2 t) x ≠ (D.2 t) y :=
  va_apart (own := "") hts (zwords hc) (zty t) (zcl_ty t r hc) (zcl_nm t r hc) hK.1 hc
