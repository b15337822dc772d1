/-! ===== calls ===== -/
/-- a method as the tables have it, called by class own through its entry idx -/
def zMth (own : String) (idx : Nat) (y : MethodName) (b : ByteArray) (maxL : Nat) (ret : Option FieldType) (n : Nat) : Prop :=
  (Cond.methodLink own idx y ∈ zgood ∨ Cond.methodLinkNest own idx y "BreadLands" ∈ znest) ∧ Cond.code y b maxL ret ∈ zgood ∧ Cond.initialized y.cls ∈ zgood ∧ (y.cls ≠ "java/lang/invoke/MethodHandle" ∧ y.cls ≠ "java/lang/invoke/VarHandle") ∧ (parseMethodDescriptor y.desc).map (fun d => d.parameters.length) = some n
def zMthV (y : MethodName) : Prop := Cond.instanceMethod y ∈ zgood ∧ Cond.selects y.cls y y ∈ zgood
section ZCALL
variable {ρ τ : Type} {p : Program} {l : Launch} {e : Env} {R : Room} {s : State} {m : MethodId} {args : Array Value} {below : List Frame} {meth : Method} {c : Code} {D : va_G} {aC : Nat → ClassId} {G0 G : Hp} {fin : ρ → State → Prop} {nL cells slots : Nat} {cc : ByteArray} {own : String} {pc : Nat} {lo : List (Nat × Value)} {rest : List Value}
variable {H : Heap} {locs : List Loc} {ls : Array Slot} {Q : State → Prop}
theorem zrecv {t : Nat} {r0 : vw_C} {q : Nat} (hK : zK D aC s) (hH : zH D aC G H) (hc : zcl[t]? = some r0) (hq : zk G q = some (t, 0)) : ∃ cell : Cell, H[q]? = some cell ∧ cell.vm.isStatics = false ∧ s.vm.findClass r0.1 = some cell.cls := by
  obtain ⟨-, hat, -⟩ := hH.2 q t 0 hq
  rw [ze_obj (zcl_N t r0 hc).2] at hat
  exact va_recv hK.1 (zP1 hat) (q0 := 0) hc rfl
theorem z_cont {I : Prop} {w : Option Value} {G1 : Hp} {mc ms : Nat} {st : List Value} {a : Array Value} (hr : va_Run p l e R s m args below meth c H locs cells slots mc ms (F0 m pc ls st) rest (zQ D aC G I w G1 a) (zA G)) (hI : zI D aC G0 s.heap G H locs) (kk : I → ∀ (H1 : Heap) (locs1 : List Loc), zI D aC G0 s.heap G1 H1 locs1 → W p l e R s m args below meth c H1 locs1 (cells + mc) (slots + ms) Q (F0 m (pc + 3) ls (w.toList ++ rest))) : W p l e R s m args below meth c H locs cells slots Q (F0 m pc ls st) := by
  intro T hT X
  obtain ⟨v, st₀, t, T', L, h0, X', hL, e1, e2, ⟨hi, hv, hH, hM, hF1, hF2⟩, st⟩ := hr T hT X
  cases hv
  rw [h0] at hF1 hF2
  have hS := hI.2.1
  have hI1 : zI D aC G0 s.heap G1 T'.heap (locs ++ L) := ⟨by rw [e1]; exact hH, ⟨Nat.le_trans hS.1 (by rw [e1]; exact hF1), fun q h1 h2 => by
      rw [e1, hF2 q (Nat.lt_of_lt_of_le h1 hS.1) (fun z => h2 (zA.mono hI.2.2.1 z))]; exact hS.2.1 q h1 h2, fun q hq => by
      rcases List.mem_append.mp hq with h | h
      · exact hS.2.2 q h
      · exact zA.mono hI.2.2.1 (hL q h)⟩, hI.2.2.1.tr hM, hI.2.2.2⟩
  obtain ⟨t2, a1, b1⟩ := kk hi T'.heap (locs ++ L) hI1 T' rfl X'
  exact ⟨t2, st t2 a1, b1⟩
theorem z_rV (hC : zC p m c meth s args cc nL own D aC) {X : Option τ} {y : MethodName} {b : ByteArray} {maxL n idx mc ms : Nat} {ret : Option FieldType} {rm : Room} {As st : List Value} {Q1 : τ → Array Value → State → Outcome → State → Prop} {q t : Nat} {r0 : vw_C} (hM : ∀ r1, X = some r1 → Met l y (Cond.code y b maxL ret :: zgood) rm (va_Pc (.ref q :: As) (zU D aC G)) (Q1 r1) mc ms (zA G)) (hk : ∀ r1, X = some r1 → zk G q = some (t, 0)) (hc : zcl[t]? = some r0) (hcy : r0.1 = y.cls) (hm : zMth own idx y b maxL ret n) (hmv : zMthV y) (hR : rm.frames + 1 ≤ R.frames ∧ 8 + (maxL + 11) + rm.locals ≤ R.locals) (hrc : rm.cells = mc) (hrs : rm.slots = ms) (hn : As.length = n) (hW : (rest.map fun v => v.category).sum ≤ 8) (hf : cells + mc ≤ R.cells ∧ slots + ms ≤ R.slots) (hst : st = As.reverse ++ .ref q :: rest) (hdg : decode cc pc = .ok (.invokevirtual idx, 3))  : ∀ (H : Heap) (locs : List Loc) (ls : Array Slot) (r1 : τ), zI D aC G0 s.heap G H locs → lv_has ls nL lo → X = some r1 → va_Run p l e R s m args below meth c H locs cells slots mc ms (F0 m pc ls st) rest (Q1 r1 (Value.ref q :: As).toArray) (zA G) := fun H locs ls r1 hI hl hX => by
  obtain ⟨hln, hcode, hini, hno, hds⟩ := hm
  have hts := hC.2.2.2.2.1
  have hkq := hk r1 hX
  have hP : PreV s H y.cls q (va_Pc (.ref q :: As) (zU D aC G)) As := ⟨zU.blind, by rw [← hcy]; exact zrecv hC.2.2.2.2.2.2 hI.1 hc hkq, fun U hU hW => ⟨rfl, hC.2.2.2.2.2.2.warm hW, by rw [hU]; exact hI.1⟩⟩
  rcases hln with hln | hln
  · exact va_runV ⟨hC.1, hC.2.1, hC.2.2.1, hC.2.2.2.1, hC.2.2.2.2.1⟩ (hM r1 hX) ⟨callB_of n hts (zgood_cons hcode) rfl hrc hrs (hts _ hini) (hts _ hln) ⟨hno.1, hno.2, hds⟩ hR, hts _ hmv.1, hts _ hmv.2⟩ hP rfl hn hl.1 hst (lv_room hW) hdg hf
  · exact va_runVN ⟨hC.1, hC.2.1, hC.2.2.1, hC.2.2.2.1, hC.2.2.2.2.1⟩ (hM r1 hX) ⟨va_cnB n hts (zgood_cons hcode) rfl hrc hrs (hC.2.2.2.2.2.2.2.1 _ hln) (hts _ hini) ⟨hno.1, hno.2, hds⟩ hR, hts _ hmv.1, hts _ hmv.2⟩ hP rfl hn hl.1 hst (lv_room hW) hdg hf
theorem z_rS (hC : zC p m c meth s args cc nL own D aC) {X : Option τ} {y : MethodName} {b : ByteArray} {maxL n idx mc ms : Nat} {ret : Option FieldType} {rm : Room} {As st : List Value} {Q1 : τ → Array Value → State → Outcome → State → Prop} (hM : ∀ r1, X = some r1 → Met l y (Cond.code y b maxL ret :: zgood) rm (va_Pc As (zU D aC G)) (Q1 r1) mc ms (zA G)) (hm : zMth own idx y b maxL ret n) (hms : Cond.static y ∈ zgood) (hR : rm.frames + 1 ≤ R.frames ∧ 8 + (maxL + 11) + rm.locals ≤ R.locals) (hrc : rm.cells = mc) (hrs : rm.slots = ms) (hn : As.length = n) (hW : (rest.map fun v => v.category).sum ≤ 8) (hf : cells + mc ≤ R.cells ∧ slots + ms ≤ R.slots) (hst : st = As.reverse ++ rest) (hdg : decode cc pc = .ok (.invokestatic idx, 3))  : ∀ (H : Heap) (locs : List Loc) (ls : Array Slot) (r1 : τ), zI D aC G0 s.heap G H locs → lv_has ls nL lo → X = some r1 → va_Run p l e R s m args below meth c H locs cells slots mc ms (F0 m pc ls st) rest (Q1 r1 As.toArray) (zA G) := fun H locs ls r1 hI hl hX => by
  obtain ⟨hln, hcode, hini, hno, hds⟩ := hm
  have hts := hC.2.2.2.2.1
  have hP : PreS s H (va_Pc As (zU D aC G)) As := ⟨zU.blind, fun U hU hW => ⟨rfl, hC.2.2.2.2.2.2.warm hW, by rw [hU]; exact hI.1⟩⟩
  rcases hln with hln | hln
  · exact va_runS ⟨hC.1, hC.2.1, hC.2.2.1, hC.2.2.2.1, hC.2.2.2.2.1⟩ (hM r1 hX) ⟨callB_of n hts (zgood_cons hcode) rfl hrc hrs (hts _ hini) (hts _ hln) ⟨hno.1, hno.2, hds⟩ hR, hts _ hms⟩ hP rfl hn hl.1 hst (lv_room hW) hdg hf
  · exact va_runSN ⟨hC.1, hC.2.1, hC.2.2.1, hC.2.2.2.1, hC.2.2.2.2.1⟩ (hM r1 hX) ⟨va_cnB n hts (zgood_cons hcode) rfl hrc hrs (hC.2.2.2.2.2.2.2.1 _ hln) (hts _ hini) ⟨hno.1, hno.2, hds⟩ hR, hts _ hms, trivial⟩ hP rfl hn hl.1 hst (lv_room hW) hdg hf
theorem z_rI (hC : zC p m c meth s args cc nL own D aC) {X : Option τ} {y : MethodName} {b : ByteArray} {maxL n idx mc ms : Nat} {rm : Room} {As st : List Value} {Q1 : τ → Array Value → State → Outcome → State → Prop} {q : Nat} (hM : ∀ r1, X = some r1 → Met l y (Cond.code y b maxL none :: zgood) rm (va_Pc (.ref q :: As) (zU D aC G)) (Q1 r1) mc ms (zA G)) (hm : zMth own idx y b maxL none n) (hmi : y.name = "<init>" ∧ Cond.instanceMethod y ∈ zgood) (hR : rm.frames + 1 ≤ R.frames ∧ 8 + (maxL + 11) + rm.locals ≤ R.locals) (hrc : rm.cells = mc) (hrs : rm.slots = ms) (hn : As.length = n) (hW : (rest.map fun v => v.category).sum ≤ 8) (hf : cells + mc ≤ R.cells ∧ slots + ms ≤ R.slots) (hst : st = As.reverse ++ .ref q :: rest) (hdg : decode cc pc = .ok (.invokespecial idx, 3))  : ∀ (H : Heap) (locs : List Loc) (ls : Array Slot) (r1 : τ), zI D aC G0 s.heap G H locs → lv_has ls nL lo → X = some r1 → va_Run p l e R s m args below meth c H locs cells slots mc ms (F0 m pc ls st) rest (Q1 r1 (Value.ref q :: As).toArray) (zA G) := fun H locs ls r1 hI hl hX => by
  obtain ⟨hln, hcode, hini, hno, hds⟩ := hm
  have hts := hC.2.2.2.2.1
  have hP : PreS s H (va_Pc (.ref q :: As) (zU D aC G)) (.ref q :: As) := ⟨zU.blind, fun U hU hW => ⟨rfl, hC.2.2.2.2.2.2.warm hW, by rw [hU]; exact hI.1⟩⟩
  rcases hln with hln | hln
  · exact va_runI ⟨hC.1, hC.2.1, hC.2.2.1, hC.2.2.2.1, hC.2.2.2.2.1⟩ (hM r1 hX) ⟨callB_of n hts (zgood_cons hcode) rfl hrc hrs (hts _ hini) (hts _ hln) ⟨hno.1, hno.2, hds⟩ hR, hmi.1, hts _ hmi.2⟩ hP rfl hn hl.1 hst (lv_room hW) hdg hf
  · exact va_runIN ⟨hC.1, hC.2.1, hC.2.2.1, hC.2.2.2.1, hC.2.2.2.2.1⟩ (hM r1 hX) ⟨va_cnB n hts (zgood_cons hcode) rfl hrc hrs (hC.2.2.2.2.2.2.2.1 _ hln) (hts _ hini) ⟨hno.1, hno.2, hds⟩ hR, hmi.1, hts _ hmi.2⟩ hP rfl hn hl.1 hst (lv_room hW) hdg hf
theorem z_cI {X : Option (Int × Hp)} {K : Int → Hp → Option ρ} {mc ms : Nat} {st : List Value} {a : Array Value} (hrun : ∀ (H : Heap) (locs : List Loc) (ls : Array Slot) (r1 : (Int × Hp)), zI D aC G0 s.heap G H locs → lv_has ls nL lo → X = some r1 → va_Run p l e R s m args below meth c H locs cells slots mc ms (F0 m pc ls st) rest (zQ D aC G (zInI r1.1) (some (.int (zi r1.1))) r1.2 a) (zA G)) (kk : ∀ (v : Int) (G1 : Hp), zInI v → zS p l e R s m args below meth c D aC G0 fin nL (cells + mc) (slots + ms) (K v G1) (G1) (pc + 3) (lo) (.int (zi v) :: rest)) : zS p l e R s m args below meth c D aC G0 fin nL cells slots (zb X K) (G) (pc) (lo) (st) := fun H locs ls r hI hl hK => by
  cases hX : X with
  | none => rw [hX] at hK; cases hK
  | some r1 =>
    rw [hX] at hK
    exact z_cont (hrun H locs ls r1 hI hl hX) hI (fun hi H1 locs1 hI1 => kk r1.1 r1.2 hi H1 locs1 ls r hI1 hl hK)
theorem z_cIp {X : Option Int} {K : Int → Option ρ} {mc ms : Nat} {st : List Value} {a : Array Value} (hrun : ∀ (H : Heap) (locs : List Loc) (ls : Array Slot) (r1 : (Int)), zI D aC G0 s.heap G H locs → lv_has ls nL lo → X = some r1 → va_Run p l e R s m args below meth c H locs cells slots mc ms (F0 m pc ls st) rest (zQ D aC G (zInI r1) (some (.int (zi r1))) G a) (zA G)) (kk : ∀ (v : Int), zInI v → zS p l e R s m args below meth c D aC G0 fin nL (cells + mc) (slots + ms) (K v) (G) (pc + 3) (lo) (.int (zi v) :: rest)) : zS p l e R s m args below meth c D aC G0 fin nL cells slots (X.bind K) (G) (pc) (lo) (st) := fun H locs ls r hI hl hK => by
  obtain ⟨r1, hX, hk⟩ := Option.bind_eq_some_iff.mp hK
  exact z_cont (hrun H locs ls r1 hI hl hX) hI (fun hi H1 locs1 hI1 => kk r1 hi H1 locs1 ls r hI1 hl hk)
theorem z_cZ {X : Option (Int × Hp)} {K : Int → Hp → Option ρ} {mc ms : Nat} {st : List Value} {a : Array Value} (hrun : ∀ (H : Heap) (locs : List Loc) (ls : Array Slot) (r1 : (Int × Hp)), zI D aC G0 s.heap G H locs → lv_has ls nL lo → X = some r1 → va_Run p l e R s m args below meth c H locs cells slots mc ms (F0 m pc ls st) rest (zQ D aC G (zIn01 r1.1) (some (.int (zi r1.1))) r1.2 a) (zA G)) (kk : ∀ (v : Int) (G1 : Hp), zIn01 v → zS p l e R s m args below meth c D aC G0 fin nL (cells + mc) (slots + ms) (K v G1) (G1) (pc + 3) (lo) (.int (zi v) :: rest)) : zS p l e R s m args below meth c D aC G0 fin nL cells slots (zb X K) (G) (pc) (lo) (st) := fun H locs ls r hI hl hK => by
  cases hX : X with
  | none => rw [hX] at hK; cases hK
  | some r1 =>
    rw [hX] at hK
    exact z_cont (hrun H locs ls r1 hI hl hX) hI (fun hi H1 locs1 hI1 => kk r1.1 r1.2 hi H1 locs1 ls r hI1 hl hK)
theorem z_cZp {X : Option Int} {K : Int → Option ρ} {mc ms : Nat} {st : List Value} {a : Array Value} (hrun : ∀ (H : Heap) (locs : List Loc) (ls : Array Slot) (r1 : (Int)), zI D aC G0 s.heap G H locs → lv_has ls nL lo → X = some r1 → va_Run p l e R s m args below meth c H locs cells slots mc ms (F0 m pc ls st) rest (zQ D aC G (zIn01 r1) (some (.int (zi r1))) G a) (zA G)) (kk : ∀ (v : Int), zIn01 v → zS p l e R s m args below meth c D aC G0 fin nL (cells + mc) (slots + ms) (K v) (G) (pc + 3) (lo) (.int (zi v) :: rest)) : zS p l e R s m args below meth c D aC G0 fin nL cells slots (X.bind K) (G) (pc) (lo) (st) := fun H locs ls r hI hl hK => by
  obtain ⟨r1, hX, hk⟩ := Option.bind_eq_some_iff.mp hK
  exact z_cont (hrun H locs ls r1 hI hl hX) hI (fun hi H1 locs1 hI1 => kk r1 hi H1 locs1 ls r hI1 hl hk)
theorem z_cL {X : Option (Int × Hp)} {K : Int → Hp → Option ρ} {mc ms : Nat} {st : List Value} {a : Array Value} (hrun : ∀ (H : Heap) (locs : List Loc) (ls : Array Slot) (r1 : (Int × Hp)), zI D aC G0 s.heap G H locs → lv_has ls nL lo → X = some r1 → va_Run p l e R s m args below meth c H locs cells slots mc ms (F0 m pc ls st) rest (zQ D aC G (zInL r1.1) (some (.long (zl r1.1))) r1.2 a) (zA G)) (kk : ∀ (v : Int) (G1 : Hp), zInL v → zS p l e R s m args below meth c D aC G0 fin nL (cells + mc) (slots + ms) (K v G1) (G1) (pc + 3) (lo) (.long (zl v) :: rest)) : zS p l e R s m args below meth c D aC G0 fin nL cells slots (zb X K) (G) (pc) (lo) (st) := fun H locs ls r hI hl hK => by
  cases hX : X with
  | none => rw [hX] at hK; cases hK
  | some r1 =>
    rw [hX] at hK
    exact z_cont (hrun H locs ls r1 hI hl hX) hI (fun hi H1 locs1 hI1 => kk r1.1 r1.2 hi H1 locs1 ls r hI1 hl hK)
theorem z_cLp {X : Option Int} {K : Int → Option ρ} {mc ms : Nat} {st : List Value} {a : Array Value} (hrun : ∀ (H : Heap) (locs : List Loc) (ls : Array Slot) (r1 : (Int)), zI D aC G0 s.heap G H locs → lv_has ls nL lo → X = some r1 → va_Run p l e R s m args below meth c H locs cells slots mc ms (F0 m pc ls st) rest (zQ D aC G (zInL r1) (some (.long (zl r1))) G a) (zA G)) (kk : ∀ (v : Int), zInL v → zS p l e R s m args below meth c D aC G0 fin nL (cells + mc) (slots + ms) (K v) (G) (pc + 3) (lo) (.long (zl v) :: rest)) : zS p l e R s m args below meth c D aC G0 fin nL cells slots (X.bind K) (G) (pc) (lo) (st) := fun H locs ls r hI hl hK => by
  obtain ⟨r1, hX, hk⟩ := Option.bind_eq_some_iff.mp hK
  exact z_cont (hrun H locs ls r1 hI hl hX) hI (fun hi H1 locs1 hI1 => kk r1 hi H1 locs1 ls r hI1 hl hk)
theorem z_cA {X : Option (Option Nat × Hp)} {K : Option Nat → Hp → Option ρ} {mc ms : Nat} {st : List Value} {a : Array Value} (hrun : ∀ (H : Heap) (locs : List Loc) (ls : Array Slot) (r1 : (Option Nat × Hp)), zI D aC G0 s.heap G H locs → lv_has ls nL lo → X = some r1 → va_Run p l e R s m args below meth c H locs cells slots mc ms (F0 m pc ls st) rest (zQ D aC G (True) (some (va_rf r1.1)) r1.2 a) (zA G)) (kk : ∀ (v : Option Nat) (G1 : Hp), zS p l e R s m args below meth c D aC G0 fin nL (cells + mc) (slots + ms) (K v G1) (G1) (pc + 3) (lo) (va_rf v :: rest)) : zS p l e R s m args below meth c D aC G0 fin nL cells slots (zb X K) (G) (pc) (lo) (st) := fun H locs ls r hI hl hK => by
  cases hX : X with
  | none => rw [hX] at hK; cases hK
  | some r1 =>
    rw [hX] at hK
    exact z_cont (hrun H locs ls r1 hI hl hX) hI (fun hi H1 locs1 hI1 => kk r1.1 r1.2 H1 locs1 ls r hI1 hl hK)
theorem z_cAp {X : Option (Option Nat)} {K : Option Nat → Option ρ} {mc ms : Nat} {st : List Value} {a : Array Value} (hrun : ∀ (H : Heap) (locs : List Loc) (ls : Array Slot) (r1 : (Option Nat)), zI D aC G0 s.heap G H locs → lv_has ls nL lo → X = some r1 → va_Run p l e R s m args below meth c H locs cells slots mc ms (F0 m pc ls st) rest (zQ D aC G (True) (some (va_rf r1)) G a) (zA G)) (kk : ∀ (v : Option Nat), zS p l e R s m args below meth c D aC G0 fin nL (cells + mc) (slots + ms) (K v) (G) (pc + 3) (lo) (va_rf v :: rest)) : zS p l e R s m args below meth c D aC G0 fin nL cells slots (X.bind K) (G) (pc) (lo) (st) := fun H locs ls r hI hl hK => by
  obtain ⟨r1, hX, hk⟩ := Option.bind_eq_some_iff.mp hK
  exact z_cont (hrun H locs ls r1 hI hl hX) hI (fun hi H1 locs1 hI1 => kk r1 H1 locs1 ls r hI1 hl hk)
theorem z_cV {X : Option (Unit × Hp)} {K : Unit → Hp → Option ρ} {mc ms : Nat} {st : List Value} {a : Array Value} (hrun : ∀ (H : Heap) (locs : List Loc) (ls : Array Slot) (r1 : (Unit × Hp)), zI D aC G0 s.heap G H locs → lv_has ls nL lo → X = some r1 → va_Run p l e R s m args below meth c H locs cells slots mc ms (F0 m pc ls st) rest (zQ D aC G (True) (none) r1.2 a) (zA G)) (kk : ∀ (G1 : Hp), zS p l e R s m args below meth c D aC G0 fin nL (cells + mc) (slots + ms) (K () G1) (G1) (pc + 3) (lo) (rest)) : zS p l e R s m args below meth c D aC G0 fin nL cells slots (zb X K) (G) (pc) (lo) (st) := fun H locs ls r hI hl hK => by
  cases hX : X with
  | none => rw [hX] at hK; cases hK
  | some r1 =>
    rw [hX] at hK
    exact z_cont (hrun H locs ls r1 hI hl hX) hI (fun hi H1 locs1 hI1 => kk r1.2 H1 locs1 ls r hI1 hl hK)
theorem z_mmin (hC : zC p m c meth s args cc nL own D aC) {K : Int → Option ρ} {a b : Int} {idx : Nat} (ha : zInI a) (hb : zInI b) (hlink : Cond.methodLink own idx Lib.Math.min.name ∈ zgood) (hstat : Cond.static Lib.Math.min.name ∈ zgood) (hini : Cond.initialized "java/lang/Math" ∈ zgood) (hcode : Cond.code Lib.Math.min.name Lib.Math.min.code 2 (some .int) ∈ zgood) (hframes : 1 ≤ R.frames) (hlocals : (rest.map fun v => v.category).sum + 13 ≤ R.locals) (hcs : cells ≤ R.cells ∧ slots ≤ R.slots) (hdg : decode cc pc = .ok (.invokestatic idx, 3)) (kk : ∀ v : Int, zInI v → zS p l e R s m args below meth c D aC G0 fin nL cells slots (K v) (G) (pc + 3) (lo) (.int (zi v) :: rest)) : zS p l e R s m args below meth c D aC G0 fin nL cells slots ((some (zmin a b)).bind K) (G) (pc) (lo) (.int (zi b) :: .int (zi a) :: rest) := fun H locs ls r hI hl hK => by
  have hts := hC.2.2.2.2.1
  refine va_mmin hC.1 hC.2.1 (hC.2.2.1.trans hl.1.symm) hC.2.2.2.1 (hts _ hlink) (hts _ hstat) (hts _ hini) (hts _ hcode) hframes hlocals hcs.1 hcs.2 hdg ?_
  have h : (if zi b < zi a then zi b else zi a) = zi (zmin a b) := by
    unfold zmin
    by_cases h : b < a
    · rw [if_pos h, if_pos ((zi_lt hb ha).mpr h)]
    · rw [if_neg h, if_neg (fun q => h ((zi_lt hb ha).mp q))]
  rw [h]
  exact kk _ (zmin_in ha hb) H locs ls r hI hl hK
theorem z_mmax (hC : zC p m c meth s args cc nL own D aC) {K : Int → Option ρ} {a b : Int} {idx : Nat} (ha : zInI a) (hb : zInI b) (hlink : Cond.methodLink own idx Lib.Math.max.name ∈ zgood) (hstat : Cond.static Lib.Math.max.name ∈ zgood) (hini : Cond.initialized "java/lang/Math" ∈ zgood) (hcode : Cond.code Lib.Math.max.name Lib.Math.max.code 2 (some .int) ∈ zgood) (hframes : 1 ≤ R.frames) (hlocals : (rest.map fun v => v.category).sum + 13 ≤ R.locals) (hcs : cells ≤ R.cells ∧ slots ≤ R.slots) (hdg : decode cc pc = .ok (.invokestatic idx, 3)) (kk : ∀ v : Int, zInI v → zS p l e R s m args below meth c D aC G0 fin nL cells slots (K v) (G) (pc + 3) (lo) (.int (zi v) :: rest)) : zS p l e R s m args below meth c D aC G0 fin nL cells slots ((some (zmax a b)).bind K) (G) (pc) (lo) (.int (zi b) :: .int (zi a) :: rest) := fun H locs ls r hI hl hK => by
  have hts := hC.2.2.2.2.1
  refine va_mmax hC.1 hC.2.1 (hC.2.2.1.trans hl.1.symm) hC.2.2.2.1 (hts _ hlink) (hts _ hstat) (hts _ hini) (hts _ hcode) hframes hlocals hcs.1 hcs.2 hdg ?_
  have h : (if zi a < zi b then zi b else zi a) = zi (zmax a b) := by
    unfold zmax
    by_cases h : a < b
    · rw [if_pos h, if_pos ((zi_lt ha hb).mpr h)]
    · rw [if_neg h, if_neg (fun q => h ((zi_lt ha hb).mp q))]
  rw [h]
  exact kk _ (zmax_in ha hb) H locs ls r hI hl hK
theorem z_objInit (hC : zC p m c meth s args cc nL own D aC) {K : Option ρ} {idx a : Nat} (hw : Cond.methodLink own idx objectInit ∈ zgood ∧ Cond.instanceMethod objectInit ∈ zgood ∧ Cond.code objectInit ⟨#[0xb1]⟩ 1 none ∈ zgood) (hR : 1 ≤ R.frames ∧ 20 ≤ R.locals) (hcs : cells ≤ R.cells ∧ slots ≤ R.slots) (hdg : decode cc pc = .ok (.invokespecial idx, 3)) (kk : zS p l e R s m args below meth c D aC G0 fin nL cells slots (K) (G) (pc + 3) (lo) ([])) : zS p l e R s m args below meth c D aC G0 fin nL cells slots (K) (G) (pc) (lo) ([.ref a]) := fun H locs ls r hI hl hK => by
  have hts := hC.2.2.2.2.1
  exact W.objInit hC.1 hC.2.1 hC.2.2.2.1 (hts _ hw.1) (hts _ hw.2.1) (hts _ hw.2.2) rfl (hl.1.trans hC.2.2.1.symm) rfl hdg hR.1 (by show 2 * 0 + 0 + 12 ≤ _; omega) (kk H locs ls r hI hl hK)
theorem z_iret (hC : zC p m c meth s args cc nL own D aC) {mc ms : Nat} {v : Int} (hv : zInI v) (hr : meth.sig.returnType = some .int) (hdg : decode cc pc = .ok (.ireturn, 1)) : zS p l e R s m args below meth c D aC G0 (zfI D aC G0 below args s mc ms) nL mc ms (some (v, G)) G pc lo ([.int (zi v)]) := fun H locs ls r hI hl hK => by
  cases hK
  exact W.iret hC.1 hC.2.1 hr (fun t ht _ => ⟨hv, rfl, by rw [ht]; exact hI.1, hI.2.2.1, hI.2.1.F ht⟩) hI.2.1.2.2 hdg hC.2.2.2.2.2.1
theorem z_iretp (hC : zC p m c meth s args cc nL own D aC) {mc ms : Nat} {v : Int} (hv : zInI v) (hr : meth.sig.returnType = some .int) (hdg : decode cc pc = .ok (.ireturn, 1)) : zS p l e R s m args below meth c D aC G0 (fun r1 => zfI D aC G0 below args s mc ms (r1, G0)) nL mc ms (some v) G0 pc lo ([.int (zi v)]) := fun H locs ls r hI hl hK => by
  cases hK
  exact W.iret hC.1 hC.2.1 hr (fun t ht _ => ⟨hv, rfl, by rw [ht]; exact hI.1, hI.2.2.1, hI.2.1.F ht⟩) hI.2.1.2.2 hdg hC.2.2.2.2.2.1
theorem z_lret (hC : zC p m c meth s args cc nL own D aC) {mc ms : Nat} {v : Int} (hv : zInL v) (hr : meth.sig.returnType = some .long) (hdg : decode cc pc = .ok (.lreturn, 1)) : zS p l e R s m args below meth c D aC G0 (zfL D aC G0 below args s mc ms) nL mc ms (some (v, G)) G pc lo ([.long (zl v)]) := fun H locs ls r hI hl hK => by
  cases hK
  exact W.lret hC.1 hC.2.1 hr (fun t ht _ => ⟨hv, rfl, by rw [ht]; exact hI.1, hI.2.2.1, hI.2.1.F ht⟩) hI.2.1.2.2 hdg hC.2.2.2.2.2.1
theorem z_lretp (hC : zC p m c meth s args cc nL own D aC) {mc ms : Nat} {v : Int} (hv : zInL v) (hr : meth.sig.returnType = some .long) (hdg : decode cc pc = .ok (.lreturn, 1)) : zS p l e R s m args below meth c D aC G0 (fun r1 => zfL D aC G0 below args s mc ms (r1, G0)) nL mc ms (some v) G0 pc lo ([.long (zl v)]) := fun H locs ls r hI hl hK => by
  cases hK
  exact W.lret hC.1 hC.2.1 hr (fun t ht _ => ⟨hv, rfl, by rw [ht]; exact hI.1, hI.2.2.1, hI.2.1.F ht⟩) hI.2.1.2.2 hdg hC.2.2.2.2.2.1
theorem z_zret (hC : zC p m c meth s args cc nL own D aC) {mc ms : Nat} {v : Int} (hr : meth.sig.returnType = some .boolean) (hdg : decode cc pc = .ok (.ireturn, 1)) : zS p l e R s m args below meth c D aC G0 (zfZ D aC G0 below args s mc ms) nL mc ms ((zrz v).bind fun v1 => some (v1, G)) G pc lo ([.int (zi v)]) := fun H locs ls r hI hl hK => by
  obtain ⟨v1, hv1, hK⟩ := Option.bind_eq_some_iff.mp hK
  unfold zrz at hv1
  split at hv1
  · rename_i hv
    cases hv1
    cases hK
    exact W.zret hC.1 hC.2.1 hr (by rcases hv with rfl | rfl <;> rfl) (fun t ht _ => ⟨hv, rfl, by rw [ht]; exact hI.1, hI.2.2.1, hI.2.1.F ht⟩) hI.2.1.2.2 hdg hC.2.2.2.2.2.1
  · cases hv1
theorem z_zretp (hC : zC p m c meth s args cc nL own D aC) {mc ms : Nat} {v : Int} (hr : meth.sig.returnType = some .boolean) (hdg : decode cc pc = .ok (.ireturn, 1)) : zS p l e R s m args below meth c D aC G0 (fun r1 => zfZ D aC G0 below args s mc ms (r1, G0)) nL mc ms (zrz v) G0 pc lo ([.int (zi v)]) := fun H locs ls r hI hl hK => by
  unfold zrz at hK
  split at hK
  · rename_i hv
    cases hK
    exact W.zret hC.1 hC.2.1 hr (by rcases hv with rfl | rfl <;> rfl) (fun t ht _ => ⟨hv, rfl, by rw [ht]; exact hI.1, hI.2.2.1, hI.2.1.F ht⟩) hI.2.1.2.2 hdg hC.2.2.2.2.2.1
  · cases hK
theorem z_vret (hC : zC p m c meth s args cc nL own D aC) {mc ms : Nat} (hr : meth.sig.returnType = none) (hdg : decode cc pc = .ok (.return_, 1)) : zS p l e R s m args below meth c D aC G0 (zfV D aC G0 below args s mc ms) nL mc ms (some ((), G)) G pc lo ([]) := fun H locs ls r hI hl hK => by
  cases hK
  exact W.vret hC.1 hC.2.1 hr (fun t ht _ => ⟨trivial, rfl, by rw [ht]; exact hI.1, hI.2.2.1, hI.2.1.F ht⟩) hI.2.1.2.2 hdg hC.2.2.2.2.2.1
theorem z_aretp (hC : zC p m c meth s args cc nL own D aC) {mc ms : Nat} {v : Option Nat} {rt : FieldType} (hr : meth.sig.returnType = some rt) (hrt : ∃ n, rt = .object n) (hdg : decode cc pc = .ok (.areturn, 1)) : zS p l e R s m args below meth c D aC G0 (fun r1 => zfA D aC G0 below args s mc ms (r1, G0)) nL mc ms (some v) G0 pc lo ([va_rf v]) := fun H locs ls r hI hl hK => by
  cases hK
  exact W.aret hC.1 hC.2.1 hr (Or.inl hrt) (by cases v with | none => exact Or.inl rfl | some a => exact Or.inr ⟨a, rfl⟩) (fun t ht _ => ⟨trivial, rfl, by rw [ht]; exact hI.1, hI.2.2.1, hI.2.1.F ht⟩) hI.2.1.2.2 hdg hC.2.2.2.2.2.1
theorem z_gd {K : Option ρ} {q t : Nat} (kk : zS p l e R s m args below meth c D aC G0 fin nL cells slots (K) (G) (pc) (lo) (rest)) : zS p l e R s m args below meth c D aC G0 fin nL cells slots (zgd G q t K) (G) (pc) (lo) (rest) := fun H locs ls r hI hl hK => kk H locs ls r hI hl (zgd_e hK)
theorem z_tabIf (hC : zC p m c meth s args cc nL own D aC) {K1 K2 : Option ρ} {x : Int} {dflt lw hi off : Int} {offs : Array Int} {len tgt : Nat} (ha : zInI x) (hdg : decode cc pc = .ok (.tableswitch dflt lw hi offs, len)) (k : Int) (h1 : lw ≤ k ∧ k ≤ hi) (ho : offs[(k - lw).toNat]? = some off) (ht : (pc : Int) + off = (tgt : Int)) (kk1 : x = k → zS p l e R s m args below meth c D aC G0 fin nL cells slots (K1) (G) (tgt) (lo) (rest)) (kk2 : ¬ x = k → zS p l e R s m args below meth c D aC G0 fin nL cells slots (K2) (G) (pc) (lo) (.int (zi x) :: rest)) : zS p l e R s m args below meth c D aC G0 fin nL cells slots (if x = k then K1 else K2) (G) (pc) (lo) (.int (zi x) :: rest) := fun H locs ls r hI hl hK => by
  by_cases e : x = k
  · rw [if_pos e] at hK
    have hx := zi_toInt ha
    exact lv_tableIn hC.1 hC.2.1 hdg (by rw [hx, e]; omega) (by rw [hx, e]; omega) (by rw [hx, e]; exact ho) ht (kk1 e H locs ls r hI hl hK)
  · rw [if_neg e] at hK
    exact kk2 e H locs ls r hI hl hK
theorem z_tabDef (hC : zC p m c meth s args cc nL own D aC) {K : Option ρ} {x : Int} {dflt lw hi : Int} {offs : Array Int} {len tgt : Nat} (ha : zInI x) (hdg : decode cc pc = .ok (.tableswitch dflt lw hi offs, len)) (h : x < lw ∨ hi < x) (ht : (pc : Int) + dflt = (tgt : Int)) (kk : zS p l e R s m args below meth c D aC G0 fin nL cells slots (K) (G) (tgt) (lo) (rest)) : zS p l e R s m args below meth c D aC G0 fin nL cells slots (K) (G) (pc) (lo) (.int (zi x) :: rest) := fun H locs ls r hI hl hK => lv_tableOut hC.1 hC.2.1 hdg (by rw [zi_toInt ha]; exact h) ht (kk H locs ls r hI hl hK)
theorem z_lookIf (hC : zC p m c meth s args cc nL own D aC) {K1 K2 : Option ρ} {x : Int} {dflt off : Int} {ps : Array (Int × Int)} {len tgt : Nat} (ha : zInI x) (hdg : decode cc pc = .ok (.lookupswitch dflt ps, len)) (k : Int) (hp : (ps.toList.zip (ps.toList.drop 1)).all (fun (a, next) => a.1 < next.1) = true) (ho : Op.lookupswitch.offset ps.toList dflt k = off) (ht : (pc : Int) + off = (tgt : Int)) (kk1 : x = k → zS p l e R s m args below meth c D aC G0 fin nL cells slots (K1) (G) (tgt) (lo) (rest)) (kk2 : ¬ x = k → zS p l e R s m args below meth c D aC G0 fin nL cells slots (K2) (G) (pc) (lo) (.int (zi x) :: rest)) : zS p l e R s m args below meth c D aC G0 fin nL cells slots (if x = k then K1 else K2) (G) (pc) (lo) (.int (zi x) :: rest) := fun H locs ls r hI hl hK => by
  by_cases e : x = k
  · rw [if_pos e] at hK
    exact lv_lookup hC.1 hC.2.1 hdg hp (by rw [zi_toInt ha, e]; exact ho) ht (kk1 e H locs ls r hI hl hK)
  · rw [if_neg e] at hK
    exact kk2 e H locs ls r hI hl hK
theorem z_lookDef (hC : zC p m c meth s args cc nL own D aC) {K : Option ρ} {x : Int} {dflt : Int} {ps : Array (Int × Int)} {len tgt : Nat} (ha : zInI x) (hdg : decode cc pc = .ok (.lookupswitch dflt ps, len)) (hp : (ps.toList.zip (ps.toList.drop 1)).all (fun (a, next) => a.1 < next.1) = true) (ho : Op.lookupswitch.offset ps.toList dflt x = dflt) (ht : (pc : Int) + dflt = (tgt : Int)) (kk : zS p l e R s m args below meth c D aC G0 fin nL cells slots (K) (G) (tgt) (lo) (rest)) : zS p l e R s m args below meth c D aC G0 fin nL cells slots (K) (G) (pc) (lo) (.int (zi x) :: rest) := fun H locs ls r hI hl hK => lv_lookup hC.1 hC.2.1 hdg hp (by rw [zi_toInt ha]; exact ho) ht (kk H locs ls r hI hl hK)
end ZCALL
/-- a method's contract out of its walk -/
theorem z_met {ρ : Type} {l : Launch} {D : va_G} {aC : Nat → ClassId} {G : Hp} {y : MethodName} {b : ByteArray} {maxL mc ms : Nat} {ret : Option FieldType} {rm : Room} {As : List Value} {X : Option ρ} {Q1 : ρ → Array Value → State → Outcome → State → Prop} (hpl : plainName y.cls = true) (hlen : (lg_sl As).length ≤ maxL)
    (body : ∀ (p : Program) (e : Env) (s : State) (m : MethodId) (below : List Frame) (meth : Method) (c : Code), zC p m c meth s As.toArray b maxL y.cls D aC → meth.sig.returnType = ret → meth.name = y.name → zS p l e rm s m As.toArray below meth c D aC G (fun r1 => MQ below (Q1 r1) As.toArray s mc ms (zA G)) maxL 0 0 X G 0 (lv_args 0 As) [])
    {r1 : ρ} (hX : X = some r1) : Met l y (Cond.code y b maxL ret :: zgood) rm (va_Pc As (zU D aC G)) (Q1 r1) mc ms (zA G) := by
  refine Met.ofW (cc := b) (maxL := maxL) (ret := ret) hpl rfl ?_
  intro p e s m args below meth c s₁ B hml hv
  obtain ⟨rfl, hK, hH⟩ := hv
  have hts := atoms_spec (ws := Cond.code y b maxL ret :: zgood) B.pre
  have hC : zC p m c meth s As.toArray b maxL y.cls D aC := ⟨B.exec, B.bytes, hml, findClass_of_methodNamed B.named, fun w hw => hts w (List.mem_cons_of_mem _ hw), B.notSynchronized, hK⟩
  have h := body p e s m below meth c hC B.returns (name_of_methodNamed B.named B.method).1
  have hl := lv_entry As (n := maxL) hlen
  rw [lg_entry_eq]
  exact h s.heap [] _ r1 (zI.start hH) hl hX
