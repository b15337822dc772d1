/-! THE CLAIM OUT OF ONE WALK OF THE LAW'S BODY. Your part is whole_start (and what it stands on); all else here is the same for every law, but numbers. -/
def R_law : String := "BreadLandsLaw"
def lw_P (b : Addr) (xs : List Int32) (args : Array Value) (s : State) : Prop := args = #[.ref b] ∧ s.IntsAt b xs ∧ xs.length ≤ 3072 ∧ (Jvm.Cond.and given_1 narrow_1).before args s = true
def lw_Q (_ : Array Value) (s : State) (o : Outcome) (t : State) : Prop := o = .returned (some (.int 1)) ∧ Framed s o t [] 600000 7302250
def lw_Z (below : List Frame) (a : Array Value) (s : State) : State → Prop := fun t => ∃ o, t.status = .running ∧ Ended t below o ∧ lw_Q a s o t
/-- the law's own end, with 1 on the stack, nothing written that was there before, its room as the claim has it -/
theorem lw_ret {p : Program} {l : Launch} {e : Env} {s : State} {m : MethodId} {below : List Frame} {meth : Method} {c : Code} {b : Nat} (hx : p.tables.exec = Jvm.exec) (hb : c.code = code) (hr : meth.sig.returnType = ret) (hlocks : meth.locks = false) {pc : Nat} {H : Heap} {ls : Array Slot} (hdg : decode code pc = .ok (.ireturn, 1)) : W p l e room_1 s m #[Value.ref b] below meth c H [] 600000 7302250 (lw_Z below #[Value.ref b] s) (F0 m pc ls [.int 1]) := by
  intro T hT X
  obtain ⟨fs, hret, hrun, hended, hW, hframe⟩ := X.leave (v := some (.int 1)) (hlocks := hlocks) (fun h => by rw [hr] at h; cases h)
  have hmeth' : T.vm.method? m = some meth := X.method'
  refine ⟨T.setFrames fs, ?_, .returned (some (.int 1)), hrun, hended, rfl, ⟨_, rfl⟩, hW, hframe⟩
  jvm_step X.here [X.here.top, hx, hb, hdg, hmeth', hr, ret, narrow_b1]
  (try refine ⟨rfl, ?_⟩); (try refine ⟨rfl, ?_⟩)
  first | (intro acts; rw [hret _ acts rfl rfl rfl]) | rw [hret _ _ rfl rfl rfl]
  exact Steps.refl _
/-- what holds at the law's entry: the machine, the code, the tables' words (any of lw_tbl by 'hts w (by decide +kernel)'), the script of L ints xs at the cell b, what the Statement gives of the start (any of its parts by flat_of_before) -/
def lw_At (p : Program) (s : State) (m : MethodId) (meth : Method) (c : Code) (b L : Nat) (xs : Nat → Int32) : Prop :=
  p.tables.exec = Jvm.exec ∧ c.code = code ∧ meth.sig.returnType = ret ∧ c.maxLocals = 4 ∧ s.vm.findClass R_law = some m.cls ∧ (∀ w ∈ lw_tbl, w.before #[Value.ref b] s = true) ∧ va_X b L xs s s.heap ∧ b < s.heap.size ∧ meth.locks = false ∧ (Jvm.Cond.and given_1 narrow_1).before #[Value.ref b] s = true
theorem zMc_FB_place : Cond.code yX11_place cX11_place 2 (some .int) ∈ zgood ∧ Cond.initialized yX11_place.cls ∈ zgood ∧ (yX11_place.cls ≠ "java/lang/invoke/MethodHandle" ∧ yX11_place.cls ≠ "java/lang/invoke/VarHandle") ∧ (parseMethodDescriptor yX11_place.desc).map (fun d => d.parameters.length) = some 1 := ⟨(zgood_in 406 (by decide +kernel) (by decide +kernel)), (zgood_in 102 (by decide +kernel) (by decide +kernel)), ⟨by decide, by decide⟩, by decide +kernel⟩
theorem zML_13 : zMth R_law 13 yX11_place cX11_place 2 (some .int) 1 := ⟨Or.inl (zgood_in 403 (by decide +kernel) (by decide +kernel)), zMc_FB_place.1, zMc_FB_place.2.1, zMc_FB_place.2.2.1, zMc_FB_place.2.2.2⟩
theorem zMv_FB_place : zMthV yX11_place := ⟨(zgood_in 404 (by decide +kernel) (by decide +kernel)), (zgood_in 405 (by decide +kernel) (by decide +kernel))⟩
theorem zMc_FM_place : Cond.code yX12_place cX12_place 2 (some .int) ∈ zgood ∧ Cond.initialized yX12_place.cls ∈ zgood ∧ (yX12_place.cls ≠ "java/lang/invoke/MethodHandle" ∧ yX12_place.cls ≠ "java/lang/invoke/VarHandle") ∧ (parseMethodDescriptor yX12_place.desc).map (fun d => d.parameters.length) = some 1 := ⟨(zgood_in 1243 (by decide +kernel) (by decide +kernel)), (zgood_in 111 (by decide +kernel) (by decide +kernel)), ⟨by decide, by decide⟩, by decide +kernel⟩
theorem zML_17 : zMth R_law 17 yX12_place cX12_place 2 (some .int) 1 := ⟨Or.inl (zgood_in 1240 (by decide +kernel) (by decide +kernel)), zMc_FM_place.1, zMc_FM_place.2.1, zMc_FM_place.2.2.1, zMc_FM_place.2.2.2⟩
theorem zMv_FM_place : zMthV yX12_place := ⟨(zgood_in 1241 (by decide +kernel) (by decide +kernel)), (zgood_in 1242 (by decide +kernel) (by decide +kernel))⟩
theorem zMc_FB_street : Cond.code yX11_street cX11_street 4 (some .int) ∈ zgood ∧ Cond.initialized yX11_street.cls ∈ zgood ∧ (yX11_street.cls ≠ "java/lang/invoke/MethodHandle" ∧ yX11_street.cls ≠ "java/lang/invoke/VarHandle") ∧ (parseMethodDescriptor yX11_street.desc).map (fun d => d.parameters.length) = some 3 := ⟨(zgood_in 420 (by decide +kernel) (by decide +kernel)), (zgood_in 102 (by decide +kernel) (by decide +kernel)), ⟨by decide, by decide⟩, by decide +kernel⟩
theorem zML_18 : zMth R_law 18 yX11_street cX11_street 4 (some .int) 3 := ⟨Or.inl (zgood_in 417 (by decide +kernel) (by decide +kernel)), zMc_FB_street.1, zMc_FB_street.2.1, zMc_FB_street.2.2.1, zMc_FB_street.2.2.2⟩
theorem zMv_FB_street : zMthV yX11_street := ⟨(zgood_in 418 (by decide +kernel) (by decide +kernel)), (zgood_in 419 (by decide +kernel) (by decide +kernel))⟩
theorem zMc_FM_street : Cond.code yX12_street cX12_street 6 (some .int) ∈ zgood ∧ Cond.initialized yX12_street.cls ∈ zgood ∧ (yX12_street.cls ≠ "java/lang/invoke/MethodHandle" ∧ yX12_street.cls ≠ "java/lang/invoke/VarHandle") ∧ (parseMethodDescriptor yX12_street.desc).map (fun d => d.parameters.length) = some 3 := ⟨(zgood_in 1250 (by decide +kernel) (by decide +kernel)), (zgood_in 111 (by decide +kernel) (by decide +kernel)), ⟨by decide, by decide⟩, by decide +kernel⟩
theorem zML_22 : zMth R_law 22 yX12_street cX12_street 6 (some .int) 3 := ⟨Or.inl (zgood_in 1247 (by decide +kernel) (by decide +kernel)), zMc_FM_street.1, zMc_FM_street.2.1, zMc_FM_street.2.2.1, zMc_FM_street.2.2.2⟩
theorem zMv_FM_street : zMthV yX12_street := ⟨(zgood_in 1248 (by decide +kernel) (by decide +kernel)), (zgood_in 1249 (by decide +kernel) (by decide +kernel))⟩
theorem zMc_FB_way : Cond.code yX11_way cX11_way 4 (some .int) ∈ zgood ∧ Cond.initialized yX11_way.cls ∈ zgood ∧ (yX11_way.cls ≠ "java/lang/invoke/MethodHandle" ∧ yX11_way.cls ≠ "java/lang/invoke/VarHandle") ∧ (parseMethodDescriptor yX11_way.desc).map (fun d => d.parameters.length) = some 2 := ⟨(zgood_in 449 (by decide +kernel) (by decide +kernel)), (zgood_in 102 (by decide +kernel) (by decide +kernel)), ⟨by decide, by decide⟩, by decide +kernel⟩
theorem zML_23 : zMth R_law 23 yX11_way cX11_way 4 (some .int) 2 := ⟨Or.inl (zgood_in 446 (by decide +kernel) (by decide +kernel)), zMc_FB_way.1, zMc_FB_way.2.1, zMc_FB_way.2.2.1, zMc_FB_way.2.2.2⟩
theorem zMv_FB_way : zMthV yX11_way := ⟨(zgood_in 447 (by decide +kernel) (by decide +kernel)), (zgood_in 448 (by decide +kernel) (by decide +kernel))⟩
theorem zMc_FM_way : Cond.code yX12_way cX12_way 4 (some .int) ∈ zgood ∧ Cond.initialized yX12_way.cls ∈ zgood ∧ (yX12_way.cls ≠ "java/lang/invoke/MethodHandle" ∧ yX12_way.cls ≠ "java/lang/invoke/VarHandle") ∧ (parseMethodDescriptor yX12_way.desc).map (fun d => d.parameters.length) = some 2 := ⟨(zgood_in 1258 (by decide +kernel) (by decide +kernel)), (zgood_in 111 (by decide +kernel) (by decide +kernel)), ⟨by decide, by decide⟩, by decide +kernel⟩
theorem zML_27 : zMth R_law 27 yX12_way cX12_way 4 (some .int) 2 := ⟨Or.inl (zgood_in 1255 (by decide +kernel) (by decide +kernel)), zMc_FM_way.1, zMc_FM_way.2.1, zMc_FM_way.2.2.1, zMc_FM_way.2.2.2⟩
theorem zMv_FM_way : zMthV yX12_way := ⟨(zgood_in 1256 (by decide +kernel) (by decide +kernel)), (zgood_in 1257 (by decide +kernel) (by decide +kernel))⟩
theorem zMc_FB_days : Cond.code yX11_days cX11_days 3 (some .int) ∈ zgood ∧ Cond.initialized yX11_days.cls ∈ zgood ∧ (yX11_days.cls ≠ "java/lang/invoke/MethodHandle" ∧ yX11_days.cls ≠ "java/lang/invoke/VarHandle") ∧ (parseMethodDescriptor yX11_days.desc).map (fun d => d.parameters.length) = some 1 := ⟨(zgood_in 454 (by decide +kernel) (by decide +kernel)), (zgood_in 102 (by decide +kernel) (by decide +kernel)), ⟨by decide, by decide⟩, by decide +kernel⟩
theorem zML_28 : zMth R_law 28 yX11_days cX11_days 3 (some .int) 1 := ⟨Or.inl (zgood_in 451 (by decide +kernel) (by decide +kernel)), zMc_FB_days.1, zMc_FB_days.2.1, zMc_FB_days.2.2.1, zMc_FB_days.2.2.2⟩
theorem zMv_FB_days : zMthV yX11_days := ⟨(zgood_in 452 (by decide +kernel) (by decide +kernel)), (zgood_in 453 (by decide +kernel) (by decide +kernel))⟩
theorem zMc_FM_days : Cond.code yX12_days cX12_days 4 (some .int) ∈ zgood ∧ Cond.initialized yX12_days.cls ∈ zgood ∧ (yX12_days.cls ≠ "java/lang/invoke/MethodHandle" ∧ yX12_days.cls ≠ "java/lang/invoke/VarHandle") ∧ (parseMethodDescriptor yX12_days.desc).map (fun d => d.parameters.length) = some 1 := ⟨(zgood_in 1271 (by decide +kernel) (by decide +kernel)), (zgood_in 111 (by decide +kernel) (by decide +kernel)), ⟨by decide, by decide⟩, by decide +kernel⟩
theorem zML_31 : zMth R_law 31 yX12_days cX12_days 4 (some .int) 1 := ⟨Or.inl (zgood_in 1268 (by decide +kernel) (by decide +kernel)), zMc_FM_days.1, zMc_FM_days.2.1, zMc_FM_days.2.2.1, zMc_FM_days.2.2.2⟩
theorem zMv_FM_days : zMthV yX12_days := ⟨(zgood_in 1269 (by decide +kernel) (by decide +kernel)), (zgood_in 1270 (by decide +kernel) (by decide +kernel))⟩
theorem zMc_FB_rule : Cond.code yX11_rule cX11_rule 4 (some .int) ∈ zgood ∧ Cond.initialized yX11_rule.cls ∈ zgood ∧ (yX11_rule.cls ≠ "java/lang/invoke/MethodHandle" ∧ yX11_rule.cls ≠ "java/lang/invoke/VarHandle") ∧ (parseMethodDescriptor yX11_rule.desc).map (fun d => d.parameters.length) = some 2 := ⟨(zgood_in 480 (by decide +kernel) (by decide +kernel)), (zgood_in 102 (by decide +kernel) (by decide +kernel)), ⟨by decide, by decide⟩, by decide +kernel⟩
theorem zML_32 : zMth R_law 32 yX11_rule cX11_rule 4 (some .int) 2 := ⟨Or.inl (zgood_in 477 (by decide +kernel) (by decide +kernel)), zMc_FB_rule.1, zMc_FB_rule.2.1, zMc_FB_rule.2.2.1, zMc_FB_rule.2.2.2⟩
theorem zMv_FB_rule : zMthV yX11_rule := ⟨(zgood_in 478 (by decide +kernel) (by decide +kernel)), (zgood_in 479 (by decide +kernel) (by decide +kernel))⟩
theorem zMc_FM_rule : Cond.code yX12_rule cX12_rule 4 (some .int) ∈ zgood ∧ Cond.initialized yX12_rule.cls ∈ zgood ∧ (yX12_rule.cls ≠ "java/lang/invoke/MethodHandle" ∧ yX12_rule.cls ≠ "java/lang/invoke/VarHandle") ∧ (parseMethodDescriptor yX12_rule.desc).map (fun d => d.parameters.length) = some 2 := ⟨(zgood_in 1287 (by decide +kernel) (by decide +kernel)), (zgood_in 111 (by decide +kernel) (by decide +kernel)), ⟨by decide, by decide⟩, by decide +kernel⟩
theorem zML_35 : zMth R_law 35 yX12_rule cX12_rule 4 (some .int) 2 := ⟨Or.inl (zgood_in 1284 (by decide +kernel) (by decide +kernel)), zMc_FM_rule.1, zMc_FM_rule.2.1, zMc_FM_rule.2.2.1, zMc_FM_rule.2.2.2⟩
theorem zMv_FM_rule : zMthV yX12_rule := ⟨(zgood_in 1285 (by decide +kernel) (by decide +kernel)), (zgood_in 1286 (by decide +kernel) (by decide +kernel))⟩
theorem zMc_FB_open : Cond.code yX11_open cX11_open 3 (some .int) ∈ zgood ∧ Cond.initialized yX11_open.cls ∈ zgood ∧ (yX11_open.cls ≠ "java/lang/invoke/MethodHandle" ∧ yX11_open.cls ≠ "java/lang/invoke/VarHandle") ∧ (parseMethodDescriptor yX11_open.desc).map (fun d => d.parameters.length) = some 2 := ⟨(zgood_in 484 (by decide +kernel) (by decide +kernel)), (zgood_in 102 (by decide +kernel) (by decide +kernel)), ⟨by decide, by decide⟩, by decide +kernel⟩
theorem zML_36 : zMth R_law 36 yX11_open cX11_open 3 (some .int) 2 := ⟨Or.inl (zgood_in 481 (by decide +kernel) (by decide +kernel)), zMc_FB_open.1, zMc_FB_open.2.1, zMc_FB_open.2.2.1, zMc_FB_open.2.2.2⟩
theorem zMv_FB_open : zMthV yX11_open := ⟨(zgood_in 482 (by decide +kernel) (by decide +kernel)), (zgood_in 483 (by decide +kernel) (by decide +kernel))⟩
theorem zMc_FM_open : Cond.code yX12_open cX12_open 3 (some .int) ∈ zgood ∧ Cond.initialized yX12_open.cls ∈ zgood ∧ (yX12_open.cls ≠ "java/lang/invoke/MethodHandle" ∧ yX12_open.cls ≠ "java/lang/invoke/VarHandle") ∧ (parseMethodDescriptor yX12_open.desc).map (fun d => d.parameters.length) = some 2 := ⟨(zgood_in 1291 (by decide +kernel) (by decide +kernel)), (zgood_in 111 (by decide +kernel) (by decide +kernel)), ⟨by decide, by decide⟩, by decide +kernel⟩
theorem zML_39 : zMth R_law 39 yX12_open cX12_open 3 (some .int) 2 := ⟨Or.inl (zgood_in 1288 (by decide +kernel) (by decide +kernel)), zMc_FM_open.1, zMc_FM_open.2.1, zMc_FM_open.2.2.1, zMc_FM_open.2.2.2⟩
theorem zMv_FM_open : zMthV yX12_open := ⟨(zgood_in 1289 (by decide +kernel) (by decide +kernel)), (zgood_in 1290 (by decide +kernel) (by decide +kernel))⟩
theorem zMc_FB_close : Cond.code yX11_close cX11_close 3 (some .int) ∈ zgood ∧ Cond.initialized yX11_close.cls ∈ zgood ∧ (yX11_close.cls ≠ "java/lang/invoke/MethodHandle" ∧ yX11_close.cls ≠ "java/lang/invoke/VarHandle") ∧ (parseMethodDescriptor yX11_close.desc).map (fun d => d.parameters.length) = some 1 := ⟨(zgood_in 592 (by decide +kernel) (by decide +kernel)), (zgood_in 102 (by decide +kernel) (by decide +kernel)), ⟨by decide, by decide⟩, by decide +kernel⟩
theorem zML_40 : zMth R_law 40 yX11_close cX11_close 3 (some .int) 1 := ⟨Or.inl (zgood_in 589 (by decide +kernel) (by decide +kernel)), zMc_FB_close.1, zMc_FB_close.2.1, zMc_FB_close.2.2.1, zMc_FB_close.2.2.2⟩
theorem zMv_FB_close : zMthV yX11_close := ⟨(zgood_in 590 (by decide +kernel) (by decide +kernel)), (zgood_in 591 (by decide +kernel) (by decide +kernel))⟩
theorem zMc_FM_close : Cond.code yX12_close cX12_close 2 (some .int) ∈ zgood ∧ Cond.initialized yX12_close.cls ∈ zgood ∧ (yX12_close.cls ≠ "java/lang/invoke/MethodHandle" ∧ yX12_close.cls ≠ "java/lang/invoke/VarHandle") ∧ (parseMethodDescriptor yX12_close.desc).map (fun d => d.parameters.length) = some 1 := ⟨(zgood_in 1314 (by decide +kernel) (by decide +kernel)), (zgood_in 111 (by decide +kernel) (by decide +kernel)), ⟨by decide, by decide⟩, by decide +kernel⟩
theorem zML_43 : zMth R_law 43 yX12_close cX12_close 2 (some .int) 1 := ⟨Or.inl (zgood_in 1311 (by decide +kernel) (by decide +kernel)), zMc_FM_close.1, zMc_FM_close.2.1, zMc_FM_close.2.2.1, zMc_FM_close.2.2.2⟩
theorem zMv_FM_close : zMthV yX12_close := ⟨(zgood_in 1312 (by decide +kernel) (by decide +kernel)), (zgood_in 1313 (by decide +kernel) (by decide +kernel))⟩
theorem zMc_FB_reach : Cond.code yX11_reach cX11_reach 5 (some .int) ∈ zgood ∧ Cond.initialized yX11_reach.cls ∈ zgood ∧ (yX11_reach.cls ≠ "java/lang/invoke/MethodHandle" ∧ yX11_reach.cls ≠ "java/lang/invoke/VarHandle") ∧ (parseMethodDescriptor yX11_reach.desc).map (fun d => d.parameters.length) = some 2 := ⟨(zgood_in 599 (by decide +kernel) (by decide +kernel)), (zgood_in 102 (by decide +kernel) (by decide +kernel)), ⟨by decide, by decide⟩, by decide +kernel⟩
theorem zML_44 : zMth R_law 44 yX11_reach cX11_reach 5 (some .int) 2 := ⟨Or.inl (zgood_in 596 (by decide +kernel) (by decide +kernel)), zMc_FB_reach.1, zMc_FB_reach.2.1, zMc_FB_reach.2.2.1, zMc_FB_reach.2.2.2⟩
theorem zMv_FB_reach : zMthV yX11_reach := ⟨(zgood_in 597 (by decide +kernel) (by decide +kernel)), (zgood_in 598 (by decide +kernel) (by decide +kernel))⟩
theorem zMc_FM_reach : Cond.code yX12_reach cX12_reach 4 (some .int) ∈ zgood ∧ Cond.initialized yX12_reach.cls ∈ zgood ∧ (yX12_reach.cls ≠ "java/lang/invoke/MethodHandle" ∧ yX12_reach.cls ≠ "java/lang/invoke/VarHandle") ∧ (parseMethodDescriptor yX12_reach.desc).map (fun d => d.parameters.length) = some 2 := ⟨(zgood_in 1322 (by decide +kernel) (by decide +kernel)), (zgood_in 111 (by decide +kernel) (by decide +kernel)), ⟨by decide, by decide⟩, by decide +kernel⟩
theorem zML_47 : zMth R_law 47 yX12_reach cX12_reach 4 (some .int) 2 := ⟨Or.inl (zgood_in 1319 (by decide +kernel) (by decide +kernel)), zMc_FM_reach.1, zMc_FM_reach.2.1, zMc_FM_reach.2.2.1, zMc_FM_reach.2.2.2⟩
theorem zMv_FM_reach : zMthV yX12_reach := ⟨(zgood_in 1320 (by decide +kernel) (by decide +kernel)), (zgood_in 1321 (by decide +kernel) (by decide +kernel))⟩
theorem zMc_FB_whose : Cond.code yX11_whose cX11_whose 3 (some .int) ∈ zgood ∧ Cond.initialized yX11_whose.cls ∈ zgood ∧ (yX11_whose.cls ≠ "java/lang/invoke/MethodHandle" ∧ yX11_whose.cls ≠ "java/lang/invoke/VarHandle") ∧ (parseMethodDescriptor yX11_whose.desc).map (fun d => d.parameters.length) = some 1 := ⟨(zgood_in 603 (by decide +kernel) (by decide +kernel)), (zgood_in 102 (by decide +kernel) (by decide +kernel)), ⟨by decide, by decide⟩, by decide +kernel⟩
theorem zML_48 : zMth R_law 48 yX11_whose cX11_whose 3 (some .int) 1 := ⟨Or.inl (zgood_in 600 (by decide +kernel) (by decide +kernel)), zMc_FB_whose.1, zMc_FB_whose.2.1, zMc_FB_whose.2.2.1, zMc_FB_whose.2.2.2⟩
theorem zMv_FB_whose : zMthV yX11_whose := ⟨(zgood_in 601 (by decide +kernel) (by decide +kernel)), (zgood_in 602 (by decide +kernel) (by decide +kernel))⟩
theorem zMc_FM_whose : Cond.code yX12_whose cX12_whose 3 (some .int) ∈ zgood ∧ Cond.initialized yX12_whose.cls ∈ zgood ∧ (yX12_whose.cls ≠ "java/lang/invoke/MethodHandle" ∧ yX12_whose.cls ≠ "java/lang/invoke/VarHandle") ∧ (parseMethodDescriptor yX12_whose.desc).map (fun d => d.parameters.length) = some 1 := ⟨(zgood_in 1326 (by decide +kernel) (by decide +kernel)), (zgood_in 111 (by decide +kernel) (by decide +kernel)), ⟨by decide, by decide⟩, by decide +kernel⟩
theorem zML_51 : zMth R_law 51 yX12_whose cX12_whose 3 (some .int) 1 := ⟨Or.inl (zgood_in 1323 (by decide +kernel) (by decide +kernel)), zMc_FM_whose.1, zMc_FM_whose.2.1, zMc_FM_whose.2.2.1, zMc_FM_whose.2.2.2⟩
theorem zMv_FM_whose : zMthV yX12_whose := ⟨(zgood_in 1324 (by decide +kernel) (by decide +kernel)), (zgood_in 1325 (by decide +kernel) (by decide +kernel))⟩
theorem zMc_FB_ofShop : Cond.code yX11_ofShop cX11_ofShop 4 (some .int) ∈ zgood ∧ Cond.initialized yX11_ofShop.cls ∈ zgood ∧ (yX11_ofShop.cls ≠ "java/lang/invoke/MethodHandle" ∧ yX11_ofShop.cls ≠ "java/lang/invoke/VarHandle") ∧ (parseMethodDescriptor yX11_ofShop.desc).map (fun d => d.parameters.length) = some 2 := ⟨(zgood_in 608 (by decide +kernel) (by decide +kernel)), (zgood_in 102 (by decide +kernel) (by decide +kernel)), ⟨by decide, by decide⟩, by decide +kernel⟩
theorem zML_52 : zMth R_law 52 yX11_ofShop cX11_ofShop 4 (some .int) 2 := ⟨Or.inl (zgood_in 605 (by decide +kernel) (by decide +kernel)), zMc_FB_ofShop.1, zMc_FB_ofShop.2.1, zMc_FB_ofShop.2.2.1, zMc_FB_ofShop.2.2.2⟩
theorem zMv_FB_ofShop : zMthV yX11_ofShop := ⟨(zgood_in 606 (by decide +kernel) (by decide +kernel)), (zgood_in 607 (by decide +kernel) (by decide +kernel))⟩
theorem zMc_FM_ofShop : Cond.code yX12_ofShop cX12_ofShop 3 (some .int) ∈ zgood ∧ Cond.initialized yX12_ofShop.cls ∈ zgood ∧ (yX12_ofShop.cls ≠ "java/lang/invoke/MethodHandle" ∧ yX12_ofShop.cls ≠ "java/lang/invoke/VarHandle") ∧ (parseMethodDescriptor yX12_ofShop.desc).map (fun d => d.parameters.length) = some 2 := ⟨(zgood_in 1330 (by decide +kernel) (by decide +kernel)), (zgood_in 111 (by decide +kernel) (by decide +kernel)), ⟨by decide, by decide⟩, by decide +kernel⟩
theorem zML_55 : zMth R_law 55 yX12_ofShop cX12_ofShop 3 (some .int) 2 := ⟨Or.inl (zgood_in 1327 (by decide +kernel) (by decide +kernel)), zMc_FM_ofShop.1, zMc_FM_ofShop.2.1, zMc_FM_ofShop.2.2.1, zMc_FM_ofShop.2.2.2⟩
theorem zMv_FM_ofShop : zMthV yX12_ofShop := ⟨(zgood_in 1328 (by decide +kernel) (by decide +kernel)), (zgood_in 1329 (by decide +kernel) (by decide +kernel))⟩
theorem zMc_FB_foretold : Cond.code yX11_foretold cX11_foretold 3 (some .int) ∈ zgood ∧ Cond.initialized yX11_foretold.cls ∈ zgood ∧ (yX11_foretold.cls ≠ "java/lang/invoke/MethodHandle" ∧ yX11_foretold.cls ≠ "java/lang/invoke/VarHandle") ∧ (parseMethodDescriptor yX11_foretold.desc).map (fun d => d.parameters.length) = some 1 := ⟨(zgood_in 616 (by decide +kernel) (by decide +kernel)), (zgood_in 102 (by decide +kernel) (by decide +kernel)), ⟨by decide, by decide⟩, by decide +kernel⟩
theorem zML_56 : zMth R_law 56 yX11_foretold cX11_foretold 3 (some .int) 1 := ⟨Or.inl (zgood_in 613 (by decide +kernel) (by decide +kernel)), zMc_FB_foretold.1, zMc_FB_foretold.2.1, zMc_FB_foretold.2.2.1, zMc_FB_foretold.2.2.2⟩
theorem zMv_FB_foretold : zMthV yX11_foretold := ⟨(zgood_in 614 (by decide +kernel) (by decide +kernel)), (zgood_in 615 (by decide +kernel) (by decide +kernel))⟩
theorem zMc_FM_foretold : Cond.code yX12_foretold cX12_foretold 2 (some .int) ∈ zgood ∧ Cond.initialized yX12_foretold.cls ∈ zgood ∧ (yX12_foretold.cls ≠ "java/lang/invoke/MethodHandle" ∧ yX12_foretold.cls ≠ "java/lang/invoke/VarHandle") ∧ (parseMethodDescriptor yX12_foretold.desc).map (fun d => d.parameters.length) = some 1 := ⟨(zgood_in 1338 (by decide +kernel) (by decide +kernel)), (zgood_in 111 (by decide +kernel) (by decide +kernel)), ⟨by decide, by decide⟩, by decide +kernel⟩
theorem zML_59 : zMth R_law 59 yX12_foretold cX12_foretold 2 (some .int) 1 := ⟨Or.inl (zgood_in 1335 (by decide +kernel) (by decide +kernel)), zMc_FM_foretold.1, zMc_FM_foretold.2.1, zMc_FM_foretold.2.2.1, zMc_FM_foretold.2.2.2⟩
theorem zMv_FM_foretold : zMthV yX12_foretold := ⟨(zgood_in 1336 (by decide +kernel) (by decide +kernel)), (zgood_in 1337 (by decide +kernel) (by decide +kernel))⟩
theorem zMc_FB_harm : Cond.code yX11_harm cX11_harm 6 (some .int) ∈ zgood ∧ Cond.initialized yX11_harm.cls ∈ zgood ∧ (yX11_harm.cls ≠ "java/lang/invoke/MethodHandle" ∧ yX11_harm.cls ≠ "java/lang/invoke/VarHandle") ∧ (parseMethodDescriptor yX11_harm.desc).map (fun d => d.parameters.length) = some 3 := ⟨(zgood_in 646 (by decide +kernel) (by decide +kernel)), (zgood_in 102 (by decide +kernel) (by decide +kernel)), ⟨by decide, by decide⟩, by decide +kernel⟩
theorem zML_60 : zMth R_law 60 yX11_harm cX11_harm 6 (some .int) 3 := ⟨Or.inl (zgood_in 643 (by decide +kernel) (by decide +kernel)), zMc_FB_harm.1, zMc_FB_harm.2.1, zMc_FB_harm.2.2.1, zMc_FB_harm.2.2.2⟩
theorem zMv_FB_harm : zMthV yX11_harm := ⟨(zgood_in 644 (by decide +kernel) (by decide +kernel)), (zgood_in 645 (by decide +kernel) (by decide +kernel))⟩
theorem zMc_FM_harm : Cond.code yX12_harm cX12_harm 8 (some .int) ∈ zgood ∧ Cond.initialized yX12_harm.cls ∈ zgood ∧ (yX12_harm.cls ≠ "java/lang/invoke/MethodHandle" ∧ yX12_harm.cls ≠ "java/lang/invoke/VarHandle") ∧ (parseMethodDescriptor yX12_harm.desc).map (fun d => d.parameters.length) = some 3 := ⟨(zgood_in 1354 (by decide +kernel) (by decide +kernel)), (zgood_in 111 (by decide +kernel) (by decide +kernel)), ⟨by decide, by decide⟩, by decide +kernel⟩
theorem zML_63 : zMth R_law 63 yX12_harm cX12_harm 8 (some .int) 3 := ⟨Or.inl (zgood_in 1351 (by decide +kernel) (by decide +kernel)), zMc_FM_harm.1, zMc_FM_harm.2.1, zMc_FM_harm.2.2.1, zMc_FM_harm.2.2.2⟩
theorem zMv_FM_harm : zMthV yX12_harm := ⟨(zgood_in 1352 (by decide +kernel) (by decide +kernel)), (zgood_in 1353 (by decide +kernel) (by decide +kernel))⟩
theorem zMc_FB_site : Cond.code yX11_site cX11_site 2 (some .int) ∈ zgood ∧ Cond.initialized yX11_site.cls ∈ zgood ∧ (yX11_site.cls ≠ "java/lang/invoke/MethodHandle" ∧ yX11_site.cls ≠ "java/lang/invoke/VarHandle") ∧ (parseMethodDescriptor yX11_site.desc).map (fun d => d.parameters.length) = some 1 := ⟨(zgood_in 655 (by decide +kernel) (by decide +kernel)), (zgood_in 102 (by decide +kernel) (by decide +kernel)), ⟨by decide, by decide⟩, by decide +kernel⟩
theorem zML_64 : zMth R_law 64 yX11_site cX11_site 2 (some .int) 1 := ⟨Or.inl (zgood_in 652 (by decide +kernel) (by decide +kernel)), zMc_FB_site.1, zMc_FB_site.2.1, zMc_FB_site.2.2.1, zMc_FB_site.2.2.2⟩
theorem zMv_FB_site : zMthV yX11_site := ⟨(zgood_in 653 (by decide +kernel) (by decide +kernel)), (zgood_in 654 (by decide +kernel) (by decide +kernel))⟩
theorem zMc_FM_site : Cond.code yX12_site cX12_site 3 (some .int) ∈ zgood ∧ Cond.initialized yX12_site.cls ∈ zgood ∧ (yX12_site.cls ≠ "java/lang/invoke/MethodHandle" ∧ yX12_site.cls ≠ "java/lang/invoke/VarHandle") ∧ (parseMethodDescriptor yX12_site.desc).map (fun d => d.parameters.length) = some 1 := ⟨(zgood_in 1362 (by decide +kernel) (by decide +kernel)), (zgood_in 111 (by decide +kernel) (by decide +kernel)), ⟨by decide, by decide⟩, by decide +kernel⟩
theorem zML_67 : zMth R_law 67 yX12_site cX12_site 3 (some .int) 1 := ⟨Or.inl (zgood_in 1359 (by decide +kernel) (by decide +kernel)), zMc_FM_site.1, zMc_FM_site.2.1, zMc_FM_site.2.2.1, zMc_FM_site.2.2.2⟩
theorem zMv_FM_site : zMthV yX12_site := ⟨(zgood_in 1360 (by decide +kernel) (by decide +kernel)), (zgood_in 1361 (by decide +kernel) (by decide +kernel))⟩
theorem zMc_FB_best : Cond.code yX11_best cX11_best 4 (some .int) ∈ zgood ∧ Cond.initialized yX11_best.cls ∈ zgood ∧ (yX11_best.cls ≠ "java/lang/invoke/MethodHandle" ∧ yX11_best.cls ≠ "java/lang/invoke/VarHandle") ∧ (parseMethodDescriptor yX11_best.desc).map (fun d => d.parameters.length) = some 3 := ⟨(zgood_in 667 (by decide +kernel) (by decide +kernel)), (zgood_in 102 (by decide +kernel) (by decide +kernel)), ⟨by decide, by decide⟩, by decide +kernel⟩
theorem zML_68 : zMth R_law 68 yX11_best cX11_best 4 (some .int) 3 := ⟨Or.inl (zgood_in 664 (by decide +kernel) (by decide +kernel)), zMc_FB_best.1, zMc_FB_best.2.1, zMc_FB_best.2.2.1, zMc_FB_best.2.2.2⟩
theorem zMv_FB_best : zMthV yX11_best := ⟨(zgood_in 665 (by decide +kernel) (by decide +kernel)), (zgood_in 666 (by decide +kernel) (by decide +kernel))⟩
theorem zMc_FM_best : Cond.code yX12_best cX12_best 5 (some .int) ∈ zgood ∧ Cond.initialized yX12_best.cls ∈ zgood ∧ (yX12_best.cls ≠ "java/lang/invoke/MethodHandle" ∧ yX12_best.cls ≠ "java/lang/invoke/VarHandle") ∧ (parseMethodDescriptor yX12_best.desc).map (fun d => d.parameters.length) = some 3 := ⟨(zgood_in 1366 (by decide +kernel) (by decide +kernel)), (zgood_in 111 (by decide +kernel) (by decide +kernel)), ⟨by decide, by decide⟩, by decide +kernel⟩
theorem zML_71 : zMth R_law 71 yX12_best cX12_best 5 (some .int) 3 := ⟨Or.inl (zgood_in 1363 (by decide +kernel) (by decide +kernel)), zMc_FM_best.1, zMc_FM_best.2.1, zMc_FM_best.2.2.1, zMc_FM_best.2.2.2⟩
theorem zMv_FM_best : zMthV yX12_best := ⟨(zgood_in 1364 (by decide +kernel) (by decide +kernel)), (zgood_in 1365 (by decide +kernel) (by decide +kernel))⟩
theorem zMc_FB_found : Cond.code yX11_found cX11_found 2 (some .int) ∈ zgood ∧ Cond.initialized yX11_found.cls ∈ zgood ∧ (yX11_found.cls ≠ "java/lang/invoke/MethodHandle" ∧ yX11_found.cls ≠ "java/lang/invoke/VarHandle") ∧ (parseMethodDescriptor yX11_found.desc).map (fun d => d.parameters.length) = some 1 := ⟨(zgood_in 716 (by decide +kernel) (by decide +kernel)), (zgood_in 102 (by decide +kernel) (by decide +kernel)), ⟨by decide, by decide⟩, by decide +kernel⟩
theorem zML_72 : zMth R_law 72 yX11_found cX11_found 2 (some .int) 1 := ⟨Or.inl (zgood_in 713 (by decide +kernel) (by decide +kernel)), zMc_FB_found.1, zMc_FB_found.2.1, zMc_FB_found.2.2.1, zMc_FB_found.2.2.2⟩
theorem zMv_FB_found : zMthV yX11_found := ⟨(zgood_in 714 (by decide +kernel) (by decide +kernel)), (zgood_in 715 (by decide +kernel) (by decide +kernel))⟩
theorem zMc_FM_found : Cond.code yX12_found cX12_found 2 (some .int) ∈ zgood ∧ Cond.initialized yX12_found.cls ∈ zgood ∧ (yX12_found.cls ≠ "java/lang/invoke/MethodHandle" ∧ yX12_found.cls ≠ "java/lang/invoke/VarHandle") ∧ (parseMethodDescriptor yX12_found.desc).map (fun d => d.parameters.length) = some 1 := ⟨(zgood_in 1379 (by decide +kernel) (by decide +kernel)), (zgood_in 111 (by decide +kernel) (by decide +kernel)), ⟨by decide, by decide⟩, by decide +kernel⟩
theorem zML_75 : zMth R_law 75 yX12_found cX12_found 2 (some .int) 1 := ⟨Or.inl (zgood_in 1376 (by decide +kernel) (by decide +kernel)), zMc_FM_found.1, zMc_FM_found.2.1, zMc_FM_found.2.2.1, zMc_FM_found.2.2.2⟩
theorem zMv_FM_found : zMthV yX12_found := ⟨(zgood_in 1377 (by decide +kernel) (by decide +kernel)), (zgood_in 1378 (by decide +kernel) (by decide +kernel))⟩
theorem zMc_FB_feed : Cond.code yX11_feed cX11_feed 3 (some .int) ∈ zgood ∧ Cond.initialized yX11_feed.cls ∈ zgood ∧ (yX11_feed.cls ≠ "java/lang/invoke/MethodHandle" ∧ yX11_feed.cls ≠ "java/lang/invoke/VarHandle") ∧ (parseMethodDescriptor yX11_feed.desc).map (fun d => d.parameters.length) = some 2 := ⟨(zgood_in 724 (by decide +kernel) (by decide +kernel)), (zgood_in 102 (by decide +kernel) (by decide +kernel)), ⟨by decide, by decide⟩, by decide +kernel⟩
theorem zML_76 : zMth R_law 76 yX11_feed cX11_feed 3 (some .int) 2 := ⟨Or.inl (zgood_in 721 (by decide +kernel) (by decide +kernel)), zMc_FB_feed.1, zMc_FB_feed.2.1, zMc_FB_feed.2.2.1, zMc_FB_feed.2.2.2⟩
theorem zMv_FB_feed : zMthV yX11_feed := ⟨(zgood_in 722 (by decide +kernel) (by decide +kernel)), (zgood_in 723 (by decide +kernel) (by decide +kernel))⟩
theorem zMc_FM_feed : Cond.code yX12_feed cX12_feed 4 (some .int) ∈ zgood ∧ Cond.initialized yX12_feed.cls ∈ zgood ∧ (yX12_feed.cls ≠ "java/lang/invoke/MethodHandle" ∧ yX12_feed.cls ≠ "java/lang/invoke/VarHandle") ∧ (parseMethodDescriptor yX12_feed.desc).map (fun d => d.parameters.length) = some 2 := ⟨(zgood_in 1383 (by decide +kernel) (by decide +kernel)), (zgood_in 111 (by decide +kernel) (by decide +kernel)), ⟨by decide, by decide⟩, by decide +kernel⟩
theorem zML_79 : zMth R_law 79 yX12_feed cX12_feed 4 (some .int) 2 := ⟨Or.inl (zgood_in 1380 (by decide +kernel) (by decide +kernel)), zMc_FM_feed.1, zMc_FM_feed.2.1, zMc_FM_feed.2.2.1, zMc_FM_feed.2.2.2⟩
theorem zMv_FM_feed : zMthV yX12_feed := ⟨(zgood_in 1381 (by decide +kernel) (by decide +kernel)), (zgood_in 1382 (by decide +kernel) (by decide +kernel))⟩
theorem zMc_FB_terms : Cond.code yX11_terms cX11_terms 3 (some .int) ∈ zgood ∧ Cond.initialized yX11_terms.cls ∈ zgood ∧ (yX11_terms.cls ≠ "java/lang/invoke/MethodHandle" ∧ yX11_terms.cls ≠ "java/lang/invoke/VarHandle") ∧ (parseMethodDescriptor yX11_terms.desc).map (fun d => d.parameters.length) = some 2 := ⟨(zgood_in 733 (by decide +kernel) (by decide +kernel)), (zgood_in 102 (by decide +kernel) (by decide +kernel)), ⟨by decide, by decide⟩, by decide +kernel⟩
theorem zML_80 : zMth R_law 80 yX11_terms cX11_terms 3 (some .int) 2 := ⟨Or.inl (zgood_in 730 (by decide +kernel) (by decide +kernel)), zMc_FB_terms.1, zMc_FB_terms.2.1, zMc_FB_terms.2.2.1, zMc_FB_terms.2.2.2⟩
theorem zMv_FB_terms : zMthV yX11_terms := ⟨(zgood_in 731 (by decide +kernel) (by decide +kernel)), (zgood_in 732 (by decide +kernel) (by decide +kernel))⟩
theorem zMc_FM_terms : Cond.code yX12_terms cX12_terms 6 (some .int) ∈ zgood ∧ Cond.initialized yX12_terms.cls ∈ zgood ∧ (yX12_terms.cls ≠ "java/lang/invoke/MethodHandle" ∧ yX12_terms.cls ≠ "java/lang/invoke/VarHandle") ∧ (parseMethodDescriptor yX12_terms.desc).map (fun d => d.parameters.length) = some 2 := ⟨(zgood_in 1387 (by decide +kernel) (by decide +kernel)), (zgood_in 111 (by decide +kernel) (by decide +kernel)), ⟨by decide, by decide⟩, by decide +kernel⟩
theorem zML_83 : zMth R_law 83 yX12_terms cX12_terms 6 (some .int) 2 := ⟨Or.inl (zgood_in 1384 (by decide +kernel) (by decide +kernel)), zMc_FM_terms.1, zMc_FM_terms.2.1, zMc_FM_terms.2.2.1, zMc_FM_terms.2.2.2⟩
theorem zMv_FM_terms : zMthV yX12_terms := ⟨(zgood_in 1385 (by decide +kernel) (by decide +kernel)), (zgood_in 1386 (by decide +kernel) (by decide +kernel))⟩
theorem zMc_FB_inForce : Cond.code yX11_inForce cX11_inForce 5 (some .int) ∈ zgood ∧ Cond.initialized yX11_inForce.cls ∈ zgood ∧ (yX11_inForce.cls ≠ "java/lang/invoke/MethodHandle" ∧ yX11_inForce.cls ≠ "java/lang/invoke/VarHandle") ∧ (parseMethodDescriptor yX11_inForce.desc).map (fun d => d.parameters.length) = some 3 := ⟨(zgood_in 813 (by decide +kernel) (by decide +kernel)), (zgood_in 102 (by decide +kernel) (by decide +kernel)), ⟨by decide, by decide⟩, by decide +kernel⟩
theorem zML_84 : zMth R_law 84 yX11_inForce cX11_inForce 5 (some .int) 3 := ⟨Or.inl (zgood_in 810 (by decide +kernel) (by decide +kernel)), zMc_FB_inForce.1, zMc_FB_inForce.2.1, zMc_FB_inForce.2.2.1, zMc_FB_inForce.2.2.2⟩
theorem zMv_FB_inForce : zMthV yX11_inForce := ⟨(zgood_in 811 (by decide +kernel) (by decide +kernel)), (zgood_in 812 (by decide +kernel) (by decide +kernel))⟩
theorem zMc_FM_inForce : Cond.code yX12_inForce cX12_inForce 5 (some .int) ∈ zgood ∧ Cond.initialized yX12_inForce.cls ∈ zgood ∧ (yX12_inForce.cls ≠ "java/lang/invoke/MethodHandle" ∧ yX12_inForce.cls ≠ "java/lang/invoke/VarHandle") ∧ (parseMethodDescriptor yX12_inForce.desc).map (fun d => d.parameters.length) = some 3 := ⟨(zgood_in 1422 (by decide +kernel) (by decide +kernel)), (zgood_in 111 (by decide +kernel) (by decide +kernel)), ⟨by decide, by decide⟩, by decide +kernel⟩
theorem zML_87 : zMth R_law 87 yX12_inForce cX12_inForce 5 (some .int) 3 := ⟨Or.inl (zgood_in 1419 (by decide +kernel) (by decide +kernel)), zMc_FM_inForce.1, zMc_FM_inForce.2.1, zMc_FM_inForce.2.2.1, zMc_FM_inForce.2.2.2⟩
theorem zMv_FM_inForce : zMthV yX12_inForce := ⟨(zgood_in 1420 (by decide +kernel) (by decide +kernel)), (zgood_in 1421 (by decide +kernel) (by decide +kernel))⟩
theorem zMc_FB_gives : Cond.code yX11_gives cX11_gives 5 (some .int) ∈ zgood ∧ Cond.initialized yX11_gives.cls ∈ zgood ∧ (yX11_gives.cls ≠ "java/lang/invoke/MethodHandle" ∧ yX11_gives.cls ≠ "java/lang/invoke/VarHandle") ∧ (parseMethodDescriptor yX11_gives.desc).map (fun d => d.parameters.length) = some 3 := ⟨(zgood_in 825 (by decide +kernel) (by decide +kernel)), (zgood_in 102 (by decide +kernel) (by decide +kernel)), ⟨by decide, by decide⟩, by decide +kernel⟩
theorem zML_88 : zMth R_law 88 yX11_gives cX11_gives 5 (some .int) 3 := ⟨Or.inl (zgood_in 822 (by decide +kernel) (by decide +kernel)), zMc_FB_gives.1, zMc_FB_gives.2.1, zMc_FB_gives.2.2.1, zMc_FB_gives.2.2.2⟩
theorem zMv_FB_gives : zMthV yX11_gives := ⟨(zgood_in 823 (by decide +kernel) (by decide +kernel)), (zgood_in 824 (by decide +kernel) (by decide +kernel))⟩
theorem zMc_FM_gives : Cond.code yX12_gives cX12_gives 4 (some .int) ∈ zgood ∧ Cond.initialized yX12_gives.cls ∈ zgood ∧ (yX12_gives.cls ≠ "java/lang/invoke/MethodHandle" ∧ yX12_gives.cls ≠ "java/lang/invoke/VarHandle") ∧ (parseMethodDescriptor yX12_gives.desc).map (fun d => d.parameters.length) = some 3 := ⟨(zgood_in 1430 (by decide +kernel) (by decide +kernel)), (zgood_in 111 (by decide +kernel) (by decide +kernel)), ⟨by decide, by decide⟩, by decide +kernel⟩
theorem zML_91 : zMth R_law 91 yX12_gives cX12_gives 4 (some .int) 3 := ⟨Or.inl (zgood_in 1427 (by decide +kernel) (by decide +kernel)), zMc_FM_gives.1, zMc_FM_gives.2.1, zMc_FM_gives.2.2.1, zMc_FM_gives.2.2.2⟩
theorem zMv_FM_gives : zMthV yX12_gives := ⟨(zgood_in 1428 (by decide +kernel) (by decide +kernel)), (zgood_in 1429 (by decide +kernel) (by decide +kernel))⟩
theorem zMc_FB_month : Cond.code yX11_month cX11_month 11 (some .int) ∈ zgood ∧ Cond.initialized yX11_month.cls ∈ zgood ∧ (yX11_month.cls ≠ "java/lang/invoke/MethodHandle" ∧ yX11_month.cls ≠ "java/lang/invoke/VarHandle") ∧ (parseMethodDescriptor yX11_month.desc).map (fun d => d.parameters.length) = some 5 := ⟨(zgood_in 859 (by decide +kernel) (by decide +kernel)), (zgood_in 102 (by decide +kernel) (by decide +kernel)), ⟨by decide, by decide⟩, by decide +kernel⟩
theorem zML_92 : zMth R_law 92 yX11_month cX11_month 11 (some .int) 5 := ⟨Or.inl (zgood_in 856 (by decide +kernel) (by decide +kernel)), zMc_FB_month.1, zMc_FB_month.2.1, zMc_FB_month.2.2.1, zMc_FB_month.2.2.2⟩
theorem zMv_FB_month : zMthV yX11_month := ⟨(zgood_in 857 (by decide +kernel) (by decide +kernel)), (zgood_in 858 (by decide +kernel) (by decide +kernel))⟩
theorem zMc_FM_month : Cond.code yX12_month cX12_month 8 (some .int) ∈ zgood ∧ Cond.initialized yX12_month.cls ∈ zgood ∧ (yX12_month.cls ≠ "java/lang/invoke/MethodHandle" ∧ yX12_month.cls ≠ "java/lang/invoke/VarHandle") ∧ (parseMethodDescriptor yX12_month.desc).map (fun d => d.parameters.length) = some 5 := ⟨(zgood_in 1448 (by decide +kernel) (by decide +kernel)), (zgood_in 111 (by decide +kernel) (by decide +kernel)), ⟨by decide, by decide⟩, by decide +kernel⟩
theorem zML_96 : zMth R_law 96 yX12_month cX12_month 8 (some .int) 5 := ⟨Or.inl (zgood_in 1445 (by decide +kernel) (by decide +kernel)), zMc_FM_month.1, zMc_FM_month.2.1, zMc_FM_month.2.2.1, zMc_FM_month.2.2.2⟩
theorem zMv_FM_month : zMthV yX12_month := ⟨(zgood_in 1446 (by decide +kernel) (by decide +kernel)), (zgood_in 1447 (by decide +kernel) (by decide +kernel))⟩
theorem zMc_FB_isShort : Cond.code yX11_isShort cX11_isShort 5 (some .int) ∈ zgood ∧ Cond.initialized yX11_isShort.cls ∈ zgood ∧ (yX11_isShort.cls ≠ "java/lang/invoke/MethodHandle" ∧ yX11_isShort.cls ≠ "java/lang/invoke/VarHandle") ∧ (parseMethodDescriptor yX11_isShort.desc).map (fun d => d.parameters.length) = some 2 := ⟨(zgood_in 923 (by decide +kernel) (by decide +kernel)), (zgood_in 102 (by decide +kernel) (by decide +kernel)), ⟨by decide, by decide⟩, by decide +kernel⟩
theorem zML_97 : zMth R_law 97 yX11_isShort cX11_isShort 5 (some .int) 2 := ⟨Or.inl (zgood_in 920 (by decide +kernel) (by decide +kernel)), zMc_FB_isShort.1, zMc_FB_isShort.2.1, zMc_FB_isShort.2.2.1, zMc_FB_isShort.2.2.2⟩
theorem zMv_FB_isShort : zMthV yX11_isShort := ⟨(zgood_in 921 (by decide +kernel) (by decide +kernel)), (zgood_in 922 (by decide +kernel) (by decide +kernel))⟩
theorem zMc_FM_isShort : Cond.code yX12_isShort cX12_isShort 3 (some .int) ∈ zgood ∧ Cond.initialized yX12_isShort.cls ∈ zgood ∧ (yX12_isShort.cls ≠ "java/lang/invoke/MethodHandle" ∧ yX12_isShort.cls ≠ "java/lang/invoke/VarHandle") ∧ (parseMethodDescriptor yX12_isShort.desc).map (fun d => d.parameters.length) = some 2 := ⟨(zgood_in 1461 (by decide +kernel) (by decide +kernel)), (zgood_in 111 (by decide +kernel) (by decide +kernel)), ⟨by decide, by decide⟩, by decide +kernel⟩
theorem zML_100 : zMth R_law 100 yX12_isShort cX12_isShort 3 (some .int) 2 := ⟨Or.inl (zgood_in 1458 (by decide +kernel) (by decide +kernel)), zMc_FM_isShort.1, zMc_FM_isShort.2.1, zMc_FM_isShort.2.2.1, zMc_FM_isShort.2.2.2⟩
theorem zMv_FM_isShort : zMthV yX12_isShort := ⟨(zgood_in 1459 (by decide +kernel) (by decide +kernel)), (zgood_in 1460 (by decide +kernel) (by decide +kernel))⟩
theorem zMc_FB_under : Cond.code yX11_under cX11_under 4 (some .int) ∈ zgood ∧ Cond.initialized yX11_under.cls ∈ zgood ∧ (yX11_under.cls ≠ "java/lang/invoke/MethodHandle" ∧ yX11_under.cls ≠ "java/lang/invoke/VarHandle") ∧ (parseMethodDescriptor yX11_under.desc).map (fun d => d.parameters.length) = some 2 := ⟨(zgood_in 931 (by decide +kernel) (by decide +kernel)), (zgood_in 102 (by decide +kernel) (by decide +kernel)), ⟨by decide, by decide⟩, by decide +kernel⟩
theorem zML_101 : zMth R_law 101 yX11_under cX11_under 4 (some .int) 2 := ⟨Or.inl (zgood_in 928 (by decide +kernel) (by decide +kernel)), zMc_FB_under.1, zMc_FB_under.2.1, zMc_FB_under.2.2.1, zMc_FB_under.2.2.2⟩
theorem zMv_FB_under : zMthV yX11_under := ⟨(zgood_in 929 (by decide +kernel) (by decide +kernel)), (zgood_in 930 (by decide +kernel) (by decide +kernel))⟩
theorem zMc_FM_under : Cond.code yX12_under cX12_under 6 (some .int) ∈ zgood ∧ Cond.initialized yX12_under.cls ∈ zgood ∧ (yX12_under.cls ≠ "java/lang/invoke/MethodHandle" ∧ yX12_under.cls ≠ "java/lang/invoke/VarHandle") ∧ (parseMethodDescriptor yX12_under.desc).map (fun d => d.parameters.length) = some 2 := ⟨(zgood_in 1469 (by decide +kernel) (by decide +kernel)), (zgood_in 111 (by decide +kernel) (by decide +kernel)), ⟨by decide, by decide⟩, by decide +kernel⟩
theorem zML_104 : zMth R_law 104 yX12_under cX12_under 6 (some .int) 2 := ⟨Or.inl (zgood_in 1466 (by decide +kernel) (by decide +kernel)), zMc_FM_under.1, zMc_FM_under.2.1, zMc_FM_under.2.2.1, zMc_FM_under.2.2.2⟩
theorem zMv_FM_under : zMthV yX12_under := ⟨(zgood_in 1467 (by decide +kernel) (by decide +kernel)), (zgood_in 1468 (by decide +kernel) (by decide +kernel))⟩
theorem zMc_FB_pay : Cond.code yX11_pay cX11_pay 4 (some .int) ∈ zgood ∧ Cond.initialized yX11_pay.cls ∈ zgood ∧ (yX11_pay.cls ≠ "java/lang/invoke/MethodHandle" ∧ yX11_pay.cls ≠ "java/lang/invoke/VarHandle") ∧ (parseMethodDescriptor yX11_pay.desc).map (fun d => d.parameters.length) = some 2 := ⟨(zgood_in 941 (by decide +kernel) (by decide +kernel)), (zgood_in 102 (by decide +kernel) (by decide +kernel)), ⟨by decide, by decide⟩, by decide +kernel⟩
theorem zML_105 : zMth R_law 105 yX11_pay cX11_pay 4 (some .int) 2 := ⟨Or.inl (zgood_in 938 (by decide +kernel) (by decide +kernel)), zMc_FB_pay.1, zMc_FB_pay.2.1, zMc_FB_pay.2.2.1, zMc_FB_pay.2.2.2⟩
theorem zMv_FB_pay : zMthV yX11_pay := ⟨(zgood_in 939 (by decide +kernel) (by decide +kernel)), (zgood_in 940 (by decide +kernel) (by decide +kernel))⟩
theorem zMc_FM_pay : Cond.code yX12_pay cX12_pay 3 (some .int) ∈ zgood ∧ Cond.initialized yX12_pay.cls ∈ zgood ∧ (yX12_pay.cls ≠ "java/lang/invoke/MethodHandle" ∧ yX12_pay.cls ≠ "java/lang/invoke/VarHandle") ∧ (parseMethodDescriptor yX12_pay.desc).map (fun d => d.parameters.length) = some 2 := ⟨(zgood_in 1473 (by decide +kernel) (by decide +kernel)), (zgood_in 111 (by decide +kernel) (by decide +kernel)), ⟨by decide, by decide⟩, by decide +kernel⟩
theorem zML_108 : zMth R_law 108 yX12_pay cX12_pay 3 (some .int) 2 := ⟨Or.inl (zgood_in 1470 (by decide +kernel) (by decide +kernel)), zMc_FM_pay.1, zMc_FM_pay.2.1, zMc_FM_pay.2.2.1, zMc_FM_pay.2.2.2⟩
theorem zMv_FM_pay : zMthV yX12_pay := ⟨(zgood_in 1471 (by decide +kernel) (by decide +kernel)), (zgood_in 1472 (by decide +kernel) (by decide +kernel))⟩
theorem zMc_FB_owed : Cond.code yX11_owed cX11_owed 3 (some .int) ∈ zgood ∧ Cond.initialized yX11_owed.cls ∈ zgood ∧ (yX11_owed.cls ≠ "java/lang/invoke/MethodHandle" ∧ yX11_owed.cls ≠ "java/lang/invoke/VarHandle") ∧ (parseMethodDescriptor yX11_owed.desc).map (fun d => d.parameters.length) = some 1 := ⟨(zgood_in 951 (by decide +kernel) (by decide +kernel)), (zgood_in 102 (by decide +kernel) (by decide +kernel)), ⟨by decide, by decide⟩, by decide +kernel⟩
theorem zML_109 : zMth R_law 109 yX11_owed cX11_owed 3 (some .int) 1 := ⟨Or.inl (zgood_in 948 (by decide +kernel) (by decide +kernel)), zMc_FB_owed.1, zMc_FB_owed.2.1, zMc_FB_owed.2.2.1, zMc_FB_owed.2.2.2⟩
theorem zMv_FB_owed : zMthV yX11_owed := ⟨(zgood_in 949 (by decide +kernel) (by decide +kernel)), (zgood_in 950 (by decide +kernel) (by decide +kernel))⟩
theorem zMc_FM_owed : Cond.code yX12_owed cX12_owed 2 (some .int) ∈ zgood ∧ Cond.initialized yX12_owed.cls ∈ zgood ∧ (yX12_owed.cls ≠ "java/lang/invoke/MethodHandle" ∧ yX12_owed.cls ≠ "java/lang/invoke/VarHandle") ∧ (parseMethodDescriptor yX12_owed.desc).map (fun d => d.parameters.length) = some 1 := ⟨(zgood_in 1478 (by decide +kernel) (by decide +kernel)), (zgood_in 111 (by decide +kernel) (by decide +kernel)), ⟨by decide, by decide⟩, by decide +kernel⟩
theorem zML_112 : zMth R_law 112 yX12_owed cX12_owed 2 (some .int) 1 := ⟨Or.inl (zgood_in 1475 (by decide +kernel) (by decide +kernel)), zMc_FM_owed.1, zMc_FM_owed.2.1, zMc_FM_owed.2.2.1, zMc_FM_owed.2.2.2⟩
theorem zMv_FM_owed : zMthV yX12_owed := ⟨(zgood_in 1476 (by decide +kernel) (by decide +kernel)), (zgood_in 1477 (by decide +kernel) (by decide +kernel))⟩
theorem zMc_FB_led : Cond.code yX11_led cX11_led 6 (some .int) ∈ zgood ∧ Cond.initialized yX11_led.cls ∈ zgood ∧ (yX11_led.cls ≠ "java/lang/invoke/MethodHandle" ∧ yX11_led.cls ≠ "java/lang/invoke/VarHandle") ∧ (parseMethodDescriptor yX11_led.desc).map (fun d => d.parameters.length) = some 3 := ⟨(zgood_in 955 (by decide +kernel) (by decide +kernel)), (zgood_in 102 (by decide +kernel) (by decide +kernel)), ⟨by decide, by decide⟩, by decide +kernel⟩
theorem zML_113 : zMth R_law 113 yX11_led cX11_led 6 (some .int) 3 := ⟨Or.inl (zgood_in 952 (by decide +kernel) (by decide +kernel)), zMc_FB_led.1, zMc_FB_led.2.1, zMc_FB_led.2.2.1, zMc_FB_led.2.2.2⟩
theorem zMv_FB_led : zMthV yX11_led := ⟨(zgood_in 953 (by decide +kernel) (by decide +kernel)), (zgood_in 954 (by decide +kernel) (by decide +kernel))⟩
theorem zMc_FM_led : Cond.code yX12_led cX12_led 5 (some .int) ∈ zgood ∧ Cond.initialized yX12_led.cls ∈ zgood ∧ (yX12_led.cls ≠ "java/lang/invoke/MethodHandle" ∧ yX12_led.cls ≠ "java/lang/invoke/VarHandle") ∧ (parseMethodDescriptor yX12_led.desc).map (fun d => d.parameters.length) = some 3 := ⟨(zgood_in 1482 (by decide +kernel) (by decide +kernel)), (zgood_in 111 (by decide +kernel) (by decide +kernel)), ⟨by decide, by decide⟩, by decide +kernel⟩
theorem zML_116 : zMth R_law 116 yX12_led cX12_led 5 (some .int) 3 := ⟨Or.inl (zgood_in 1479 (by decide +kernel) (by decide +kernel)), zMc_FM_led.1, zMc_FM_led.2.1, zMc_FM_led.2.2.1, zMc_FM_led.2.2.2⟩
theorem zMv_FM_led : zMthV yX12_led := ⟨(zgood_in 1480 (by decide +kernel) (by decide +kernel)), (zgood_in 1481 (by decide +kernel) (by decide +kernel))⟩
theorem zMc_FB_notice : Cond.code yX11_notice cX11_notice 4 (some .int) ∈ zgood ∧ Cond.initialized yX11_notice.cls ∈ zgood ∧ (yX11_notice.cls ≠ "java/lang/invoke/MethodHandle" ∧ yX11_notice.cls ≠ "java/lang/invoke/VarHandle") ∧ (parseMethodDescriptor yX11_notice.desc).map (fun d => d.parameters.length) = some 1 := ⟨(zgood_in 959 (by decide +kernel) (by decide +kernel)), (zgood_in 102 (by decide +kernel) (by decide +kernel)), ⟨by decide, by decide⟩, by decide +kernel⟩
theorem zML_117 : zMth R_law 117 yX11_notice cX11_notice 4 (some .int) 1 := ⟨Or.inl (zgood_in 956 (by decide +kernel) (by decide +kernel)), zMc_FB_notice.1, zMc_FB_notice.2.1, zMc_FB_notice.2.2.1, zMc_FB_notice.2.2.2⟩
theorem zMv_FB_notice : zMthV yX11_notice := ⟨(zgood_in 957 (by decide +kernel) (by decide +kernel)), (zgood_in 958 (by decide +kernel) (by decide +kernel))⟩
theorem zMc_FM_notice : Cond.code yX12_notice cX12_notice 4 (some .int) ∈ zgood ∧ Cond.initialized yX12_notice.cls ∈ zgood ∧ (yX12_notice.cls ≠ "java/lang/invoke/MethodHandle" ∧ yX12_notice.cls ≠ "java/lang/invoke/VarHandle") ∧ (parseMethodDescriptor yX12_notice.desc).map (fun d => d.parameters.length) = some 1 := ⟨(zgood_in 1486 (by decide +kernel) (by decide +kernel)), (zgood_in 111 (by decide +kernel) (by decide +kernel)), ⟨by decide, by decide⟩, by decide +kernel⟩
theorem zML_120 : zMth R_law 120 yX12_notice cX12_notice 4 (some .int) 1 := ⟨Or.inl (zgood_in 1483 (by decide +kernel) (by decide +kernel)), zMc_FM_notice.1, zMc_FM_notice.2.1, zMc_FM_notice.2.2.1, zMc_FM_notice.2.2.2⟩
theorem zMv_FM_notice : zMthV yX12_notice := ⟨(zgood_in 1484 (by decide +kernel) (by decide +kernel)), (zgood_in 1485 (by decide +kernel) (by decide +kernel))⟩
theorem zMc_FB_ofNotice : Cond.code yX11_ofNotice cX11_ofNotice 4 (some .int) ∈ zgood ∧ Cond.initialized yX11_ofNotice.cls ∈ zgood ∧ (yX11_ofNotice.cls ≠ "java/lang/invoke/MethodHandle" ∧ yX11_ofNotice.cls ≠ "java/lang/invoke/VarHandle") ∧ (parseMethodDescriptor yX11_ofNotice.desc).map (fun d => d.parameters.length) = some 2 := ⟨(zgood_in 968 (by decide +kernel) (by decide +kernel)), (zgood_in 102 (by decide +kernel) (by decide +kernel)), ⟨by decide, by decide⟩, by decide +kernel⟩
theorem zML_121 : zMth R_law 121 yX11_ofNotice cX11_ofNotice 4 (some .int) 2 := ⟨Or.inl (zgood_in 965 (by decide +kernel) (by decide +kernel)), zMc_FB_ofNotice.1, zMc_FB_ofNotice.2.1, zMc_FB_ofNotice.2.2.1, zMc_FB_ofNotice.2.2.2⟩
theorem zMv_FB_ofNotice : zMthV yX11_ofNotice := ⟨(zgood_in 966 (by decide +kernel) (by decide +kernel)), (zgood_in 967 (by decide +kernel) (by decide +kernel))⟩
theorem zMc_FM_ofNotice : Cond.code yX12_ofNotice cX12_ofNotice 3 (some .int) ∈ zgood ∧ Cond.initialized yX12_ofNotice.cls ∈ zgood ∧ (yX12_ofNotice.cls ≠ "java/lang/invoke/MethodHandle" ∧ yX12_ofNotice.cls ≠ "java/lang/invoke/VarHandle") ∧ (parseMethodDescriptor yX12_ofNotice.desc).map (fun d => d.parameters.length) = some 2 := ⟨(zgood_in 1490 (by decide +kernel) (by decide +kernel)), (zgood_in 111 (by decide +kernel) (by decide +kernel)), ⟨by decide, by decide⟩, by decide +kernel⟩
theorem zML_124 : zMth R_law 124 yX12_ofNotice cX12_ofNotice 3 (some .int) 2 := ⟨Or.inl (zgood_in 1487 (by decide +kernel) (by decide +kernel)), zMc_FM_ofNotice.1, zMc_FM_ofNotice.2.1, zMc_FM_ofNotice.2.2.1, zMc_FM_ofNotice.2.2.2⟩
theorem zMv_FM_ofNotice : zMthV yX12_ofNotice := ⟨(zgood_in 1488 (by decide +kernel) (by decide +kernel)), (zgood_in 1489 (by decide +kernel) (by decide +kernel))⟩
theorem zMc_FB_gain : Cond.code yX11_gain cX11_gain 5 (some .int) ∈ zgood ∧ Cond.initialized yX11_gain.cls ∈ zgood ∧ (yX11_gain.cls ≠ "java/lang/invoke/MethodHandle" ∧ yX11_gain.cls ≠ "java/lang/invoke/VarHandle") ∧ (parseMethodDescriptor yX11_gain.desc).map (fun d => d.parameters.length) = some 2 := ⟨(zgood_in 972 (by decide +kernel) (by decide +kernel)), (zgood_in 102 (by decide +kernel) (by decide +kernel)), ⟨by decide, by decide⟩, by decide +kernel⟩
theorem zML_125 : zMth R_law 125 yX11_gain cX11_gain 5 (some .int) 2 := ⟨Or.inl (zgood_in 969 (by decide +kernel) (by decide +kernel)), zMc_FB_gain.1, zMc_FB_gain.2.1, zMc_FB_gain.2.2.1, zMc_FB_gain.2.2.2⟩
theorem zMv_FB_gain : zMthV yX11_gain := ⟨(zgood_in 970 (by decide +kernel) (by decide +kernel)), (zgood_in 971 (by decide +kernel) (by decide +kernel))⟩
theorem zMc_FM_gain : Cond.code yX12_gain cX12_gain 4 (some .int) ∈ zgood ∧ Cond.initialized yX12_gain.cls ∈ zgood ∧ (yX12_gain.cls ≠ "java/lang/invoke/MethodHandle" ∧ yX12_gain.cls ≠ "java/lang/invoke/VarHandle") ∧ (parseMethodDescriptor yX12_gain.desc).map (fun d => d.parameters.length) = some 2 := ⟨(zgood_in 1494 (by decide +kernel) (by decide +kernel)), (zgood_in 111 (by decide +kernel) (by decide +kernel)), ⟨by decide, by decide⟩, by decide +kernel⟩
theorem zML_128 : zMth R_law 128 yX12_gain cX12_gain 4 (some .int) 2 := ⟨Or.inl (zgood_in 1491 (by decide +kernel) (by decide +kernel)), zMc_FM_gain.1, zMc_FM_gain.2.1, zMc_FM_gain.2.2.1, zMc_FM_gain.2.2.2⟩
theorem zMv_FM_gain : zMthV yX12_gain := ⟨(zgood_in 1492 (by decide +kernel) (by decide +kernel)), (zgood_in 1493 (by decide +kernel) (by decide +kernel))⟩
theorem zMc_FB_spend : Cond.code yX11_spend cX11_spend 2 (some .int) ∈ zgood ∧ Cond.initialized yX11_spend.cls ∈ zgood ∧ (yX11_spend.cls ≠ "java/lang/invoke/MethodHandle" ∧ yX11_spend.cls ≠ "java/lang/invoke/VarHandle") ∧ (parseMethodDescriptor yX11_spend.desc).map (fun d => d.parameters.length) = some 1 := ⟨(zgood_in 976 (by decide +kernel) (by decide +kernel)), (zgood_in 102 (by decide +kernel) (by decide +kernel)), ⟨by decide, by decide⟩, by decide +kernel⟩
theorem zML_129 : zMth R_law 129 yX11_spend cX11_spend 2 (some .int) 1 := ⟨Or.inl (zgood_in 973 (by decide +kernel) (by decide +kernel)), zMc_FB_spend.1, zMc_FB_spend.2.1, zMc_FB_spend.2.2.1, zMc_FB_spend.2.2.2⟩
theorem zMv_FB_spend : zMthV yX11_spend := ⟨(zgood_in 974 (by decide +kernel) (by decide +kernel)), (zgood_in 975 (by decide +kernel) (by decide +kernel))⟩
theorem zMc_FM_spend : Cond.code yX12_spend cX12_spend 12 (some .int) ∈ zgood ∧ Cond.initialized yX12_spend.cls ∈ zgood ∧ (yX12_spend.cls ≠ "java/lang/invoke/MethodHandle" ∧ yX12_spend.cls ≠ "java/lang/invoke/VarHandle") ∧ (parseMethodDescriptor yX12_spend.desc).map (fun d => d.parameters.length) = some 1 := ⟨(zgood_in 1498 (by decide +kernel) (by decide +kernel)), (zgood_in 111 (by decide +kernel) (by decide +kernel)), ⟨by decide, by decide⟩, by decide +kernel⟩
theorem zML_132 : zMth R_law 132 yX12_spend cX12_spend 12 (some .int) 1 := ⟨Or.inl (zgood_in 1495 (by decide +kernel) (by decide +kernel)), zMc_FM_spend.1, zMc_FM_spend.2.1, zMc_FM_spend.2.2.1, zMc_FM_spend.2.2.2⟩
theorem zMv_FM_spend : zMthV yX12_spend := ⟨(zgood_in 1496 (by decide +kernel) (by decide +kernel)), (zgood_in 1497 (by decide +kernel) (by decide +kernel))⟩
theorem zMc_FB_load : Cond.code yX11_load cX11_load 3 (some .int) ∈ zgood ∧ Cond.initialized yX11_load.cls ∈ zgood ∧ (yX11_load.cls ≠ "java/lang/invoke/MethodHandle" ∧ yX11_load.cls ≠ "java/lang/invoke/VarHandle") ∧ (parseMethodDescriptor yX11_load.desc).map (fun d => d.parameters.length) = some 2 := ⟨(zgood_in 999 (by decide +kernel) (by decide +kernel)), (zgood_in 102 (by decide +kernel) (by decide +kernel)), ⟨by decide, by decide⟩, by decide +kernel⟩
theorem zML_133 : zMth R_law 133 yX11_load cX11_load 3 (some .int) 2 := ⟨Or.inl (zgood_in 996 (by decide +kernel) (by decide +kernel)), zMc_FB_load.1, zMc_FB_load.2.1, zMc_FB_load.2.2.1, zMc_FB_load.2.2.2⟩
theorem zMv_FB_load : zMthV yX11_load := ⟨(zgood_in 997 (by decide +kernel) (by decide +kernel)), (zgood_in 998 (by decide +kernel) (by decide +kernel))⟩
theorem zMc_FM_load : Cond.code yX12_load cX12_load 3 (some .int) ∈ zgood ∧ Cond.initialized yX12_load.cls ∈ zgood ∧ (yX12_load.cls ≠ "java/lang/invoke/MethodHandle" ∧ yX12_load.cls ≠ "java/lang/invoke/VarHandle") ∧ (parseMethodDescriptor yX12_load.desc).map (fun d => d.parameters.length) = some 2 := ⟨(zgood_in 1506 (by decide +kernel) (by decide +kernel)), (zgood_in 111 (by decide +kernel) (by decide +kernel)), ⟨by decide, by decide⟩, by decide +kernel⟩
theorem zML_136 : zMth R_law 136 yX12_load cX12_load 3 (some .int) 2 := ⟨Or.inl (zgood_in 1503 (by decide +kernel) (by decide +kernel)), zMc_FM_load.1, zMc_FM_load.2.1, zMc_FM_load.2.2.1, zMc_FM_load.2.2.2⟩
theorem zMv_FM_load : zMthV yX12_load := ⟨(zgood_in 1504 (by decide +kernel) (by decide +kernel)), (zgood_in 1505 (by decide +kernel) (by decide +kernel))⟩
theorem zMc_FB_carts : Cond.code yX11_carts cX11_carts 2 (some .int) ∈ zgood ∧ Cond.initialized yX11_carts.cls ∈ zgood ∧ (yX11_carts.cls ≠ "java/lang/invoke/MethodHandle" ∧ yX11_carts.cls ≠ "java/lang/invoke/VarHandle") ∧ (parseMethodDescriptor yX11_carts.desc).map (fun d => d.parameters.length) = some 1 := ⟨(zgood_in 1013 (by decide +kernel) (by decide +kernel)), (zgood_in 102 (by decide +kernel) (by decide +kernel)), ⟨by decide, by decide⟩, by decide +kernel⟩
theorem zML_137 : zMth R_law 137 yX11_carts cX11_carts 2 (some .int) 1 := ⟨Or.inl (zgood_in 1010 (by decide +kernel) (by decide +kernel)), zMc_FB_carts.1, zMc_FB_carts.2.1, zMc_FB_carts.2.2.1, zMc_FB_carts.2.2.2⟩
theorem zMv_FB_carts : zMthV yX11_carts := ⟨(zgood_in 1011 (by decide +kernel) (by decide +kernel)), (zgood_in 1012 (by decide +kernel) (by decide +kernel))⟩
theorem zMc_FM_carts : Cond.code yX12_carts cX12_carts 5 (some .int) ∈ zgood ∧ Cond.initialized yX12_carts.cls ∈ zgood ∧ (yX12_carts.cls ≠ "java/lang/invoke/MethodHandle" ∧ yX12_carts.cls ≠ "java/lang/invoke/VarHandle") ∧ (parseMethodDescriptor yX12_carts.desc).map (fun d => d.parameters.length) = some 1 := ⟨(zgood_in 1510 (by decide +kernel) (by decide +kernel)), (zgood_in 111 (by decide +kernel) (by decide +kernel)), ⟨by decide, by decide⟩, by decide +kernel⟩
theorem zML_140 : zMth R_law 140 yX12_carts cX12_carts 5 (some .int) 1 := ⟨Or.inl (zgood_in 1507 (by decide +kernel) (by decide +kernel)), zMc_FM_carts.1, zMc_FM_carts.2.1, zMc_FM_carts.2.2.1, zMc_FM_carts.2.2.2⟩
theorem zMv_FM_carts : zMthV yX12_carts := ⟨(zgood_in 1508 (by decide +kernel) (by decide +kernel)), (zgood_in 1509 (by decide +kernel) (by decide +kernel))⟩
theorem zMc_FB_cart : Cond.code yX11_cart cX11_cart 2 (some .int) ∈ zgood ∧ Cond.initialized yX11_cart.cls ∈ zgood ∧ (yX11_cart.cls ≠ "java/lang/invoke/MethodHandle" ∧ yX11_cart.cls ≠ "java/lang/invoke/VarHandle") ∧ (parseMethodDescriptor yX11_cart.desc).map (fun d => d.parameters.length) = some 1 := ⟨(zgood_in 1034 (by decide +kernel) (by decide +kernel)), (zgood_in 102 (by decide +kernel) (by decide +kernel)), ⟨by decide, by decide⟩, by decide +kernel⟩
theorem zML_141 : zMth R_law 141 yX11_cart cX11_cart 2 (some .int) 1 := ⟨Or.inl (zgood_in 1031 (by decide +kernel) (by decide +kernel)), zMc_FB_cart.1, zMc_FB_cart.2.1, zMc_FB_cart.2.2.1, zMc_FB_cart.2.2.2⟩
theorem zMv_FB_cart : zMthV yX11_cart := ⟨(zgood_in 1032 (by decide +kernel) (by decide +kernel)), (zgood_in 1033 (by decide +kernel) (by decide +kernel))⟩
theorem zMc_FM_cart : Cond.code yX12_cart cX12_cart 2 (some .int) ∈ zgood ∧ Cond.initialized yX12_cart.cls ∈ zgood ∧ (yX12_cart.cls ≠ "java/lang/invoke/MethodHandle" ∧ yX12_cart.cls ≠ "java/lang/invoke/VarHandle") ∧ (parseMethodDescriptor yX12_cart.desc).map (fun d => d.parameters.length) = some 1 := ⟨(zgood_in 1518 (by decide +kernel) (by decide +kernel)), (zgood_in 111 (by decide +kernel) (by decide +kernel)), ⟨by decide, by decide⟩, by decide +kernel⟩
theorem zML_144 : zMth R_law 144 yX12_cart cX12_cart 2 (some .int) 1 := ⟨Or.inl (zgood_in 1515 (by decide +kernel) (by decide +kernel)), zMc_FM_cart.1, zMc_FM_cart.2.1, zMc_FM_cart.2.2.1, zMc_FM_cart.2.2.2⟩
theorem zMv_FM_cart : zMthV yX12_cart := ⟨(zgood_in 1516 (by decide +kernel) (by decide +kernel)), (zgood_in 1517 (by decide +kernel) (by decide +kernel))⟩
theorem zMc_FB_count : Cond.code yX11_count cX11_count 2 (some .int) ∈ zgood ∧ Cond.initialized yX11_count.cls ∈ zgood ∧ (yX11_count.cls ≠ "java/lang/invoke/MethodHandle" ∧ yX11_count.cls ≠ "java/lang/invoke/VarHandle") ∧ (parseMethodDescriptor yX11_count.desc).map (fun d => d.parameters.length) = some 1 := ⟨(zgood_in 1042 (by decide +kernel) (by decide +kernel)), (zgood_in 102 (by decide +kernel) (by decide +kernel)), ⟨by decide, by decide⟩, by decide +kernel⟩
theorem zML_145 : zMth R_law 145 yX11_count cX11_count 2 (some .int) 1 := ⟨Or.inl (zgood_in 1039 (by decide +kernel) (by decide +kernel)), zMc_FB_count.1, zMc_FB_count.2.1, zMc_FB_count.2.2.1, zMc_FB_count.2.2.2⟩
theorem zMv_FB_count : zMthV yX11_count := ⟨(zgood_in 1040 (by decide +kernel) (by decide +kernel)), (zgood_in 1041 (by decide +kernel) (by decide +kernel))⟩
theorem zMc_FM_count : Cond.code yX12_count cX12_count 5 (some .int) ∈ zgood ∧ Cond.initialized yX12_count.cls ∈ zgood ∧ (yX12_count.cls ≠ "java/lang/invoke/MethodHandle" ∧ yX12_count.cls ≠ "java/lang/invoke/VarHandle") ∧ (parseMethodDescriptor yX12_count.desc).map (fun d => d.parameters.length) = some 1 := ⟨(zgood_in 1522 (by decide +kernel) (by decide +kernel)), (zgood_in 111 (by decide +kernel) (by decide +kernel)), ⟨by decide, by decide⟩, by decide +kernel⟩
theorem zML_148 : zMth R_law 148 yX12_count cX12_count 5 (some .int) 1 := ⟨Or.inl (zgood_in 1519 (by decide +kernel) (by decide +kernel)), zMc_FM_count.1, zMc_FM_count.2.1, zMc_FM_count.2.2.1, zMc_FM_count.2.2.2⟩
theorem zMv_FM_count : zMthV yX12_count := ⟨(zgood_in 1520 (by decide +kernel) (by decide +kernel)), (zgood_in 1521 (by decide +kernel) (by decide +kernel))⟩
theorem zML_9 : zMth R_law 9 yX11_init cX11_init 1 none 0 := ⟨Or.inl (zgood_in 118 (by decide +kernel) (by decide +kernel)), (zgood_in 120 (by decide +kernel) (by decide +kernel)), (zgood_in 102 (by decide +kernel) (by decide +kernel)), ⟨by decide, by decide⟩, by decide +kernel⟩
theorem zMi_FB_init : yX11_init.name = "<init>" ∧ Cond.instanceMethod yX11_init ∈ zgood := ⟨rfl, (zgood_in 119 (by decide +kernel) (by decide +kernel))⟩
theorem zML_12 : zMth R_law 12 yX12_init cX12_init 2 none 0 := ⟨Or.inl (zgood_in 1053 (by decide +kernel) (by decide +kernel)), (zgood_in 1055 (by decide +kernel) (by decide +kernel)), (zgood_in 111 (by decide +kernel) (by decide +kernel)), ⟨by decide, by decide⟩, by decide +kernel⟩
theorem zMi_FM_init : yX12_init.name = "<init>" ∧ Cond.instanceMethod yX12_init ∈ zgood := ⟨rfl, (zgood_in 1054 (by decide +kernel) (by decide +kernel))⟩
section LAWR
variable {p : Program} {l : Launch} {e : Env} {R : Room} {s : State} {m : MethodId} {args : Array Value} {below : List Frame} {meth : Method} {c : Code} {D : va_G} {aC : Nat → ClassId} {G0 X M : Hp} {cells slots : Nat} {cc : ByteArray} {nL : Nat} {own : String} {pc : Nat} {rest : List Value} {H : Heap} {locs : List Loc} {ls : Array Slot} {Q : State → Prop}
/-- another heap's view behind a call -/
theorem zI.other {X' : Hp} {H1 : Heap} {locs1 : List Loc} (hM : zI D aC G0 s.heap M H locs) (hap : zapart X M) (hX : zn X = H.size) (hS1 : va_S (zA G0) s.heap H1 locs1) (hz : H.size ≤ H1.size) (hn : zn X' = H1.size) (ho : ∀ q : Nat, q < H.size → ¬ zA X q → H1[q]? = H[q]?) : zI D aC G0 s.heap (zup M (zn X')) H1 locs1 := by
  obtain ⟨⟨h1, h2⟩, -, h3, h4⟩ := hM
  refine ⟨⟨hn, fun q t n hq => ?_⟩, hS1, ⟨by rw [zn_up, hn]; have := h3.1; omega, h3.2⟩, h4⟩
  obtain ⟨a1, a2, a3⟩ := h2 q t n hq
  have hlt : q < H.size := a2.lt
  refine ⟨a1, a2.kept (ho q hlt (fun z => ?_)), a3⟩
  rcases z with z | z
  · have := hap q z
    rw [zk_up] at hq
    rw [this] at hq
    cases hq
  · rw [hX] at z; omega
theorem zapart.next {X' : Hp} {n : Nat} (h : zapart X M) (hM : zM X X') (hlt : ∀ q, zk M q ≠ none → q < zn X) : zapart X' (zup M n) := fun q hq => by
  rw [zk_up]
  by_cases e : zk M q = none
  · exact e
  · rcases hM.2 q hq with z | z
    · exact h q z
    · have := hlt q e; omega
theorem zapart.sy (h : zapart X M) : zapart M X := fun q hq => by
  by_cases e : zk X q = none
  · exact e
  · exact absurd (h q e) hq
theorem law_call {I : Prop} {w : Option Value} {X' : Hp} {mc ms : Nat} {st : List Value} {a : Array Value} (hr : va_Run p l e R s m args below meth c H locs cells slots mc ms (F0 m pc ls st) rest (zQ D aC X I w X' a) (zA X)) (hX : zI D aC G0 s.heap X H locs) (hM : zI D aC G0 s.heap M H locs) (hap : zapart X M)
    (kk : I → ∀ (H1 : Heap) (locs1 : List Loc), zI D aC G0 s.heap X' H1 locs1 → zI D aC G0 s.heap (zup M (zn X')) H1 locs1 → zapart X' (zup M (zn X')) → zn M ≤ zn X' → W p l e R s m args below meth c H1 locs1 (cells + mc) (slots + ms) Q (F0 m (pc + 3) ls (w.toList ++ rest))) : W p l e R s m args below meth c H locs cells slots Q (F0 m pc ls st) := by
  intro T hT Xs
  obtain ⟨v, st₀, t, T', L, h0, X1, hL, e1, e2, ⟨hi, hv, hH, hMM, hF1, hF2⟩, st⟩ := hr T hT Xs
  cases hv
  rw [h0] at hF1 hF2
  have hS := hX.2.1
  have hS1 : va_S (zA G0) s.heap T'.heap (locs ++ L) := ⟨Nat.le_trans hS.1 (by rw [e1]; exact hF1), fun q h1 h2 => by
      rw [e1, hF2 q (Nat.lt_of_lt_of_le h1 hS.1) (fun z => h2 (zA.mono hX.2.2.1 z))]; exact hS.2.1 q h1 h2, fun q hq => by
      rcases List.mem_append.mp hq with h | h
      · exact hS.2.2 q h
      · exact zA.mono hX.2.2.1 (hL q h)⟩
  have hI1 : zI D aC G0 s.heap X' T'.heap (locs ++ L) := ⟨by rw [e1]; exact hH, hS1, hX.2.2.1.tr hMM, hX.2.2.2⟩
  have hI2 := zI.other (X' := X') hM hap hX.1.1 hS1 (by rw [e1]; exact hF1) hI1.1.1 (fun q h1 h2 => by rw [e1]; exact hF2 q h1 h2)
  obtain ⟨t2, a1, b1⟩ := kk hi T'.heap (locs ++ L) hI1 hI2 (hap.next hMM (fun q hq => by
    cases hz : zk M q with
    | none => exact absurd hz hq
    | some z => have := hM.1.lt hz; rw [hX.1.1]; rw [hM.1.1] at this; exact this)) (by rw [hM.1.1, hI1.1.1, e1]; exact hF1) T' rfl X1
  exact ⟨t2, st t2 a1, b1⟩
theorem zI.keep {H1 : Heap} (hX : zI D aC G0 s.heap X H locs) (hz : H.size ≤ H1.size) (ho : ∀ q : Nat, q < H.size → H1[q]? = H[q]?) : zI D aC G0 s.heap (zup X H1.size) H1 locs := by
  obtain ⟨⟨h1, h2⟩, hS, h3, h4⟩ := hX
  refine ⟨⟨rfl, fun q t n hq => ?_⟩, ⟨Nat.le_trans hS.1 hz, fun q q1 q2 => (ho q (Nat.lt_of_lt_of_le q1 hS.1)).trans (hS.2.1 q q1 q2), hS.2.2⟩, ⟨by rw [zn_up]; have := h3.1; omega, h3.2⟩, h4⟩
  obtain ⟨a1, a2, a3⟩ := h2 q t n hq
  exact ⟨a1, a2.kept (ho q a2.lt), a3⟩
theorem law_new (hC : zC p m c meth s args cc nL own D aC) (hX : zI D aC G0 s.heap X H locs) (hM : zI D aC G0 s.heap M H locs) {t idx : Nat} {r0 : vw_C} (hc : zcl[t]? = some r0) (hcl : Cond.classLink own idx r0.1 ∈ zgood) (hin : Cond.instantiable r0.1 r0.2.2 ∈ zgood) (hini : Cond.initialized r0.1 ∈ zgood) (hcells : cells + 1 ≤ R.cells) (hslots : slots + r0.2.2 ≤ R.slots) (hdg : decode cc pc = .ok (.new idx, 3))
    (kk : ∀ H1 : Heap, zI D aC G0 s.heap (znw M t 0) H1 locs → zI D aC G0 s.heap (zup X (zn M + 1)) H1 locs → W p l e R s m args below meth c H1 locs (cells + 1) (slots + r0.2.2) Q (F0 m (pc + 3) ls (.ref (zn M) :: rest))) : W p l e R s m args below meth c H locs cells slots Q (F0 m pc ls rest) := by
  obtain ⟨hx, hb, -, hown, hts, -, hKK⟩ := id hC
  obtain ⟨hNN, ht⟩ := zcl_N t r0 hc
  have hKn := hKK.1.1 t _ hc
  refine W.newcK hx hb hown (hts _ hcl) (hts _ hin) (hts _ hini) rfl hdg hcells hslots hKn.2.1 rfl fun H1 kC hkC e1 z1 o1 => ?_
  have hat : va_at D zcl (H.size, ze aC t 0 (fun _ => 0) (fun _ => none)) H1 := by
    rw [ze_obj ht]
    refine ⟨r0, hc, (u_born (zty t) hts (zwords hc) hKn hkC e1 (zcl_ty t r0 hc)).to fun k hk => ?_⟩
    have hk' : k < zN t := by rw [← hNN]; exact hk
    rw [zfs_V hk']
    exact (zval_default ht hk').1
  have hI1 := zI.new hM (Or.inl ht) z1 o1 hat ⟨by decide, fun _ k hk => (zval_default ht hk).2, fun q => by omega, fun q => by omega, fun q => by omega⟩
  have hI2 := zI.keep hX (by omega) o1
  rw [z1, ← hM.1.1] at hI2
  have h := kk H1 hI1 hI2
  rw [show zn M = H.size from hM.1.1] at h
  exact h
theorem law_runI {X1 : Hp} {y : MethodName} {b : ByteArray} {maxL n idx mc ms : Nat} {rm : Room} {As st : List Value} {Qa : Array Value → State → Outcome → State → Prop} {q : Nat} (hC : zC p m c meth s args cc nL own D aC) (hI : zI D aC G0 s.heap X1 H locs) (hl : ls.size = nL) (hM : Met l y (Cond.code y b maxL none :: zgood) rm (va_Pc (.ref q :: As) (zU D aC X1)) Qa mc ms (zA X1)) (hm : zMth own idx y b maxL none n) (hmi : y.name = "<init>" ∧ Cond.instanceMethod y ∈ zgood) (hR : rm.frames + 1 ≤ R.frames ∧ 8 + (maxL + 11) + rm.locals ≤ R.locals) (hrc : rm.cells = mc) (hrs : rm.slots = ms) (hn : As.length = n) (hW : (rest.map fun v => v.category).sum ≤ 8) (hf : cells + mc ≤ R.cells ∧ slots + ms ≤ R.slots) (hst : st = As.reverse ++ .ref q :: rest) (hdg : decode cc pc = .ok (.invokespecial idx, 3)) : va_Run p l e R s m args below meth c H locs cells slots mc ms (F0 m pc ls st) rest (Qa (Value.ref q :: As).toArray) (zA X1) := by
  obtain ⟨hln, hcode, hini, hno, hds⟩ := hm
  have hts := hC.2.2.2.2.1
  have hP : PreS s H (va_Pc (.ref q :: As) (zU D aC X1)) (.ref q :: As) := ⟨zU.blind, fun U hU hW => ⟨rfl, hC.2.2.2.2.2.2.warm hW, by rw [hU]; exact hI.1⟩⟩
  rcases hln with hln | hln
  · exact va_runI ⟨hC.1, hC.2.1, hC.2.2.1, hC.2.2.2.1, hC.2.2.2.2.1⟩ hM ⟨callB_of n hts (zgood_cons hcode) rfl hrc hrs (hts _ hini) (hts _ hln) ⟨hno.1, hno.2, hds⟩ hR, hmi.1, hts _ hmi.2⟩ hP rfl hn hl hst (lv_room hW) hdg hf
  · exact va_runIN ⟨hC.1, hC.2.1, hC.2.2.1, hC.2.2.2.1, hC.2.2.2.2.1⟩ hM ⟨va_cnB n hts (zgood_cons hcode) rfl hrc hrs (hC.2.2.2.2.2.2.2.1 _ hln) (hts _ hini) ⟨hno.1, hno.2, hds⟩ hR, hmi.1, hts _ hmi.2⟩ hP rfl hn hl hst (lv_room hW) hdg hf
theorem law_run {X1 : Hp} {y : MethodName} {b : ByteArray} {maxL n idx mc ms : Nat} {ret : Option FieldType} {rm : Room} {As st : List Value} {Qa : Array Value → State → Outcome → State → Prop} {q t : Nat} {r0 : vw_C} (hC : zC p m c meth s args cc nL own D aC) (hI : zI D aC G0 s.heap X1 H locs) (hl : ls.size = nL) (hM : Met l y (Cond.code y b maxL ret :: zgood) rm (va_Pc (.ref q :: As) (zU D aC X1)) Qa mc ms (zA X1)) (hk : zk X1 q = some (t, 0)) (hc : zcl[t]? = some r0) (hcy : r0.1 = y.cls) (hm : zMth own idx y b maxL ret n) (hmv : zMthV y) (hR : rm.frames + 1 ≤ R.frames ∧ 8 + (maxL + 11) + rm.locals ≤ R.locals) (hrc : rm.cells = mc) (hrs : rm.slots = ms) (hn : As.length = n) (hW : (rest.map fun v => v.category).sum ≤ 8) (hf : cells + mc ≤ R.cells ∧ slots + ms ≤ R.slots) (hst : st = As.reverse ++ .ref q :: rest) (hdg : decode cc pc = .ok (.invokevirtual idx, 3)) : va_Run p l e R s m args below meth c H locs cells slots mc ms (F0 m pc ls st) rest (Qa (Value.ref q :: As).toArray) (zA X1) := by
  obtain ⟨hln, hcode, hini, hno, hds⟩ := hm
  have hts := hC.2.2.2.2.1
  have hP : PreV s H y.cls q (va_Pc (.ref q :: As) (zU D aC X1)) As := ⟨zU.blind, by rw [← hcy]; exact zrecv hC.2.2.2.2.2.2 hI.1 hc hk, fun U hU hW => ⟨rfl, hC.2.2.2.2.2.2.warm hW, by rw [hU]; exact hI.1⟩⟩
  rcases hln with hln | hln
  · exact va_runV ⟨hC.1, hC.2.1, hC.2.2.1, hC.2.2.2.1, hC.2.2.2.2.1⟩ hM ⟨callB_of n hts (zgood_cons hcode) rfl hrc hrs (hts _ hini) (hts _ hln) ⟨hno.1, hno.2, hds⟩ hR, hts _ hmv.1, hts _ hmv.2⟩ hP rfl hn hl hst (lv_room hW) hdg hf
  · exact va_runVN ⟨hC.1, hC.2.1, hC.2.2.1, hC.2.2.2.1, hC.2.2.2.2.1⟩ hM ⟨va_cnB n hts (zgood_cons hcode) rfl hrc hrs (hC.2.2.2.2.2.2.2.1 _ hln) (hts _ hini) ⟨hno.1, hno.2, hds⟩ hR, hts _ hmv.1, hts _ hmv.2⟩ hP rfl hn hl hst (lv_room hW) hdg hf
/-- a read of the script: aload_0, iload_3, iconst k, iadd, iaload -/
theorem law_rd (hx : p.tables.exec = Jvm.exec) (hb : c.code = cc) {A : Nat → Prop} {b L : Nat} {xs : Nat → Int32} {i : Nat} (k : Nat) (hX : va_X b L xs s s.heap) (hbl : b < s.heap.size) (hbA : ¬ A b) (hS : va_S A s.heap H locs) (hl0 : ls[0]? = some (.val (.ref b))) (hl3 : ls[3]? = some (.val (.int (zi (i : Int))))) (hin : i + k < L) (hL : L ≤ 3072)
    (d0 : decode cc pc = .ok (.aload_n 0, 1)) (d1 : decode cc (pc + 1) = .ok (.iload_n 3, 1)) (d2 : decode cc (pc + 2) = .ok (.iconst (k : Int), 1)) (d3 : decode cc (pc + 3) = .ok (.iadd, 1)) (d4 : decode cc (pc + 4) = .ok (.iaload, 1))
    (kk : W p l e R s m args below meth c H locs cells slots Q (F0 m (pc + 5) ls (.int (zi (xs (i + k)).toInt) :: rest))) : W p l e R s m args below meth c H locs cells slots Q (F0 m pc ls rest) := by
  refine lv_aload_n hx hb d0 rfl hl0 ?_
  refine lv_iload_n hx hb d1 rfl hl3 ?_
  refine lv_iconst (v := zi (k : Int)) hx hb d2 rfl ?_
  refine lv_iadd hx hb d3 ?_
  rw [zi_add]
  have hi : zInI ((i : Int) + (k : Int)) := ⟨by omega, by omega⟩
  refine va_sld hx hb hX hbl hbA hS (zi_vpin hi (by omega) (by omega)) d4 ?_
  rw [zi_clamp hi, show ((i : Int) + (k : Int)).toNat = i + k by omega]
  rw [zi_of] at kk
  exact kk
end LAWR
def tabOf : Array Int := #[147, 170, 213, 246, 269, 302, 335, 358, 391, 414, 447, 470, 513, 536, 579, 602, 635, 668, 711, 754, 817, 850, 883, 916, 939, 982, 1005, 1038, 1071, 1094, 1127, 1150, 1173]
theorem law_and (w : Int32) : ∃ o : Nat, o < 64 ∧ w &&& 63 = zi (o : Int) := by
  have h : (w &&& 63).toBitVec.toNat < 64 := by
    have e : (w &&& 63).toBitVec = w.toBitVec &&& 63#32 := rfl
    rw [e, BitVec.toNat_and]
    exact Nat.lt_of_le_of_lt Nat.and_le_right (by decide)
  refine ⟨(w &&& 63).toBitVec.toNat, h, ?_⟩
  rw [← zi_nat]
  apply Int32.toBitVec_inj.mp
  show _ = (Int32.ofNat _).toBitVec
  rw [Int32.toBitVec_ofNat']
  simp
set_option maxHeartbeats 4000000 in
set_option maxRecDepth 100000 in
theorem law_loop {p : Program} {e : Env} {s : State} {m : MethodId} {below : List Frame} {meth : Method} {c : Code} {l : Launch} {b L : Nat} {xs : Nat → Int32} {D : va_G} {aC : Nat → ClassId} (hL : L ≤ 3072) (hC : zC p m c meth s #[Value.ref b] code 4 R_law D aC) (hr : meth.sig.returnType = ret) (hXX : va_X b L xs s s.heap) (hbl : b < s.heap.size) (q1 q2 : Nat) :
    ∀ (n k : Nat) (X M : Hp) (H : Heap) (locs : List Loc) (ls : Array Slot), L < 6 * (k + n) → 6 * k ≤ L → INV k q1 q2 X M → zI D aC (zE s.heap.size) s.heap X H locs → zI D aC (zE s.heap.size) s.heap M H locs → zapart X M → zk X q1 = some (11, 0) → zk M q2 = some (12, 0) → lv_has ls 4 [(0, .ref b), (1, .ref q1), (2, .ref q2), (3, .int (zi ((6 * k : Nat) : Int)))] → W p l e room_1 s m #[Value.ref b] below meth c H locs (174 + 2 * k) (115597 + 348 * k) (lw_Z below #[Value.ref b] s) (F0 m 18 ls []) := by
  intro n
  have hx := hC.1
  have hb := hC.2.1
  have hbA : ¬ zA (zE s.heap.size) b := fun z => by
    rcases z with z | z
    · exact z rfl
    · have : s.heap.size ≤ b := z
      omega
  induction n with
  | zero => intro k X M H locs ls h1 h2; omega
  | succ n ih =>
    intro k X M H locs ls h1 h2 hV hX hM hap hkx hkm hl
    have hi6 : zInI ((6 * k : Nat) : Int) := ⟨by omega, by omega⟩
    have hLI : zInI (L : Int) := ⟨by omega, by omega⟩
    refine lv_iload_n hx hb dL_law_18 rfl (lv_at hl 3 rfl) ?_
    refine lv_aload_n hx hb dL_law_19 rfl (lv_at hl 0 rfl) ?_
    refine va_slen hx hb hXX hbl hbA hX.2.1 dL_law_20 ?_
    refine lv_bipush (v := zi 6) hx hb dL_law_21 rfl ?_
    refine lv_isub hx hb dL_law_23 ?_
    rw [zi_nat, zi_sub]
    have hL6 : zInI ((L : Int) - 6) := ⟨by omega, by omega⟩
    refine lv_icmp_gt (tgt := 1235) hx hb dL_law_24 (by decide) (fun hg => ?_) (fun hg => ?_)
    · refine lv_iconst (v := 1) hx hb dL_law_1235 (by decide) ?_
      refine va_forget (fun q hq => ?_) ?_
      · have := hX.2.1.2.2 q hq
        rcases this with z | z
        · exact absurd rfl z
        · exact z
      · refine W.widen (k := 600000) (n := 7302250) (by omega) (by omega) ?_
        exact lw_ret hx hb hr hC.2.2.2.2.2.1 dL_law_1236
    · have hlt : 6 * k + 5 < L := by
        have h := Int32.not_lt.mp hg
        have h' := (zi_le hi6 hL6).mp h
        omega
      have hk : k < 512 := by omega
      refine lv_aload_n hx hb dL_law_27 rfl (lv_at hl 0 rfl) ?_
      refine lv_iload_n hx hb dL_law_28 rfl (lv_at hl 3 rfl) ?_
      refine va_sld hx hb hXX hbl hbA hX.2.1 (zi_vpin hi6 (by omega) (by omega)) dL_law_29 ?_
      rw [zi_clamp hi6, show (((6 * k : Nat) : Int)).toNat = 6 * k by omega]
      refine lv_bipush (v := 63) hx hb dL_law_30 (by decide) ?_
      refine lv_iand hx hb dL_law_32 ?_
      obtain ⟨o, ho, eo⟩ := law_and (xs (6 * k))
      rw [eo]
      have hnext : ∀ (X1 M1 : Hp) (H1 : Heap) (locs1 : List Loc) (cs ss : Nat), cs ≤ 174 + 2 * k + 2 → ss ≤ 115597 + 348 * k + 348 → INV (k + 1) q1 q2 X1 M1 → zI D aC (zE s.heap.size) s.heap X1 H1 locs1 → zI D aC (zE s.heap.size) s.heap M1 H1 locs1 → zapart X1 M1 → zk X1 q1 = some (11, 0) → zk M1 q2 = some (12, 0) → W p l e room_1 s m #[Value.ref b] below meth c H1 locs1 cs ss (lw_Z below #[Value.ref b] s) (F0 m 1229 ls []) := fun X1 M1 H1 locs1 cs ss hcs hss hV1 hX1 hM1 hap1 hk1 hk2 => by
        refine lv_iinc (v := zi ((6 * (k + 1) : Nat) : Int)) (lv' := [(3, .int (zi ((6 * (k + 1) : Nat) : Int))), (0, .ref b), (1, .ref q1), (2, .ref q2)]) hx hb dL_law_1229 hl (k := 3) rfl (by show zi _ + zi 6 = _; rw [zi_add]; congr 1) (by decide) rfl (fun ls' hl' => ?_)
        refine lv_goto (tgt := 18) hx hb dL_law_1232 (by decide) ?_
        refine W.widen (k := 174 + 2 * (k + 1)) (n := 115597 + 348 * (k + 1)) (by omega) (by omega) ?_
        exact ih (k + 1) X1 M1 H1 locs1 ls' (by omega) (by omega) hV1 hX1 hM1 hap1 hk1 hk2 (lv_sub hl' [1, 2, 3, 0] rfl)
      have hS := hX.2.1
      have hl0 := lv_at hl 0 rfl
      have hl3 := lv_at hl 3 rfl
      by_cases ho33 : o < 33
      · have htab : ∀ (off : Int) (tgt : Nat), tabOf[o]? = some off → (33 : Int) + off = (tgt : Int) → W p l e room_1 s m #[Value.ref b] below meth c H locs (174 + 2 * k) (115597 + 348 * k) (lw_Z below #[Value.ref b] s) (F0 m tgt ls []) → W p l e room_1 s m #[Value.ref b] below meth c H locs (174 + 2 * k) (115597 + 348 * k) (lw_Z below #[Value.ref b] s) (F0 m 33 ls [.int (zi (o : Int))]) := fun off tgt h3 h4 h5 => by
          have hoi : zInI (o : Int) := ⟨by omega, by omega⟩
          exact lv_tableIn hx hb dL_law_33 (by rw [zi_toInt hoi]; omega) (by rw [zi_toInt hoi]; omega) (by rw [zi_toInt hoi]; exact h3) h4 h5
        match o, ho33, htab with
        | 0, _, htab =>
          refine htab 147 180 rfl (by decide) ?_
          obtain ⟨r, X1, M1, e1, e2, -⟩ := OP_place hV hk ((xs (6 * k + 1)).toInt) (zi_in _)
          refine lv_aload_n hx hb dL_law_180 rfl (lv_at hl 1 rfl) ?_
          refine law_rd hx hb 1 hXX hbl hbA hS hl0 hl3 (by omega) hL dL_law_181 dL_law_182 dL_law_183 dL_law_184 dL_law_185 ?_
          refine law_call (law_run (q := q1) (t := 11) (As := [.int (zi (xs (6 * k + 1)).toInt)]) (rest := []) hC hX hl.1 (SB_place zFU q1 ((xs (6 * k + 1)).toInt) (zi_in _) e1) hkx rfl rfl zML_13 zMv_FB_place ⟨Nat.le_of_ble_eq_true rfl, Nat.le_of_ble_eq_true rfl⟩ rfl rfl rfl (Nat.le_of_ble_eq_true rfl) ⟨by show _ ≤ 600000; omega, by show _ ≤ 7302250; omega⟩ rfl dL_law_186) hX hM hap (fun _ H1 locs1 hX1 hM1 hap1 hzn => ?_)
          have hV1 := INV_up hV (Nat.le_refl (zn X)) hzn
          have hkm1 : zk (zup M (zn X1)) q2 = some (12, 0) := hkm
          obtain ⟨r', X2, M2, e3, e4, hV2⟩ := OP_place hV1 hk ((xs (6 * k + 1)).toInt) (zi_in _)
          have e3 : FB_place zFU q1 ((xs (6 * k + 1)).toInt) X = some (r', X2) := e3
          have er : (r', X2) = (r, X1) := Option.some.inj (e3.symm.trans e1)
          obtain ⟨er1, er2⟩ := Prod.mk.inj er
          subst er1
          subst er2
          have hS1 := hX1.2.1
          refine lv_aload_n hx hb dL_law_189 rfl (lv_at hl 2 rfl) ?_
          refine law_rd hx hb 1 hXX hbl hbA hS1 hl0 hl3 (by omega) hL dL_law_190 dL_law_191 dL_law_192 dL_law_193 dL_law_194 ?_
          refine law_call (law_run (q := q2) (t := 12) (As := [.int (zi (xs (6 * k + 1)).toInt)]) (rest := [.int (zi r')]) hC hM1 hl.1 (SM_place zFU q2 ((xs (6 * k + 1)).toInt) (zi_in _) e4) hkm1 rfl rfl zML_17 zMv_FM_place ⟨Nat.le_of_ble_eq_true rfl, Nat.le_of_ble_eq_true rfl⟩ rfl rfl rfl (Nat.le_of_ble_eq_true rfl) ⟨by show _ ≤ 600000; omega, by show _ ≤ 7302250; omega⟩ rfl dL_law_195) hM1 hX1 hap1.sy (fun _ H2 locs2 hM2 hX2 hap2 hzn2 => ?_)
          refine lv_icmp_eq (tgt := 1229) hx hb dL_law_198 (by decide) (fun _ => ?_) (fun h => absurd rfl h)
          refine hnext _ _ H2 locs2 _ _ (by omega) (by omega) (INV_up hV2 hzn2 (Nat.le_refl _)) hX2 hM2 hap2.sy (INV_kx (INV_up hV2 hzn2 (Nat.le_refl _))) (INV_km hV2)
        | 1, _, htab =>
          refine htab 170 203 rfl (by decide) ?_
          obtain ⟨r, X1, M1, e1, e2, -⟩ := OP_street hV hk ((xs (6 * k + 1)).toInt) ((xs (6 * k + 2)).toInt) ((xs (6 * k + 3)).toInt) (zi_in _) (zi_in _) (zi_in _)
          refine lv_aload_n hx hb dL_law_203 rfl (lv_at hl 1 rfl) ?_
          refine law_rd hx hb 1 hXX hbl hbA hS hl0 hl3 (by omega) hL dL_law_204 dL_law_205 dL_law_206 dL_law_207 dL_law_208 ?_
          refine law_rd hx hb 2 hXX hbl hbA hS hl0 hl3 (by omega) hL dL_law_209 dL_law_210 dL_law_211 dL_law_212 dL_law_213 ?_
          refine law_rd hx hb 3 hXX hbl hbA hS hl0 hl3 (by omega) hL dL_law_214 dL_law_215 dL_law_216 dL_law_217 dL_law_218 ?_
          refine law_call (law_run (q := q1) (t := 11) (As := [.int (zi (xs (6 * k + 1)).toInt), .int (zi (xs (6 * k + 2)).toInt), .int (zi (xs (6 * k + 3)).toInt)]) (rest := []) hC hX hl.1 (SB_street zFU q1 ((xs (6 * k + 1)).toInt) ((xs (6 * k + 2)).toInt) ((xs (6 * k + 3)).toInt) (zi_in _) (zi_in _) (zi_in _) e1) hkx rfl rfl zML_18 zMv_FB_street ⟨Nat.le_of_ble_eq_true rfl, Nat.le_of_ble_eq_true rfl⟩ rfl rfl rfl (Nat.le_of_ble_eq_true rfl) ⟨by show _ ≤ 600000; omega, by show _ ≤ 7302250; omega⟩ rfl dL_law_219) hX hM hap (fun _ H1 locs1 hX1 hM1 hap1 hzn => ?_)
          have hV1 := INV_up hV (Nat.le_refl (zn X)) hzn
          have hkm1 : zk (zup M (zn X1)) q2 = some (12, 0) := hkm
          obtain ⟨r', X2, M2, e3, e4, hV2⟩ := OP_street hV1 hk ((xs (6 * k + 1)).toInt) ((xs (6 * k + 2)).toInt) ((xs (6 * k + 3)).toInt) (zi_in _) (zi_in _) (zi_in _)
          have e3 : FB_street zFU q1 ((xs (6 * k + 1)).toInt) ((xs (6 * k + 2)).toInt) ((xs (6 * k + 3)).toInt) X = some (r', X2) := e3
          have er : (r', X2) = (r, X1) := Option.some.inj (e3.symm.trans e1)
          obtain ⟨er1, er2⟩ := Prod.mk.inj er
          subst er1
          subst er2
          have hS1 := hX1.2.1
          refine lv_aload_n hx hb dL_law_222 rfl (lv_at hl 2 rfl) ?_
          refine law_rd hx hb 1 hXX hbl hbA hS1 hl0 hl3 (by omega) hL dL_law_223 dL_law_224 dL_law_225 dL_law_226 dL_law_227 ?_
          refine law_rd hx hb 2 hXX hbl hbA hS1 hl0 hl3 (by omega) hL dL_law_228 dL_law_229 dL_law_230 dL_law_231 dL_law_232 ?_
          refine law_rd hx hb 3 hXX hbl hbA hS1 hl0 hl3 (by omega) hL dL_law_233 dL_law_234 dL_law_235 dL_law_236 dL_law_237 ?_
          refine law_call (law_run (q := q2) (t := 12) (As := [.int (zi (xs (6 * k + 1)).toInt), .int (zi (xs (6 * k + 2)).toInt), .int (zi (xs (6 * k + 3)).toInt)]) (rest := [.int (zi r')]) hC hM1 hl.1 (SM_street zFU q2 ((xs (6 * k + 1)).toInt) ((xs (6 * k + 2)).toInt) ((xs (6 * k + 3)).toInt) (zi_in _) (zi_in _) (zi_in _) e4) hkm1 rfl rfl zML_22 zMv_FM_street ⟨Nat.le_of_ble_eq_true rfl, Nat.le_of_ble_eq_true rfl⟩ rfl rfl rfl (Nat.le_of_ble_eq_true rfl) ⟨by show _ ≤ 600000; omega, by show _ ≤ 7302250; omega⟩ rfl dL_law_238) hM1 hX1 hap1.sy (fun _ H2 locs2 hM2 hX2 hap2 hzn2 => ?_)
          refine lv_icmp_eq (tgt := 1229) hx hb dL_law_241 (by decide) (fun _ => ?_) (fun h => absurd rfl h)
          refine hnext _ _ H2 locs2 _ _ (by omega) (by omega) (INV_up hV2 hzn2 (Nat.le_refl _)) hX2 hM2 hap2.sy (INV_kx (INV_up hV2 hzn2 (Nat.le_refl _))) (INV_km hV2)
        | 2, _, htab =>
          refine htab 213 246 rfl (by decide) ?_
          obtain ⟨r, X1, M1, e1, - , e2, -⟩ := OP_way hV hk ((xs (6 * k + 1)).toInt) ((xs (6 * k + 2)).toInt) (zi_in _) (zi_in _)
          refine lv_aload_n hx hb dL_law_246 rfl (lv_at hl 1 rfl) ?_
          refine law_rd hx hb 1 hXX hbl hbA hS hl0 hl3 (by omega) hL dL_law_247 dL_law_248 dL_law_249 dL_law_250 dL_law_251 ?_
          refine law_rd hx hb 2 hXX hbl hbA hS hl0 hl3 (by omega) hL dL_law_252 dL_law_253 dL_law_254 dL_law_255 dL_law_256 ?_
          refine law_call (law_run (q := q1) (t := 11) (As := [.int (zi (xs (6 * k + 1)).toInt), .int (zi (xs (6 * k + 2)).toInt)]) (rest := []) hC hX hl.1 (SB_way zFU q1 ((xs (6 * k + 1)).toInt) ((xs (6 * k + 2)).toInt) (zi_in _) (zi_in _) e1) hkx rfl rfl zML_23 zMv_FB_way ⟨Nat.le_of_ble_eq_true rfl, Nat.le_of_ble_eq_true rfl⟩ rfl rfl rfl (Nat.le_of_ble_eq_true rfl) ⟨by show _ ≤ 600000; omega, by show _ ≤ 7302250; omega⟩ rfl dL_law_257) hX hM hap (fun _ H1 locs1 hX1 hM1 hap1 hzn => ?_)
          have hV1 := INV_up hV (Nat.le_refl (zn X)) hzn
          have hkm1 : zk (zup M (zn X)) q2 = some (12, 0) := hkm
          obtain ⟨r', X2, M2, e3, rfl, e4, hV2⟩ := OP_way hV1 hk ((xs (6 * k + 1)).toInt) ((xs (6 * k + 2)).toInt) (zi_in _) (zi_in _)
          have e3 : FB_way zFU q1 ((xs (6 * k + 1)).toInt) ((xs (6 * k + 2)).toInt) X = some r' := e3
          have er : r' = r := Option.some.inj (e3.symm.trans e1)
          subst er
          have hS1 := hX1.2.1
          refine lv_aload_n hx hb dL_law_260 rfl (lv_at hl 2 rfl) ?_
          refine law_rd hx hb 1 hXX hbl hbA hS1 hl0 hl3 (by omega) hL dL_law_261 dL_law_262 dL_law_263 dL_law_264 dL_law_265 ?_
          refine law_rd hx hb 2 hXX hbl hbA hS1 hl0 hl3 (by omega) hL dL_law_266 dL_law_267 dL_law_268 dL_law_269 dL_law_270 ?_
          refine law_call (law_run (q := q2) (t := 12) (As := [.int (zi (xs (6 * k + 1)).toInt), .int (zi (xs (6 * k + 2)).toInt)]) (rest := [.int (zi r')]) hC hM1 hl.1 (SM_way zFU q2 ((xs (6 * k + 1)).toInt) ((xs (6 * k + 2)).toInt) (zi_in _) (zi_in _) e4) hkm1 rfl rfl zML_27 zMv_FM_way ⟨Nat.le_of_ble_eq_true rfl, Nat.le_of_ble_eq_true rfl⟩ rfl rfl rfl (Nat.le_of_ble_eq_true rfl) ⟨by show _ ≤ 600000; omega, by show _ ≤ 7302250; omega⟩ rfl dL_law_271) hM1 hX1 hap1.sy (fun _ H2 locs2 hM2 hX2 hap2 hzn2 => ?_)
          refine lv_icmp_eq (tgt := 1229) hx hb dL_law_274 (by decide) (fun _ => ?_) (fun h => absurd rfl h)
          refine hnext _ _ H2 locs2 _ _ (by omega) (by omega) (INV_up hV2 hzn2 (Nat.le_refl _)) hX2 hM2 hap2.sy (INV_kx (INV_up hV2 hzn2 (Nat.le_refl _))) (INV_km hV2)
        | 3, _, htab =>
          refine htab 246 279 rfl (by decide) ?_
          obtain ⟨r, X1, M1, e1, e2, -⟩ := OP_days hV hk ((xs (6 * k + 1)).toInt) (zi_in _)
          refine lv_aload_n hx hb dL_law_279 rfl (lv_at hl 1 rfl) ?_
          refine law_rd hx hb 1 hXX hbl hbA hS hl0 hl3 (by omega) hL dL_law_280 dL_law_281 dL_law_282 dL_law_283 dL_law_284 ?_
          refine law_call (law_run (q := q1) (t := 11) (As := [.int (zi (xs (6 * k + 1)).toInt)]) (rest := []) hC hX hl.1 (SB_days zFU q1 ((xs (6 * k + 1)).toInt) (zi_in _) e1) hkx rfl rfl zML_28 zMv_FB_days ⟨Nat.le_of_ble_eq_true rfl, Nat.le_of_ble_eq_true rfl⟩ rfl rfl rfl (Nat.le_of_ble_eq_true rfl) ⟨by show _ ≤ 600000; omega, by show _ ≤ 7302250; omega⟩ rfl dL_law_285) hX hM hap (fun _ H1 locs1 hX1 hM1 hap1 hzn => ?_)
          have hV1 := INV_up hV (Nat.le_refl (zn X)) hzn
          have hkm1 : zk (zup M (zn X1)) q2 = some (12, 0) := hkm
          obtain ⟨r', X2, M2, e3, e4, hV2⟩ := OP_days hV1 hk ((xs (6 * k + 1)).toInt) (zi_in _)
          have e3 : FB_days zFU q1 ((xs (6 * k + 1)).toInt) X = some (r', X2) := e3
          have er : (r', X2) = (r, X1) := Option.some.inj (e3.symm.trans e1)
          obtain ⟨er1, er2⟩ := Prod.mk.inj er
          subst er1
          subst er2
          have hS1 := hX1.2.1
          refine lv_aload_n hx hb dL_law_288 rfl (lv_at hl 2 rfl) ?_
          refine law_rd hx hb 1 hXX hbl hbA hS1 hl0 hl3 (by omega) hL dL_law_289 dL_law_290 dL_law_291 dL_law_292 dL_law_293 ?_
          refine law_call (law_run (q := q2) (t := 12) (As := [.int (zi (xs (6 * k + 1)).toInt)]) (rest := [.int (zi r')]) hC hM1 hl.1 (SM_days zFU q2 ((xs (6 * k + 1)).toInt) (zi_in _) e4) hkm1 rfl rfl zML_31 zMv_FM_days ⟨Nat.le_of_ble_eq_true rfl, Nat.le_of_ble_eq_true rfl⟩ rfl rfl rfl (Nat.le_of_ble_eq_true rfl) ⟨by show _ ≤ 600000; omega, by show _ ≤ 7302250; omega⟩ rfl dL_law_294) hM1 hX1 hap1.sy (fun _ H2 locs2 hM2 hX2 hap2 hzn2 => ?_)
          refine lv_icmp_eq (tgt := 1229) hx hb dL_law_297 (by decide) (fun _ => ?_) (fun h => absurd rfl h)
          refine hnext _ _ H2 locs2 _ _ (by omega) (by omega) (INV_up hV2 hzn2 (Nat.le_refl _)) hX2 hM2 hap2.sy (INV_kx (INV_up hV2 hzn2 (Nat.le_refl _))) (INV_km hV2)
        | 4, _, htab =>
          refine htab 269 302 rfl (by decide) ?_
          obtain ⟨r, X1, M1, e1, e2, -⟩ := OP_rule hV hk ((xs (6 * k + 1)).toInt) ((xs (6 * k + 2)).toInt) (zi_in _) (zi_in _)
          refine lv_aload_n hx hb dL_law_302 rfl (lv_at hl 1 rfl) ?_
          refine law_rd hx hb 1 hXX hbl hbA hS hl0 hl3 (by omega) hL dL_law_303 dL_law_304 dL_law_305 dL_law_306 dL_law_307 ?_
          refine law_rd hx hb 2 hXX hbl hbA hS hl0 hl3 (by omega) hL dL_law_308 dL_law_309 dL_law_310 dL_law_311 dL_law_312 ?_
          refine law_call (law_run (q := q1) (t := 11) (As := [.int (zi (xs (6 * k + 1)).toInt), .int (zi (xs (6 * k + 2)).toInt)]) (rest := []) hC hX hl.1 (SB_rule zFU q1 ((xs (6 * k + 1)).toInt) ((xs (6 * k + 2)).toInt) (zi_in _) (zi_in _) e1) hkx rfl rfl zML_32 zMv_FB_rule ⟨Nat.le_of_ble_eq_true rfl, Nat.le_of_ble_eq_true rfl⟩ rfl rfl rfl (Nat.le_of_ble_eq_true rfl) ⟨by show _ ≤ 600000; omega, by show _ ≤ 7302250; omega⟩ rfl dL_law_313) hX hM hap (fun _ H1 locs1 hX1 hM1 hap1 hzn => ?_)
          have hV1 := INV_up hV (Nat.le_refl (zn X)) hzn
          have hkm1 : zk (zup M (zn X1)) q2 = some (12, 0) := hkm
          obtain ⟨r', X2, M2, e3, e4, hV2⟩ := OP_rule hV1 hk ((xs (6 * k + 1)).toInt) ((xs (6 * k + 2)).toInt) (zi_in _) (zi_in _)
          have e3 : FB_rule zFU q1 ((xs (6 * k + 1)).toInt) ((xs (6 * k + 2)).toInt) X = some (r', X2) := e3
          have er : (r', X2) = (r, X1) := Option.some.inj (e3.symm.trans e1)
          obtain ⟨er1, er2⟩ := Prod.mk.inj er
          subst er1
          subst er2
          have hS1 := hX1.2.1
          refine lv_aload_n hx hb dL_law_316 rfl (lv_at hl 2 rfl) ?_
          refine law_rd hx hb 1 hXX hbl hbA hS1 hl0 hl3 (by omega) hL dL_law_317 dL_law_318 dL_law_319 dL_law_320 dL_law_321 ?_
          refine law_rd hx hb 2 hXX hbl hbA hS1 hl0 hl3 (by omega) hL dL_law_322 dL_law_323 dL_law_324 dL_law_325 dL_law_326 ?_
          refine law_call (law_run (q := q2) (t := 12) (As := [.int (zi (xs (6 * k + 1)).toInt), .int (zi (xs (6 * k + 2)).toInt)]) (rest := [.int (zi r')]) hC hM1 hl.1 (SM_rule zFU q2 ((xs (6 * k + 1)).toInt) ((xs (6 * k + 2)).toInt) (zi_in _) (zi_in _) e4) hkm1 rfl rfl zML_35 zMv_FM_rule ⟨Nat.le_of_ble_eq_true rfl, Nat.le_of_ble_eq_true rfl⟩ rfl rfl rfl (Nat.le_of_ble_eq_true rfl) ⟨by show _ ≤ 600000; omega, by show _ ≤ 7302250; omega⟩ rfl dL_law_327) hM1 hX1 hap1.sy (fun _ H2 locs2 hM2 hX2 hap2 hzn2 => ?_)
          refine lv_icmp_eq (tgt := 1229) hx hb dL_law_330 (by decide) (fun _ => ?_) (fun h => absurd rfl h)
          refine hnext _ _ H2 locs2 _ _ (by omega) (by omega) (INV_up hV2 hzn2 (Nat.le_refl _)) hX2 hM2 hap2.sy (INV_kx (INV_up hV2 hzn2 (Nat.le_refl _))) (INV_km hV2)
        | 5, _, htab =>
          refine htab 302 335 rfl (by decide) ?_
          obtain ⟨r, X1, M1, e1, e2, -⟩ := OP_open hV hk ((xs (6 * k + 1)).toInt) ((xs (6 * k + 2)).toInt) (zi_in _) (zi_in _)
          refine lv_aload_n hx hb dL_law_335 rfl (lv_at hl 1 rfl) ?_
          refine law_rd hx hb 1 hXX hbl hbA hS hl0 hl3 (by omega) hL dL_law_336 dL_law_337 dL_law_338 dL_law_339 dL_law_340 ?_
          refine law_rd hx hb 2 hXX hbl hbA hS hl0 hl3 (by omega) hL dL_law_341 dL_law_342 dL_law_343 dL_law_344 dL_law_345 ?_
          refine law_call (law_run (q := q1) (t := 11) (As := [.int (zi (xs (6 * k + 1)).toInt), .int (zi (xs (6 * k + 2)).toInt)]) (rest := []) hC hX hl.1 (SB_open zFU q1 ((xs (6 * k + 1)).toInt) ((xs (6 * k + 2)).toInt) (zi_in _) (zi_in _) e1) hkx rfl rfl zML_36 zMv_FB_open ⟨Nat.le_of_ble_eq_true rfl, Nat.le_of_ble_eq_true rfl⟩ rfl rfl rfl (Nat.le_of_ble_eq_true rfl) ⟨by show _ ≤ 600000; omega, by show _ ≤ 7302250; omega⟩ rfl dL_law_346) hX hM hap (fun _ H1 locs1 hX1 hM1 hap1 hzn => ?_)
          have hV1 := INV_up hV (Nat.le_refl (zn X)) hzn
          have hkm1 : zk (zup M (zn X1)) q2 = some (12, 0) := hkm
          obtain ⟨r', X2, M2, e3, e4, hV2⟩ := OP_open hV1 hk ((xs (6 * k + 1)).toInt) ((xs (6 * k + 2)).toInt) (zi_in _) (zi_in _)
          have e3 : FB_open zFU q1 ((xs (6 * k + 1)).toInt) ((xs (6 * k + 2)).toInt) X = some (r', X2) := e3
          have er : (r', X2) = (r, X1) := Option.some.inj (e3.symm.trans e1)
          obtain ⟨er1, er2⟩ := Prod.mk.inj er
          subst er1
          subst er2
          have hS1 := hX1.2.1
          refine lv_aload_n hx hb dL_law_349 rfl (lv_at hl 2 rfl) ?_
          refine law_rd hx hb 1 hXX hbl hbA hS1 hl0 hl3 (by omega) hL dL_law_350 dL_law_351 dL_law_352 dL_law_353 dL_law_354 ?_
          refine law_rd hx hb 2 hXX hbl hbA hS1 hl0 hl3 (by omega) hL dL_law_355 dL_law_356 dL_law_357 dL_law_358 dL_law_359 ?_
          refine law_call (law_run (q := q2) (t := 12) (As := [.int (zi (xs (6 * k + 1)).toInt), .int (zi (xs (6 * k + 2)).toInt)]) (rest := [.int (zi r')]) hC hM1 hl.1 (SM_open zFU q2 ((xs (6 * k + 1)).toInt) ((xs (6 * k + 2)).toInt) (zi_in _) (zi_in _) e4) hkm1 rfl rfl zML_39 zMv_FM_open ⟨Nat.le_of_ble_eq_true rfl, Nat.le_of_ble_eq_true rfl⟩ rfl rfl rfl (Nat.le_of_ble_eq_true rfl) ⟨by show _ ≤ 600000; omega, by show _ ≤ 7302250; omega⟩ rfl dL_law_360) hM1 hX1 hap1.sy (fun _ H2 locs2 hM2 hX2 hap2 hzn2 => ?_)
          refine lv_icmp_eq (tgt := 1229) hx hb dL_law_363 (by decide) (fun _ => ?_) (fun h => absurd rfl h)
          refine hnext _ _ H2 locs2 _ _ (by omega) (by omega) (INV_up hV2 hzn2 (Nat.le_refl _)) hX2 hM2 hap2.sy (INV_kx (INV_up hV2 hzn2 (Nat.le_refl _))) (INV_km hV2)
        | 6, _, htab =>
          refine htab 335 368 rfl (by decide) ?_
          obtain ⟨r, X1, M1, e1, e2, -⟩ := OP_close hV hk ((xs (6 * k + 1)).toInt) (zi_in _)
          refine lv_aload_n hx hb dL_law_368 rfl (lv_at hl 1 rfl) ?_
          refine law_rd hx hb 1 hXX hbl hbA hS hl0 hl3 (by omega) hL dL_law_369 dL_law_370 dL_law_371 dL_law_372 dL_law_373 ?_
          refine law_call (law_run (q := q1) (t := 11) (As := [.int (zi (xs (6 * k + 1)).toInt)]) (rest := []) hC hX hl.1 (SB_close zFU q1 ((xs (6 * k + 1)).toInt) (zi_in _) e1) hkx rfl rfl zML_40 zMv_FB_close ⟨Nat.le_of_ble_eq_true rfl, Nat.le_of_ble_eq_true rfl⟩ rfl rfl rfl (Nat.le_of_ble_eq_true rfl) ⟨by show _ ≤ 600000; omega, by show _ ≤ 7302250; omega⟩ rfl dL_law_374) hX hM hap (fun _ H1 locs1 hX1 hM1 hap1 hzn => ?_)
          have hV1 := INV_up hV (Nat.le_refl (zn X)) hzn
          have hkm1 : zk (zup M (zn X1)) q2 = some (12, 0) := hkm
          obtain ⟨r', X2, M2, e3, e4, hV2⟩ := OP_close hV1 hk ((xs (6 * k + 1)).toInt) (zi_in _)
          have e3 : FB_close zFU q1 ((xs (6 * k + 1)).toInt) X = some (r', X2) := e3
          have er : (r', X2) = (r, X1) := Option.some.inj (e3.symm.trans e1)
          obtain ⟨er1, er2⟩ := Prod.mk.inj er
          subst er1
          subst er2
          have hS1 := hX1.2.1
          refine lv_aload_n hx hb dL_law_377 rfl (lv_at hl 2 rfl) ?_
          refine law_rd hx hb 1 hXX hbl hbA hS1 hl0 hl3 (by omega) hL dL_law_378 dL_law_379 dL_law_380 dL_law_381 dL_law_382 ?_
          refine law_call (law_run (q := q2) (t := 12) (As := [.int (zi (xs (6 * k + 1)).toInt)]) (rest := [.int (zi r')]) hC hM1 hl.1 (SM_close zFU q2 ((xs (6 * k + 1)).toInt) (zi_in _) e4) hkm1 rfl rfl zML_43 zMv_FM_close ⟨Nat.le_of_ble_eq_true rfl, Nat.le_of_ble_eq_true rfl⟩ rfl rfl rfl (Nat.le_of_ble_eq_true rfl) ⟨by show _ ≤ 600000; omega, by show _ ≤ 7302250; omega⟩ rfl dL_law_383) hM1 hX1 hap1.sy (fun _ H2 locs2 hM2 hX2 hap2 hzn2 => ?_)
          refine lv_icmp_eq (tgt := 1229) hx hb dL_law_386 (by decide) (fun _ => ?_) (fun h => absurd rfl h)
          refine hnext _ _ H2 locs2 _ _ (by omega) (by omega) (INV_up hV2 hzn2 (Nat.le_refl _)) hX2 hM2 hap2.sy (INV_kx (INV_up hV2 hzn2 (Nat.le_refl _))) (INV_km hV2)
        | 7, _, htab =>
          refine htab 358 391 rfl (by decide) ?_
          obtain ⟨r, X1, M1, e1, e2, -⟩ := OP_reach hV hk ((xs (6 * k + 1)).toInt) ((xs (6 * k + 2)).toInt) (zi_in _) (zi_in _)
          refine lv_aload_n hx hb dL_law_391 rfl (lv_at hl 1 rfl) ?_
          refine law_rd hx hb 1 hXX hbl hbA hS hl0 hl3 (by omega) hL dL_law_392 dL_law_393 dL_law_394 dL_law_395 dL_law_396 ?_
          refine law_rd hx hb 2 hXX hbl hbA hS hl0 hl3 (by omega) hL dL_law_397 dL_law_398 dL_law_399 dL_law_400 dL_law_401 ?_
          refine law_call (law_run (q := q1) (t := 11) (As := [.int (zi (xs (6 * k + 1)).toInt), .int (zi (xs (6 * k + 2)).toInt)]) (rest := []) hC hX hl.1 (SB_reach zFU q1 ((xs (6 * k + 1)).toInt) ((xs (6 * k + 2)).toInt) (zi_in _) (zi_in _) e1) hkx rfl rfl zML_44 zMv_FB_reach ⟨Nat.le_of_ble_eq_true rfl, Nat.le_of_ble_eq_true rfl⟩ rfl rfl rfl (Nat.le_of_ble_eq_true rfl) ⟨by show _ ≤ 600000; omega, by show _ ≤ 7302250; omega⟩ rfl dL_law_402) hX hM hap (fun _ H1 locs1 hX1 hM1 hap1 hzn => ?_)
          have hV1 := INV_up hV (Nat.le_refl (zn X)) hzn
          have hkm1 : zk (zup M (zn X1)) q2 = some (12, 0) := hkm
          obtain ⟨r', X2, M2, e3, e4, hV2⟩ := OP_reach hV1 hk ((xs (6 * k + 1)).toInt) ((xs (6 * k + 2)).toInt) (zi_in _) (zi_in _)
          have e3 : FB_reach zFU q1 ((xs (6 * k + 1)).toInt) ((xs (6 * k + 2)).toInt) X = some (r', X2) := e3
          have er : (r', X2) = (r, X1) := Option.some.inj (e3.symm.trans e1)
          obtain ⟨er1, er2⟩ := Prod.mk.inj er
          subst er1
          subst er2
          have hS1 := hX1.2.1
          refine lv_aload_n hx hb dL_law_405 rfl (lv_at hl 2 rfl) ?_
          refine law_rd hx hb 1 hXX hbl hbA hS1 hl0 hl3 (by omega) hL dL_law_406 dL_law_407 dL_law_408 dL_law_409 dL_law_410 ?_
          refine law_rd hx hb 2 hXX hbl hbA hS1 hl0 hl3 (by omega) hL dL_law_411 dL_law_412 dL_law_413 dL_law_414 dL_law_415 ?_
          refine law_call (law_run (q := q2) (t := 12) (As := [.int (zi (xs (6 * k + 1)).toInt), .int (zi (xs (6 * k + 2)).toInt)]) (rest := [.int (zi r')]) hC hM1 hl.1 (SM_reach zFU q2 ((xs (6 * k + 1)).toInt) ((xs (6 * k + 2)).toInt) (zi_in _) (zi_in _) e4) hkm1 rfl rfl zML_47 zMv_FM_reach ⟨Nat.le_of_ble_eq_true rfl, Nat.le_of_ble_eq_true rfl⟩ rfl rfl rfl (Nat.le_of_ble_eq_true rfl) ⟨by show _ ≤ 600000; omega, by show _ ≤ 7302250; omega⟩ rfl dL_law_416) hM1 hX1 hap1.sy (fun _ H2 locs2 hM2 hX2 hap2 hzn2 => ?_)
          refine lv_icmp_eq (tgt := 1229) hx hb dL_law_419 (by decide) (fun _ => ?_) (fun h => absurd rfl h)
          refine hnext _ _ H2 locs2 _ _ (by omega) (by omega) (INV_up hV2 hzn2 (Nat.le_refl _)) hX2 hM2 hap2.sy (INV_kx (INV_up hV2 hzn2 (Nat.le_refl _))) (INV_km hV2)
        | 8, _, htab =>
          refine htab 391 424 rfl (by decide) ?_
          obtain ⟨r, X1, M1, e1, - , e2, -⟩ := OP_whose hV hk ((xs (6 * k + 1)).toInt) (zi_in _)
          refine lv_aload_n hx hb dL_law_424 rfl (lv_at hl 1 rfl) ?_
          refine law_rd hx hb 1 hXX hbl hbA hS hl0 hl3 (by omega) hL dL_law_425 dL_law_426 dL_law_427 dL_law_428 dL_law_429 ?_
          refine law_call (law_run (q := q1) (t := 11) (As := [.int (zi (xs (6 * k + 1)).toInt)]) (rest := []) hC hX hl.1 (SB_whose zFU q1 ((xs (6 * k + 1)).toInt) (zi_in _) e1) hkx rfl rfl zML_48 zMv_FB_whose ⟨Nat.le_of_ble_eq_true rfl, Nat.le_of_ble_eq_true rfl⟩ rfl rfl rfl (Nat.le_of_ble_eq_true rfl) ⟨by show _ ≤ 600000; omega, by show _ ≤ 7302250; omega⟩ rfl dL_law_430) hX hM hap (fun _ H1 locs1 hX1 hM1 hap1 hzn => ?_)
          have hV1 := INV_up hV (Nat.le_refl (zn X)) hzn
          have hkm1 : zk (zup M (zn X)) q2 = some (12, 0) := hkm
          obtain ⟨r', X2, M2, e3, rfl, e4, hV2⟩ := OP_whose hV1 hk ((xs (6 * k + 1)).toInt) (zi_in _)
          have e3 : FB_whose zFU q1 ((xs (6 * k + 1)).toInt) X = some r' := e3
          have er : r' = r := Option.some.inj (e3.symm.trans e1)
          subst er
          have hS1 := hX1.2.1
          refine lv_aload_n hx hb dL_law_433 rfl (lv_at hl 2 rfl) ?_
          refine law_rd hx hb 1 hXX hbl hbA hS1 hl0 hl3 (by omega) hL dL_law_434 dL_law_435 dL_law_436 dL_law_437 dL_law_438 ?_
          refine law_call (law_run (q := q2) (t := 12) (As := [.int (zi (xs (6 * k + 1)).toInt)]) (rest := [.int (zi r')]) hC hM1 hl.1 (SM_whose zFU q2 ((xs (6 * k + 1)).toInt) (zi_in _) e4) hkm1 rfl rfl zML_51 zMv_FM_whose ⟨Nat.le_of_ble_eq_true rfl, Nat.le_of_ble_eq_true rfl⟩ rfl rfl rfl (Nat.le_of_ble_eq_true rfl) ⟨by show _ ≤ 600000; omega, by show _ ≤ 7302250; omega⟩ rfl dL_law_439) hM1 hX1 hap1.sy (fun _ H2 locs2 hM2 hX2 hap2 hzn2 => ?_)
          refine lv_icmp_eq (tgt := 1229) hx hb dL_law_442 (by decide) (fun _ => ?_) (fun h => absurd rfl h)
          refine hnext _ _ H2 locs2 _ _ (by omega) (by omega) (INV_up hV2 hzn2 (Nat.le_refl _)) hX2 hM2 hap2.sy (INV_kx (INV_up hV2 hzn2 (Nat.le_refl _))) (INV_km hV2)
        | 9, _, htab =>
          refine htab 414 447 rfl (by decide) ?_
          obtain ⟨r, X1, M1, e1, - , e2, -⟩ := OP_ofShop hV hk ((xs (6 * k + 1)).toInt) ((xs (6 * k + 2)).toInt) (zi_in _) (zi_in _)
          refine lv_aload_n hx hb dL_law_447 rfl (lv_at hl 1 rfl) ?_
          refine law_rd hx hb 1 hXX hbl hbA hS hl0 hl3 (by omega) hL dL_law_448 dL_law_449 dL_law_450 dL_law_451 dL_law_452 ?_
          refine law_rd hx hb 2 hXX hbl hbA hS hl0 hl3 (by omega) hL dL_law_453 dL_law_454 dL_law_455 dL_law_456 dL_law_457 ?_
          refine law_call (law_run (q := q1) (t := 11) (As := [.int (zi (xs (6 * k + 1)).toInt), .int (zi (xs (6 * k + 2)).toInt)]) (rest := []) hC hX hl.1 (SB_ofShop zFU q1 ((xs (6 * k + 1)).toInt) ((xs (6 * k + 2)).toInt) (zi_in _) (zi_in _) e1) hkx rfl rfl zML_52 zMv_FB_ofShop ⟨Nat.le_of_ble_eq_true rfl, Nat.le_of_ble_eq_true rfl⟩ rfl rfl rfl (Nat.le_of_ble_eq_true rfl) ⟨by show _ ≤ 600000; omega, by show _ ≤ 7302250; omega⟩ rfl dL_law_458) hX hM hap (fun _ H1 locs1 hX1 hM1 hap1 hzn => ?_)
          have hV1 := INV_up hV (Nat.le_refl (zn X)) hzn
          have hkm1 : zk (zup M (zn X)) q2 = some (12, 0) := hkm
          obtain ⟨r', X2, M2, e3, rfl, e4, hV2⟩ := OP_ofShop hV1 hk ((xs (6 * k + 1)).toInt) ((xs (6 * k + 2)).toInt) (zi_in _) (zi_in _)
          have e3 : FB_ofShop zFU q1 ((xs (6 * k + 1)).toInt) ((xs (6 * k + 2)).toInt) X = some r' := e3
          have er : r' = r := Option.some.inj (e3.symm.trans e1)
          subst er
          have hS1 := hX1.2.1
          refine lv_aload_n hx hb dL_law_461 rfl (lv_at hl 2 rfl) ?_
          refine law_rd hx hb 1 hXX hbl hbA hS1 hl0 hl3 (by omega) hL dL_law_462 dL_law_463 dL_law_464 dL_law_465 dL_law_466 ?_
          refine law_rd hx hb 2 hXX hbl hbA hS1 hl0 hl3 (by omega) hL dL_law_467 dL_law_468 dL_law_469 dL_law_470 dL_law_471 ?_
          refine law_call (law_run (q := q2) (t := 12) (As := [.int (zi (xs (6 * k + 1)).toInt), .int (zi (xs (6 * k + 2)).toInt)]) (rest := [.int (zi r')]) hC hM1 hl.1 (SM_ofShop zFU q2 ((xs (6 * k + 1)).toInt) ((xs (6 * k + 2)).toInt) (zi_in _) (zi_in _) e4) hkm1 rfl rfl zML_55 zMv_FM_ofShop ⟨Nat.le_of_ble_eq_true rfl, Nat.le_of_ble_eq_true rfl⟩ rfl rfl rfl (Nat.le_of_ble_eq_true rfl) ⟨by show _ ≤ 600000; omega, by show _ ≤ 7302250; omega⟩ rfl dL_law_472) hM1 hX1 hap1.sy (fun _ H2 locs2 hM2 hX2 hap2 hzn2 => ?_)
          refine lv_icmp_eq (tgt := 1229) hx hb dL_law_475 (by decide) (fun _ => ?_) (fun h => absurd rfl h)
          refine hnext _ _ H2 locs2 _ _ (by omega) (by omega) (INV_up hV2 hzn2 (Nat.le_refl _)) hX2 hM2 hap2.sy (INV_kx (INV_up hV2 hzn2 (Nat.le_refl _))) (INV_km hV2)
        | 10, _, htab =>
          refine htab 447 480 rfl (by decide) ?_
          obtain ⟨r, X1, M1, e1, e2, -⟩ := OP_foretold hV hk ((xs (6 * k + 1)).toInt) (zi_in _)
          refine lv_aload_n hx hb dL_law_480 rfl (lv_at hl 1 rfl) ?_
          refine law_rd hx hb 1 hXX hbl hbA hS hl0 hl3 (by omega) hL dL_law_481 dL_law_482 dL_law_483 dL_law_484 dL_law_485 ?_
          refine law_call (law_run (q := q1) (t := 11) (As := [.int (zi (xs (6 * k + 1)).toInt)]) (rest := []) hC hX hl.1 (SB_foretold zFU q1 ((xs (6 * k + 1)).toInt) (zi_in _) e1) hkx rfl rfl zML_56 zMv_FB_foretold ⟨Nat.le_of_ble_eq_true rfl, Nat.le_of_ble_eq_true rfl⟩ rfl rfl rfl (Nat.le_of_ble_eq_true rfl) ⟨by show _ ≤ 600000; omega, by show _ ≤ 7302250; omega⟩ rfl dL_law_486) hX hM hap (fun _ H1 locs1 hX1 hM1 hap1 hzn => ?_)
          have hV1 := INV_up hV (Nat.le_refl (zn X)) hzn
          have hkm1 : zk (zup M (zn X1)) q2 = some (12, 0) := hkm
          obtain ⟨r', X2, M2, e3, e4, hV2⟩ := OP_foretold hV1 hk ((xs (6 * k + 1)).toInt) (zi_in _)
          have e3 : FB_foretold zFU q1 ((xs (6 * k + 1)).toInt) X = some (r', X2) := e3
          have er : (r', X2) = (r, X1) := Option.some.inj (e3.symm.trans e1)
          obtain ⟨er1, er2⟩ := Prod.mk.inj er
          subst er1
          subst er2
          have hS1 := hX1.2.1
          refine lv_aload_n hx hb dL_law_489 rfl (lv_at hl 2 rfl) ?_
          refine law_rd hx hb 1 hXX hbl hbA hS1 hl0 hl3 (by omega) hL dL_law_490 dL_law_491 dL_law_492 dL_law_493 dL_law_494 ?_
          refine law_call (law_run (q := q2) (t := 12) (As := [.int (zi (xs (6 * k + 1)).toInt)]) (rest := [.int (zi r')]) hC hM1 hl.1 (SM_foretold zFU q2 ((xs (6 * k + 1)).toInt) (zi_in _) e4) hkm1 rfl rfl zML_59 zMv_FM_foretold ⟨Nat.le_of_ble_eq_true rfl, Nat.le_of_ble_eq_true rfl⟩ rfl rfl rfl (Nat.le_of_ble_eq_true rfl) ⟨by show _ ≤ 600000; omega, by show _ ≤ 7302250; omega⟩ rfl dL_law_495) hM1 hX1 hap1.sy (fun _ H2 locs2 hM2 hX2 hap2 hzn2 => ?_)
          refine lv_icmp_eq (tgt := 1229) hx hb dL_law_498 (by decide) (fun _ => ?_) (fun h => absurd rfl h)
          refine hnext _ _ H2 locs2 _ _ (by omega) (by omega) (INV_up hV2 hzn2 (Nat.le_refl _)) hX2 hM2 hap2.sy (INV_kx (INV_up hV2 hzn2 (Nat.le_refl _))) (INV_km hV2)
        | 11, _, htab =>
          refine htab 470 503 rfl (by decide) ?_
          obtain ⟨r, X1, M1, e1, e2, -⟩ := OP_harm hV hk ((xs (6 * k + 1)).toInt) ((xs (6 * k + 2)).toInt) ((xs (6 * k + 3)).toInt) (zi_in _) (zi_in _) (zi_in _)
          refine lv_aload_n hx hb dL_law_503 rfl (lv_at hl 1 rfl) ?_
          refine law_rd hx hb 1 hXX hbl hbA hS hl0 hl3 (by omega) hL dL_law_504 dL_law_505 dL_law_506 dL_law_507 dL_law_508 ?_
          refine law_rd hx hb 2 hXX hbl hbA hS hl0 hl3 (by omega) hL dL_law_509 dL_law_510 dL_law_511 dL_law_512 dL_law_513 ?_
          refine law_rd hx hb 3 hXX hbl hbA hS hl0 hl3 (by omega) hL dL_law_514 dL_law_515 dL_law_516 dL_law_517 dL_law_518 ?_
          refine law_call (law_run (q := q1) (t := 11) (As := [.int (zi (xs (6 * k + 1)).toInt), .int (zi (xs (6 * k + 2)).toInt), .int (zi (xs (6 * k + 3)).toInt)]) (rest := []) hC hX hl.1 (SB_harm zFU q1 ((xs (6 * k + 1)).toInt) ((xs (6 * k + 2)).toInt) ((xs (6 * k + 3)).toInt) (zi_in _) (zi_in _) (zi_in _) e1) hkx rfl rfl zML_60 zMv_FB_harm ⟨Nat.le_of_ble_eq_true rfl, Nat.le_of_ble_eq_true rfl⟩ rfl rfl rfl (Nat.le_of_ble_eq_true rfl) ⟨by show _ ≤ 600000; omega, by show _ ≤ 7302250; omega⟩ rfl dL_law_519) hX hM hap (fun _ H1 locs1 hX1 hM1 hap1 hzn => ?_)
          have hV1 := INV_up hV (Nat.le_refl (zn X)) hzn
          have hkm1 : zk (zup M (zn X1)) q2 = some (12, 0) := hkm
          obtain ⟨r', X2, M2, e3, e4, hV2⟩ := OP_harm hV1 hk ((xs (6 * k + 1)).toInt) ((xs (6 * k + 2)).toInt) ((xs (6 * k + 3)).toInt) (zi_in _) (zi_in _) (zi_in _)
          have e3 : FB_harm zFU q1 ((xs (6 * k + 1)).toInt) ((xs (6 * k + 2)).toInt) ((xs (6 * k + 3)).toInt) X = some (r', X2) := e3
          have er : (r', X2) = (r, X1) := Option.some.inj (e3.symm.trans e1)
          obtain ⟨er1, er2⟩ := Prod.mk.inj er
          subst er1
          subst er2
          have hS1 := hX1.2.1
          refine lv_aload_n hx hb dL_law_522 rfl (lv_at hl 2 rfl) ?_
          refine law_rd hx hb 1 hXX hbl hbA hS1 hl0 hl3 (by omega) hL dL_law_523 dL_law_524 dL_law_525 dL_law_526 dL_law_527 ?_
          refine law_rd hx hb 2 hXX hbl hbA hS1 hl0 hl3 (by omega) hL dL_law_528 dL_law_529 dL_law_530 dL_law_531 dL_law_532 ?_
          refine law_rd hx hb 3 hXX hbl hbA hS1 hl0 hl3 (by omega) hL dL_law_533 dL_law_534 dL_law_535 dL_law_536 dL_law_537 ?_
          refine law_call (law_run (q := q2) (t := 12) (As := [.int (zi (xs (6 * k + 1)).toInt), .int (zi (xs (6 * k + 2)).toInt), .int (zi (xs (6 * k + 3)).toInt)]) (rest := [.int (zi r')]) hC hM1 hl.1 (SM_harm zFU q2 ((xs (6 * k + 1)).toInt) ((xs (6 * k + 2)).toInt) ((xs (6 * k + 3)).toInt) (zi_in _) (zi_in _) (zi_in _) e4) hkm1 rfl rfl zML_63 zMv_FM_harm ⟨Nat.le_of_ble_eq_true rfl, Nat.le_of_ble_eq_true rfl⟩ rfl rfl rfl (Nat.le_of_ble_eq_true rfl) ⟨by show _ ≤ 600000; omega, by show _ ≤ 7302250; omega⟩ rfl dL_law_538) hM1 hX1 hap1.sy (fun _ H2 locs2 hM2 hX2 hap2 hzn2 => ?_)
          refine lv_icmp_eq (tgt := 1229) hx hb dL_law_541 (by decide) (fun _ => ?_) (fun h => absurd rfl h)
          refine hnext _ _ H2 locs2 _ _ (by omega) (by omega) (INV_up hV2 hzn2 (Nat.le_refl _)) hX2 hM2 hap2.sy (INV_kx (INV_up hV2 hzn2 (Nat.le_refl _))) (INV_km hV2)
        | 12, _, htab =>
          refine htab 513 546 rfl (by decide) ?_
          obtain ⟨r, X1, M1, e1, e2, -⟩ := OP_site hV hk ((xs (6 * k + 1)).toInt) (zi_in _)
          refine lv_aload_n hx hb dL_law_546 rfl (lv_at hl 1 rfl) ?_
          refine law_rd hx hb 1 hXX hbl hbA hS hl0 hl3 (by omega) hL dL_law_547 dL_law_548 dL_law_549 dL_law_550 dL_law_551 ?_
          refine law_call (law_run (q := q1) (t := 11) (As := [.int (zi (xs (6 * k + 1)).toInt)]) (rest := []) hC hX hl.1 (SB_site zFU q1 ((xs (6 * k + 1)).toInt) (zi_in _) e1) hkx rfl rfl zML_64 zMv_FB_site ⟨Nat.le_of_ble_eq_true rfl, Nat.le_of_ble_eq_true rfl⟩ rfl rfl rfl (Nat.le_of_ble_eq_true rfl) ⟨by show _ ≤ 600000; omega, by show _ ≤ 7302250; omega⟩ rfl dL_law_552) hX hM hap (fun _ H1 locs1 hX1 hM1 hap1 hzn => ?_)
          have hV1 := INV_up hV (Nat.le_refl (zn X)) hzn
          have hkm1 : zk (zup M (zn X1)) q2 = some (12, 0) := hkm
          obtain ⟨r', X2, M2, e3, e4, hV2⟩ := OP_site hV1 hk ((xs (6 * k + 1)).toInt) (zi_in _)
          have e3 : FB_site zFU q1 ((xs (6 * k + 1)).toInt) X = some (r', X2) := e3
          have er : (r', X2) = (r, X1) := Option.some.inj (e3.symm.trans e1)
          obtain ⟨er1, er2⟩ := Prod.mk.inj er
          subst er1
          subst er2
          have hS1 := hX1.2.1
          refine lv_aload_n hx hb dL_law_555 rfl (lv_at hl 2 rfl) ?_
          refine law_rd hx hb 1 hXX hbl hbA hS1 hl0 hl3 (by omega) hL dL_law_556 dL_law_557 dL_law_558 dL_law_559 dL_law_560 ?_
          refine law_call (law_run (q := q2) (t := 12) (As := [.int (zi (xs (6 * k + 1)).toInt)]) (rest := [.int (zi r')]) hC hM1 hl.1 (SM_site zFU q2 ((xs (6 * k + 1)).toInt) (zi_in _) e4) hkm1 rfl rfl zML_67 zMv_FM_site ⟨Nat.le_of_ble_eq_true rfl, Nat.le_of_ble_eq_true rfl⟩ rfl rfl rfl (Nat.le_of_ble_eq_true rfl) ⟨by show _ ≤ 600000; omega, by show _ ≤ 7302250; omega⟩ rfl dL_law_561) hM1 hX1 hap1.sy (fun _ H2 locs2 hM2 hX2 hap2 hzn2 => ?_)
          refine lv_icmp_eq (tgt := 1229) hx hb dL_law_564 (by decide) (fun _ => ?_) (fun h => absurd rfl h)
          refine hnext _ _ H2 locs2 _ _ (by omega) (by omega) (INV_up hV2 hzn2 (Nat.le_refl _)) hX2 hM2 hap2.sy (INV_kx (INV_up hV2 hzn2 (Nat.le_refl _))) (INV_km hV2)
        | 13, _, htab =>
          refine htab 536 569 rfl (by decide) ?_
          obtain ⟨r, X1, M1, e1, e2, -⟩ := OP_best hV hk ((xs (6 * k + 1)).toInt) ((xs (6 * k + 2)).toInt) ((xs (6 * k + 3)).toInt) (zi_in _) (zi_in _) (zi_in _)
          refine lv_aload_n hx hb dL_law_569 rfl (lv_at hl 1 rfl) ?_
          refine law_rd hx hb 1 hXX hbl hbA hS hl0 hl3 (by omega) hL dL_law_570 dL_law_571 dL_law_572 dL_law_573 dL_law_574 ?_
          refine law_rd hx hb 2 hXX hbl hbA hS hl0 hl3 (by omega) hL dL_law_575 dL_law_576 dL_law_577 dL_law_578 dL_law_579 ?_
          refine law_rd hx hb 3 hXX hbl hbA hS hl0 hl3 (by omega) hL dL_law_580 dL_law_581 dL_law_582 dL_law_583 dL_law_584 ?_
          refine law_call (law_run (q := q1) (t := 11) (As := [.int (zi (xs (6 * k + 1)).toInt), .int (zi (xs (6 * k + 2)).toInt), .int (zi (xs (6 * k + 3)).toInt)]) (rest := []) hC hX hl.1 (SB_best zFU q1 ((xs (6 * k + 1)).toInt) ((xs (6 * k + 2)).toInt) ((xs (6 * k + 3)).toInt) (zi_in _) (zi_in _) (zi_in _) e1) hkx rfl rfl zML_68 zMv_FB_best ⟨Nat.le_of_ble_eq_true rfl, Nat.le_of_ble_eq_true rfl⟩ rfl rfl rfl (Nat.le_of_ble_eq_true rfl) ⟨by show _ ≤ 600000; omega, by show _ ≤ 7302250; omega⟩ rfl dL_law_585) hX hM hap (fun _ H1 locs1 hX1 hM1 hap1 hzn => ?_)
          have hV1 := INV_up hV (Nat.le_refl (zn X)) hzn
          have hkm1 : zk (zup M (zn X1)) q2 = some (12, 0) := hkm
          obtain ⟨r', X2, M2, e3, e4, hV2⟩ := OP_best hV1 hk ((xs (6 * k + 1)).toInt) ((xs (6 * k + 2)).toInt) ((xs (6 * k + 3)).toInt) (zi_in _) (zi_in _) (zi_in _)
          have e3 : FB_best zFU q1 ((xs (6 * k + 1)).toInt) ((xs (6 * k + 2)).toInt) ((xs (6 * k + 3)).toInt) X = some (r', X2) := e3
          have er : (r', X2) = (r, X1) := Option.some.inj (e3.symm.trans e1)
          obtain ⟨er1, er2⟩ := Prod.mk.inj er
          subst er1
          subst er2
          have hS1 := hX1.2.1
          refine lv_aload_n hx hb dL_law_588 rfl (lv_at hl 2 rfl) ?_
          refine law_rd hx hb 1 hXX hbl hbA hS1 hl0 hl3 (by omega) hL dL_law_589 dL_law_590 dL_law_591 dL_law_592 dL_law_593 ?_
          refine law_rd hx hb 2 hXX hbl hbA hS1 hl0 hl3 (by omega) hL dL_law_594 dL_law_595 dL_law_596 dL_law_597 dL_law_598 ?_
          refine law_rd hx hb 3 hXX hbl hbA hS1 hl0 hl3 (by omega) hL dL_law_599 dL_law_600 dL_law_601 dL_law_602 dL_law_603 ?_
          refine law_call (law_run (q := q2) (t := 12) (As := [.int (zi (xs (6 * k + 1)).toInt), .int (zi (xs (6 * k + 2)).toInt), .int (zi (xs (6 * k + 3)).toInt)]) (rest := [.int (zi r')]) hC hM1 hl.1 (SM_best zFU q2 ((xs (6 * k + 1)).toInt) ((xs (6 * k + 2)).toInt) ((xs (6 * k + 3)).toInt) (zi_in _) (zi_in _) (zi_in _) e4) hkm1 rfl rfl zML_71 zMv_FM_best ⟨Nat.le_of_ble_eq_true rfl, Nat.le_of_ble_eq_true rfl⟩ rfl rfl rfl (Nat.le_of_ble_eq_true rfl) ⟨by show _ ≤ 600000; omega, by show _ ≤ 7302250; omega⟩ rfl dL_law_604) hM1 hX1 hap1.sy (fun _ H2 locs2 hM2 hX2 hap2 hzn2 => ?_)
          refine lv_icmp_eq (tgt := 1229) hx hb dL_law_607 (by decide) (fun _ => ?_) (fun h => absurd rfl h)
          refine hnext _ _ H2 locs2 _ _ (by omega) (by omega) (INV_up hV2 hzn2 (Nat.le_refl _)) hX2 hM2 hap2.sy (INV_kx (INV_up hV2 hzn2 (Nat.le_refl _))) (INV_km hV2)
        | 14, _, htab =>
          refine htab 579 612 rfl (by decide) ?_
          obtain ⟨r, X1, M1, e1, - , e2, -, -⟩ := OP_found hV hk ((xs (6 * k + 1)).toInt) (zi_in _)
          refine lv_aload_n hx hb dL_law_612 rfl (lv_at hl 1 rfl) ?_
          refine law_rd hx hb 1 hXX hbl hbA hS hl0 hl3 (by omega) hL dL_law_613 dL_law_614 dL_law_615 dL_law_616 dL_law_617 ?_
          refine law_call (law_run (q := q1) (t := 11) (As := [.int (zi (xs (6 * k + 1)).toInt)]) (rest := []) hC hX hl.1 (SB_found zFU q1 ((xs (6 * k + 1)).toInt) (zi_in _) e1) hkx rfl rfl zML_72 zMv_FB_found ⟨Nat.le_of_ble_eq_true rfl, Nat.le_of_ble_eq_true rfl⟩ rfl rfl rfl (Nat.le_of_ble_eq_true rfl) ⟨by show _ ≤ 600000; omega, by show _ ≤ 7302250; omega⟩ rfl dL_law_618) hX hM hap (fun _ H1 locs1 hX1 hM1 hap1 hzn => ?_)
          have hV1 := INV_up hV (Nat.le_refl (zn X)) hzn
          have hkm1 : zk (zup M (zn X)) q2 = some (12, 0) := hkm
          obtain ⟨r', X2, M2, e3, rfl, e4, rfl, hV2⟩ := OP_found hV1 hk ((xs (6 * k + 1)).toInt) (zi_in _)
          have e3 : FB_found zFU q1 ((xs (6 * k + 1)).toInt) X = some r' := e3
          have er : r' = r := Option.some.inj (e3.symm.trans e1)
          subst er
          have hS1 := hX1.2.1
          refine lv_aload_n hx hb dL_law_621 rfl (lv_at hl 2 rfl) ?_
          refine law_rd hx hb 1 hXX hbl hbA hS1 hl0 hl3 (by omega) hL dL_law_622 dL_law_623 dL_law_624 dL_law_625 dL_law_626 ?_
          refine law_call (law_run (q := q2) (t := 12) (As := [.int (zi (xs (6 * k + 1)).toInt)]) (rest := [.int (zi r')]) hC hM1 hl.1 (SM_found zFU q2 ((xs (6 * k + 1)).toInt) (zi_in _) e4) hkm1 rfl rfl zML_75 zMv_FM_found ⟨Nat.le_of_ble_eq_true rfl, Nat.le_of_ble_eq_true rfl⟩ rfl rfl rfl (Nat.le_of_ble_eq_true rfl) ⟨by show _ ≤ 600000; omega, by show _ ≤ 7302250; omega⟩ rfl dL_law_627) hM1 hX1 hap1.sy (fun _ H2 locs2 hM2 hX2 hap2 hzn2 => ?_)
          refine lv_icmp_eq (tgt := 1229) hx hb dL_law_630 (by decide) (fun _ => ?_) (fun h => absurd rfl h)
          refine hnext _ _ H2 locs2 _ _ (by omega) (by omega) (INV_up hV2 hzn2 (Nat.le_refl _)) hX2 hM2 hap2.sy (INV_kx (INV_up hV2 hzn2 (Nat.le_refl _))) (INV_km hV2)
        | 15, _, htab =>
          refine htab 602 635 rfl (by decide) ?_
          obtain ⟨r, X1, M1, e1, e2, -⟩ := OP_feed hV hk ((xs (6 * k + 1)).toInt) ((xs (6 * k + 2)).toInt) (zi_in _) (zi_in _)
          refine lv_aload_n hx hb dL_law_635 rfl (lv_at hl 1 rfl) ?_
          refine law_rd hx hb 1 hXX hbl hbA hS hl0 hl3 (by omega) hL dL_law_636 dL_law_637 dL_law_638 dL_law_639 dL_law_640 ?_
          refine law_rd hx hb 2 hXX hbl hbA hS hl0 hl3 (by omega) hL dL_law_641 dL_law_642 dL_law_643 dL_law_644 dL_law_645 ?_
          refine law_call (law_run (q := q1) (t := 11) (As := [.int (zi (xs (6 * k + 1)).toInt), .int (zi (xs (6 * k + 2)).toInt)]) (rest := []) hC hX hl.1 (SB_feed zFU q1 ((xs (6 * k + 1)).toInt) ((xs (6 * k + 2)).toInt) (zi_in _) (zi_in _) e1) hkx rfl rfl zML_76 zMv_FB_feed ⟨Nat.le_of_ble_eq_true rfl, Nat.le_of_ble_eq_true rfl⟩ rfl rfl rfl (Nat.le_of_ble_eq_true rfl) ⟨by show _ ≤ 600000; omega, by show _ ≤ 7302250; omega⟩ rfl dL_law_646) hX hM hap (fun _ H1 locs1 hX1 hM1 hap1 hzn => ?_)
          have hV1 := INV_up hV (Nat.le_refl (zn X)) hzn
          have hkm1 : zk (zup M (zn X1)) q2 = some (12, 0) := hkm
          obtain ⟨r', X2, M2, e3, e4, hV2⟩ := OP_feed hV1 hk ((xs (6 * k + 1)).toInt) ((xs (6 * k + 2)).toInt) (zi_in _) (zi_in _)
          have e3 : FB_feed zFU q1 ((xs (6 * k + 1)).toInt) ((xs (6 * k + 2)).toInt) X = some (r', X2) := e3
          have er : (r', X2) = (r, X1) := Option.some.inj (e3.symm.trans e1)
          obtain ⟨er1, er2⟩ := Prod.mk.inj er
          subst er1
          subst er2
          have hS1 := hX1.2.1
          refine lv_aload_n hx hb dL_law_649 rfl (lv_at hl 2 rfl) ?_
          refine law_rd hx hb 1 hXX hbl hbA hS1 hl0 hl3 (by omega) hL dL_law_650 dL_law_651 dL_law_652 dL_law_653 dL_law_654 ?_
          refine law_rd hx hb 2 hXX hbl hbA hS1 hl0 hl3 (by omega) hL dL_law_655 dL_law_656 dL_law_657 dL_law_658 dL_law_659 ?_
          refine law_call (law_run (q := q2) (t := 12) (As := [.int (zi (xs (6 * k + 1)).toInt), .int (zi (xs (6 * k + 2)).toInt)]) (rest := [.int (zi r')]) hC hM1 hl.1 (SM_feed zFU q2 ((xs (6 * k + 1)).toInt) ((xs (6 * k + 2)).toInt) (zi_in _) (zi_in _) e4) hkm1 rfl rfl zML_79 zMv_FM_feed ⟨Nat.le_of_ble_eq_true rfl, Nat.le_of_ble_eq_true rfl⟩ rfl rfl rfl (Nat.le_of_ble_eq_true rfl) ⟨by show _ ≤ 600000; omega, by show _ ≤ 7302250; omega⟩ rfl dL_law_660) hM1 hX1 hap1.sy (fun _ H2 locs2 hM2 hX2 hap2 hzn2 => ?_)
          refine lv_icmp_eq (tgt := 1229) hx hb dL_law_663 (by decide) (fun _ => ?_) (fun h => absurd rfl h)
          refine hnext _ _ H2 locs2 _ _ (by omega) (by omega) (INV_up hV2 hzn2 (Nat.le_refl _)) hX2 hM2 hap2.sy (INV_kx (INV_up hV2 hzn2 (Nat.le_refl _))) (INV_km hV2)
        | 16, _, htab =>
          refine htab 635 668 rfl (by decide) ?_
          obtain ⟨r, X1, M1, e1, e2, -⟩ := OP_terms hV hk ((xs (6 * k + 1)).toInt) ((xs (6 * k + 2)).toInt) (zi_in _) (zi_in _)
          refine lv_aload_n hx hb dL_law_668 rfl (lv_at hl 1 rfl) ?_
          refine law_rd hx hb 1 hXX hbl hbA hS hl0 hl3 (by omega) hL dL_law_669 dL_law_670 dL_law_671 dL_law_672 dL_law_673 ?_
          refine law_rd hx hb 2 hXX hbl hbA hS hl0 hl3 (by omega) hL dL_law_674 dL_law_675 dL_law_676 dL_law_677 dL_law_678 ?_
          refine law_call (law_run (q := q1) (t := 11) (As := [.int (zi (xs (6 * k + 1)).toInt), .int (zi (xs (6 * k + 2)).toInt)]) (rest := []) hC hX hl.1 (SB_terms zFU q1 ((xs (6 * k + 1)).toInt) ((xs (6 * k + 2)).toInt) (zi_in _) (zi_in _) e1) hkx rfl rfl zML_80 zMv_FB_terms ⟨Nat.le_of_ble_eq_true rfl, Nat.le_of_ble_eq_true rfl⟩ rfl rfl rfl (Nat.le_of_ble_eq_true rfl) ⟨by show _ ≤ 600000; omega, by show _ ≤ 7302250; omega⟩ rfl dL_law_679) hX hM hap (fun _ H1 locs1 hX1 hM1 hap1 hzn => ?_)
          have hV1 := INV_up hV (Nat.le_refl (zn X)) hzn
          have hkm1 : zk (zup M (zn X1)) q2 = some (12, 0) := hkm
          obtain ⟨r', X2, M2, e3, e4, hV2⟩ := OP_terms hV1 hk ((xs (6 * k + 1)).toInt) ((xs (6 * k + 2)).toInt) (zi_in _) (zi_in _)
          have e3 : FB_terms zFU q1 ((xs (6 * k + 1)).toInt) ((xs (6 * k + 2)).toInt) X = some (r', X2) := e3
          have er : (r', X2) = (r, X1) := Option.some.inj (e3.symm.trans e1)
          obtain ⟨er1, er2⟩ := Prod.mk.inj er
          subst er1
          subst er2
          have hS1 := hX1.2.1
          refine lv_aload_n hx hb dL_law_682 rfl (lv_at hl 2 rfl) ?_
          refine law_rd hx hb 1 hXX hbl hbA hS1 hl0 hl3 (by omega) hL dL_law_683 dL_law_684 dL_law_685 dL_law_686 dL_law_687 ?_
          refine law_rd hx hb 2 hXX hbl hbA hS1 hl0 hl3 (by omega) hL dL_law_688 dL_law_689 dL_law_690 dL_law_691 dL_law_692 ?_
          refine law_call (law_run (q := q2) (t := 12) (As := [.int (zi (xs (6 * k + 1)).toInt), .int (zi (xs (6 * k + 2)).toInt)]) (rest := [.int (zi r')]) hC hM1 hl.1 (SM_terms zFU q2 ((xs (6 * k + 1)).toInt) ((xs (6 * k + 2)).toInt) (zi_in _) (zi_in _) e4) hkm1 rfl rfl zML_83 zMv_FM_terms ⟨Nat.le_of_ble_eq_true rfl, Nat.le_of_ble_eq_true rfl⟩ rfl rfl rfl (Nat.le_of_ble_eq_true rfl) ⟨by show _ ≤ 600000; omega, by show _ ≤ 7302250; omega⟩ rfl dL_law_693) hM1 hX1 hap1.sy (fun _ H2 locs2 hM2 hX2 hap2 hzn2 => ?_)
          refine lv_icmp_eq (tgt := 1229) hx hb dL_law_696 (by decide) (fun _ => ?_) (fun h => absurd rfl h)
          refine hnext _ _ H2 locs2 _ _ (by omega) (by omega) (INV_up hV2 hzn2 (Nat.le_refl _)) hX2 hM2 hap2.sy (INV_kx (INV_up hV2 hzn2 (Nat.le_refl _))) (INV_km hV2)
        | 17, _, htab =>
          refine htab 668 701 rfl (by decide) ?_
          obtain ⟨r, X1, M1, e1, - , e2, -, -⟩ := OP_inForce hV hk ((xs (6 * k + 1)).toInt) ((xs (6 * k + 2)).toInt) ((xs (6 * k + 3)).toInt) (zi_in _) (zi_in _) (zi_in _)
          refine lv_aload_n hx hb dL_law_701 rfl (lv_at hl 1 rfl) ?_
          refine law_rd hx hb 1 hXX hbl hbA hS hl0 hl3 (by omega) hL dL_law_702 dL_law_703 dL_law_704 dL_law_705 dL_law_706 ?_
          refine law_rd hx hb 2 hXX hbl hbA hS hl0 hl3 (by omega) hL dL_law_707 dL_law_708 dL_law_709 dL_law_710 dL_law_711 ?_
          refine law_rd hx hb 3 hXX hbl hbA hS hl0 hl3 (by omega) hL dL_law_712 dL_law_713 dL_law_714 dL_law_715 dL_law_716 ?_
          refine law_call (law_run (q := q1) (t := 11) (As := [.int (zi (xs (6 * k + 1)).toInt), .int (zi (xs (6 * k + 2)).toInt), .int (zi (xs (6 * k + 3)).toInt)]) (rest := []) hC hX hl.1 (SB_inForce zFU q1 ((xs (6 * k + 1)).toInt) ((xs (6 * k + 2)).toInt) ((xs (6 * k + 3)).toInt) (zi_in _) (zi_in _) (zi_in _) e1) hkx rfl rfl zML_84 zMv_FB_inForce ⟨Nat.le_of_ble_eq_true rfl, Nat.le_of_ble_eq_true rfl⟩ rfl rfl rfl (Nat.le_of_ble_eq_true rfl) ⟨by show _ ≤ 600000; omega, by show _ ≤ 7302250; omega⟩ rfl dL_law_717) hX hM hap (fun _ H1 locs1 hX1 hM1 hap1 hzn => ?_)
          have hV1 := INV_up hV (Nat.le_refl (zn X)) hzn
          have hkm1 : zk (zup M (zn X)) q2 = some (12, 0) := hkm
          obtain ⟨r', X2, M2, e3, rfl, e4, rfl, hV2⟩ := OP_inForce hV1 hk ((xs (6 * k + 1)).toInt) ((xs (6 * k + 2)).toInt) ((xs (6 * k + 3)).toInt) (zi_in _) (zi_in _) (zi_in _)
          have e3 : FB_inForce zFU q1 ((xs (6 * k + 1)).toInt) ((xs (6 * k + 2)).toInt) ((xs (6 * k + 3)).toInt) X = some r' := e3
          have er : r' = r := Option.some.inj (e3.symm.trans e1)
          subst er
          have hS1 := hX1.2.1
          refine lv_aload_n hx hb dL_law_720 rfl (lv_at hl 2 rfl) ?_
          refine law_rd hx hb 1 hXX hbl hbA hS1 hl0 hl3 (by omega) hL dL_law_721 dL_law_722 dL_law_723 dL_law_724 dL_law_725 ?_
          refine law_rd hx hb 2 hXX hbl hbA hS1 hl0 hl3 (by omega) hL dL_law_726 dL_law_727 dL_law_728 dL_law_729 dL_law_730 ?_
          refine law_rd hx hb 3 hXX hbl hbA hS1 hl0 hl3 (by omega) hL dL_law_731 dL_law_732 dL_law_733 dL_law_734 dL_law_735 ?_
          refine law_call (law_run (q := q2) (t := 12) (As := [.int (zi (xs (6 * k + 1)).toInt), .int (zi (xs (6 * k + 2)).toInt), .int (zi (xs (6 * k + 3)).toInt)]) (rest := [.int (zi r')]) hC hM1 hl.1 (SM_inForce zFU q2 ((xs (6 * k + 1)).toInt) ((xs (6 * k + 2)).toInt) ((xs (6 * k + 3)).toInt) (zi_in _) (zi_in _) (zi_in _) e4) hkm1 rfl rfl zML_87 zMv_FM_inForce ⟨Nat.le_of_ble_eq_true rfl, Nat.le_of_ble_eq_true rfl⟩ rfl rfl rfl (Nat.le_of_ble_eq_true rfl) ⟨by show _ ≤ 600000; omega, by show _ ≤ 7302250; omega⟩ rfl dL_law_736) hM1 hX1 hap1.sy (fun _ H2 locs2 hM2 hX2 hap2 hzn2 => ?_)
          refine lv_icmp_eq (tgt := 1229) hx hb dL_law_739 (by decide) (fun _ => ?_) (fun h => absurd rfl h)
          refine hnext _ _ H2 locs2 _ _ (by omega) (by omega) (INV_up hV2 hzn2 (Nat.le_refl _)) hX2 hM2 hap2.sy (INV_kx (INV_up hV2 hzn2 (Nat.le_refl _))) (INV_km hV2)
        | 18, _, htab =>
          refine htab 711 744 rfl (by decide) ?_
          obtain ⟨r, X1, M1, e1, e2, -⟩ := OP_gives hV hk ((xs (6 * k + 1)).toInt) ((xs (6 * k + 2)).toInt) ((xs (6 * k + 3)).toInt) (zi_in _) (zi_in _) (zi_in _)
          refine lv_aload_n hx hb dL_law_744 rfl (lv_at hl 1 rfl) ?_
          refine law_rd hx hb 1 hXX hbl hbA hS hl0 hl3 (by omega) hL dL_law_745 dL_law_746 dL_law_747 dL_law_748 dL_law_749 ?_
          refine law_rd hx hb 2 hXX hbl hbA hS hl0 hl3 (by omega) hL dL_law_750 dL_law_751 dL_law_752 dL_law_753 dL_law_754 ?_
          refine law_rd hx hb 3 hXX hbl hbA hS hl0 hl3 (by omega) hL dL_law_755 dL_law_756 dL_law_757 dL_law_758 dL_law_759 ?_
          refine law_call (law_run (q := q1) (t := 11) (As := [.int (zi (xs (6 * k + 1)).toInt), .int (zi (xs (6 * k + 2)).toInt), .int (zi (xs (6 * k + 3)).toInt)]) (rest := []) hC hX hl.1 (SB_gives zFU q1 ((xs (6 * k + 1)).toInt) ((xs (6 * k + 2)).toInt) ((xs (6 * k + 3)).toInt) (zi_in _) (zi_in _) (zi_in _) e1) hkx rfl rfl zML_88 zMv_FB_gives ⟨Nat.le_of_ble_eq_true rfl, Nat.le_of_ble_eq_true rfl⟩ rfl rfl rfl (Nat.le_of_ble_eq_true rfl) ⟨by show _ ≤ 600000; omega, by show _ ≤ 7302250; omega⟩ rfl dL_law_760) hX hM hap (fun _ H1 locs1 hX1 hM1 hap1 hzn => ?_)
          have hV1 := INV_up hV (Nat.le_refl (zn X)) hzn
          have hkm1 : zk (zup M (zn X1)) q2 = some (12, 0) := hkm
          obtain ⟨r', X2, M2, e3, e4, hV2⟩ := OP_gives hV1 hk ((xs (6 * k + 1)).toInt) ((xs (6 * k + 2)).toInt) ((xs (6 * k + 3)).toInt) (zi_in _) (zi_in _) (zi_in _)
          have e3 : FB_gives zFU q1 ((xs (6 * k + 1)).toInt) ((xs (6 * k + 2)).toInt) ((xs (6 * k + 3)).toInt) X = some (r', X2) := e3
          have er : (r', X2) = (r, X1) := Option.some.inj (e3.symm.trans e1)
          obtain ⟨er1, er2⟩ := Prod.mk.inj er
          subst er1
          subst er2
          have hS1 := hX1.2.1
          refine lv_aload_n hx hb dL_law_763 rfl (lv_at hl 2 rfl) ?_
          refine law_rd hx hb 1 hXX hbl hbA hS1 hl0 hl3 (by omega) hL dL_law_764 dL_law_765 dL_law_766 dL_law_767 dL_law_768 ?_
          refine law_rd hx hb 2 hXX hbl hbA hS1 hl0 hl3 (by omega) hL dL_law_769 dL_law_770 dL_law_771 dL_law_772 dL_law_773 ?_
          refine law_rd hx hb 3 hXX hbl hbA hS1 hl0 hl3 (by omega) hL dL_law_774 dL_law_775 dL_law_776 dL_law_777 dL_law_778 ?_
          refine law_call (law_run (q := q2) (t := 12) (As := [.int (zi (xs (6 * k + 1)).toInt), .int (zi (xs (6 * k + 2)).toInt), .int (zi (xs (6 * k + 3)).toInt)]) (rest := [.int (zi r')]) hC hM1 hl.1 (SM_gives zFU q2 ((xs (6 * k + 1)).toInt) ((xs (6 * k + 2)).toInt) ((xs (6 * k + 3)).toInt) (zi_in _) (zi_in _) (zi_in _) e4) hkm1 rfl rfl zML_91 zMv_FM_gives ⟨Nat.le_of_ble_eq_true rfl, Nat.le_of_ble_eq_true rfl⟩ rfl rfl rfl (Nat.le_of_ble_eq_true rfl) ⟨by show _ ≤ 600000; omega, by show _ ≤ 7302250; omega⟩ rfl dL_law_779) hM1 hX1 hap1.sy (fun _ H2 locs2 hM2 hX2 hap2 hzn2 => ?_)
          refine lv_icmp_eq (tgt := 1229) hx hb dL_law_782 (by decide) (fun _ => ?_) (fun h => absurd rfl h)
          refine hnext _ _ H2 locs2 _ _ (by omega) (by omega) (INV_up hV2 hzn2 (Nat.le_refl _)) hX2 hM2 hap2.sy (INV_kx (INV_up hV2 hzn2 (Nat.le_refl _))) (INV_km hV2)
        | 19, _, htab =>
          refine htab 754 787 rfl (by decide) ?_
          obtain ⟨r, X1, M1, e1, e2, -⟩ := OP_month hV hk ((xs (6 * k + 1)).toInt) ((xs (6 * k + 2)).toInt) ((xs (6 * k + 3)).toInt) ((xs (6 * k + 4)).toInt) ((xs (6 * k + 5)).toInt) (zi_in _) (zi_in _) (zi_in _) (zi_in _) (zi_in _)
          refine lv_aload_n hx hb dL_law_787 rfl (lv_at hl 1 rfl) ?_
          refine law_rd hx hb 1 hXX hbl hbA hS hl0 hl3 (by omega) hL dL_law_788 dL_law_789 dL_law_790 dL_law_791 dL_law_792 ?_
          refine law_rd hx hb 2 hXX hbl hbA hS hl0 hl3 (by omega) hL dL_law_793 dL_law_794 dL_law_795 dL_law_796 dL_law_797 ?_
          refine law_rd hx hb 3 hXX hbl hbA hS hl0 hl3 (by omega) hL dL_law_798 dL_law_799 dL_law_800 dL_law_801 dL_law_802 ?_
          refine law_rd hx hb 4 hXX hbl hbA hS hl0 hl3 (by omega) hL dL_law_803 dL_law_804 dL_law_805 dL_law_806 dL_law_807 ?_
          refine law_rd hx hb 5 hXX hbl hbA hS hl0 hl3 (by omega) hL dL_law_808 dL_law_809 dL_law_810 dL_law_811 dL_law_812 ?_
          refine law_call (law_run (q := q1) (t := 11) (As := [.int (zi (xs (6 * k + 1)).toInt), .int (zi (xs (6 * k + 2)).toInt), .int (zi (xs (6 * k + 3)).toInt), .int (zi (xs (6 * k + 4)).toInt), .int (zi (xs (6 * k + 5)).toInt)]) (rest := []) hC hX hl.1 (SB_month zFU q1 ((xs (6 * k + 1)).toInt) ((xs (6 * k + 2)).toInt) ((xs (6 * k + 3)).toInt) ((xs (6 * k + 4)).toInt) ((xs (6 * k + 5)).toInt) (zi_in _) (zi_in _) (zi_in _) (zi_in _) (zi_in _) e1) hkx rfl rfl zML_92 zMv_FB_month ⟨Nat.le_of_ble_eq_true rfl, Nat.le_of_ble_eq_true rfl⟩ rfl rfl rfl (Nat.le_of_ble_eq_true rfl) ⟨by show _ ≤ 600000; omega, by show _ ≤ 7302250; omega⟩ rfl dL_law_813) hX hM hap (fun _ H1 locs1 hX1 hM1 hap1 hzn => ?_)
          have hV1 := INV_up hV (Nat.le_refl (zn X)) hzn
          have hkm1 : zk (zup M (zn X1)) q2 = some (12, 0) := hkm
          obtain ⟨r', X2, M2, e3, e4, hV2⟩ := OP_month hV1 hk ((xs (6 * k + 1)).toInt) ((xs (6 * k + 2)).toInt) ((xs (6 * k + 3)).toInt) ((xs (6 * k + 4)).toInt) ((xs (6 * k + 5)).toInt) (zi_in _) (zi_in _) (zi_in _) (zi_in _) (zi_in _)
          have e3 : FB_month zFU q1 ((xs (6 * k + 1)).toInt) ((xs (6 * k + 2)).toInt) ((xs (6 * k + 3)).toInt) ((xs (6 * k + 4)).toInt) ((xs (6 * k + 5)).toInt) X = some (r', X2) := e3
          have er : (r', X2) = (r, X1) := Option.some.inj (e3.symm.trans e1)
          obtain ⟨er1, er2⟩ := Prod.mk.inj er
          subst er1
          subst er2
          have hS1 := hX1.2.1
          refine lv_aload_n hx hb dL_law_816 rfl (lv_at hl 2 rfl) ?_
          refine law_rd hx hb 1 hXX hbl hbA hS1 hl0 hl3 (by omega) hL dL_law_817 dL_law_818 dL_law_819 dL_law_820 dL_law_821 ?_
          refine law_rd hx hb 2 hXX hbl hbA hS1 hl0 hl3 (by omega) hL dL_law_822 dL_law_823 dL_law_824 dL_law_825 dL_law_826 ?_
          refine law_rd hx hb 3 hXX hbl hbA hS1 hl0 hl3 (by omega) hL dL_law_827 dL_law_828 dL_law_829 dL_law_830 dL_law_831 ?_
          refine law_rd hx hb 4 hXX hbl hbA hS1 hl0 hl3 (by omega) hL dL_law_832 dL_law_833 dL_law_834 dL_law_835 dL_law_836 ?_
          refine law_rd hx hb 5 hXX hbl hbA hS1 hl0 hl3 (by omega) hL dL_law_837 dL_law_838 dL_law_839 dL_law_840 dL_law_841 ?_
          refine law_call (law_run (q := q2) (t := 12) (As := [.int (zi (xs (6 * k + 1)).toInt), .int (zi (xs (6 * k + 2)).toInt), .int (zi (xs (6 * k + 3)).toInt), .int (zi (xs (6 * k + 4)).toInt), .int (zi (xs (6 * k + 5)).toInt)]) (rest := [.int (zi r')]) hC hM1 hl.1 (SM_month zFU q2 ((xs (6 * k + 1)).toInt) ((xs (6 * k + 2)).toInt) ((xs (6 * k + 3)).toInt) ((xs (6 * k + 4)).toInt) ((xs (6 * k + 5)).toInt) (zi_in _) (zi_in _) (zi_in _) (zi_in _) (zi_in _) e4) hkm1 rfl rfl zML_96 zMv_FM_month ⟨Nat.le_of_ble_eq_true rfl, Nat.le_of_ble_eq_true rfl⟩ rfl rfl rfl (Nat.le_of_ble_eq_true rfl) ⟨by show _ ≤ 600000; omega, by show _ ≤ 7302250; omega⟩ rfl dL_law_842) hM1 hX1 hap1.sy (fun _ H2 locs2 hM2 hX2 hap2 hzn2 => ?_)
          refine lv_icmp_eq (tgt := 1229) hx hb dL_law_845 (by decide) (fun _ => ?_) (fun h => absurd rfl h)
          refine hnext _ _ H2 locs2 _ _ (by omega) (by omega) (INV_up hV2 hzn2 (Nat.le_refl _)) hX2 hM2 hap2.sy (INV_kx (INV_up hV2 hzn2 (Nat.le_refl _))) (INV_km hV2)
        | 20, _, htab =>
          refine htab 817 850 rfl (by decide) ?_
          obtain ⟨r, X1, M1, e1, - , e2, -, -⟩ := OP_isShort hV hk ((xs (6 * k + 1)).toInt) ((xs (6 * k + 2)).toInt) (zi_in _) (zi_in _)
          refine lv_aload_n hx hb dL_law_850 rfl (lv_at hl 1 rfl) ?_
          refine law_rd hx hb 1 hXX hbl hbA hS hl0 hl3 (by omega) hL dL_law_851 dL_law_852 dL_law_853 dL_law_854 dL_law_855 ?_
          refine law_rd hx hb 2 hXX hbl hbA hS hl0 hl3 (by omega) hL dL_law_856 dL_law_857 dL_law_858 dL_law_859 dL_law_860 ?_
          refine law_call (law_run (q := q1) (t := 11) (As := [.int (zi (xs (6 * k + 1)).toInt), .int (zi (xs (6 * k + 2)).toInt)]) (rest := []) hC hX hl.1 (SB_isShort zFU q1 ((xs (6 * k + 1)).toInt) ((xs (6 * k + 2)).toInt) (zi_in _) (zi_in _) e1) hkx rfl rfl zML_97 zMv_FB_isShort ⟨Nat.le_of_ble_eq_true rfl, Nat.le_of_ble_eq_true rfl⟩ rfl rfl rfl (Nat.le_of_ble_eq_true rfl) ⟨by show _ ≤ 600000; omega, by show _ ≤ 7302250; omega⟩ rfl dL_law_861) hX hM hap (fun _ H1 locs1 hX1 hM1 hap1 hzn => ?_)
          have hV1 := INV_up hV (Nat.le_refl (zn X)) hzn
          have hkm1 : zk (zup M (zn X)) q2 = some (12, 0) := hkm
          obtain ⟨r', X2, M2, e3, rfl, e4, rfl, hV2⟩ := OP_isShort hV1 hk ((xs (6 * k + 1)).toInt) ((xs (6 * k + 2)).toInt) (zi_in _) (zi_in _)
          have e3 : FB_isShort zFU q1 ((xs (6 * k + 1)).toInt) ((xs (6 * k + 2)).toInt) X = some r' := e3
          have er : r' = r := Option.some.inj (e3.symm.trans e1)
          subst er
          have hS1 := hX1.2.1
          refine lv_aload_n hx hb dL_law_864 rfl (lv_at hl 2 rfl) ?_
          refine law_rd hx hb 1 hXX hbl hbA hS1 hl0 hl3 (by omega) hL dL_law_865 dL_law_866 dL_law_867 dL_law_868 dL_law_869 ?_
          refine law_rd hx hb 2 hXX hbl hbA hS1 hl0 hl3 (by omega) hL dL_law_870 dL_law_871 dL_law_872 dL_law_873 dL_law_874 ?_
          refine law_call (law_run (q := q2) (t := 12) (As := [.int (zi (xs (6 * k + 1)).toInt), .int (zi (xs (6 * k + 2)).toInt)]) (rest := [.int (zi r')]) hC hM1 hl.1 (SM_isShort zFU q2 ((xs (6 * k + 1)).toInt) ((xs (6 * k + 2)).toInt) (zi_in _) (zi_in _) e4) hkm1 rfl rfl zML_100 zMv_FM_isShort ⟨Nat.le_of_ble_eq_true rfl, Nat.le_of_ble_eq_true rfl⟩ rfl rfl rfl (Nat.le_of_ble_eq_true rfl) ⟨by show _ ≤ 600000; omega, by show _ ≤ 7302250; omega⟩ rfl dL_law_875) hM1 hX1 hap1.sy (fun _ H2 locs2 hM2 hX2 hap2 hzn2 => ?_)
          refine lv_icmp_eq (tgt := 1229) hx hb dL_law_878 (by decide) (fun _ => ?_) (fun h => absurd rfl h)
          refine hnext _ _ H2 locs2 _ _ (by omega) (by omega) (INV_up hV2 hzn2 (Nat.le_refl _)) hX2 hM2 hap2.sy (INV_kx (INV_up hV2 hzn2 (Nat.le_refl _))) (INV_km hV2)
        | 21, _, htab =>
          refine htab 850 883 rfl (by decide) ?_
          obtain ⟨r, X1, M1, e1, - , e2, -, -⟩ := OP_under hV hk ((xs (6 * k + 1)).toInt) ((xs (6 * k + 2)).toInt) (zi_in _) (zi_in _)
          refine lv_aload_n hx hb dL_law_883 rfl (lv_at hl 1 rfl) ?_
          refine law_rd hx hb 1 hXX hbl hbA hS hl0 hl3 (by omega) hL dL_law_884 dL_law_885 dL_law_886 dL_law_887 dL_law_888 ?_
          refine law_rd hx hb 2 hXX hbl hbA hS hl0 hl3 (by omega) hL dL_law_889 dL_law_890 dL_law_891 dL_law_892 dL_law_893 ?_
          refine law_call (law_run (q := q1) (t := 11) (As := [.int (zi (xs (6 * k + 1)).toInt), .int (zi (xs (6 * k + 2)).toInt)]) (rest := []) hC hX hl.1 (SB_under zFU q1 ((xs (6 * k + 1)).toInt) ((xs (6 * k + 2)).toInt) (zi_in _) (zi_in _) e1) hkx rfl rfl zML_101 zMv_FB_under ⟨Nat.le_of_ble_eq_true rfl, Nat.le_of_ble_eq_true rfl⟩ rfl rfl rfl (Nat.le_of_ble_eq_true rfl) ⟨by show _ ≤ 600000; omega, by show _ ≤ 7302250; omega⟩ rfl dL_law_894) hX hM hap (fun _ H1 locs1 hX1 hM1 hap1 hzn => ?_)
          have hV1 := INV_up hV (Nat.le_refl (zn X)) hzn
          have hkm1 : zk (zup M (zn X)) q2 = some (12, 0) := hkm
          obtain ⟨r', X2, M2, e3, rfl, e4, rfl, hV2⟩ := OP_under hV1 hk ((xs (6 * k + 1)).toInt) ((xs (6 * k + 2)).toInt) (zi_in _) (zi_in _)
          have e3 : FB_under zFU q1 ((xs (6 * k + 1)).toInt) ((xs (6 * k + 2)).toInt) X = some r' := e3
          have er : r' = r := Option.some.inj (e3.symm.trans e1)
          subst er
          have hS1 := hX1.2.1
          refine lv_aload_n hx hb dL_law_897 rfl (lv_at hl 2 rfl) ?_
          refine law_rd hx hb 1 hXX hbl hbA hS1 hl0 hl3 (by omega) hL dL_law_898 dL_law_899 dL_law_900 dL_law_901 dL_law_902 ?_
          refine law_rd hx hb 2 hXX hbl hbA hS1 hl0 hl3 (by omega) hL dL_law_903 dL_law_904 dL_law_905 dL_law_906 dL_law_907 ?_
          refine law_call (law_run (q := q2) (t := 12) (As := [.int (zi (xs (6 * k + 1)).toInt), .int (zi (xs (6 * k + 2)).toInt)]) (rest := [.int (zi r')]) hC hM1 hl.1 (SM_under zFU q2 ((xs (6 * k + 1)).toInt) ((xs (6 * k + 2)).toInt) (zi_in _) (zi_in _) e4) hkm1 rfl rfl zML_104 zMv_FM_under ⟨Nat.le_of_ble_eq_true rfl, Nat.le_of_ble_eq_true rfl⟩ rfl rfl rfl (Nat.le_of_ble_eq_true rfl) ⟨by show _ ≤ 600000; omega, by show _ ≤ 7302250; omega⟩ rfl dL_law_908) hM1 hX1 hap1.sy (fun _ H2 locs2 hM2 hX2 hap2 hzn2 => ?_)
          refine lv_icmp_eq (tgt := 1229) hx hb dL_law_911 (by decide) (fun _ => ?_) (fun h => absurd rfl h)
          refine hnext _ _ H2 locs2 _ _ (by omega) (by omega) (INV_up hV2 hzn2 (Nat.le_refl _)) hX2 hM2 hap2.sy (INV_kx (INV_up hV2 hzn2 (Nat.le_refl _))) (INV_km hV2)
        | 22, _, htab =>
          refine htab 883 916 rfl (by decide) ?_
          obtain ⟨r, X1, M1, e1, e2, -⟩ := OP_pay hV hk ((xs (6 * k + 1)).toInt) ((xs (6 * k + 2)).toInt) (zi_in _) (zi_in _)
          refine lv_aload_n hx hb dL_law_916 rfl (lv_at hl 1 rfl) ?_
          refine law_rd hx hb 1 hXX hbl hbA hS hl0 hl3 (by omega) hL dL_law_917 dL_law_918 dL_law_919 dL_law_920 dL_law_921 ?_
          refine law_rd hx hb 2 hXX hbl hbA hS hl0 hl3 (by omega) hL dL_law_922 dL_law_923 dL_law_924 dL_law_925 dL_law_926 ?_
          refine law_call (law_run (q := q1) (t := 11) (As := [.int (zi (xs (6 * k + 1)).toInt), .int (zi (xs (6 * k + 2)).toInt)]) (rest := []) hC hX hl.1 (SB_pay zFU q1 ((xs (6 * k + 1)).toInt) ((xs (6 * k + 2)).toInt) (zi_in _) (zi_in _) e1) hkx rfl rfl zML_105 zMv_FB_pay ⟨Nat.le_of_ble_eq_true rfl, Nat.le_of_ble_eq_true rfl⟩ rfl rfl rfl (Nat.le_of_ble_eq_true rfl) ⟨by show _ ≤ 600000; omega, by show _ ≤ 7302250; omega⟩ rfl dL_law_927) hX hM hap (fun _ H1 locs1 hX1 hM1 hap1 hzn => ?_)
          have hV1 := INV_up hV (Nat.le_refl (zn X)) hzn
          have hkm1 : zk (zup M (zn X1)) q2 = some (12, 0) := hkm
          obtain ⟨r', X2, M2, e3, e4, hV2⟩ := OP_pay hV1 hk ((xs (6 * k + 1)).toInt) ((xs (6 * k + 2)).toInt) (zi_in _) (zi_in _)
          have e3 : FB_pay zFU q1 ((xs (6 * k + 1)).toInt) ((xs (6 * k + 2)).toInt) X = some (r', X2) := e3
          have er : (r', X2) = (r, X1) := Option.some.inj (e3.symm.trans e1)
          obtain ⟨er1, er2⟩ := Prod.mk.inj er
          subst er1
          subst er2
          have hS1 := hX1.2.1
          refine lv_aload_n hx hb dL_law_930 rfl (lv_at hl 2 rfl) ?_
          refine law_rd hx hb 1 hXX hbl hbA hS1 hl0 hl3 (by omega) hL dL_law_931 dL_law_932 dL_law_933 dL_law_934 dL_law_935 ?_
          refine law_rd hx hb 2 hXX hbl hbA hS1 hl0 hl3 (by omega) hL dL_law_936 dL_law_937 dL_law_938 dL_law_939 dL_law_940 ?_
          refine law_call (law_run (q := q2) (t := 12) (As := [.int (zi (xs (6 * k + 1)).toInt), .int (zi (xs (6 * k + 2)).toInt)]) (rest := [.int (zi r')]) hC hM1 hl.1 (SM_pay zFU q2 ((xs (6 * k + 1)).toInt) ((xs (6 * k + 2)).toInt) (zi_in _) (zi_in _) e4) hkm1 rfl rfl zML_108 zMv_FM_pay ⟨Nat.le_of_ble_eq_true rfl, Nat.le_of_ble_eq_true rfl⟩ rfl rfl rfl (Nat.le_of_ble_eq_true rfl) ⟨by show _ ≤ 600000; omega, by show _ ≤ 7302250; omega⟩ rfl dL_law_941) hM1 hX1 hap1.sy (fun _ H2 locs2 hM2 hX2 hap2 hzn2 => ?_)
          refine lv_icmp_eq (tgt := 1229) hx hb dL_law_944 (by decide) (fun _ => ?_) (fun h => absurd rfl h)
          refine hnext _ _ H2 locs2 _ _ (by omega) (by omega) (INV_up hV2 hzn2 (Nat.le_refl _)) hX2 hM2 hap2.sy (INV_kx (INV_up hV2 hzn2 (Nat.le_refl _))) (INV_km hV2)
        | 23, _, htab =>
          refine htab 916 949 rfl (by decide) ?_
          obtain ⟨r, X1, M1, e1, - , e2, -, -⟩ := OP_owed hV hk ((xs (6 * k + 1)).toInt) (zi_in _)
          refine lv_aload_n hx hb dL_law_949 rfl (lv_at hl 1 rfl) ?_
          refine law_rd hx hb 1 hXX hbl hbA hS hl0 hl3 (by omega) hL dL_law_950 dL_law_951 dL_law_952 dL_law_953 dL_law_954 ?_
          refine law_call (law_run (q := q1) (t := 11) (As := [.int (zi (xs (6 * k + 1)).toInt)]) (rest := []) hC hX hl.1 (SB_owed zFU q1 ((xs (6 * k + 1)).toInt) (zi_in _) e1) hkx rfl rfl zML_109 zMv_FB_owed ⟨Nat.le_of_ble_eq_true rfl, Nat.le_of_ble_eq_true rfl⟩ rfl rfl rfl (Nat.le_of_ble_eq_true rfl) ⟨by show _ ≤ 600000; omega, by show _ ≤ 7302250; omega⟩ rfl dL_law_955) hX hM hap (fun _ H1 locs1 hX1 hM1 hap1 hzn => ?_)
          have hV1 := INV_up hV (Nat.le_refl (zn X)) hzn
          have hkm1 : zk (zup M (zn X)) q2 = some (12, 0) := hkm
          obtain ⟨r', X2, M2, e3, rfl, e4, rfl, hV2⟩ := OP_owed hV1 hk ((xs (6 * k + 1)).toInt) (zi_in _)
          have e3 : FB_owed zFU q1 ((xs (6 * k + 1)).toInt) X = some r' := e3
          have er : r' = r := Option.some.inj (e3.symm.trans e1)
          subst er
          have hS1 := hX1.2.1
          refine lv_aload_n hx hb dL_law_958 rfl (lv_at hl 2 rfl) ?_
          refine law_rd hx hb 1 hXX hbl hbA hS1 hl0 hl3 (by omega) hL dL_law_959 dL_law_960 dL_law_961 dL_law_962 dL_law_963 ?_
          refine law_call (law_run (q := q2) (t := 12) (As := [.int (zi (xs (6 * k + 1)).toInt)]) (rest := [.int (zi r')]) hC hM1 hl.1 (SM_owed zFU q2 ((xs (6 * k + 1)).toInt) (zi_in _) e4) hkm1 rfl rfl zML_112 zMv_FM_owed ⟨Nat.le_of_ble_eq_true rfl, Nat.le_of_ble_eq_true rfl⟩ rfl rfl rfl (Nat.le_of_ble_eq_true rfl) ⟨by show _ ≤ 600000; omega, by show _ ≤ 7302250; omega⟩ rfl dL_law_964) hM1 hX1 hap1.sy (fun _ H2 locs2 hM2 hX2 hap2 hzn2 => ?_)
          refine lv_icmp_eq (tgt := 1229) hx hb dL_law_967 (by decide) (fun _ => ?_) (fun h => absurd rfl h)
          refine hnext _ _ H2 locs2 _ _ (by omega) (by omega) (INV_up hV2 hzn2 (Nat.le_refl _)) hX2 hM2 hap2.sy (INV_kx (INV_up hV2 hzn2 (Nat.le_refl _))) (INV_km hV2)
        | 24, _, htab =>
          refine htab 939 972 rfl (by decide) ?_
          obtain ⟨r, X1, M1, e1, - , e2, -, -⟩ := OP_led hV hk ((xs (6 * k + 1)).toInt) ((xs (6 * k + 2)).toInt) ((xs (6 * k + 3)).toInt) (zi_in _) (zi_in _) (zi_in _)
          refine lv_aload_n hx hb dL_law_972 rfl (lv_at hl 1 rfl) ?_
          refine law_rd hx hb 1 hXX hbl hbA hS hl0 hl3 (by omega) hL dL_law_973 dL_law_974 dL_law_975 dL_law_976 dL_law_977 ?_
          refine law_rd hx hb 2 hXX hbl hbA hS hl0 hl3 (by omega) hL dL_law_978 dL_law_979 dL_law_980 dL_law_981 dL_law_982 ?_
          refine law_rd hx hb 3 hXX hbl hbA hS hl0 hl3 (by omega) hL dL_law_983 dL_law_984 dL_law_985 dL_law_986 dL_law_987 ?_
          refine law_call (law_run (q := q1) (t := 11) (As := [.int (zi (xs (6 * k + 1)).toInt), .int (zi (xs (6 * k + 2)).toInt), .int (zi (xs (6 * k + 3)).toInt)]) (rest := []) hC hX hl.1 (SB_led zFU q1 ((xs (6 * k + 1)).toInt) ((xs (6 * k + 2)).toInt) ((xs (6 * k + 3)).toInt) (zi_in _) (zi_in _) (zi_in _) e1) hkx rfl rfl zML_113 zMv_FB_led ⟨Nat.le_of_ble_eq_true rfl, Nat.le_of_ble_eq_true rfl⟩ rfl rfl rfl (Nat.le_of_ble_eq_true rfl) ⟨by show _ ≤ 600000; omega, by show _ ≤ 7302250; omega⟩ rfl dL_law_988) hX hM hap (fun _ H1 locs1 hX1 hM1 hap1 hzn => ?_)
          have hV1 := INV_up hV (Nat.le_refl (zn X)) hzn
          have hkm1 : zk (zup M (zn X)) q2 = some (12, 0) := hkm
          obtain ⟨r', X2, M2, e3, rfl, e4, rfl, hV2⟩ := OP_led hV1 hk ((xs (6 * k + 1)).toInt) ((xs (6 * k + 2)).toInt) ((xs (6 * k + 3)).toInt) (zi_in _) (zi_in _) (zi_in _)
          have e3 : FB_led zFU q1 ((xs (6 * k + 1)).toInt) ((xs (6 * k + 2)).toInt) ((xs (6 * k + 3)).toInt) X = some r' := e3
          have er : r' = r := Option.some.inj (e3.symm.trans e1)
          subst er
          have hS1 := hX1.2.1
          refine lv_aload_n hx hb dL_law_991 rfl (lv_at hl 2 rfl) ?_
          refine law_rd hx hb 1 hXX hbl hbA hS1 hl0 hl3 (by omega) hL dL_law_992 dL_law_993 dL_law_994 dL_law_995 dL_law_996 ?_
          refine law_rd hx hb 2 hXX hbl hbA hS1 hl0 hl3 (by omega) hL dL_law_997 dL_law_998 dL_law_999 dL_law_1000 dL_law_1001 ?_
          refine law_rd hx hb 3 hXX hbl hbA hS1 hl0 hl3 (by omega) hL dL_law_1002 dL_law_1003 dL_law_1004 dL_law_1005 dL_law_1006 ?_
          refine law_call (law_run (q := q2) (t := 12) (As := [.int (zi (xs (6 * k + 1)).toInt), .int (zi (xs (6 * k + 2)).toInt), .int (zi (xs (6 * k + 3)).toInt)]) (rest := [.int (zi r')]) hC hM1 hl.1 (SM_led zFU q2 ((xs (6 * k + 1)).toInt) ((xs (6 * k + 2)).toInt) ((xs (6 * k + 3)).toInt) (zi_in _) (zi_in _) (zi_in _) e4) hkm1 rfl rfl zML_116 zMv_FM_led ⟨Nat.le_of_ble_eq_true rfl, Nat.le_of_ble_eq_true rfl⟩ rfl rfl rfl (Nat.le_of_ble_eq_true rfl) ⟨by show _ ≤ 600000; omega, by show _ ≤ 7302250; omega⟩ rfl dL_law_1007) hM1 hX1 hap1.sy (fun _ H2 locs2 hM2 hX2 hap2 hzn2 => ?_)
          refine lv_icmp_eq (tgt := 1229) hx hb dL_law_1010 (by decide) (fun _ => ?_) (fun h => absurd rfl h)
          refine hnext _ _ H2 locs2 _ _ (by omega) (by omega) (INV_up hV2 hzn2 (Nat.le_refl _)) hX2 hM2 hap2.sy (INV_kx (INV_up hV2 hzn2 (Nat.le_refl _))) (INV_km hV2)
        | 25, _, htab =>
          refine htab 982 1015 rfl (by decide) ?_
          obtain ⟨r, X1, M1, e1, e2, -⟩ := OP_notice hV hk ((xs (6 * k + 1)).toInt) (zi_in _)
          refine lv_aload_n hx hb dL_law_1015 rfl (lv_at hl 1 rfl) ?_
          refine law_rd hx hb 1 hXX hbl hbA hS hl0 hl3 (by omega) hL dL_law_1016 dL_law_1017 dL_law_1018 dL_law_1019 dL_law_1020 ?_
          refine law_call (law_run (q := q1) (t := 11) (As := [.int (zi (xs (6 * k + 1)).toInt)]) (rest := []) hC hX hl.1 (SB_notice zFU q1 ((xs (6 * k + 1)).toInt) (zi_in _) e1) hkx rfl rfl zML_117 zMv_FB_notice ⟨Nat.le_of_ble_eq_true rfl, Nat.le_of_ble_eq_true rfl⟩ rfl rfl rfl (Nat.le_of_ble_eq_true rfl) ⟨by show _ ≤ 600000; omega, by show _ ≤ 7302250; omega⟩ rfl dL_law_1021) hX hM hap (fun _ H1 locs1 hX1 hM1 hap1 hzn => ?_)
          have hV1 := INV_up hV (Nat.le_refl (zn X)) hzn
          have hkm1 : zk (zup M (zn X1)) q2 = some (12, 0) := hkm
          obtain ⟨r', X2, M2, e3, e4, hV2⟩ := OP_notice hV1 hk ((xs (6 * k + 1)).toInt) (zi_in _)
          have e3 : FB_notice zFU q1 ((xs (6 * k + 1)).toInt) X = some (r', X2) := e3
          have er : (r', X2) = (r, X1) := Option.some.inj (e3.symm.trans e1)
          obtain ⟨er1, er2⟩ := Prod.mk.inj er
          subst er1
          subst er2
          have hS1 := hX1.2.1
          refine lv_aload_n hx hb dL_law_1024 rfl (lv_at hl 2 rfl) ?_
          refine law_rd hx hb 1 hXX hbl hbA hS1 hl0 hl3 (by omega) hL dL_law_1025 dL_law_1026 dL_law_1027 dL_law_1028 dL_law_1029 ?_
          refine law_call (law_run (q := q2) (t := 12) (As := [.int (zi (xs (6 * k + 1)).toInt)]) (rest := [.int (zi r')]) hC hM1 hl.1 (SM_notice zFU q2 ((xs (6 * k + 1)).toInt) (zi_in _) e4) hkm1 rfl rfl zML_120 zMv_FM_notice ⟨Nat.le_of_ble_eq_true rfl, Nat.le_of_ble_eq_true rfl⟩ rfl rfl rfl (Nat.le_of_ble_eq_true rfl) ⟨by show _ ≤ 600000; omega, by show _ ≤ 7302250; omega⟩ rfl dL_law_1030) hM1 hX1 hap1.sy (fun _ H2 locs2 hM2 hX2 hap2 hzn2 => ?_)
          refine lv_icmp_eq (tgt := 1229) hx hb dL_law_1033 (by decide) (fun _ => ?_) (fun h => absurd rfl h)
          refine hnext _ _ H2 locs2 _ _ (by omega) (by omega) (INV_up hV2 hzn2 (Nat.le_refl _)) hX2 hM2 hap2.sy (INV_kx (INV_up hV2 hzn2 (Nat.le_refl _))) (INV_km hV2)
        | 26, _, htab =>
          refine htab 1005 1038 rfl (by decide) ?_
          obtain ⟨r, X1, M1, e1, - , e2, -, -⟩ := OP_ofNotice hV hk ((xs (6 * k + 1)).toInt) ((xs (6 * k + 2)).toInt) (zi_in _) (zi_in _)
          refine lv_aload_n hx hb dL_law_1038 rfl (lv_at hl 1 rfl) ?_
          refine law_rd hx hb 1 hXX hbl hbA hS hl0 hl3 (by omega) hL dL_law_1039 dL_law_1040 dL_law_1041 dL_law_1042 dL_law_1043 ?_
          refine law_rd hx hb 2 hXX hbl hbA hS hl0 hl3 (by omega) hL dL_law_1044 dL_law_1045 dL_law_1046 dL_law_1047 dL_law_1048 ?_
          refine law_call (law_run (q := q1) (t := 11) (As := [.int (zi (xs (6 * k + 1)).toInt), .int (zi (xs (6 * k + 2)).toInt)]) (rest := []) hC hX hl.1 (SB_ofNotice zFU q1 ((xs (6 * k + 1)).toInt) ((xs (6 * k + 2)).toInt) (zi_in _) (zi_in _) e1) hkx rfl rfl zML_121 zMv_FB_ofNotice ⟨Nat.le_of_ble_eq_true rfl, Nat.le_of_ble_eq_true rfl⟩ rfl rfl rfl (Nat.le_of_ble_eq_true rfl) ⟨by show _ ≤ 600000; omega, by show _ ≤ 7302250; omega⟩ rfl dL_law_1049) hX hM hap (fun _ H1 locs1 hX1 hM1 hap1 hzn => ?_)
          have hV1 := INV_up hV (Nat.le_refl (zn X)) hzn
          have hkm1 : zk (zup M (zn X)) q2 = some (12, 0) := hkm
          obtain ⟨r', X2, M2, e3, rfl, e4, rfl, hV2⟩ := OP_ofNotice hV1 hk ((xs (6 * k + 1)).toInt) ((xs (6 * k + 2)).toInt) (zi_in _) (zi_in _)
          have e3 : FB_ofNotice zFU q1 ((xs (6 * k + 1)).toInt) ((xs (6 * k + 2)).toInt) X = some r' := e3
          have er : r' = r := Option.some.inj (e3.symm.trans e1)
          subst er
          have hS1 := hX1.2.1
          refine lv_aload_n hx hb dL_law_1052 rfl (lv_at hl 2 rfl) ?_
          refine law_rd hx hb 1 hXX hbl hbA hS1 hl0 hl3 (by omega) hL dL_law_1053 dL_law_1054 dL_law_1055 dL_law_1056 dL_law_1057 ?_
          refine law_rd hx hb 2 hXX hbl hbA hS1 hl0 hl3 (by omega) hL dL_law_1058 dL_law_1059 dL_law_1060 dL_law_1061 dL_law_1062 ?_
          refine law_call (law_run (q := q2) (t := 12) (As := [.int (zi (xs (6 * k + 1)).toInt), .int (zi (xs (6 * k + 2)).toInt)]) (rest := [.int (zi r')]) hC hM1 hl.1 (SM_ofNotice zFU q2 ((xs (6 * k + 1)).toInt) ((xs (6 * k + 2)).toInt) (zi_in _) (zi_in _) e4) hkm1 rfl rfl zML_124 zMv_FM_ofNotice ⟨Nat.le_of_ble_eq_true rfl, Nat.le_of_ble_eq_true rfl⟩ rfl rfl rfl (Nat.le_of_ble_eq_true rfl) ⟨by show _ ≤ 600000; omega, by show _ ≤ 7302250; omega⟩ rfl dL_law_1063) hM1 hX1 hap1.sy (fun _ H2 locs2 hM2 hX2 hap2 hzn2 => ?_)
          refine lv_icmp_eq (tgt := 1229) hx hb dL_law_1066 (by decide) (fun _ => ?_) (fun h => absurd rfl h)
          refine hnext _ _ H2 locs2 _ _ (by omega) (by omega) (INV_up hV2 hzn2 (Nat.le_refl _)) hX2 hM2 hap2.sy (INV_kx (INV_up hV2 hzn2 (Nat.le_refl _))) (INV_km hV2)
        | 27, _, htab =>
          refine htab 1038 1071 rfl (by decide) ?_
          obtain ⟨r, X1, M1, e1, e2, -⟩ := OP_gain hV hk ((xs (6 * k + 1)).toInt) ((xs (6 * k + 2)).toInt) (zi_in _) (zi_in _)
          refine lv_aload_n hx hb dL_law_1071 rfl (lv_at hl 1 rfl) ?_
          refine law_rd hx hb 1 hXX hbl hbA hS hl0 hl3 (by omega) hL dL_law_1072 dL_law_1073 dL_law_1074 dL_law_1075 dL_law_1076 ?_
          refine law_rd hx hb 2 hXX hbl hbA hS hl0 hl3 (by omega) hL dL_law_1077 dL_law_1078 dL_law_1079 dL_law_1080 dL_law_1081 ?_
          refine law_call (law_run (q := q1) (t := 11) (As := [.int (zi (xs (6 * k + 1)).toInt), .int (zi (xs (6 * k + 2)).toInt)]) (rest := []) hC hX hl.1 (SB_gain zFU q1 ((xs (6 * k + 1)).toInt) ((xs (6 * k + 2)).toInt) (zi_in _) (zi_in _) e1) hkx rfl rfl zML_125 zMv_FB_gain ⟨Nat.le_of_ble_eq_true rfl, Nat.le_of_ble_eq_true rfl⟩ rfl rfl rfl (Nat.le_of_ble_eq_true rfl) ⟨by show _ ≤ 600000; omega, by show _ ≤ 7302250; omega⟩ rfl dL_law_1082) hX hM hap (fun _ H1 locs1 hX1 hM1 hap1 hzn => ?_)
          have hV1 := INV_up hV (Nat.le_refl (zn X)) hzn
          have hkm1 : zk (zup M (zn X1)) q2 = some (12, 0) := hkm
          obtain ⟨r', X2, M2, e3, e4, hV2⟩ := OP_gain hV1 hk ((xs (6 * k + 1)).toInt) ((xs (6 * k + 2)).toInt) (zi_in _) (zi_in _)
          have e3 : FB_gain zFU q1 ((xs (6 * k + 1)).toInt) ((xs (6 * k + 2)).toInt) X = some (r', X2) := e3
          have er : (r', X2) = (r, X1) := Option.some.inj (e3.symm.trans e1)
          obtain ⟨er1, er2⟩ := Prod.mk.inj er
          subst er1
          subst er2
          have hS1 := hX1.2.1
          refine lv_aload_n hx hb dL_law_1085 rfl (lv_at hl 2 rfl) ?_
          refine law_rd hx hb 1 hXX hbl hbA hS1 hl0 hl3 (by omega) hL dL_law_1086 dL_law_1087 dL_law_1088 dL_law_1089 dL_law_1090 ?_
          refine law_rd hx hb 2 hXX hbl hbA hS1 hl0 hl3 (by omega) hL dL_law_1091 dL_law_1092 dL_law_1093 dL_law_1094 dL_law_1095 ?_
          refine law_call (law_run (q := q2) (t := 12) (As := [.int (zi (xs (6 * k + 1)).toInt), .int (zi (xs (6 * k + 2)).toInt)]) (rest := [.int (zi r')]) hC hM1 hl.1 (SM_gain zFU q2 ((xs (6 * k + 1)).toInt) ((xs (6 * k + 2)).toInt) (zi_in _) (zi_in _) e4) hkm1 rfl rfl zML_128 zMv_FM_gain ⟨Nat.le_of_ble_eq_true rfl, Nat.le_of_ble_eq_true rfl⟩ rfl rfl rfl (Nat.le_of_ble_eq_true rfl) ⟨by show _ ≤ 600000; omega, by show _ ≤ 7302250; omega⟩ rfl dL_law_1096) hM1 hX1 hap1.sy (fun _ H2 locs2 hM2 hX2 hap2 hzn2 => ?_)
          refine lv_icmp_eq (tgt := 1229) hx hb dL_law_1099 (by decide) (fun _ => ?_) (fun h => absurd rfl h)
          refine hnext _ _ H2 locs2 _ _ (by omega) (by omega) (INV_up hV2 hzn2 (Nat.le_refl _)) hX2 hM2 hap2.sy (INV_kx (INV_up hV2 hzn2 (Nat.le_refl _))) (INV_km hV2)
        | 28, _, htab =>
          refine htab 1071 1104 rfl (by decide) ?_
          obtain ⟨r, X1, M1, e1, e2, -⟩ := OP_spend hV hk ((xs (6 * k + 1)).toInt) (zi_in _)
          refine lv_aload_n hx hb dL_law_1104 rfl (lv_at hl 1 rfl) ?_
          refine law_rd hx hb 1 hXX hbl hbA hS hl0 hl3 (by omega) hL dL_law_1105 dL_law_1106 dL_law_1107 dL_law_1108 dL_law_1109 ?_
          refine law_call (law_run (q := q1) (t := 11) (As := [.int (zi (xs (6 * k + 1)).toInt)]) (rest := []) hC hX hl.1 (SB_spend zFU q1 ((xs (6 * k + 1)).toInt) (zi_in _) e1) hkx rfl rfl zML_129 zMv_FB_spend ⟨Nat.le_of_ble_eq_true rfl, Nat.le_of_ble_eq_true rfl⟩ rfl rfl rfl (Nat.le_of_ble_eq_true rfl) ⟨by show _ ≤ 600000; omega, by show _ ≤ 7302250; omega⟩ rfl dL_law_1110) hX hM hap (fun _ H1 locs1 hX1 hM1 hap1 hzn => ?_)
          have hV1 := INV_up hV (Nat.le_refl (zn X)) hzn
          have hkm1 : zk (zup M (zn X1)) q2 = some (12, 0) := hkm
          obtain ⟨r', X2, M2, e3, e4, hV2⟩ := OP_spend hV1 hk ((xs (6 * k + 1)).toInt) (zi_in _)
          have e3 : FB_spend zFU q1 ((xs (6 * k + 1)).toInt) X = some (r', X2) := e3
          have er : (r', X2) = (r, X1) := Option.some.inj (e3.symm.trans e1)
          obtain ⟨er1, er2⟩ := Prod.mk.inj er
          subst er1
          subst er2
          have hS1 := hX1.2.1
          refine lv_aload_n hx hb dL_law_1113 rfl (lv_at hl 2 rfl) ?_
          refine law_rd hx hb 1 hXX hbl hbA hS1 hl0 hl3 (by omega) hL dL_law_1114 dL_law_1115 dL_law_1116 dL_law_1117 dL_law_1118 ?_
          refine law_call (law_run (q := q2) (t := 12) (As := [.int (zi (xs (6 * k + 1)).toInt)]) (rest := [.int (zi r')]) hC hM1 hl.1 (SM_spend zFU q2 ((xs (6 * k + 1)).toInt) (zi_in _) e4) hkm1 rfl rfl zML_132 zMv_FM_spend ⟨Nat.le_of_ble_eq_true rfl, Nat.le_of_ble_eq_true rfl⟩ rfl rfl rfl (Nat.le_of_ble_eq_true rfl) ⟨by show _ ≤ 600000; omega, by show _ ≤ 7302250; omega⟩ rfl dL_law_1119) hM1 hX1 hap1.sy (fun _ H2 locs2 hM2 hX2 hap2 hzn2 => ?_)
          refine lv_icmp_eq (tgt := 1229) hx hb dL_law_1122 (by decide) (fun _ => ?_) (fun h => absurd rfl h)
          refine hnext _ _ H2 locs2 _ _ (by omega) (by omega) (INV_up hV2 hzn2 (Nat.le_refl _)) hX2 hM2 hap2.sy (INV_kx (INV_up hV2 hzn2 (Nat.le_refl _))) (INV_km hV2)
        | 29, _, htab =>
          refine htab 1094 1127 rfl (by decide) ?_
          obtain ⟨r, X1, M1, e1, e2, -⟩ := OP_load hV hk ((xs (6 * k + 1)).toInt) ((xs (6 * k + 2)).toInt) (zi_in _) (zi_in _)
          refine lv_aload_n hx hb dL_law_1127 rfl (lv_at hl 1 rfl) ?_
          refine law_rd hx hb 1 hXX hbl hbA hS hl0 hl3 (by omega) hL dL_law_1128 dL_law_1129 dL_law_1130 dL_law_1131 dL_law_1132 ?_
          refine law_rd hx hb 2 hXX hbl hbA hS hl0 hl3 (by omega) hL dL_law_1133 dL_law_1134 dL_law_1135 dL_law_1136 dL_law_1137 ?_
          refine law_call (law_run (q := q1) (t := 11) (As := [.int (zi (xs (6 * k + 1)).toInt), .int (zi (xs (6 * k + 2)).toInt)]) (rest := []) hC hX hl.1 (SB_load zFU q1 ((xs (6 * k + 1)).toInt) ((xs (6 * k + 2)).toInt) (zi_in _) (zi_in _) e1) hkx rfl rfl zML_133 zMv_FB_load ⟨Nat.le_of_ble_eq_true rfl, Nat.le_of_ble_eq_true rfl⟩ rfl rfl rfl (Nat.le_of_ble_eq_true rfl) ⟨by show _ ≤ 600000; omega, by show _ ≤ 7302250; omega⟩ rfl dL_law_1138) hX hM hap (fun _ H1 locs1 hX1 hM1 hap1 hzn => ?_)
          have hV1 := INV_up hV (Nat.le_refl (zn X)) hzn
          have hkm1 : zk (zup M (zn X1)) q2 = some (12, 0) := hkm
          obtain ⟨r', X2, M2, e3, e4, hV2⟩ := OP_load hV1 hk ((xs (6 * k + 1)).toInt) ((xs (6 * k + 2)).toInt) (zi_in _) (zi_in _)
          have e3 : FB_load zFU q1 ((xs (6 * k + 1)).toInt) ((xs (6 * k + 2)).toInt) X = some (r', X2) := e3
          have er : (r', X2) = (r, X1) := Option.some.inj (e3.symm.trans e1)
          obtain ⟨er1, er2⟩ := Prod.mk.inj er
          subst er1
          subst er2
          have hS1 := hX1.2.1
          refine lv_aload_n hx hb dL_law_1141 rfl (lv_at hl 2 rfl) ?_
          refine law_rd hx hb 1 hXX hbl hbA hS1 hl0 hl3 (by omega) hL dL_law_1142 dL_law_1143 dL_law_1144 dL_law_1145 dL_law_1146 ?_
          refine law_rd hx hb 2 hXX hbl hbA hS1 hl0 hl3 (by omega) hL dL_law_1147 dL_law_1148 dL_law_1149 dL_law_1150 dL_law_1151 ?_
          refine law_call (law_run (q := q2) (t := 12) (As := [.int (zi (xs (6 * k + 1)).toInt), .int (zi (xs (6 * k + 2)).toInt)]) (rest := [.int (zi r')]) hC hM1 hl.1 (SM_load zFU q2 ((xs (6 * k + 1)).toInt) ((xs (6 * k + 2)).toInt) (zi_in _) (zi_in _) e4) hkm1 rfl rfl zML_136 zMv_FM_load ⟨Nat.le_of_ble_eq_true rfl, Nat.le_of_ble_eq_true rfl⟩ rfl rfl rfl (Nat.le_of_ble_eq_true rfl) ⟨by show _ ≤ 600000; omega, by show _ ≤ 7302250; omega⟩ rfl dL_law_1152) hM1 hX1 hap1.sy (fun _ H2 locs2 hM2 hX2 hap2 hzn2 => ?_)
          refine lv_icmp_eq (tgt := 1229) hx hb dL_law_1155 (by decide) (fun _ => ?_) (fun h => absurd rfl h)
          refine hnext _ _ H2 locs2 _ _ (by omega) (by omega) (INV_up hV2 hzn2 (Nat.le_refl _)) hX2 hM2 hap2.sy (INV_kx (INV_up hV2 hzn2 (Nat.le_refl _))) (INV_km hV2)
        | 30, _, htab =>
          refine htab 1127 1160 rfl (by decide) ?_
          obtain ⟨r, X1, M1, e1, e2, -⟩ := OP_carts hV hk ((xs (6 * k + 1)).toInt) (zi_in _)
          refine lv_aload_n hx hb dL_law_1160 rfl (lv_at hl 1 rfl) ?_
          refine law_rd hx hb 1 hXX hbl hbA hS hl0 hl3 (by omega) hL dL_law_1161 dL_law_1162 dL_law_1163 dL_law_1164 dL_law_1165 ?_
          refine law_call (law_run (q := q1) (t := 11) (As := [.int (zi (xs (6 * k + 1)).toInt)]) (rest := []) hC hX hl.1 (SB_carts zFU q1 ((xs (6 * k + 1)).toInt) (zi_in _) e1) hkx rfl rfl zML_137 zMv_FB_carts ⟨Nat.le_of_ble_eq_true rfl, Nat.le_of_ble_eq_true rfl⟩ rfl rfl rfl (Nat.le_of_ble_eq_true rfl) ⟨by show _ ≤ 600000; omega, by show _ ≤ 7302250; omega⟩ rfl dL_law_1166) hX hM hap (fun _ H1 locs1 hX1 hM1 hap1 hzn => ?_)
          have hV1 := INV_up hV (Nat.le_refl (zn X)) hzn
          have hkm1 : zk (zup M (zn X1)) q2 = some (12, 0) := hkm
          obtain ⟨r', X2, M2, e3, e4, hV2⟩ := OP_carts hV1 hk ((xs (6 * k + 1)).toInt) (zi_in _)
          have e3 : FB_carts zFU q1 ((xs (6 * k + 1)).toInt) X = some (r', X2) := e3
          have er : (r', X2) = (r, X1) := Option.some.inj (e3.symm.trans e1)
          obtain ⟨er1, er2⟩ := Prod.mk.inj er
          subst er1
          subst er2
          have hS1 := hX1.2.1
          refine lv_aload_n hx hb dL_law_1169 rfl (lv_at hl 2 rfl) ?_
          refine law_rd hx hb 1 hXX hbl hbA hS1 hl0 hl3 (by omega) hL dL_law_1170 dL_law_1171 dL_law_1172 dL_law_1173 dL_law_1174 ?_
          refine law_call (law_run (q := q2) (t := 12) (As := [.int (zi (xs (6 * k + 1)).toInt)]) (rest := [.int (zi r')]) hC hM1 hl.1 (SM_carts zFU q2 ((xs (6 * k + 1)).toInt) (zi_in _) e4) hkm1 rfl rfl zML_140 zMv_FM_carts ⟨Nat.le_of_ble_eq_true rfl, Nat.le_of_ble_eq_true rfl⟩ rfl rfl rfl (Nat.le_of_ble_eq_true rfl) ⟨by show _ ≤ 600000; omega, by show _ ≤ 7302250; omega⟩ rfl dL_law_1175) hM1 hX1 hap1.sy (fun _ H2 locs2 hM2 hX2 hap2 hzn2 => ?_)
          refine lv_icmp_eq (tgt := 1229) hx hb dL_law_1178 (by decide) (fun _ => ?_) (fun h => absurd rfl h)
          refine hnext _ _ H2 locs2 _ _ (by omega) (by omega) (INV_up hV2 hzn2 (Nat.le_refl _)) hX2 hM2 hap2.sy (INV_kx (INV_up hV2 hzn2 (Nat.le_refl _))) (INV_km hV2)
        | 31, _, htab =>
          refine htab 1150 1183 rfl (by decide) ?_
          obtain ⟨r, X1, M1, e1, - , e2, -, -⟩ := OP_cart hV hk ((xs (6 * k + 1)).toInt) (zi_in _)
          refine lv_aload_n hx hb dL_law_1183 rfl (lv_at hl 1 rfl) ?_
          refine law_rd hx hb 1 hXX hbl hbA hS hl0 hl3 (by omega) hL dL_law_1184 dL_law_1185 dL_law_1186 dL_law_1187 dL_law_1188 ?_
          refine law_call (law_run (q := q1) (t := 11) (As := [.int (zi (xs (6 * k + 1)).toInt)]) (rest := []) hC hX hl.1 (SB_cart zFU q1 ((xs (6 * k + 1)).toInt) (zi_in _) e1) hkx rfl rfl zML_141 zMv_FB_cart ⟨Nat.le_of_ble_eq_true rfl, Nat.le_of_ble_eq_true rfl⟩ rfl rfl rfl (Nat.le_of_ble_eq_true rfl) ⟨by show _ ≤ 600000; omega, by show _ ≤ 7302250; omega⟩ rfl dL_law_1189) hX hM hap (fun _ H1 locs1 hX1 hM1 hap1 hzn => ?_)
          have hV1 := INV_up hV (Nat.le_refl (zn X)) hzn
          have hkm1 : zk (zup M (zn X)) q2 = some (12, 0) := hkm
          obtain ⟨r', X2, M2, e3, rfl, e4, rfl, hV2⟩ := OP_cart hV1 hk ((xs (6 * k + 1)).toInt) (zi_in _)
          have e3 : FB_cart zFU q1 ((xs (6 * k + 1)).toInt) X = some r' := e3
          have er : r' = r := Option.some.inj (e3.symm.trans e1)
          subst er
          have hS1 := hX1.2.1
          refine lv_aload_n hx hb dL_law_1192 rfl (lv_at hl 2 rfl) ?_
          refine law_rd hx hb 1 hXX hbl hbA hS1 hl0 hl3 (by omega) hL dL_law_1193 dL_law_1194 dL_law_1195 dL_law_1196 dL_law_1197 ?_
          refine law_call (law_run (q := q2) (t := 12) (As := [.int (zi (xs (6 * k + 1)).toInt)]) (rest := [.int (zi r')]) hC hM1 hl.1 (SM_cart zFU q2 ((xs (6 * k + 1)).toInt) (zi_in _) e4) hkm1 rfl rfl zML_144 zMv_FM_cart ⟨Nat.le_of_ble_eq_true rfl, Nat.le_of_ble_eq_true rfl⟩ rfl rfl rfl (Nat.le_of_ble_eq_true rfl) ⟨by show _ ≤ 600000; omega, by show _ ≤ 7302250; omega⟩ rfl dL_law_1198) hM1 hX1 hap1.sy (fun _ H2 locs2 hM2 hX2 hap2 hzn2 => ?_)
          refine lv_icmp_eq (tgt := 1229) hx hb dL_law_1201 (by decide) (fun _ => ?_) (fun h => absurd rfl h)
          refine hnext _ _ H2 locs2 _ _ (by omega) (by omega) (INV_up hV2 hzn2 (Nat.le_refl _)) hX2 hM2 hap2.sy (INV_kx (INV_up hV2 hzn2 (Nat.le_refl _))) (INV_km hV2)
        | 32, _, htab =>
          refine htab 1173 1206 rfl (by decide) ?_
          obtain ⟨r, X1, M1, e1, - , e2, -, -⟩ := OP_count hV hk ((xs (6 * k + 1)).toInt) (zi_in _)
          refine lv_aload_n hx hb dL_law_1206 rfl (lv_at hl 1 rfl) ?_
          refine law_rd hx hb 1 hXX hbl hbA hS hl0 hl3 (by omega) hL dL_law_1207 dL_law_1208 dL_law_1209 dL_law_1210 dL_law_1211 ?_
          refine law_call (law_run (q := q1) (t := 11) (As := [.int (zi (xs (6 * k + 1)).toInt)]) (rest := []) hC hX hl.1 (SB_count zFU q1 ((xs (6 * k + 1)).toInt) (zi_in _) e1) hkx rfl rfl zML_145 zMv_FB_count ⟨Nat.le_of_ble_eq_true rfl, Nat.le_of_ble_eq_true rfl⟩ rfl rfl rfl (Nat.le_of_ble_eq_true rfl) ⟨by show _ ≤ 600000; omega, by show _ ≤ 7302250; omega⟩ rfl dL_law_1212) hX hM hap (fun _ H1 locs1 hX1 hM1 hap1 hzn => ?_)
          have hV1 := INV_up hV (Nat.le_refl (zn X)) hzn
          have hkm1 : zk (zup M (zn X)) q2 = some (12, 0) := hkm
          obtain ⟨r', X2, M2, e3, rfl, e4, rfl, hV2⟩ := OP_count hV1 hk ((xs (6 * k + 1)).toInt) (zi_in _)
          have e3 : FB_count zFU q1 ((xs (6 * k + 1)).toInt) X = some r' := e3
          have er : r' = r := Option.some.inj (e3.symm.trans e1)
          subst er
          have hS1 := hX1.2.1
          refine lv_aload_n hx hb dL_law_1215 rfl (lv_at hl 2 rfl) ?_
          refine law_rd hx hb 1 hXX hbl hbA hS1 hl0 hl3 (by omega) hL dL_law_1216 dL_law_1217 dL_law_1218 dL_law_1219 dL_law_1220 ?_
          refine law_call (law_run (q := q2) (t := 12) (As := [.int (zi (xs (6 * k + 1)).toInt)]) (rest := [.int (zi r')]) hC hM1 hl.1 (SM_count zFU q2 ((xs (6 * k + 1)).toInt) (zi_in _) e4) hkm1 rfl rfl zML_148 zMv_FM_count ⟨Nat.le_of_ble_eq_true rfl, Nat.le_of_ble_eq_true rfl⟩ rfl rfl rfl (Nat.le_of_ble_eq_true rfl) ⟨by show _ ≤ 600000; omega, by show _ ≤ 7302250; omega⟩ rfl dL_law_1221) hM1 hX1 hap1.sy (fun _ H2 locs2 hM2 hX2 hap2 hzn2 => ?_)
          refine lv_icmp_eq (tgt := 1229) hx hb dL_law_1224 (by decide) (fun _ => ?_) (fun h => absurd rfl h)
          refine hnext _ _ H2 locs2 _ _ (by omega) (by omega) (INV_up hV2 hzn2 (Nat.le_refl _)) hX2 hM2 hap2.sy (INV_kx (INV_up hV2 hzn2 (Nat.le_refl _))) (INV_km hV2)
        | o + 33, h, _ => omega
      · have hoi : zInI (o : Int) := ⟨by omega, by omega⟩
        refine lv_tableOut (tgt := 1229) hx hb dL_law_33 (by rw [zi_toInt hoi]; omega) (by decide) ?_
        exact hnext X M H locs _ _ (by omega) (by omega) (INV_skip hV) hX hM hap hkx hkm
