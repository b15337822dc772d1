/-- words of a class of the table, among all words -/
theorem zwordsT {t : Nat} {r : vw_C} (h : zcl[t]? = some r) : ∀ w ∈ u_ws r.1 r.2.1 r.2.2, w ∈ lw_tbl := fun w hw => (List.mem_filter.mp (zwords h w hw)).1
theorem zK_start {s : State} {args : Array Value} (hts0 : ∀ w ∈ lw_tbl, w.before args s = true) : ∃ (D : va_G) (aC : Nat → ClassId), zK D aC s := by
  obtain ⟨c0, iS0, hKn0⟩ := u_known (C := RX0) (T := TX0) (N := 3) (n := 3) hts0 (zwordsT (t := 0) rfl) (hts0 (.instantiable RX0 3) (List.mem_of_getElem? (i := 157) (by decide +kernel)))
  obtain ⟨c1, iS1, hKn1⟩ := u_known (C := RX1) (T := TX1) (N := 3) (n := 3) hts0 (zwordsT (t := 1) rfl) (hts0 (.instantiable RX1 3) (List.mem_of_getElem? (i := 325) (by decide +kernel)))
  obtain ⟨c2, iS2, hKn2⟩ := u_known (C := RX2) (T := TX2) (N := 6) (n := 6) hts0 (zwordsT (t := 2) rfl) (hts0 (.instantiable RX2 6) (List.mem_of_getElem? (i := 179) (by decide +kernel)))
  obtain ⟨c3, iS3, hKn3⟩ := u_known (C := RX3) (T := TX3) (N := 7) (n := 7) hts0 (zwordsT (t := 3) rfl) (hts0 (.instantiable RX3 7) (List.mem_of_getElem? (i := 864) (by decide +kernel)))
  obtain ⟨c4, iS4, hKn4⟩ := u_known (C := RX4) (T := TX4) (N := 9) (n := 9) hts0 (zwordsT (t := 4) rfl) (hts0 (.instantiable RX4 9) (List.mem_of_getElem? (i := 342) (by decide +kernel)))
  obtain ⟨c5, iS5, hKn5⟩ := u_known (C := RX5) (T := TX5) (N := 9) (n := 9) hts0 (zwordsT (t := 5) rfl) (hts0 (.instantiable RX5 9) (List.mem_of_getElem? (i := 261) (by decide +kernel)))
  obtain ⟨c6, iS6, hKn6⟩ := u_known (C := RX6) (T := TX6) (N := 6) (n := 6) hts0 (zwordsT (t := 6) rfl) (hts0 (.instantiable RX6 6) (List.mem_of_getElem? (i := 255) (by decide +kernel)))
  obtain ⟨c7, iS7, hKn7⟩ := u_known (C := RX7) (T := TX7) (N := 15) (n := 15) hts0 (zwordsT (t := 7) rfl) (hts0 (.instantiable RX7 15) (List.mem_of_getElem? (i := 466) (by decide +kernel)))
  obtain ⟨c8, iS8, hKn8⟩ := u_known (C := RX8) (T := TX8) (N := 14) (n := 14) hts0 (zwordsT (t := 8) rfl) (hts0 (.instantiable RX8 14) (List.mem_of_getElem? (i := 206) (by decide +kernel)))
  obtain ⟨c9, iS9, hKn9⟩ := u_known (C := RX9) (T := TX9) (N := 5) (n := 5) hts0 (zwordsT (t := 9) rfl) (hts0 (.instantiable RX9 5) (List.mem_of_getElem? (i := 782) (by decide +kernel)))
  obtain ⟨c10, iS10, hKn10⟩ := u_known (C := RX10) (T := TX10) (N := 6) (n := 6) hts0 (zwordsT (t := 10) rfl) (hts0 (.instantiable RX10 6) (List.mem_of_getElem? (i := 125) (by decide +kernel)))
  obtain ⟨c11, iS11, hKn11⟩ := u_known (C := RX11) (T := TX11) (N := 9) (n := 9) hts0 (zwordsT (t := 11) rfl) (hts0 (.instantiable RX11 9) (List.mem_of_getElem? (i := 117) (by decide +kernel)))
  obtain ⟨c12, iS12, hKn12⟩ := u_known (C := RX12) (T := TX12) (N := 60) (n := 60) hts0 (zwordsT (t := 12) rfl) (hts0 (.instantiable RX12 60) (List.mem_of_getElem? (i := 1052) (by decide +kernel)))
  obtain ⟨a20, k20, p20, f20, g20, h20⟩ := Cond.arrayClass_spec (show (Cond.arrayClass .int).holds args s none s [] = true from hts0 _ (List.mem_of_getElem? (i := 155) (by decide +kernel)))
  obtain ⟨a21, k21, p21, f21, g21, h21⟩ := Cond.arrayClass_spec (show (Cond.arrayClass .boolean).holds args s none s [] = true from hts0 _ (List.mem_of_getElem? (i := 1239) (by decide +kernel)))
  obtain ⟨a22, k22, p22, f22, g22, h22⟩ := Cond.arrayClass_spec (show (Cond.arrayClass .long).holds args s none s [] = true from hts0 _ (List.mem_of_getElem? (i := 1238) (by decide +kernel)))
  have o23 : (Cond.arrayOver (.object "BreadLands$Shop")).before args s = true := hts0 _ (List.mem_of_getElem? (i := 163) (by decide +kernel))
  have o24 : (Cond.arrayOver (.object "BreadLands$Month")).before args s = true := hts0 _ (List.mem_of_getElem? (i := 517) (by decide +kernel))
  have o25 : (Cond.arrayOver (.object "BreadLands$Text")).before args s = true := hts0 _ (List.mem_of_getElem? (i := 302) (by decide +kernel))
  have o26 : (Cond.arrayOver (.array .int)).before args s = true := hts0 _ (List.mem_of_getElem? (i := 131) (by decide +kernel))
  obtain ⟨p23, a23, k23, e23, -, g23, h23, f23⟩ := Cond.arrayOver_spec o23
  obtain ⟨p24, a24, k24, e24, -, g24, h24, f24⟩ := Cond.arrayOver_spec o24
  obtain ⟨p25, a25, k25, e25, -, g25, h25, f25⟩ := Cond.arrayOver_spec o25
  obtain ⟨p26, a26, k26, e26, g26, h26, f26⟩ := Cond.arrayOver_specA o26
  refine ⟨(fun k => if k = 0 then c0 else if k = 1 then c1 else if k = 2 then c2 else if k = 3 then c3 else if k = 4 then c4 else if k = 5 then c5 else if k = 6 then c6 else if k = 7 then c7 else if k = 8 then c8 else if k = 9 then c9 else if k = 10 then c10 else if k = 11 then c11 else c12, fun k => if k = 0 then iS0 else if k = 1 then iS1 else if k = 2 then iS2 else if k = 3 then iS3 else if k = 4 then iS4 else if k = 5 then iS5 else if k = 6 then iS6 else if k = 7 then iS7 else if k = 8 then iS8 else if k = 9 then iS9 else if k = 10 then iS10 else if k = 11 then iS11 else iS12), fun t => if t = 20 then a20 else if t = 21 then a21 else if t = 22 then a22 else if t = 23 then a23 else if t = 24 then a24 else if t = 25 then a25 else a26, ⟨fun k q hq => ?_, fun k q hq => ?_⟩, fun w hw => ?_, o23, o24, o25, o26⟩
  · match k, hq with
    | 0, hq => cases hq; exact hKn0
    | 1, hq => cases hq; exact hKn1
    | 2, hq => cases hq; exact hKn2
    | 3, hq => cases hq; exact hKn3
    | 4, hq => cases hq; exact hKn4
    | 5, hq => cases hq; exact hKn5
    | 6, hq => cases hq; exact hKn6
    | 7, hq => cases hq; exact hKn7
    | 8, hq => cases hq; exact hKn8
    | 9, hq => cases hq; exact hKn9
    | 10, hq => cases hq; exact hKn10
    | 11, hq => cases hq; exact hKn11
    | 12, hq => cases hq; exact hKn12
    | k + 13, hq => simp [zcl] at hq
  · match k, hq with
    | 0, hq => cases hq; exact ⟨fun n z => ⟨fun q h => (by cases h), k20, g20, p20, h20⟩, f20⟩
    | 1, hq => cases hq; exact ⟨fun n z => ⟨fun q h => (by cases h), k21, g21, p21, h21⟩, f21⟩
    | 2, hq => cases hq; exact ⟨fun n z => ⟨fun q h => (by cases h), k22, g22, p22, h22⟩, f22⟩
    | 3, hq => cases hq; exact ⟨fun n z => ⟨fun q h => (by cases h), k23, g23, p23, h23⟩, k23, p23, g23, h23, e23, f23⟩
    | 4, hq => cases hq; exact ⟨fun n z => ⟨fun q h => (by cases h), k24, g24, p24, h24⟩, k24, p24, g24, h24, e24, f24⟩
    | 5, hq => cases hq; exact ⟨fun n z => ⟨fun q h => (by cases h), k25, g25, p25, h25⟩, k25, p25, g25, h25, e25, f25⟩
    | 6, hq => cases hq; exact ⟨fun n z => ⟨fun q h => (by cases h), k26, g26, p26, h26⟩, f26⟩
    | k + 7, hq => simp [ztys] at hq
  · have h2 := (List.mem_filter.mp hw).2
    have h1 : w.before args s = true := hts0 w (List.mem_append_right _ (List.mem_filter.mp hw).1)
    cases w <;> first | (simp [zisN] at h2; done) | exact va_Nw.of rfl h1
theorem zH_E (D : va_G) (aC : Nat → ClassId) (H : Heap) : zH D aC (zE H.size) H := ⟨rfl, fun q t n h => by cases h⟩
set_option maxHeartbeats 4000000 in
set_option maxRecDepth 100000 in
/-- YOUR PART: from the entry, for every script of at most 3072 ints, the law comes to its end with true -/
theorem whole_start {p : Program} {e : Env} {s : State} {m : MethodId} {below : List Frame} {meth : Method} {c : Code} (l : Launch) {b L : Nat} {xs : Nat → Int32} (hL : L ≤ 3072) (C0 : lw_At p s m meth c b L xs) : W p l e room_1 s m #[Value.ref b] below meth c s.heap [] 0 0 (lw_Z below #[Value.ref b] s) (entryFrame m ([Value.ref b] : List Value).toArray 4) := by
  obtain ⟨hx, hb, hr, hml, hown, hts0, hXX, hbl, hlocks, hgv⟩ := id C0
  obtain ⟨D, aC, hK⟩ := zK_start hts0
  have hC : zC p m c meth s #[Value.ref b] code 4 R_law D aC := ⟨hx, hb, hml, hown, fun w hw => hts0 w (List.mem_filter.mp hw).1, hlocks, hK⟩
  have hl := lv_entry ([.ref b]) (n := 4) (Nat.le_of_ble_eq_true rfl)
  rw [lg_entry_eq]
  generalize (lg_sl ([.ref b]) ++ List.replicate (4 - (lg_sl ([.ref b])).length) Slot.unset).toArray = ls at hl ⊢
  obtain ⟨X1, eX, hM1⟩ := INV_init s.heap.size
  have hXin : ∀ r1, (some ((), X1) : Option (Unit × Hp)) = some r1 → r1 = ((), X1) := fun r1 h => (Option.some.inj h).symm
  have h0 : zI D aC (zE s.heap.size) s.heap (zE s.heap.size) s.heap [] := zI.start (zH_E D aC s.heap)
  refine law_new (t := 11) hC h0 h0 rfl (zgood_in 116 (by decide +kernel) (by decide +kernel)) (zgood_in 117 (by decide +kernel) (by decide +kernel)) (zgood_in 102 (by decide +kernel) (by decide +kernel)) (Nat.le_of_ble_eq_true rfl) (Nat.le_of_ble_eq_true rfl) dL_law_0 (fun H1 hX hD => ?_)
  refine lv_dup hx hb dL_law_3 rfl ?_
  refine law_call (law_runI (q := s.heap.size) (As := []) (rest := [.ref s.heap.size]) hC hX hl.1 (SB_init zFU s.heap.size eX) zML_9 zMi_FB_init ⟨Nat.le_of_ble_eq_true rfl, Nat.le_of_ble_eq_true rfl⟩ rfl rfl rfl (Nat.le_of_ble_eq_true rfl) ⟨Nat.le_of_ble_eq_true rfl, Nat.le_of_ble_eq_true rfl⟩ rfl dL_law_4) hX hD (fun q _ => rfl) (fun _ H2 locs2 hX2 _ _ _ => ?_)
  refine lv_astore_n (lv' := [(1, .ref s.heap.size), (0, .ref b)]) hx hb dL_law_7 rfl hl (by decide) rfl (fun ls hl => ?_)
  have hX2 : zI D aC (zE s.heap.size) s.heap X1 H2 locs2 := hX2
  have hE : zI D aC (zE s.heap.size) s.heap (zE (zn X1)) H2 locs2 := ⟨⟨hX2.1.1, fun q t n h => by cases h⟩, hX2.2.1, ⟨hX2.2.2.1.1, fun q hq => absurd rfl hq⟩, hX2.2.2.2⟩
  refine law_new (t := 12) hC hX2 hE rfl (zgood_in 1051 (by decide +kernel) (by decide +kernel)) (zgood_in 1052 (by decide +kernel) (by decide +kernel)) (zgood_in 111 (by decide +kernel) (by decide +kernel)) (Nat.le_of_ble_eq_true rfl) (Nat.le_of_ble_eq_true rfl) dL_law_8 (fun H3 hM hX3 => ?_)
  refine lv_dup hx hb dL_law_11 rfl ?_
  obtain ⟨M1, eM, hV⟩ := hM1 (zn X1) (Nat.le_refl _)
  have hap0 : zapart (znw (zE (zn X1)) 12 0) (zup X1 (zn (zE (zn X1)) + 1)) := fun q hq => by
    rw [zk_up]
    by_cases e : q = zn X1
    · cases hz : zk X1 q with
      | none => rfl
      | some z => have := hX2.1.lt hz; omega
    · rw [zk_nw, if_neg (show ¬ q = zn (zE (zn X1)) from e)] at hq
      exact absurd rfl hq
  refine law_call (law_runI (q := zn X1) (As := []) (rest := [.ref (zn X1)]) hC hM hl.1 (SM_init zFU (zn X1) eM) zML_12 zMi_FM_init ⟨Nat.le_of_ble_eq_true rfl, Nat.le_of_ble_eq_true rfl⟩ rfl rfl rfl (Nat.le_of_ble_eq_true rfl) ⟨Nat.le_of_ble_eq_true rfl, Nat.le_of_ble_eq_true rfl⟩ rfl dL_law_12) hM hX3 hap0 (fun _ H4 locs4 hM4 hX4 hap4 hzn4 => ?_)
  refine lv_astore_n (lv' := [(2, .ref (zn X1)), (1, .ref s.heap.size), (0, .ref b)]) hx hb dL_law_15 rfl hl (by decide) rfl (fun ls hl => ?_)
  refine lv_iconst (v := zi 0) hx hb dL_law_16 rfl ?_
  refine lv_istore_n (lv' := [(3, .int (zi 0)), (2, .ref (zn X1)), (1, .ref s.heap.size), (0, .ref b)]) hx hb dL_law_17 rfl hl (by decide) rfl (fun ls hl => ?_)
  have hV4 := INV_up hV (n := zn M1) (n' := zn M1) (by have : zn X1 + 1 ≤ zn M1 := hzn4; omega) (Nat.le_refl _)
  exact law_loop hL hC hr hXX hbl s.heap.size (zn X1) (L + 1) 0 _ _ H4 locs4 ls (by omega) (by omega) hV4 hX4 hM4 hap4.sy (INV_kx hV4) (INV_km hV4) (lv_sub hl [3, 2, 1, 0] rfl)
set_option maxHeartbeats 4000000 in
theorem lw_walk (l : Launch) (b : Addr) (xs : List Int32) : MetFree l x (headSpec (Jvm.Cond.code x code maxLocals ret :: tables_1) room_1) (lw_P b xs) (fun _ _ _ _ _ => True) lw_Q := by
  refine MetFree.of_bodyS (code := code) (maxLocals := maxLocals) (ret := ret) (by decide) ?_ ?_
  · intro args s m h hn
    obtain ⟨meth, c, h1, h2, h3, h4, h5, h6, -, -⟩ := Cond.code_spec hn (atoms_spec (ws := Jvm.Cond.code x code maxLocals ret :: tables_1) h _ List.mem_cons_self)
    exact ⟨meth, c, h1, h2, h3, h4, h5, h6⟩
  · intro p e s m args below meth c s₁ B hml0 hP _
    obtain ⟨rfl, hx, hbd, hgv⟩ := hP
    obtain ⟨scr, harrAt, hlist, hof, hsmall⟩ := hx
    obtain ⟨hcb, hkn, -, -⟩ := State.arrayAt?_spec harrAt
    have hown : s.vm.findClass R_law = some m.cls := findClass_of_methodNamed B.named
    have hts0 : ∀ c ∈ (Jvm.Cond.code x code maxLocals ret :: tables_1), c.before #[Value.ref b] s = true := atoms_spec (ws := Jvm.Cond.code x code maxLocals ret :: tables_1) B.pre
    have hts : ∀ w ∈ lw_tbl, w.before #[Value.ref b] s = true := k2_hts_sels lw_privs (fun w hw => hts0 w (List.mem_cons_of_mem _ hw)) lw_privs_ok
    have hml : c.maxLocals = 4 := B.maxLocals_eq (hts0 _ List.mem_cons_self)
    have X₀ : Stand p l e room_1 s m #[Value.ref b] below meth c s₁ [] 0 0 := Stand.of_body B
    have hh0 : s₁.heap = s.heap := by rw [B.state]; rfl
    have hsz : scr.slots.size = xs.length := by rw [← Array.length_toList, hlist, List.length_map]
    have hval : ∀ j : Nat, j < xs.length → scr.slots[j]? = some (.int (xs.getD j 0)) := fun j hj => by
      rw [← Array.getElem?_toList, hlist]
      simp [hj]
    have hbl : b < s.heap.size := (Array.getElem?_eq_some_iff.mp hcb).1
    have hX : va_X b xs.length (fun j => xs.getD j 0) s s.heap := ⟨scr, hcb, hof, hkn, hsz, hval⟩
    have K : W p l e room_1 s m #[Value.ref b] below meth c s₁.heap [] 0 0 (lw_Z below #[Value.ref b] s) (entryFrame m ([Value.ref b] : List Value).toArray 4) := by
      rw [hh0]
      exact whole_start l hbd ⟨B.exec, B.bytes, B.returns, hml, hown, hts, hX, hbl, B.notSynchronized, hgv⟩
    obtain ⟨t, a1, o, b1, b2, b3⟩ := K s₁ rfl X₀
    exact ⟨t, o, a1, b1, b2, b3⟩
theorem lw_pre_spec {args : Array Value} {s : State} (h : (Jvm.Cond.and given_1 narrow_1).before args s = true) (hr : rest_1_c.before args s = true) : ∃ (b : Addr) (xs : List Int32), lw_P b xs args s := by
  have hs := flat_of_before _ h
  have hq := flat_of_before _ hr
  have hc : (Cond.count 1).before args s = true := hs _ (by decide +kernel)
  have harr : (Cond.arrayOf (.arg 0) .int).before args s = true := hs _ (by decide +kernel)
  have hle : (Cond.le (.length (.arg 0)) (.int 3072)).before args s = true := hs _ (by decide +kernel)
  have hlen : (Cond.isInt (.length (.arg 0))).before args s = true := hq _ (by decide +kernel)
  have hall : (Cond.all (.arg 0) (.isInt (.elem (.arg 0) (.index 0)))).before args s = true := hq _ (by decide +kernel)
  obtain ⟨b, xs, hb, hx⟩ := State.ints_of_pre rfl harr hlen hall
  have hsm : xs.length < 2 ^ 31 := hx.choose_spec.2.2.2
  have hev : (Term.length (.arg 0)).eval args s none [] s = some (.int xs.length.toInt32) := hx.length_eval hb
  have hv := Cond.le_ints hev (show (Term.int 3072).eval args s none [] s = some (.int 3072) from rfl)
  have hd : xs.length.toInt32 ≤ 3072 := by
    simpa [Cond.before, Cond.holds, hv] using hle
  have hN : xs.length ≤ 3072 := (Int32.ofNat_le_ofNat hsm (by decide)).mp (show Int32.ofNat xs.length ≤ Int32.ofNat 3072 from hd)
  exact ⟨b, xs, Cond.one_arg hc (show args[0]? = some (.ref b) from hb), hx, hN, h⟩
theorem lw_comes (l : Launch) : Comes l x (Jvm.Cond.code x code maxLocals ret :: tables_1) room_1 (fun tb e args s => Calls_1 tb e args s ∧ rest_1 tb e args s ∧ Pre_1 tb e args s)
    (fun _ _ args s o t => lw_Q args s o t) := by
  intro p e ha hc hk s m args below hf hfit hheap happ hpre
  obtain ⟨b, xs, hP⟩ := lw_pre_spec hpre.2.2 hpre.2.1
  obtain ⟨k, o, h1, h2, h3, hQ⟩ := lw_walk l b xs p e ha hc hk s m args below hf ((Spec.applies_iff_loose hf).mp happ).1 hP trivial
  exact ⟨k, o, h1, h2, h3, hQ⟩
theorem lw_frame {s t : State} {o : Outcome} {args : Array Value} (h : Framed s o t [] 600000 7302250) :
    Framed s o t (fieldLocs frame_1_writes args s ++ arrayLocs frame_1_arrays args s ++ staticLocs frame_1_statics s) 600000 7302250 := h
theorem lw_limb (L : Cond) (hL : ∀ (args : Array Value) (s t : State), L.after args s (.returned (some (.int 1))) t = true) :
    ArmFor flags0 classFile x code maxLocals ret World_1 tables_1 room_1 Calls_1 rest_1 Pre_1
      (fun tb e a s o t => postC L tb e a s o t ∧ Framed s o t (fieldLocs frame_1_writes a s ++ arrayLocs frame_1_arrays a s ++ staticLocs frame_1_statics s) 600000 7302250) := by
  intro l _ _ _ p e ha hc hk s m args below hf hfit hheap happ hpre
  obtain ⟨k, o, h1, h2, h3, rfl, hF⟩ := lw_comes l p e ha hc hk s m args below hf hfit hheap happ hpre
  exact ⟨k, _, h1, h2, h3, hL args s _, lw_frame hF⟩
theorem i_vc : Claimed_1_1 ∧ Claimed_1_2 := ⟨lw_limb limb_1_1 (fun args s t => by simp [limb_1_1, Cond.after, Cond.holds, Cond.value]), lw_limb limb_1_2 (fun args s t => Cond.after_iff.mpr (by
  first | (rw [show limb_1_2 = Cond.eq .result (.int 1) from rfl, Cond.eq_ints (x := 1) (y := 1) rfl rfl]; simp; done) | (simp [limb_1_2, Cond.value, Term.eval]; done)))⟩
