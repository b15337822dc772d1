set_option maxRecDepth 100000 in
theorem SChain_init {l : Launch} {D : va_G} {aC : Nat → ClassId} (FU : Nat) (this : Nat) (p1 : Nat) {G : Hp} {r1 : (Unit × Hp)} (h1 : FChain_init FU this p1 G = some r1) : Met l yX0_init (Cond.code yX0_init cX0_init 2 none :: zgood) ({ frames := 1, cells := 1, slots := 40, locals := 24 } : Room) (va_Pc [.ref this, .ref p1] (zU D aC G)) (zQ D aC G (True) (none) r1.2) 1 40 (zA G) := by
  refine z_met (y := yX0_init) (b := cX0_init) (maxL := 2) (mc := 1) (ms := 40) (ret := none) (As := [.ref this, .ref p1]) (Q1 := fun r1 => zQ D aC G (True) (none) r1.2) (X := FChain_init FU this p1 G) (by decide) (Nat.le_of_ble_eq_true rfl) ?_ h1
  intro p e s m below meth c hC hr hi
  have hC : zC p m c meth s ([.ref this, .ref p1] : List Value).toArray cX0_init 2 RX0 D aC := hC
  generalize ([.ref this, .ref p1] : List Value).toArray = args at hC ⊢
  show zS p l e ({ frames := 1, cells := 1, slots := 40, locals := 24 } : Room) s m args below meth c D aC G (zfV D aC G below args s 1 40) 2 0 0 (FChain_init FU this p1 G) G 0 [(0, .ref this), (1, .ref p1)] []
  unfold FChain_init
  refine z_aload_n hC 0 rfl dX0_init_0 rfl ?_
  refine z_objInit hC zO0_3 ⟨by decide, by decide⟩ ⟨by decide, by decide⟩ dX0_init_1 ?_
  refine z_aload_n hC 0 rfl dX0_init_4 rfl ?_
  refine z_bipush hC dX0_init_5 rfl ?_
  refine z_anew23 hC 40 rfl (by decide) (zgood_in 162 (by decide +kernel) (by decide +kernel)) (by decide) (by decide) dX0_init_7 (fun a1 G2 => ?_)
  refine z_widen (k := 1) (n := 40) (by decide) (by decide) ?_
  refine z_putFR hC (t := 0) (k := 1) rfl (by decide) rfl (zgood_in 165 (by decide +kernel) (by decide +kernel)) rfl rfl hi rfl dX0_init_10 (fun G3 => ?_)
  refine z_aload_n hC 0 rfl dX0_init_13 rfl ?_
  refine z_aload_n hC 1 rfl dX0_init_14 rfl ?_
  refine z_putFR hC (t := 0) (k := 0) rfl (by decide) rfl (zgood_in 164 (by decide +kernel) (by decide +kernel)) rfl rfl hi rfl dX0_init_15 (fun G4 => ?_)
  exact z_vret hC hr dX0_init_18

set_option maxRecDepth 100000 in
theorem SChain_shopAt {l : Launch} {D : va_G} {aC : Nat → ClassId} (FU : Nat) (this : Nat) (p1 : Int) (hp1 : zInI p1) {G : Hp} {r1 : (Option Nat)} (h1 : FChain_shopAt FU this p1 G = some r1) : Met l yX0_shopAt (Cond.code yX0_shopAt cX0_shopAt 2 (some (.object "BreadLands$Shop")) :: zgood) ({ frames := 1, cells := 0, slots := 0, locals := 24 } : Room) (va_Pc [.ref this, .int (zi p1)] (zU D aC G)) (zQ D aC G (True) (some (va_rf r1)) G) 0 0 (zA G) := by
  refine z_met (y := yX0_shopAt) (b := cX0_shopAt) (maxL := 2) (mc := 0) (ms := 0) (ret := (some (.object "BreadLands$Shop"))) (As := [.ref this, .int (zi p1)]) (Q1 := fun r1 => zQ D aC G (True) (some (va_rf r1)) G) (X := FChain_shopAt FU this p1 G) (by decide) (Nat.le_of_ble_eq_true rfl) ?_ h1
  intro p e s m below meth c hC hr hi
  have hC : zC p m c meth s ([.ref this, .int (zi p1)] : List Value).toArray cX0_shopAt 2 RX0 D aC := hC
  generalize ([.ref this, .int (zi p1)] : List Value).toArray = args at hC ⊢
  show zS p l e ({ frames := 1, cells := 0, slots := 0, locals := 24 } : Room) s m args below meth c D aC G (fun r1 => zfA D aC G below args s 0 0 (r1, G)) 2 0 0 (FChain_shopAt FU this p1 G) G 0 [(0, .ref this), (1, .int (zi p1))] []
  unfold FChain_shopAt
  refine z_gd ?_
  unfold FChain_shopAt_b
  refine z_iload_n hC 1 rfl dX0_shopAt_0 rfl ?_
  refine z_if_lt (tgt := 30) hC hp1 dX0_shopAt_1 (by decide) (fun _ => ?_) (fun _ => ?_)
  · refine z_null hC dX0_shopAt_30 ?_
    exact z_aretp (v := none) hC hr ⟨_, rfl⟩ dX0_shopAt_31
  · refine z_iload_n hC 1 rfl dX0_shopAt_4 rfl ?_
    refine z_aload_n hC 0 rfl dX0_shopAt_5 rfl ?_
    refine z_getI hC zF0_21 rfl dX0_shopAt_6 (fun v1 hv1 => ?_)
    refine z_icmp_ge (tgt := 30) hC hp1 hv1 dX0_shopAt_9 (by decide) (fun _ => ?_) (fun _ => ?_)
    · refine z_iload_n hC 1 rfl dX0_shopAt_12 rfl ?_
      refine z_aload_n hC 0 rfl dX0_shopAt_13 rfl ?_
      refine z_getQ hC zF0_11 rfl dX0_shopAt_14 (fun v2 => ?_)
      refine z_alen23 hC dX0_shopAt_17 (fun v3 hv3 => ?_)
      refine z_icmp_ge (tgt := 30) hC hp1 hv3 dX0_shopAt_18 (by decide) (fun _ => ?_) (fun _ => ?_)
      · refine z_aload_n hC 0 rfl dX0_shopAt_21 rfl ?_
        refine z_getQ hC zF0_11 rfl dX0_shopAt_22 (fun v4 => ?_)
        refine z_iload_n hC 1 rfl dX0_shopAt_25 rfl ?_
        refine z_aald23 hC hp1 dX0_shopAt_26 (fun v5 => ?_)
        refine z_goto (tgt := 31) hC dX0_shopAt_27 (by decide) ?_
        exact z_aretp (v := v5) hC hr ⟨_, rfl⟩ dX0_shopAt_31
      · refine z_null hC dX0_shopAt_30 ?_
        exact z_aretp (v := none) hC hr ⟨_, rfl⟩ dX0_shopAt_31
    · refine z_null hC dX0_shopAt_30 ?_
      exact z_aretp (v := none) hC hr ⟨_, rfl⟩ dX0_shopAt_31
theorem SChain_shopAt_k {FU : Nat} {this : Nat} {p1 : Int} {G : Hp} {r1 : (Option Nat)} (h1 : FChain_shopAt FU this p1 G = some r1) : zk G this = some (0, 0) := zgd_k (k := FChain_shopAt_b FU this p1 G) h1

set_option maxRecDepth 100000 in
theorem SChain_addShop {l : Launch} {D : va_G} {aC : Nat → ClassId} (FU : Nat) (this : Nat) (p1 : Nat) {G : Hp} {r1 : (Int × Hp)} (h1 : FChain_addShop FU this p1 G = some r1) : Met l yX0_addShop (Cond.code yX0_addShop cX0_addShop 2 (some .int) :: zgood) ({ frames := 1, cells := 0, slots := 0, locals := 24 } : Room) (va_Pc [.ref this, .ref p1] (zU D aC G)) (zQ D aC G (zInI r1.1) (some (.int (zi r1.1))) r1.2) 0 0 (zA G) := by
  refine z_met (y := yX0_addShop) (b := cX0_addShop) (maxL := 2) (mc := 0) (ms := 0) (ret := (some .int)) (As := [.ref this, .ref p1]) (Q1 := fun r1 => zQ D aC G (zInI r1.1) (some (.int (zi r1.1))) r1.2) (X := FChain_addShop FU this p1 G) (by decide) (Nat.le_of_ble_eq_true rfl) ?_ h1
  intro p e s m below meth c hC hr hi
  have hC : zC p m c meth s ([.ref this, .ref p1] : List Value).toArray cX0_addShop 2 RX0 D aC := hC
  generalize ([.ref this, .ref p1] : List Value).toArray = args at hC ⊢
  show zS p l e ({ frames := 1, cells := 0, slots := 0, locals := 24 } : Room) s m args below meth c D aC G (zfI D aC G below args s 0 0) 2 0 0 (FChain_addShop FU this p1 G) G 0 [(0, .ref this), (1, .ref p1)] []
  unfold FChain_addShop
  refine z_gd ?_
  unfold FChain_addShop_b
  refine z_aload_n hC 0 rfl dX0_addShop_0 rfl ?_
  refine z_getI hC zF0_21 rfl dX0_addShop_1 (fun v1 hv1 => ?_)
  refine z_if_lt (tgt := 19) hC hv1 dX0_addShop_4 (by decide) (fun _ => ?_) (fun _ => ?_)
  · refine z_bipush hC dX0_addShop_19 rfl ?_
    exact z_iret hC (by decide) hr dX0_addShop_21
  · refine z_aload_n hC 0 rfl dX0_addShop_7 rfl ?_
    refine z_getI hC zF0_21 rfl dX0_addShop_8 (fun v2 hv2 => ?_)
    refine z_aload_n hC 0 rfl dX0_addShop_11 rfl ?_
    refine z_getQ hC zF0_11 rfl dX0_addShop_12 (fun v3 => ?_)
    refine z_alen23 hC dX0_addShop_15 (fun v4 hv4 => ?_)
    refine z_icmp_lt (tgt := 22) hC hv2 hv4 dX0_addShop_16 (by decide) (fun _ => ?_) (fun _ => ?_)
    · refine z_aload_n hC 0 rfl dX0_addShop_22 rfl ?_
      refine z_getQ hC zF0_11 rfl dX0_addShop_23 (fun v5 => ?_)
      refine z_aload_n hC 0 rfl dX0_addShop_26 rfl ?_
      refine z_getI hC zF0_21 rfl dX0_addShop_27 (fun v6 hv6 => ?_)
      refine z_aload_n hC 1 rfl dX0_addShop_30 rfl ?_
      refine z_aast23 hC hv6 dX0_addShop_31 (fun G7 => ?_)
      refine z_aload_n hC 0 rfl dX0_addShop_32 rfl ?_
      refine z_dup hC rfl dX0_addShop_33 ?_
      refine z_getI hC zF0_21 rfl dX0_addShop_34 (fun v8 hv8 => ?_)
      refine z_iconst hC dX0_addShop_37 ?_
      refine z_iadd hC dX0_addShop_38 (fun v9 hv9 => ?_)
      refine z_putI hC hv9 zF0_21 rfl rfl dX0_addShop_39 (fun G10 => ?_)
      refine z_aload_n hC 0 rfl dX0_addShop_42 rfl ?_
      refine z_getI hC zF0_21 rfl dX0_addShop_43 (fun v11 hv11 => ?_)
      refine z_iconst hC dX0_addShop_46 ?_
      refine z_isub hC dX0_addShop_47 (fun v12 hv12 => ?_)
      exact z_iret hC hv12 hr dX0_addShop_48
    · refine z_bipush hC dX0_addShop_19 rfl ?_
      exact z_iret hC (by decide) hr dX0_addShop_21
theorem SChain_addShop_k {FU : Nat} {this : Nat} {p1 : Nat} {G : Hp} {r1 : (Int × Hp)} (h1 : FChain_addShop FU this p1 G = some r1) : zk G this = some (0, 0) := zgd_k (k := FChain_addShop_b FU this p1 G) h1

set_option maxRecDepth 100000 in
theorem SShop_isOpen {l : Launch} {D : va_G} {aC : Nat → ClassId} (FU : Nat) (this : Nat) {G : Hp} {r1 : Int} (h1 : FShop_isOpen FU this G = some r1) : Met l yX7_isOpen (Cond.code yX7_isOpen cX7_isOpen 1 (some .boolean) :: zgood) ({ frames := 1, cells := 0, slots := 0, locals := 24 } : Room) (va_Pc [.ref this] (zU D aC G)) (zQ D aC G (zIn01 r1) (some (.int (zi r1))) G) 0 0 (zA G) := by
  refine z_met (y := yX7_isOpen) (b := cX7_isOpen) (maxL := 1) (mc := 0) (ms := 0) (ret := (some .boolean)) (As := [.ref this]) (Q1 := fun r1 => zQ D aC G (zIn01 r1) (some (.int (zi r1))) G) (X := FShop_isOpen FU this G) (by decide) (Nat.le_of_ble_eq_true rfl) ?_ h1
  intro p e s m below meth c hC hr hi
  have hC : zC p m c meth s ([.ref this] : List Value).toArray cX7_isOpen 1 RX7 D aC := hC
  generalize ([.ref this] : List Value).toArray = args at hC ⊢
  show zS p l e ({ frames := 1, cells := 0, slots := 0, locals := 24 } : Room) s m args below meth c D aC G (fun r1 => zfZ D aC G below args s 0 0 (r1, G)) 1 0 0 (FShop_isOpen FU this G) G 0 [(0, .ref this)] []
  unfold FShop_isOpen
  refine z_gd ?_
  unfold FShop_isOpen_b
  refine z_aload_n hC 0 rfl dX7_isOpen_0 rfl ?_
  refine z_getI hC zF7_17 rfl dX7_isOpen_1 (fun v1 hv1 => ?_)
  refine z_iconst hC dX7_isOpen_4 ?_
  refine z_icmp_ne (tgt := 12) hC hv1 (by decide) dX7_isOpen_5 (by decide) (fun _ => ?_) (fun _ => ?_)
  · refine z_iconst hC dX7_isOpen_8 ?_
    refine z_goto (tgt := 13) hC dX7_isOpen_9 (by decide) ?_
    exact z_zretp hC hr dX7_isOpen_13
  · refine z_iconst hC dX7_isOpen_12 ?_
    exact z_zretp hC hr dX7_isOpen_13
theorem SShop_isOpen_k {FU : Nat} {this : Nat} {G : Hp} {r1 : Int} (h1 : FShop_isOpen FU this G = some r1) : zk G this = some (7, 0) := zgd_k (k := FShop_isOpen_b FU this G) h1

set_option maxRecDepth 100000 in
theorem SChain_isTaken_L2 {p : Program} {l : Launch} {e : Env} {s : State} {m : MethodId} {args : Array Value} {below : List Frame} {meth : Method} {c : Code} {D : va_G} {aC : Nat → ClassId} {G0 : Hp} (hC : zC p m c meth s args cX0_isTaken 4 RX0 D aC) (hr : meth.sig.returnType = (some .boolean)) (FU : Nat) : ∀ (n : Nat) (x0 : Nat) (x1 : Int) (x2 : Int) (hx1 : zInI x1) (hx2 : zInI x2), zS p l e ({ frames := 2, cells := 0, slots := 0, locals := 45 } : Room) s m args below meth c D aC G0 (fun r1 => zfZ D aC G0 below args s 0 0 (r1, G0)) 4 0 0 (FChain_isTaken_L2 FU n x0 x1 x2 G0) G0 2 [(0, .ref x0), (1, .int (zi x1)), (2, .int (zi x2))] [] := by
  intro n
  induction n with
  | zero => intros; exact z_none
  | succ n ih =>
    intro x0 x1 x2 hx1 hx2
    rw [FChain_isTaken_L2]
    refine z_iload_n hC 2 rfl dX0_isTaken_2 rfl ?_
    refine z_aload_n hC 0 rfl dX0_isTaken_3 rfl ?_
    refine z_getI hC zF0_21 rfl dX0_isTaken_4 (fun v1 hv1 => ?_)
    refine z_icmp_ge (tgt := 43) hC hx2 hv1 dX0_isTaken_7 (by decide) (fun _ => ?_) (fun _ => ?_)
    · refine z_aload_n hC 0 rfl dX0_isTaken_10 rfl ?_
      refine z_iload_n hC 2 rfl dX0_isTaken_11 rfl ?_
      refine z_cAp (z_rV (q := x0) (t := 0) (As := [.int (zi x2)]) hC (fun _ h1 => SChain_shopAt FU x0 x2 hx2 h1) (fun _ h1 => SChain_shopAt_k h1) rfl rfl zM0_25 zMv_FChain_shopAt ⟨by decide, by decide⟩ rfl rfl rfl (rest := []) (Nat.le_of_ble_eq_true rfl) ⟨Nat.le_of_ble_eq_true rfl, Nat.le_of_ble_eq_true rfl⟩ rfl dX0_isTaken_12) (fun v2 => ?_)
      refine z_qstore_n (lo' := [(3, va_rf v2), (0, .ref x0), (1, .int (zi x1)), (2, .int (zi x2))]) hC dX0_isTaken_15 rfl (by decide) rfl ?_
      refine z_qload_n hC 0 rfl dX0_isTaken_16 rfl ?_
      refine z_ifnull (tgt := 37) hC dX0_isTaken_17 (by decide) (fun h0 => ?_) (fun a3 h0 => ?_)
      · subst h0
        refine z_iinc (lo' := fun v4 => [(2, .int (zi v4)), (3, .null), (0, .ref x0), (1, .int (zi x1))]) hC 3 dX0_isTaken_37 rfl (by decide) (fun _ => rfl) (fun v4 hv4 => ?_)
        refine z_goto (tgt := 2) hC dX0_isTaken_40 (by decide) ?_
        refine z_sub hC [2, 3, 0] (lo' := [(0, .ref x0), (1, .int (zi x1)), (2, .int (zi v4))]) rfl ?_
        exact ih x0 x1 v4 hx1 hv4
      · subst h0
        refine z_aload_n hC 0 rfl dX0_isTaken_20 rfl ?_
        refine z_cZp (z_rV (q := a3) (t := 7) (As := []) hC (fun _ h1 => SShop_isOpen FU a3 h1) (fun _ h1 => SShop_isOpen_k h1) rfl rfl zM0_29 zMv_FShop_isOpen ⟨by decide, by decide⟩ rfl rfl rfl (rest := []) (Nat.le_of_ble_eq_true rfl) ⟨Nat.le_of_ble_eq_true rfl, Nat.le_of_ble_eq_true rfl⟩ rfl dX0_isTaken_21) (fun v5 hv5 => ?_)
        refine z_if_eq (tgt := 37) hC (hv5).i dX0_isTaken_24 (by decide) (fun _ => ?_) (fun _ => ?_)
        · refine z_iinc (lo' := fun v6 => [(2, .int (zi v6)), (3, .ref a3), (0, .ref x0), (1, .int (zi x1))]) hC 3 dX0_isTaken_37 rfl (by decide) (fun _ => rfl) (fun v6 hv6 => ?_)
          refine z_goto (tgt := 2) hC dX0_isTaken_40 (by decide) ?_
          refine z_sub hC [2, 3, 0] (lo' := [(0, .ref x0), (1, .int (zi x1)), (2, .int (zi v6))]) rfl ?_
          exact ih x0 x1 v6 hx1 hv6
        · refine z_aload_n hC 0 rfl dX0_isTaken_27 rfl ?_
          refine z_getI hC zF0_33 rfl dX0_isTaken_28 (fun v7 hv7 => ?_)
          refine z_iload_n hC 2 rfl dX0_isTaken_31 rfl ?_
          refine z_icmp_ne (tgt := 37) hC hv7 hx1 dX0_isTaken_32 (by decide) (fun _ => ?_) (fun _ => ?_)
          · refine z_iconst hC dX0_isTaken_35 ?_
            exact z_zretp hC hr dX0_isTaken_36
          · refine z_iinc (lo' := fun v8 => [(2, .int (zi v8)), (3, .ref a3), (0, .ref x0), (1, .int (zi x1))]) hC 3 dX0_isTaken_37 rfl (by decide) (fun _ => rfl) (fun v8 hv8 => ?_)
            refine z_goto (tgt := 2) hC dX0_isTaken_40 (by decide) ?_
            refine z_sub hC [2, 3, 0] (lo' := [(0, .ref x0), (1, .int (zi x1)), (2, .int (zi v8))]) rfl ?_
            exact ih x0 x1 v8 hx1 hv8
    · refine z_iconst hC dX0_isTaken_43 ?_
      exact z_zretp hC hr dX0_isTaken_44
set_option maxRecDepth 100000 in
theorem SChain_isTaken {l : Launch} {D : va_G} {aC : Nat → ClassId} (FU : Nat) (this : Nat) (p1 : Int) (hp1 : zInI p1) {G : Hp} {r1 : Int} (h1 : FChain_isTaken FU this p1 G = some r1) : Met l yX0_isTaken (Cond.code yX0_isTaken cX0_isTaken 4 (some .boolean) :: zgood) ({ frames := 2, cells := 0, slots := 0, locals := 45 } : Room) (va_Pc [.ref this, .int (zi p1)] (zU D aC G)) (zQ D aC G (zIn01 r1) (some (.int (zi r1))) G) 0 0 (zA G) := by
  refine z_met (y := yX0_isTaken) (b := cX0_isTaken) (maxL := 4) (mc := 0) (ms := 0) (ret := (some .boolean)) (As := [.ref this, .int (zi p1)]) (Q1 := fun r1 => zQ D aC G (zIn01 r1) (some (.int (zi r1))) G) (X := FChain_isTaken FU this p1 G) (by decide) (Nat.le_of_ble_eq_true rfl) ?_ h1
  intro p e s m below meth c hC hr hi
  have hC : zC p m c meth s ([.ref this, .int (zi p1)] : List Value).toArray cX0_isTaken 4 RX0 D aC := hC
  generalize ([.ref this, .int (zi p1)] : List Value).toArray = args at hC ⊢
  show zS p l e ({ frames := 2, cells := 0, slots := 0, locals := 45 } : Room) s m args below meth c D aC G (fun r1 => zfZ D aC G below args s 0 0 (r1, G)) 4 0 0 (FChain_isTaken FU this p1 G) G 0 [(0, .ref this), (1, .int (zi p1))] []
  unfold FChain_isTaken
  refine z_gd ?_
  unfold FChain_isTaken_b
  refine z_iconst hC dX0_isTaken_0 ?_
  refine z_istore_n (lo' := [(2, .int (zi (0))), (0, .ref this), (1, .int (zi p1))]) hC dX0_isTaken_1 rfl (by decide) rfl ?_
  refine z_sub hC [1, 2, 0] (lo' := [(0, .ref this), (1, .int (zi p1)), (2, .int (zi (0)))]) rfl ?_
  exact SChain_isTaken_L2 hC hr FU FU this p1 (0) hp1 (by decide)
theorem SChain_isTaken_k {FU : Nat} {this : Nat} {p1 : Int} {G : Hp} {r1 : Int} (h1 : FChain_isTaken FU this p1 G = some r1) : zk G this = some (0, 0) := zgd_k (k := FChain_isTaken_b FU this p1 G) h1

set_option maxRecDepth 100000 in
theorem STown_cell {l : Launch} {D : va_G} {aC : Nat → ClassId} (FU : Nat) (p1 : Nat) (p2 : Int) (p3 : Int) (hp2 : zInI p2) (hp3 : zInI p3) {G : Hp} {r1 : Int} (h1 : FTown_cell FU p1 p2 p3 G = some r1) : Met l yX10_cell (Cond.code yX10_cell cX10_cell 4 (some .int) :: zgood) ({ frames := 1, cells := 0, slots := 0, locals := 24 } : Room) (va_Pc [.ref p1, .int (zi p2), .int (zi p3)] (zU D aC G)) (zQ D aC G (zInI r1) (some (.int (zi r1))) G) 0 0 (zA G) := by
  refine z_met (y := yX10_cell) (b := cX10_cell) (maxL := 4) (mc := 0) (ms := 0) (ret := (some .int)) (As := [.ref p1, .int (zi p2), .int (zi p3)]) (Q1 := fun r1 => zQ D aC G (zInI r1) (some (.int (zi r1))) G) (X := FTown_cell FU p1 p2 p3 G) (by decide) (Nat.le_of_ble_eq_true rfl) ?_ h1
  intro p e s m below meth c hC hr hi
  have hC : zC p m c meth s ([.ref p1, .int (zi p2), .int (zi p3)] : List Value).toArray cX10_cell 4 RX10 D aC := hC
  generalize ([.ref p1, .int (zi p2), .int (zi p3)] : List Value).toArray = args at hC ⊢
  show zS p l e ({ frames := 1, cells := 0, slots := 0, locals := 24 } : Room) s m args below meth c D aC G (fun r1 => zfI D aC G below args s 0 0 (r1, G)) 4 0 0 (FTown_cell FU p1 p2 p3 G) G 0 [(0, .ref p1), (1, .int (zi p2)), (2, .int (zi p3))] []
  unfold FTown_cell
  refine z_iload_n hC 1 rfl dX10_cell_0 rfl ?_
  refine z_if_lt (tgt := 10) hC hp2 dX10_cell_1 (by decide) (fun _ => ?_) (fun _ => ?_)
  · refine z_iconst hC dX10_cell_10 ?_
    exact z_iretp hC (by decide) hr dX10_cell_11
  · refine z_iload_n hC 1 rfl dX10_cell_4 rfl ?_
    refine z_aload_n hC 0 rfl dX10_cell_5 rfl ?_
    refine z_alen26 hC dX10_cell_6 (fun v1 hv1 => ?_)
    refine z_icmp_lt (tgt := 12) hC hp2 hv1 dX10_cell_7 (by decide) (fun _ => ?_) (fun _ => ?_)
    · refine z_aload_n hC 0 rfl dX10_cell_12 rfl ?_
      refine z_iload_n hC 1 rfl dX10_cell_13 rfl ?_
      refine z_aald26 hC hp2 dX10_cell_14 (fun v2 => ?_)
      refine z_astore_n (lo' := [(3, .ref v2), (0, .ref p1), (1, .int (zi p2)), (2, .int (zi p3))]) hC dX10_cell_15 rfl (by decide) rfl ?_
      refine z_iload_n hC 3 rfl dX10_cell_16 rfl ?_
      refine z_if_lt (tgt := 32) hC hp3 dX10_cell_17 (by decide) (fun _ => ?_) (fun _ => ?_)
      · refine z_iconst hC dX10_cell_32 ?_
        exact z_iretp hC (by decide) hr dX10_cell_33
      · refine z_iload_n hC 3 rfl dX10_cell_20 rfl ?_
        refine z_aload_n hC 0 rfl dX10_cell_21 rfl ?_
        refine z_alen20 hC dX10_cell_22 (fun v3 hv3 => ?_)
        refine z_icmp_ge (tgt := 32) hC hp3 hv3 dX10_cell_23 (by decide) (fun _ => ?_) (fun _ => ?_)
        · refine z_aload_n hC 0 rfl dX10_cell_26 rfl ?_
          refine z_iload_n hC 3 rfl dX10_cell_27 rfl ?_
          refine z_iald hC hp3 dX10_cell_28 (fun v4 hv4 => ?_)
          refine z_goto (tgt := 33) hC dX10_cell_29 (by decide) ?_
          exact z_iretp hC hv4 hr dX10_cell_33
        · refine z_iconst hC dX10_cell_32 ?_
          exact z_iretp hC (by decide) hr dX10_cell_33
    · refine z_iconst hC dX10_cell_10 ?_
      exact z_iretp hC (by decide) hr dX10_cell_11

set_option maxRecDepth 100000 in
theorem STown_wayBetween {l : Launch} {D : va_G} {aC : Nat → ClassId} (FU : Nat) (this : Nat) (p1 : Int) (p2 : Int) (hp1 : zInI p1) (hp2 : zInI p2) {G : Hp} {r1 : Int} (h1 : FTown_wayBetween FU this p1 p2 G = some r1) : Met l yX10_wayBetween (Cond.code yX10_wayBetween cX10_wayBetween 3 (some .int) :: zgood) ({ frames := 2, cells := 0, slots := 0, locals := 47 } : Room) (va_Pc [.ref this, .int (zi p1), .int (zi p2)] (zU D aC G)) (zQ D aC G (zInI r1) (some (.int (zi r1))) G) 0 0 (zA G) := by
  refine z_met (y := yX10_wayBetween) (b := cX10_wayBetween) (maxL := 3) (mc := 0) (ms := 0) (ret := (some .int)) (As := [.ref this, .int (zi p1), .int (zi p2)]) (Q1 := fun r1 => zQ D aC G (zInI r1) (some (.int (zi r1))) G) (X := FTown_wayBetween FU this p1 p2 G) (by decide) (Nat.le_of_ble_eq_true rfl) ?_ h1
  intro p e s m below meth c hC hr hi
  have hC : zC p m c meth s ([.ref this, .int (zi p1), .int (zi p2)] : List Value).toArray cX10_wayBetween 3 RX10 D aC := hC
  generalize ([.ref this, .int (zi p1), .int (zi p2)] : List Value).toArray = args at hC ⊢
  show zS p l e ({ frames := 2, cells := 0, slots := 0, locals := 47 } : Room) s m args below meth c D aC G (fun r1 => zfI D aC G below args s 0 0 (r1, G)) 3 0 0 (FTown_wayBetween FU this p1 p2 G) G 0 [(0, .ref this), (1, .int (zi p1)), (2, .int (zi p2))] []
  unfold FTown_wayBetween
  refine z_gd ?_
  unfold FTown_wayBetween_b
  refine z_aload_n hC 0 rfl dX10_wayBetween_0 rfl ?_
  refine z_getQ hC zF10_20 rfl dX10_wayBetween_1 (fun v1 => ?_)
  refine z_iload_n hC 1 rfl dX10_wayBetween_4 rfl ?_
  refine z_iload_n hC 2 rfl dX10_wayBetween_5 rfl ?_
  refine z_cIp (z_rS (As := [.ref v1, .int (zi p1), .int (zi p2)]) hC (fun _ h1 => STown_cell FU v1 p1 p2 hp1 hp2 h1) zM10_38 zMs_FTown_cell ⟨by decide, by decide⟩ rfl rfl rfl (rest := []) (Nat.le_of_ble_eq_true rfl) ⟨Nat.le_of_ble_eq_true rfl, Nat.le_of_ble_eq_true rfl⟩ rfl dX10_wayBetween_6) (fun v2 hv2 => ?_)
  exact z_iretp hC hv2 hr dX10_wayBetween_9
theorem STown_wayBetween_k {FU : Nat} {this : Nat} {p1 : Int} {p2 : Int} {G : Hp} {r1 : Int} (h1 : FTown_wayBetween FU this p1 p2 G = some r1) : zk G this = some (10, 0) := zgd_k (k := FTown_wayBetween_b FU this p1 p2 G) h1

set_option maxRecDepth 100000 in
theorem SChain_landHolder_B92 {p : Program} {l : Launch} {e : Env} {s : State} {m : MethodId} {args : Array Value} {below : List Frame} {meth : Method} {c : Code} {D : va_G} {aC : Nat → ClassId} {G0 : Hp} (hC : zC p m c meth s args cX0_landHolder 7 RX0 D aC) (hr : meth.sig.returnType = (some .int)) (FU : Nat) (kL7 : Nat → Int → Int → Int → Int → Hp → Option Int) (hkL7 : ∀ (a0 : Nat) (a1 : Int) (a2 : Int) (a3 : Int) (a4 : Int), zInI a1 → zInI a2 → zInI a3 → zInI a4 → zS p l e ({ frames := 3, cells := 0, slots := 0, locals := 69 } : Room) s m args below meth c D aC G0 (fun r1 => zfI D aC G0 below args s 0 0 (r1, G0)) 7 0 0 (kL7 a0 a1 a2 a3 a4 G0) G0 7 [(0, .ref a0), (1, .int (zi a1)), (2, .int (zi a2)), (3, .int (zi a3)), (4, .int (zi a4))] []) (x0 : Nat) (x1 : Int) (x4 : Int) (x6 : Int) (hx1 : zInI x1) (hx4 : zInI x4) (hx6 : zInI x6) : zS p l e ({ frames := 3, cells := 0, slots := 0, locals := 69 } : Room) s m args below meth c D aC G0 (fun r1 => zfI D aC G0 below args s 0 0 (r1, G0)) 7 0 0 (FChain_landHolder_B92 FU kL7 x0 x1 x4 x6 G0) G0 92 [(0, .ref x0), (1, .int (zi x1)), (4, .int (zi x4)), (6, .int (zi x6))] [] := by
  unfold FChain_landHolder_B92
  refine z_iload hC 2 rfl dX0_landHolder_92 ?_
  refine z_istore_n (lo' := [(2, .int (zi x4)), (0, .ref x0), (1, .int (zi x1)), (4, .int (zi x4)), (6, .int (zi x6))]) hC dX0_landHolder_94 rfl (by decide) rfl ?_
  refine z_iload hC 4 rfl dX0_landHolder_95 ?_
  refine z_istore_n (lo' := [(3, .int (zi x6)), (2, .int (zi x4)), (0, .ref x0), (1, .int (zi x1)), (4, .int (zi x4)), (6, .int (zi x6))]) hC dX0_landHolder_97 rfl (by decide) rfl ?_
  refine z_iinc (lo' := fun v1 => [(4, .int (zi v1)), (3, .int (zi x6)), (2, .int (zi x4)), (0, .ref x0), (1, .int (zi x1)), (6, .int (zi x6))]) hC 4 dX0_landHolder_98 rfl (by decide) (fun _ => rfl) (fun v1 hv1 => ?_)
  refine z_goto (tgt := 7) hC dX0_landHolder_101 (by decide) ?_
  refine z_sub hC [3, 4, 2, 1, 0] (lo' := [(0, .ref x0), (1, .int (zi x1)), (2, .int (zi x4)), (3, .int (zi x6)), (4, .int (zi v1))]) rfl ?_
  exact hkL7 x0 x1 x4 x6 v1 hx1 hx4 hx6 hv1
set_option maxRecDepth 100000 in
theorem SChain_landHolder_L7 {p : Program} {l : Launch} {e : Env} {s : State} {m : MethodId} {args : Array Value} {below : List Frame} {meth : Method} {c : Code} {D : va_G} {aC : Nat → ClassId} {G0 : Hp} (hC : zC p m c meth s args cX0_landHolder 7 RX0 D aC) (hr : meth.sig.returnType = (some .int)) (FU : Nat) : ∀ (n : Nat) (x0 : Nat) (x1 : Int) (x2 : Int) (x3 : Int) (x4 : Int) (hx1 : zInI x1) (hx2 : zInI x2) (hx3 : zInI x3) (hx4 : zInI x4), zS p l e ({ frames := 3, cells := 0, slots := 0, locals := 69 } : Room) s m args below meth c D aC G0 (fun r1 => zfI D aC G0 below args s 0 0 (r1, G0)) 7 0 0 (FChain_landHolder_L7 FU n x0 x1 x2 x3 x4 G0) G0 7 [(0, .ref x0), (1, .int (zi x1)), (2, .int (zi x2)), (3, .int (zi x3)), (4, .int (zi x4))] [] := by
  intro n
  induction n with
  | zero => intros; exact z_none
  | succ n ih =>
    intro x0 x1 x2 x3 x4 hx1 hx2 hx3 hx4
    rw [FChain_landHolder_L7]
    refine z_iload hC 4 rfl dX0_landHolder_7 ?_
    refine z_aload_n hC 0 rfl dX0_landHolder_9 rfl ?_
    refine z_getI hC zF0_21 rfl dX0_landHolder_10 (fun v1 hv1 => ?_)
    refine z_icmp_ge (tgt := 104) hC hx4 hv1 dX0_landHolder_13 (by decide) (fun _ => ?_) (fun _ => ?_)
    · refine z_aload_n hC 0 rfl dX0_landHolder_16 rfl ?_
      refine z_iload hC 4 rfl dX0_landHolder_17 ?_
      refine z_cAp (z_rV (q := x0) (t := 0) (As := [.int (zi x4)]) hC (fun _ h1 => SChain_shopAt FU x0 x4 hx4 h1) (fun _ h1 => SChain_shopAt_k h1) rfl rfl zM0_25 zMv_FChain_shopAt ⟨by decide, by decide⟩ rfl rfl rfl (rest := []) (Nat.le_of_ble_eq_true rfl) ⟨Nat.le_of_ble_eq_true rfl, Nat.le_of_ble_eq_true rfl⟩ rfl dX0_landHolder_19) (fun v2 => ?_)
      refine z_qstore (lo' := [(5, va_rf v2), (0, .ref x0), (1, .int (zi x1)), (2, .int (zi x2)), (3, .int (zi x3)), (4, .int (zi x4))]) hC dX0_landHolder_22 (by decide) rfl ?_
      refine z_qload hC 0 rfl dX0_landHolder_24 ?_
      refine z_ifnull (tgt := 98) hC dX0_landHolder_26 (by decide) (fun h0 => ?_) (fun a3 h0 => ?_)
      · subst h0
        refine z_iinc (lo' := fun v4 => [(4, .int (zi v4)), (5, .null), (0, .ref x0), (1, .int (zi x1)), (2, .int (zi x2)), (3, .int (zi x3))]) hC 5 dX0_landHolder_98 rfl (by decide) (fun _ => rfl) (fun v4 hv4 => ?_)
        refine z_goto (tgt := 7) hC dX0_landHolder_101 (by decide) ?_
        refine z_sub hC [2, 3, 4, 5, 0] (lo' := [(0, .ref x0), (1, .int (zi x1)), (2, .int (zi x2)), (3, .int (zi x3)), (4, .int (zi v4))]) rfl ?_
        exact ih x0 x1 x2 x3 v4 hx1 hx2 hx3 hv4
      · subst h0
        refine z_aload hC 0 rfl dX0_landHolder_29 ?_
        refine z_cZp (z_rV (q := a3) (t := 7) (As := []) hC (fun _ h1 => SShop_isOpen FU a3 h1) (fun _ h1 => SShop_isOpen_k h1) rfl rfl zM0_29 zMv_FShop_isOpen ⟨by decide, by decide⟩ rfl rfl rfl (rest := []) (Nat.le_of_ble_eq_true rfl) ⟨Nat.le_of_ble_eq_true rfl, Nat.le_of_ble_eq_true rfl⟩ rfl dX0_landHolder_31) (fun v5 hv5 => ?_)
        refine z_if_eq (tgt := 98) hC (hv5).i dX0_landHolder_34 (by decide) (fun _ => ?_) (fun _ => ?_)
        · refine z_iinc (lo' := fun v6 => [(4, .int (zi v6)), (5, .ref a3), (0, .ref x0), (1, .int (zi x1)), (2, .int (zi x2)), (3, .int (zi x3))]) hC 5 dX0_landHolder_98 rfl (by decide) (fun _ => rfl) (fun v6 hv6 => ?_)
          refine z_goto (tgt := 7) hC dX0_landHolder_101 (by decide) ?_
          refine z_sub hC [2, 3, 4, 5, 0] (lo' := [(0, .ref x0), (1, .int (zi x1)), (2, .int (zi x2)), (3, .int (zi x3)), (4, .int (zi v6))]) rfl ?_
          exact ih x0 x1 x2 x3 v6 hx1 hx2 hx3 hv6
        · refine z_aload hC 0 rfl dX0_landHolder_37 ?_
          refine z_getI hC zF0_36 rfl dX0_landHolder_39 (fun v7 hv7 => ?_)
          refine z_if_ne (tgt := 48) hC hv7 dX0_landHolder_42 (by decide) (fun _ => ?_) (fun _ => ?_)
          · refine z_goto (tgt := 98) hC dX0_landHolder_45 (by decide) ?_
            refine z_iinc (lo' := fun v8 => [(4, .int (zi v8)), (5, .ref a3), (0, .ref x0), (1, .int (zi x1)), (2, .int (zi x2)), (3, .int (zi x3))]) hC 5 dX0_landHolder_98 rfl (by decide) (fun _ => rfl) (fun v8 hv8 => ?_)
            refine z_goto (tgt := 7) hC dX0_landHolder_101 (by decide) ?_
            refine z_sub hC [2, 3, 4, 5, 0] (lo' := [(0, .ref x0), (1, .int (zi x1)), (2, .int (zi x2)), (3, .int (zi x3)), (4, .int (zi v8))]) rfl ?_
            exact ih x0 x1 x2 x3 v8 hx1 hx2 hx3 hv8
          · refine z_aload_n hC 1 rfl dX0_landHolder_48 rfl ?_
            refine z_getQ hC zF0_17 rfl dX0_landHolder_49 (fun v9 => ?_)
            refine z_iload_n hC 2 rfl dX0_landHolder_52 rfl ?_
            refine z_aload hC 0 rfl dX0_landHolder_53 ?_
            refine z_getI hC zF0_33 rfl dX0_landHolder_55 (fun v10 hv10 => ?_)
            refine z_cIp (z_rV (q := v9) (t := 10) (As := [.int (zi x1), .int (zi v10)]) hC (fun _ h1 => STown_wayBetween FU v9 x1 v10 hx1 hv10 h1) (fun _ h1 => STown_wayBetween_k h1) rfl rfl zM0_39 zMv_FTown_wayBetween ⟨by decide, by decide⟩ rfl rfl rfl (rest := []) (Nat.le_of_ble_eq_true rfl) ⟨Nat.le_of_ble_eq_true rfl, Nat.le_of_ble_eq_true rfl⟩ rfl dX0_landHolder_58) (fun v11 hv11 => ?_)
            refine z_istore (lo' := [(6, .int (zi v11)), (5, .ref a3), (0, .ref x0), (1, .int (zi x1)), (2, .int (zi x2)), (3, .int (zi x3)), (4, .int (zi x4))]) hC dX0_landHolder_61 (by decide) rfl ?_
            refine z_iload hC 0 rfl dX0_landHolder_63 ?_
            refine z_if_lt (tgt := 98) hC hv11 dX0_landHolder_65 (by decide) (fun _ => ?_) (fun _ => ?_)
            · refine z_iinc (lo' := fun v12 => [(4, .int (zi v12)), (6, .int (zi v11)), (5, .ref a3), (0, .ref x0), (1, .int (zi x1)), (2, .int (zi x2)), (3, .int (zi x3))]) hC 6 dX0_landHolder_98 rfl (by decide) (fun _ => rfl) (fun v12 hv12 => ?_)
              refine z_goto (tgt := 7) hC dX0_landHolder_101 (by decide) ?_
              refine z_sub hC [3, 4, 5, 6, 0] (lo' := [(0, .ref x0), (1, .int (zi x1)), (2, .int (zi x2)), (3, .int (zi x3)), (4, .int (zi v12))]) rfl ?_
              exact ih x0 x1 x2 x3 v12 hx1 hx2 hx3 hv12
            · refine z_iload hC 0 rfl dX0_landHolder_68 ?_
              refine z_aload hC 1 rfl dX0_landHolder_70 ?_
              refine z_getI hC zF0_36 rfl dX0_landHolder_72 (fun v13 hv13 => ?_)
              refine z_icmp_le (tgt := 81) hC hv11 hv13 dX0_landHolder_75 (by decide) (fun _ => ?_) (fun _ => ?_)
              · refine z_iload_n hC 4 rfl dX0_landHolder_81 rfl ?_
                refine z_iconst hC dX0_landHolder_82 ?_
                refine z_icmp_eq (tgt := 92) hC hx2 (by decide) dX0_landHolder_83 (by decide) (fun _ => ?_) (fun _ => ?_)
                · refine z_sub hC [2, 3, 6, 0] (lo' := [(0, .ref x0), (1, .int (zi x1)), (4, .int (zi x4)), (6, .int (zi v11))]) rfl ?_
                  exact SChain_landHolder_B92 hC hr FU (FChain_landHolder_L7 FU n) ih x0 x1 x4 v11 hx1 hx4 hv11
                · refine z_iload hC 0 rfl dX0_landHolder_86 ?_
                  refine z_iload_n hC 5 rfl dX0_landHolder_88 rfl ?_
                  refine z_icmp_ge (tgt := 98) hC hv11 hx3 dX0_landHolder_89 (by decide) (fun _ => ?_) (fun _ => ?_)
                  · refine z_sub hC [2, 3, 6, 0] (lo' := [(0, .ref x0), (1, .int (zi x1)), (4, .int (zi x4)), (6, .int (zi v11))]) rfl ?_
                    exact SChain_landHolder_B92 hC hr FU (FChain_landHolder_L7 FU n) ih x0 x1 x4 v11 hx1 hx4 hv11
                  · refine z_iinc (lo' := fun v14 => [(4, .int (zi v14)), (6, .int (zi v11)), (5, .ref a3), (0, .ref x0), (1, .int (zi x1)), (2, .int (zi x2)), (3, .int (zi x3))]) hC 6 dX0_landHolder_98 rfl (by decide) (fun _ => rfl) (fun v14 hv14 => ?_)
                    refine z_goto (tgt := 7) hC dX0_landHolder_101 (by decide) ?_
                    refine z_sub hC [3, 4, 5, 6, 0] (lo' := [(0, .ref x0), (1, .int (zi x1)), (2, .int (zi x2)), (3, .int (zi x3)), (4, .int (zi v14))]) rfl ?_
                    exact ih x0 x1 x2 x3 v14 hx1 hx2 hx3 hv14
              · refine z_goto (tgt := 98) hC dX0_landHolder_78 (by decide) ?_
                refine z_iinc (lo' := fun v15 => [(4, .int (zi v15)), (6, .int (zi v11)), (5, .ref a3), (0, .ref x0), (1, .int (zi x1)), (2, .int (zi x2)), (3, .int (zi x3))]) hC 6 dX0_landHolder_98 rfl (by decide) (fun _ => rfl) (fun v15 hv15 => ?_)
                refine z_goto (tgt := 7) hC dX0_landHolder_101 (by decide) ?_
                refine z_sub hC [3, 4, 5, 6, 0] (lo' := [(0, .ref x0), (1, .int (zi x1)), (2, .int (zi x2)), (3, .int (zi x3)), (4, .int (zi v15))]) rfl ?_
                exact ih x0 x1 x2 x3 v15 hx1 hx2 hx3 hv15
    · refine z_iload_n hC 2 rfl dX0_landHolder_104 rfl ?_
      exact z_iretp hC hx2 hr dX0_landHolder_105
set_option maxRecDepth 100000 in
theorem SChain_landHolder {l : Launch} {D : va_G} {aC : Nat → ClassId} (FU : Nat) (this : Nat) (p1 : Int) (hp1 : zInI p1) {G : Hp} {r1 : Int} (h1 : FChain_landHolder FU this p1 G = some r1) : Met l yX0_landHolder (Cond.code yX0_landHolder cX0_landHolder 7 (some .int) :: zgood) ({ frames := 3, cells := 0, slots := 0, locals := 69 } : Room) (va_Pc [.ref this, .int (zi p1)] (zU D aC G)) (zQ D aC G (zInI r1) (some (.int (zi r1))) G) 0 0 (zA G) := by
  refine z_met (y := yX0_landHolder) (b := cX0_landHolder) (maxL := 7) (mc := 0) (ms := 0) (ret := (some .int)) (As := [.ref this, .int (zi p1)]) (Q1 := fun r1 => zQ D aC G (zInI r1) (some (.int (zi r1))) G) (X := FChain_landHolder FU this p1 G) (by decide) (Nat.le_of_ble_eq_true rfl) ?_ h1
  intro p e s m below meth c hC hr hi
  have hC : zC p m c meth s ([.ref this, .int (zi p1)] : List Value).toArray cX0_landHolder 7 RX0 D aC := hC
  generalize ([.ref this, .int (zi p1)] : List Value).toArray = args at hC ⊢
  show zS p l e ({ frames := 3, cells := 0, slots := 0, locals := 69 } : Room) s m args below meth c D aC G (fun r1 => zfI D aC G below args s 0 0 (r1, G)) 7 0 0 (FChain_landHolder FU this p1 G) G 0 [(0, .ref this), (1, .int (zi p1))] []
  unfold FChain_landHolder
  refine z_gd ?_
  unfold FChain_landHolder_b
  refine z_iconst hC dX0_landHolder_0 ?_
  refine z_istore_n (lo' := [(2, .int (zi (-1))), (0, .ref this), (1, .int (zi p1))]) hC dX0_landHolder_1 rfl (by decide) rfl ?_
  refine z_iconst hC dX0_landHolder_2 ?_
  refine z_istore_n (lo' := [(3, .int (zi (0))), (2, .int (zi (-1))), (0, .ref this), (1, .int (zi p1))]) hC dX0_landHolder_3 rfl (by decide) rfl ?_
  refine z_iconst hC dX0_landHolder_4 ?_
  refine z_istore (lo' := [(4, .int (zi (0))), (3, .int (zi (0))), (2, .int (zi (-1))), (0, .ref this), (1, .int (zi p1))]) hC dX0_landHolder_5 (by decide) rfl ?_
  refine z_sub hC [3, 4, 2, 1, 0] (lo' := [(0, .ref this), (1, .int (zi p1)), (2, .int (zi (-1))), (3, .int (zi (0))), (4, .int (zi (0)))]) rfl ?_
  exact SChain_landHolder_L7 hC hr FU FU this p1 (-1) (0) (0) hp1 (by decide) (by decide) (by decide)
theorem SChain_landHolder_k {FU : Nat} {this : Nat} {p1 : Int} {G : Hp} {r1 : Int} (h1 : FChain_landHolder FU this p1 G = some r1) : zk G this = some (0, 0) := zgd_k (k := FChain_landHolder_b FU this p1 G) h1

set_option maxRecDepth 100000 in
theorem SChain_isBarred {l : Launch} {D : va_G} {aC : Nat → ClassId} (FU : Nat) (this : Nat) (p1 : Int) (p2 : Int) (hp1 : zInI p1) (hp2 : zInI p2) {G : Hp} {r1 : Int} (h1 : FChain_isBarred FU this p1 p2 G = some r1) : Met l yX0_isBarred (Cond.code yX0_isBarred cX0_isBarred 4 (some .boolean) :: zgood) ({ frames := 4, cells := 0, slots := 0, locals := 95 } : Room) (va_Pc [.ref this, .int (zi p1), .int (zi p2)] (zU D aC G)) (zQ D aC G (zIn01 r1) (some (.int (zi r1))) G) 0 0 (zA G) := by
  refine z_met (y := yX0_isBarred) (b := cX0_isBarred) (maxL := 4) (mc := 0) (ms := 0) (ret := (some .boolean)) (As := [.ref this, .int (zi p1), .int (zi p2)]) (Q1 := fun r1 => zQ D aC G (zIn01 r1) (some (.int (zi r1))) G) (X := FChain_isBarred FU this p1 p2 G) (by decide) (Nat.le_of_ble_eq_true rfl) ?_ h1
  intro p e s m below meth c hC hr hi
  have hC : zC p m c meth s ([.ref this, .int (zi p1), .int (zi p2)] : List Value).toArray cX0_isBarred 4 RX0 D aC := hC
  generalize ([.ref this, .int (zi p1), .int (zi p2)] : List Value).toArray = args at hC ⊢
  show zS p l e ({ frames := 4, cells := 0, slots := 0, locals := 95 } : Room) s m args below meth c D aC G (fun r1 => zfZ D aC G below args s 0 0 (r1, G)) 4 0 0 (FChain_isBarred FU this p1 p2 G) G 0 [(0, .ref this), (1, .int (zi p1)), (2, .int (zi p2))] []
  unfold FChain_isBarred
  refine z_gd ?_
  unfold FChain_isBarred_b
  refine z_aload_n hC 0 rfl dX0_isBarred_0 rfl ?_
  refine z_aload_n hC 0 rfl dX0_isBarred_1 rfl ?_
  refine z_iload_n hC 1 rfl dX0_isBarred_2 rfl ?_
  refine z_cIp (z_rV (q := this) (t := 0) (As := [.int (zi p1)]) hC (fun _ h1 => SChain_landHolder FU this p1 hp1 h1) (fun _ h1 => SChain_landHolder_k h1) rfl rfl zM0_45 zMv_FChain_landHolder ⟨by decide, by decide⟩ rfl rfl rfl (rest := [.ref this]) (Nat.le_of_ble_eq_true rfl) ⟨Nat.le_of_ble_eq_true rfl, Nat.le_of_ble_eq_true rfl⟩ rfl dX0_isBarred_3) (fun v1 hv1 => ?_)
  refine z_cAp (z_rV (q := this) (t := 0) (As := [.int (zi v1)]) hC (fun _ h1 => SChain_shopAt FU this v1 hv1 h1) (fun _ h1 => SChain_shopAt_k h1) rfl rfl zM0_25 zMv_FChain_shopAt ⟨by decide, by decide⟩ rfl rfl rfl (rest := []) (Nat.le_of_ble_eq_true rfl) ⟨Nat.le_of_ble_eq_true rfl, Nat.le_of_ble_eq_true rfl⟩ rfl dX0_isBarred_6) (fun v2 => ?_)
  refine z_qstore_n (lo' := [(3, va_rf v2), (0, .ref this), (1, .int (zi p1)), (2, .int (zi p2))]) hC dX0_isBarred_9 rfl (by decide) rfl ?_
  refine z_qload_n hC 0 rfl dX0_isBarred_10 rfl ?_
  refine z_ifnull (tgt := 26) hC dX0_isBarred_11 (by decide) (fun h0 => ?_) (fun a3 h0 => ?_)
  · subst h0
    refine z_iconst hC dX0_isBarred_26 ?_
    exact z_zretp hC hr dX0_isBarred_27
  · subst h0
    refine z_aload_n hC 0 rfl dX0_isBarred_14 rfl ?_
    refine z_getI hC zF0_49 rfl dX0_isBarred_15 (fun v4 hv4 => ?_)
    refine z_iload_n hC 3 rfl dX0_isBarred_18 rfl ?_
    refine z_icmp_eq (tgt := 26) hC hv4 hp2 dX0_isBarred_19 (by decide) (fun _ => ?_) (fun _ => ?_)
    · refine z_iconst hC dX0_isBarred_26 ?_
      exact z_zretp hC hr dX0_isBarred_27
    · refine z_iconst hC dX0_isBarred_22 ?_
      refine z_goto (tgt := 27) hC dX0_isBarred_23 (by decide) ?_
      exact z_zretp hC hr dX0_isBarred_27
theorem SChain_isBarred_k {FU : Nat} {this : Nat} {p1 : Int} {p2 : Int} {G : Hp} {r1 : Int} (h1 : FChain_isBarred FU this p1 p2 G = some r1) : zk G this = some (0, 0) := zgd_k (k := FChain_isBarred_b FU this p1 p2 G) h1

set_option maxRecDepth 100000 in
theorem SChain_landSize_L4 {p : Program} {l : Launch} {e : Env} {s : State} {m : MethodId} {args : Array Value} {below : List Frame} {meth : Method} {c : Code} {D : va_G} {aC : Nat → ClassId} {G0 : Hp} (hC : zC p m c meth s args cX0_landSize 4 RX0 D aC) (hr : meth.sig.returnType = (some .int)) (FU : Nat) : ∀ (n : Nat) (x0 : Nat) (x1 : Int) (x2 : Int) (x3 : Int) (hx1 : zInI x1) (hx2 : zInI x2) (hx3 : zInI x3), zS p l e ({ frames := 4, cells := 0, slots := 0, locals := 95 } : Room) s m args below meth c D aC G0 (fun r1 => zfI D aC G0 below args s 0 0 (r1, G0)) 4 0 0 (FChain_landSize_L4 FU n x0 x1 x2 x3 G0) G0 4 [(0, .ref x0), (1, .int (zi x1)), (2, .int (zi x2)), (3, .int (zi x3))] [] := by
  intro n
  induction n with
  | zero => intros; exact z_none
  | succ n ih =>
    intro x0 x1 x2 x3 hx1 hx2 hx3
    rw [FChain_landSize_L4]
    refine z_iload_n hC 3 rfl dX0_landSize_4 rfl ?_
    refine z_aload_n hC 0 rfl dX0_landSize_5 rfl ?_
    refine z_getQ hC zF0_17 rfl dX0_landSize_6 (fun v1 => ?_)
    refine z_getI hC zF0_52 rfl dX0_landSize_9 (fun v2 hv2 => ?_)
    refine z_icmp_ge (tgt := 33) hC hx3 hv2 dX0_landSize_12 (by decide) (fun _ => ?_) (fun _ => ?_)
    · refine z_aload_n hC 0 rfl dX0_landSize_15 rfl ?_
      refine z_iload_n hC 3 rfl dX0_landSize_16 rfl ?_
      refine z_cIp (z_rV (q := x0) (t := 0) (As := [.int (zi x3)]) hC (fun _ h1 => SChain_landHolder FU x0 x3 hx3 h1) (fun _ h1 => SChain_landHolder_k h1) rfl rfl zM0_45 zMv_FChain_landHolder ⟨by decide, by decide⟩ rfl rfl rfl (rest := []) (Nat.le_of_ble_eq_true rfl) ⟨Nat.le_of_ble_eq_true rfl, Nat.le_of_ble_eq_true rfl⟩ rfl dX0_landSize_17) (fun v3 hv3 => ?_)
      refine z_iload_n hC 1 rfl dX0_landSize_20 rfl ?_
      refine z_icmp_ne (tgt := 27) hC hv3 hx1 dX0_landSize_21 (by decide) (fun _ => ?_) (fun _ => ?_)
      · refine z_iinc (lo' := fun v4 => [(2, .int (zi v4)), (0, .ref x0), (1, .int (zi x1)), (3, .int (zi x3))]) hC 2 dX0_landSize_24 rfl (by decide) (fun _ => rfl) (fun v4 hv4 => ?_)
        refine z_iinc (lo' := fun v5 => [(3, .int (zi v5)), (2, .int (zi v4)), (0, .ref x0), (1, .int (zi x1))]) hC 3 dX0_landSize_27 rfl (by decide) (fun _ => rfl) (fun v5 hv5 => ?_)
        refine z_goto (tgt := 4) hC dX0_landSize_30 (by decide) ?_
        refine z_sub hC [2, 3, 1, 0] (lo' := [(0, .ref x0), (1, .int (zi x1)), (2, .int (zi v4)), (3, .int (zi v5))]) rfl ?_
        exact ih x0 x1 v4 v5 hx1 hv4 hv5
      · refine z_iinc (lo' := fun v6 => [(3, .int (zi v6)), (0, .ref x0), (1, .int (zi x1)), (2, .int (zi x2))]) hC 3 dX0_landSize_27 rfl (by decide) (fun _ => rfl) (fun v6 hv6 => ?_)
        refine z_goto (tgt := 4) hC dX0_landSize_30 (by decide) ?_
        refine z_sub hC [1, 2, 3, 0] (lo' := [(0, .ref x0), (1, .int (zi x1)), (2, .int (zi x2)), (3, .int (zi v6))]) rfl ?_
        exact ih x0 x1 x2 v6 hx1 hx2 hv6
    · refine z_iload_n hC 2 rfl dX0_landSize_33 rfl ?_
      exact z_iretp hC hx2 hr dX0_landSize_34
set_option maxRecDepth 100000 in
theorem SChain_landSize {l : Launch} {D : va_G} {aC : Nat → ClassId} (FU : Nat) (this : Nat) (p1 : Int) (hp1 : zInI p1) {G : Hp} {r1 : Int} (h1 : FChain_landSize FU this p1 G = some r1) : Met l yX0_landSize (Cond.code yX0_landSize cX0_landSize 4 (some .int) :: zgood) ({ frames := 4, cells := 0, slots := 0, locals := 95 } : Room) (va_Pc [.ref this, .int (zi p1)] (zU D aC G)) (zQ D aC G (zInI r1) (some (.int (zi r1))) G) 0 0 (zA G) := by
  refine z_met (y := yX0_landSize) (b := cX0_landSize) (maxL := 4) (mc := 0) (ms := 0) (ret := (some .int)) (As := [.ref this, .int (zi p1)]) (Q1 := fun r1 => zQ D aC G (zInI r1) (some (.int (zi r1))) G) (X := FChain_landSize FU this p1 G) (by decide) (Nat.le_of_ble_eq_true rfl) ?_ h1
  intro p e s m below meth c hC hr hi
  have hC : zC p m c meth s ([.ref this, .int (zi p1)] : List Value).toArray cX0_landSize 4 RX0 D aC := hC
  generalize ([.ref this, .int (zi p1)] : List Value).toArray = args at hC ⊢
  show zS p l e ({ frames := 4, cells := 0, slots := 0, locals := 95 } : Room) s m args below meth c D aC G (fun r1 => zfI D aC G below args s 0 0 (r1, G)) 4 0 0 (FChain_landSize FU this p1 G) G 0 [(0, .ref this), (1, .int (zi p1))] []
  unfold FChain_landSize
  refine z_gd ?_
  unfold FChain_landSize_b
  refine z_iconst hC dX0_landSize_0 ?_
  refine z_istore_n (lo' := [(2, .int (zi (0))), (0, .ref this), (1, .int (zi p1))]) hC dX0_landSize_1 rfl (by decide) rfl ?_
  refine z_iconst hC dX0_landSize_2 ?_
  refine z_istore_n (lo' := [(3, .int (zi (0))), (2, .int (zi (0))), (0, .ref this), (1, .int (zi p1))]) hC dX0_landSize_3 rfl (by decide) rfl ?_
  refine z_sub hC [2, 3, 1, 0] (lo' := [(0, .ref this), (1, .int (zi p1)), (2, .int (zi (0))), (3, .int (zi (0)))]) rfl ?_
  exact SChain_landSize_L4 hC hr FU FU this p1 (0) (0) hp1 (by decide) (by decide)
theorem SChain_landSize_k {FU : Nat} {this : Nat} {p1 : Int} {G : Hp} {r1 : Int} (h1 : FChain_landSize FU this p1 G = some r1) : zk G this = some (0, 0) := zgd_k (k := FChain_landSize_b FU this p1 G) h1

set_option maxRecDepth 100000 in
theorem SChain_openCount_L4 {p : Program} {l : Launch} {e : Env} {s : State} {m : MethodId} {args : Array Value} {below : List Frame} {meth : Method} {c : Code} {D : va_G} {aC : Nat → ClassId} {G0 : Hp} (hC : zC p m c meth s args cX0_openCount 4 RX0 D aC) (hr : meth.sig.returnType = (some .int)) (FU : Nat) : ∀ (n : Nat) (x0 : Nat) (x1 : Int) (x2 : Int) (hx1 : zInI x1) (hx2 : zInI x2), zS p l e ({ frames := 2, cells := 0, slots := 0, locals := 45 } : Room) s m args below meth c D aC G0 (fun r1 => zfI D aC G0 below args s 0 0 (r1, G0)) 4 0 0 (FChain_openCount_L4 FU n x0 x1 x2 G0) G0 4 [(0, .ref x0), (1, .int (zi x1)), (2, .int (zi x2))] [] := by
  intro n
  induction n with
  | zero => intros; exact z_none
  | succ n ih =>
    intro x0 x1 x2 hx1 hx2
    rw [FChain_openCount_L4]
    refine z_iload_n hC 2 rfl dX0_openCount_4 rfl ?_
    refine z_aload_n hC 0 rfl dX0_openCount_5 rfl ?_
    refine z_getI hC zF0_21 rfl dX0_openCount_6 (fun v1 hv1 => ?_)
    refine z_icmp_ge (tgt := 38) hC hx2 hv1 dX0_openCount_9 (by decide) (fun _ => ?_) (fun _ => ?_)
    · refine z_aload_n hC 0 rfl dX0_openCount_12 rfl ?_
      refine z_iload_n hC 2 rfl dX0_openCount_13 rfl ?_
      refine z_cAp (z_rV (q := x0) (t := 0) (As := [.int (zi x2)]) hC (fun _ h1 => SChain_shopAt FU x0 x2 hx2 h1) (fun _ h1 => SChain_shopAt_k h1) rfl rfl zM0_25 zMv_FChain_shopAt ⟨by decide, by decide⟩ rfl rfl rfl (rest := []) (Nat.le_of_ble_eq_true rfl) ⟨Nat.le_of_ble_eq_true rfl, Nat.le_of_ble_eq_true rfl⟩ rfl dX0_openCount_14) (fun v2 => ?_)
      refine z_qstore_n (lo' := [(3, va_rf v2), (0, .ref x0), (1, .int (zi x1)), (2, .int (zi x2))]) hC dX0_openCount_17 rfl (by decide) rfl ?_
      refine z_qload_n hC 0 rfl dX0_openCount_18 rfl ?_
      refine z_ifnull (tgt := 32) hC dX0_openCount_19 (by decide) (fun h0 => ?_) (fun a3 h0 => ?_)
      · subst h0
        refine z_iinc (lo' := fun v4 => [(2, .int (zi v4)), (3, .null), (0, .ref x0), (1, .int (zi x1))]) hC 3 dX0_openCount_32 rfl (by decide) (fun _ => rfl) (fun v4 hv4 => ?_)
        refine z_goto (tgt := 4) hC dX0_openCount_35 (by decide) ?_
        refine z_sub hC [2, 3, 0] (lo' := [(0, .ref x0), (1, .int (zi x1)), (2, .int (zi v4))]) rfl ?_
        exact ih x0 x1 v4 hx1 hv4
      · subst h0
        refine z_aload_n hC 0 rfl dX0_openCount_22 rfl ?_
        refine z_cZp (z_rV (q := a3) (t := 7) (As := []) hC (fun _ h1 => SShop_isOpen FU a3 h1) (fun _ h1 => SShop_isOpen_k h1) rfl rfl zM0_29 zMv_FShop_isOpen ⟨by decide, by decide⟩ rfl rfl rfl (rest := []) (Nat.le_of_ble_eq_true rfl) ⟨Nat.le_of_ble_eq_true rfl, Nat.le_of_ble_eq_true rfl⟩ rfl dX0_openCount_23) (fun v5 hv5 => ?_)
        refine z_if_eq (tgt := 32) hC (hv5).i dX0_openCount_26 (by decide) (fun _ => ?_) (fun _ => ?_)
        · refine z_iinc (lo' := fun v6 => [(2, .int (zi v6)), (3, .ref a3), (0, .ref x0), (1, .int (zi x1))]) hC 3 dX0_openCount_32 rfl (by decide) (fun _ => rfl) (fun v6 hv6 => ?_)
          refine z_goto (tgt := 4) hC dX0_openCount_35 (by decide) ?_
          refine z_sub hC [2, 3, 0] (lo' := [(0, .ref x0), (1, .int (zi x1)), (2, .int (zi v6))]) rfl ?_
          exact ih x0 x1 v6 hx1 hv6
        · refine z_iinc (lo' := fun v7 => [(1, .int (zi v7)), (3, .ref a3), (0, .ref x0), (2, .int (zi x2))]) hC 2 dX0_openCount_29 rfl (by decide) (fun _ => rfl) (fun v7 hv7 => ?_)
          refine z_iinc (lo' := fun v8 => [(2, .int (zi v8)), (1, .int (zi v7)), (3, .ref a3), (0, .ref x0)]) hC 3 dX0_openCount_32 rfl (by decide) (fun _ => rfl) (fun v8 hv8 => ?_)
          refine z_goto (tgt := 4) hC dX0_openCount_35 (by decide) ?_
          refine z_sub hC [3, 1, 0] (lo' := [(0, .ref x0), (1, .int (zi v7)), (2, .int (zi v8))]) rfl ?_
          exact ih x0 v7 v8 hv7 hv8
    · refine z_iload_n hC 1 rfl dX0_openCount_38 rfl ?_
      exact z_iretp hC hx1 hr dX0_openCount_39
set_option maxRecDepth 100000 in
theorem SChain_openCount {l : Launch} {D : va_G} {aC : Nat → ClassId} (FU : Nat) (this : Nat) {G : Hp} {r1 : Int} (h1 : FChain_openCount FU this G = some r1) : Met l yX0_openCount (Cond.code yX0_openCount cX0_openCount 4 (some .int) :: zgood) ({ frames := 2, cells := 0, slots := 0, locals := 45 } : Room) (va_Pc [.ref this] (zU D aC G)) (zQ D aC G (zInI r1) (some (.int (zi r1))) G) 0 0 (zA G) := by
  refine z_met (y := yX0_openCount) (b := cX0_openCount) (maxL := 4) (mc := 0) (ms := 0) (ret := (some .int)) (As := [.ref this]) (Q1 := fun r1 => zQ D aC G (zInI r1) (some (.int (zi r1))) G) (X := FChain_openCount FU this G) (by decide) (Nat.le_of_ble_eq_true rfl) ?_ h1
  intro p e s m below meth c hC hr hi
  have hC : zC p m c meth s ([.ref this] : List Value).toArray cX0_openCount 4 RX0 D aC := hC
  generalize ([.ref this] : List Value).toArray = args at hC ⊢
  show zS p l e ({ frames := 2, cells := 0, slots := 0, locals := 45 } : Room) s m args below meth c D aC G (fun r1 => zfI D aC G below args s 0 0 (r1, G)) 4 0 0 (FChain_openCount FU this G) G 0 [(0, .ref this)] []
  unfold FChain_openCount
  refine z_gd ?_
  unfold FChain_openCount_b
  refine z_iconst hC dX0_openCount_0 ?_
  refine z_istore_n (lo' := [(1, .int (zi (0))), (0, .ref this)]) hC dX0_openCount_1 rfl (by decide) rfl ?_
  refine z_iconst hC dX0_openCount_2 ?_
  refine z_istore_n (lo' := [(2, .int (zi (0))), (1, .int (zi (0))), (0, .ref this)]) hC dX0_openCount_3 rfl (by decide) rfl ?_
  refine z_sub hC [2, 1, 0] (lo' := [(0, .ref this), (1, .int (zi (0))), (2, .int (zi (0)))]) rfl ?_
  exact SChain_openCount_L4 hC hr FU FU this (0) (0) (by decide) (by decide)
theorem SChain_openCount_k {FU : Nat} {this : Nat} {G : Hp} {r1 : Int} (h1 : FChain_openCount FU this G = some r1) : zk G this = some (0, 0) := zgd_k (k := FChain_openCount_b FU this G) h1

set_option maxRecDepth 100000 in
theorem SShop_wasOpenOn {l : Launch} {D : va_G} {aC : Nat → ClassId} (FU : Nat) (this : Nat) (p1 : Int) (hp1 : zInI p1) {G : Hp} {r1 : Int} (h1 : FShop_wasOpenOn FU this p1 G = some r1) : Met l yX7_wasOpenOn (Cond.code yX7_wasOpenOn cX7_wasOpenOn 2 (some .boolean) :: zgood) ({ frames := 1, cells := 0, slots := 0, locals := 24 } : Room) (va_Pc [.ref this, .int (zi p1)] (zU D aC G)) (zQ D aC G (zIn01 r1) (some (.int (zi r1))) G) 0 0 (zA G) := by
  refine z_met (y := yX7_wasOpenOn) (b := cX7_wasOpenOn) (maxL := 2) (mc := 0) (ms := 0) (ret := (some .boolean)) (As := [.ref this, .int (zi p1)]) (Q1 := fun r1 => zQ D aC G (zIn01 r1) (some (.int (zi r1))) G) (X := FShop_wasOpenOn FU this p1 G) (by decide) (Nat.le_of_ble_eq_true rfl) ?_ h1
  intro p e s m below meth c hC hr hi
  have hC : zC p m c meth s ([.ref this, .int (zi p1)] : List Value).toArray cX7_wasOpenOn 2 RX7 D aC := hC
  generalize ([.ref this, .int (zi p1)] : List Value).toArray = args at hC ⊢
  show zS p l e ({ frames := 1, cells := 0, slots := 0, locals := 24 } : Room) s m args below meth c D aC G (fun r1 => zfZ D aC G below args s 0 0 (r1, G)) 2 0 0 (FShop_wasOpenOn FU this p1 G) G 0 [(0, .ref this), (1, .int (zi p1))] []
  unfold FShop_wasOpenOn
  refine z_gd ?_
  unfold FShop_wasOpenOn_b
  refine z_aload_n hC 0 rfl dX7_wasOpenOn_0 rfl ?_
  refine z_getI hC zF7_33 rfl dX7_wasOpenOn_1 (fun v1 hv1 => ?_)
  refine z_iload_n hC 1 rfl dX7_wasOpenOn_4 rfl ?_
  refine z_icmp_gt (tgt := 28) hC hv1 hp1 dX7_wasOpenOn_5 (by decide) (fun _ => ?_) (fun _ => ?_)
  · refine z_aload_n hC 0 rfl dX7_wasOpenOn_8 rfl ?_
    refine z_getI hC zF7_17 rfl dX7_wasOpenOn_9 (fun v2 hv2 => ?_)
    refine z_iconst hC dX7_wasOpenOn_12 ?_
    refine z_icmp_eq (tgt := 24) hC hv2 (by decide) dX7_wasOpenOn_13 (by decide) (fun _ => ?_) (fun _ => ?_)
    · refine z_iconst hC dX7_wasOpenOn_24 ?_
      refine z_goto (tgt := 29) hC dX7_wasOpenOn_25 (by decide) ?_
      exact z_zretp hC hr dX7_wasOpenOn_29
    · refine z_aload_n hC 0 rfl dX7_wasOpenOn_16 rfl ?_
      refine z_getI hC zF7_17 rfl dX7_wasOpenOn_17 (fun v3 hv3 => ?_)
      refine z_iload_n hC 1 rfl dX7_wasOpenOn_20 rfl ?_
      refine z_icmp_le (tgt := 28) hC hv3 hp1 dX7_wasOpenOn_21 (by decide) (fun _ => ?_) (fun _ => ?_)
      · refine z_iconst hC dX7_wasOpenOn_28 ?_
        exact z_zretp hC hr dX7_wasOpenOn_29
      · refine z_iconst hC dX7_wasOpenOn_24 ?_
        refine z_goto (tgt := 29) hC dX7_wasOpenOn_25 (by decide) ?_
        exact z_zretp hC hr dX7_wasOpenOn_29
  · refine z_iconst hC dX7_wasOpenOn_28 ?_
    exact z_zretp hC hr dX7_wasOpenOn_29
theorem SShop_wasOpenOn_k {FU : Nat} {this : Nat} {p1 : Int} {G : Hp} {r1 : Int} (h1 : FShop_wasOpenOn FU this p1 G = some r1) : zk G this = some (7, 0) := zgd_k (k := FShop_wasOpenOn_b FU this p1 G) h1

set_option maxRecDepth 100000 in
theorem SChain_openOn_L5 {p : Program} {l : Launch} {e : Env} {s : State} {m : MethodId} {args : Array Value} {below : List Frame} {meth : Method} {c : Code} {D : va_G} {aC : Nat → ClassId} {G0 : Hp} (hC : zC p m c meth s args cX0_openOn 6 RX0 D aC) (hr : meth.sig.returnType = (some .int)) (FU : Nat) : ∀ (n : Nat) (x0 : Nat) (x1 : Int) (x2 : Int) (x3 : Int) (x4 : Int) (hx1 : zInI x1) (hx2 : zInI x2) (hx3 : zInI x3) (hx4 : zInI x4), zS p l e ({ frames := 2, cells := 0, slots := 0, locals := 45 } : Room) s m args below meth c D aC G0 (fun r1 => zfI D aC G0 below args s 0 0 (r1, G0)) 6 0 0 (FChain_openOn_L5 FU n x0 x1 x2 x3 x4 G0) G0 5 [(0, .ref x0), (1, .int (zi x1)), (2, .int (zi x2)), (3, .int (zi x3)), (4, .int (zi x4))] [] := by
  intro n
  induction n with
  | zero => intros; exact z_none
  | succ n ih =>
    intro x0 x1 x2 x3 x4 hx1 hx2 hx3 hx4
    rw [FChain_openOn_L5]
    refine z_iload hC 4 rfl dX0_openOn_5 ?_
    refine z_aload_n hC 0 rfl dX0_openOn_7 rfl ?_
    refine z_getI hC zF0_21 rfl dX0_openOn_8 (fun v1 hv1 => ?_)
    refine z_icmp_ge (tgt := 54) hC hx4 hv1 dX0_openOn_11 (by decide) (fun _ => ?_) (fun _ => ?_)
    · refine z_aload_n hC 0 rfl dX0_openOn_14 rfl ?_
      refine z_iload hC 4 rfl dX0_openOn_15 ?_
      refine z_cAp (z_rV (q := x0) (t := 0) (As := [.int (zi x4)]) hC (fun _ h1 => SChain_shopAt FU x0 x4 hx4 h1) (fun _ h1 => SChain_shopAt_k h1) rfl rfl zM0_25 zMv_FChain_shopAt ⟨by decide, by decide⟩ rfl rfl rfl (rest := []) (Nat.le_of_ble_eq_true rfl) ⟨Nat.le_of_ble_eq_true rfl, Nat.le_of_ble_eq_true rfl⟩ rfl dX0_openOn_17) (fun v2 => ?_)
      refine z_qstore (lo' := [(5, va_rf v2), (0, .ref x0), (1, .int (zi x1)), (2, .int (zi x2)), (3, .int (zi x3)), (4, .int (zi x4))]) hC dX0_openOn_20 (by decide) rfl ?_
      refine z_qload hC 0 rfl dX0_openOn_22 ?_
      refine z_ifnull (tgt := 48) hC dX0_openOn_24 (by decide) (fun h0 => ?_) (fun a3 h0 => ?_)
      · subst h0
        refine z_iinc (lo' := fun v4 => [(4, .int (zi v4)), (5, .null), (0, .ref x0), (1, .int (zi x1)), (2, .int (zi x2)), (3, .int (zi x3))]) hC 5 dX0_openOn_48 rfl (by decide) (fun _ => rfl) (fun v4 hv4 => ?_)
        refine z_goto (tgt := 5) hC dX0_openOn_51 (by decide) ?_
        refine z_sub hC [2, 3, 4, 5, 0] (lo' := [(0, .ref x0), (1, .int (zi x1)), (2, .int (zi x2)), (3, .int (zi x3)), (4, .int (zi v4))]) rfl ?_
        exact ih x0 x1 x2 x3 v4 hx1 hx2 hx3 hv4
      · subst h0
        refine z_aload hC 0 rfl dX0_openOn_27 ?_
        refine z_getI hC zF0_49 rfl dX0_openOn_29 (fun v5 hv5 => ?_)
        refine z_iload_n hC 2 rfl dX0_openOn_32 rfl ?_
        refine z_icmp_ne (tgt := 48) hC hv5 hx1 dX0_openOn_33 (by decide) (fun _ => ?_) (fun _ => ?_)
        · refine z_aload hC 0 rfl dX0_openOn_36 ?_
          refine z_iload_n hC 3 rfl dX0_openOn_38 rfl ?_
          refine z_cZp (z_rV (q := a3) (t := 7) (As := [.int (zi x2)]) hC (fun _ h1 => SShop_wasOpenOn FU a3 x2 hx2 h1) (fun _ h1 => SShop_wasOpenOn_k h1) rfl rfl zM0_55 zMv_FShop_wasOpenOn ⟨by decide, by decide⟩ rfl rfl rfl (rest := []) (Nat.le_of_ble_eq_true rfl) ⟨Nat.le_of_ble_eq_true rfl, Nat.le_of_ble_eq_true rfl⟩ rfl dX0_openOn_39) (fun v6 hv6 => ?_)
          refine z_if_eq (tgt := 48) hC (hv6).i dX0_openOn_42 (by decide) (fun _ => ?_) (fun _ => ?_)
          · refine z_iinc (lo' := fun v7 => [(4, .int (zi v7)), (5, .ref a3), (0, .ref x0), (1, .int (zi x1)), (2, .int (zi x2)), (3, .int (zi x3))]) hC 5 dX0_openOn_48 rfl (by decide) (fun _ => rfl) (fun v7 hv7 => ?_)
            refine z_goto (tgt := 5) hC dX0_openOn_51 (by decide) ?_
            refine z_sub hC [2, 3, 4, 5, 0] (lo' := [(0, .ref x0), (1, .int (zi x1)), (2, .int (zi x2)), (3, .int (zi x3)), (4, .int (zi v7))]) rfl ?_
            exact ih x0 x1 x2 x3 v7 hx1 hx2 hx3 hv7
          · refine z_iinc (lo' := fun v8 => [(3, .int (zi v8)), (5, .ref a3), (0, .ref x0), (1, .int (zi x1)), (2, .int (zi x2)), (4, .int (zi x4))]) hC 4 dX0_openOn_45 rfl (by decide) (fun _ => rfl) (fun v8 hv8 => ?_)
            refine z_iinc (lo' := fun v9 => [(4, .int (zi v9)), (3, .int (zi v8)), (5, .ref a3), (0, .ref x0), (1, .int (zi x1)), (2, .int (zi x2))]) hC 5 dX0_openOn_48 rfl (by decide) (fun _ => rfl) (fun v9 hv9 => ?_)
            refine z_goto (tgt := 5) hC dX0_openOn_51 (by decide) ?_
            refine z_sub hC [3, 4, 5, 1, 0] (lo' := [(0, .ref x0), (1, .int (zi x1)), (2, .int (zi x2)), (3, .int (zi v8)), (4, .int (zi v9))]) rfl ?_
            exact ih x0 x1 x2 v8 v9 hx1 hx2 hv8 hv9
        · refine z_iinc (lo' := fun v10 => [(4, .int (zi v10)), (5, .ref a3), (0, .ref x0), (1, .int (zi x1)), (2, .int (zi x2)), (3, .int (zi x3))]) hC 5 dX0_openOn_48 rfl (by decide) (fun _ => rfl) (fun v10 hv10 => ?_)
          refine z_goto (tgt := 5) hC dX0_openOn_51 (by decide) ?_
          refine z_sub hC [2, 3, 4, 5, 0] (lo' := [(0, .ref x0), (1, .int (zi x1)), (2, .int (zi x2)), (3, .int (zi x3)), (4, .int (zi v10))]) rfl ?_
          exact ih x0 x1 x2 x3 v10 hx1 hx2 hx3 hv10
    · refine z_iload_n hC 3 rfl dX0_openOn_54 rfl ?_
      exact z_iretp hC hx3 hr dX0_openOn_55
set_option maxRecDepth 100000 in
theorem SChain_openOn {l : Launch} {D : va_G} {aC : Nat → ClassId} (FU : Nat) (this : Nat) (p1 : Int) (p2 : Int) (hp1 : zInI p1) (hp2 : zInI p2) {G : Hp} {r1 : Int} (h1 : FChain_openOn FU this p1 p2 G = some r1) : Met l yX0_openOn (Cond.code yX0_openOn cX0_openOn 6 (some .int) :: zgood) ({ frames := 2, cells := 0, slots := 0, locals := 45 } : Room) (va_Pc [.ref this, .int (zi p1), .int (zi p2)] (zU D aC G)) (zQ D aC G (zInI r1) (some (.int (zi r1))) G) 0 0 (zA G) := by
  refine z_met (y := yX0_openOn) (b := cX0_openOn) (maxL := 6) (mc := 0) (ms := 0) (ret := (some .int)) (As := [.ref this, .int (zi p1), .int (zi p2)]) (Q1 := fun r1 => zQ D aC G (zInI r1) (some (.int (zi r1))) G) (X := FChain_openOn FU this p1 p2 G) (by decide) (Nat.le_of_ble_eq_true rfl) ?_ h1
  intro p e s m below meth c hC hr hi
  have hC : zC p m c meth s ([.ref this, .int (zi p1), .int (zi p2)] : List Value).toArray cX0_openOn 6 RX0 D aC := hC
  generalize ([.ref this, .int (zi p1), .int (zi p2)] : List Value).toArray = args at hC ⊢
  show zS p l e ({ frames := 2, cells := 0, slots := 0, locals := 45 } : Room) s m args below meth c D aC G (fun r1 => zfI D aC G below args s 0 0 (r1, G)) 6 0 0 (FChain_openOn FU this p1 p2 G) G 0 [(0, .ref this), (1, .int (zi p1)), (2, .int (zi p2))] []
  unfold FChain_openOn
  refine z_gd ?_
  unfold FChain_openOn_b
  refine z_iconst hC dX0_openOn_0 ?_
  refine z_istore_n (lo' := [(3, .int (zi (0))), (0, .ref this), (1, .int (zi p1)), (2, .int (zi p2))]) hC dX0_openOn_1 rfl (by decide) rfl ?_
  refine z_iconst hC dX0_openOn_2 ?_
  refine z_istore (lo' := [(4, .int (zi (0))), (3, .int (zi (0))), (0, .ref this), (1, .int (zi p1)), (2, .int (zi p2))]) hC dX0_openOn_3 (by decide) rfl ?_
  refine z_sub hC [2, 3, 4, 1, 0] (lo' := [(0, .ref this), (1, .int (zi p1)), (2, .int (zi p2)), (3, .int (zi (0))), (4, .int (zi (0)))]) rfl ?_
  exact SChain_openOn_L5 hC hr FU FU this p1 p2 (0) (0) hp1 hp2 (by decide) (by decide)
theorem SChain_openOn_k {FU : Nat} {this : Nat} {p1 : Int} {p2 : Int} {G : Hp} {r1 : Int} (h1 : FChain_openOn FU this p1 p2 G = some r1) : zk G this = some (0, 0) := zgd_k (k := FChain_openOn_b FU this p1 p2 G) h1

set_option maxRecDepth 100000 in
theorem SShop_hasRunningNotice {l : Launch} {D : va_G} {aC : Nat → ClassId} (FU : Nat) (this : Nat) {G : Hp} {r1 : Int} (h1 : FShop_hasRunningNotice FU this G = some r1) : Met l yX7_hasRunningNotice (Cond.code yX7_hasRunningNotice cX7_hasRunningNotice 1 (some .boolean) :: zgood) ({ frames := 1, cells := 0, slots := 0, locals := 24 } : Room) (va_Pc [.ref this] (zU D aC G)) (zQ D aC G (zIn01 r1) (some (.int (zi r1))) G) 0 0 (zA G) := by
  refine z_met (y := yX7_hasRunningNotice) (b := cX7_hasRunningNotice) (maxL := 1) (mc := 0) (ms := 0) (ret := (some .boolean)) (As := [.ref this]) (Q1 := fun r1 => zQ D aC G (zIn01 r1) (some (.int (zi r1))) G) (X := FShop_hasRunningNotice FU this G) (by decide) (Nat.le_of_ble_eq_true rfl) ?_ h1
  intro p e s m below meth c hC hr hi
  have hC : zC p m c meth s ([.ref this] : List Value).toArray cX7_hasRunningNotice 1 RX7 D aC := hC
  generalize ([.ref this] : List Value).toArray = args at hC ⊢
  show zS p l e ({ frames := 1, cells := 0, slots := 0, locals := 24 } : Room) s m args below meth c D aC G (fun r1 => zfZ D aC G below args s 0 0 (r1, G)) 1 0 0 (FShop_hasRunningNotice FU this G) G 0 [(0, .ref this)] []
  unfold FShop_hasRunningNotice
  refine z_gd ?_
  unfold FShop_hasRunningNotice_b
  refine z_aload_n hC 0 rfl dX7_hasRunningNotice_0 rfl ?_
  refine z_getI hC zF7_21 rfl dX7_hasRunningNotice_1 (fun v1 hv1 => ?_)
  refine z_iconst hC dX7_hasRunningNotice_4 ?_
  refine z_icmp_eq (tgt := 19) hC hv1 (by decide) dX7_hasRunningNotice_5 (by decide) (fun _ => ?_) (fun _ => ?_)
  · refine z_iconst hC dX7_hasRunningNotice_19 ?_
    exact z_zretp hC hr dX7_hasRunningNotice_20
  · refine z_aload_n hC 0 rfl dX7_hasRunningNotice_8 rfl ?_
    refine z_getI hC zF7_70 rfl dX7_hasRunningNotice_9 (fun v2 hv2 => ?_)
    refine z_if_ne (tgt := 19) hC hv2 dX7_hasRunningNotice_12 (by decide) (fun _ => ?_) (fun _ => ?_)
    · refine z_iconst hC dX7_hasRunningNotice_15 ?_
      refine z_goto (tgt := 20) hC dX7_hasRunningNotice_16 (by decide) ?_
      exact z_zretp hC hr dX7_hasRunningNotice_20
    · refine z_iconst hC dX7_hasRunningNotice_19 ?_
      exact z_zretp hC hr dX7_hasRunningNotice_20
theorem SShop_hasRunningNotice_k {FU : Nat} {this : Nat} {G : Hp} {r1 : Int} (h1 : FShop_hasRunningNotice FU this G = some r1) : zk G this = some (7, 0) := zgd_k (k := FShop_hasRunningNotice_b FU this G) h1

set_option maxRecDepth 100000 in
theorem SChain_runningNotices_L4 {p : Program} {l : Launch} {e : Env} {s : State} {m : MethodId} {args : Array Value} {below : List Frame} {meth : Method} {c : Code} {D : va_G} {aC : Nat → ClassId} {G0 : Hp} (hC : zC p m c meth s args cX0_runningNotices 4 RX0 D aC) (hr : meth.sig.returnType = (some .int)) (FU : Nat) : ∀ (n : Nat) (x0 : Nat) (x1 : Int) (x2 : Int) (hx1 : zInI x1) (hx2 : zInI x2), zS p l e ({ frames := 2, cells := 0, slots := 0, locals := 45 } : Room) s m args below meth c D aC G0 (fun r1 => zfI D aC G0 below args s 0 0 (r1, G0)) 4 0 0 (FChain_runningNotices_L4 FU n x0 x1 x2 G0) G0 4 [(0, .ref x0), (1, .int (zi x1)), (2, .int (zi x2))] [] := by
  intro n
  induction n with
  | zero => intros; exact z_none
  | succ n ih =>
    intro x0 x1 x2 hx1 hx2
    rw [FChain_runningNotices_L4]
    refine z_iload_n hC 2 rfl dX0_runningNotices_4 rfl ?_
    refine z_aload_n hC 0 rfl dX0_runningNotices_5 rfl ?_
    refine z_getI hC zF0_21 rfl dX0_runningNotices_6 (fun v1 hv1 => ?_)
    refine z_icmp_ge (tgt := 38) hC hx2 hv1 dX0_runningNotices_9 (by decide) (fun _ => ?_) (fun _ => ?_)
    · refine z_aload_n hC 0 rfl dX0_runningNotices_12 rfl ?_
      refine z_iload_n hC 2 rfl dX0_runningNotices_13 rfl ?_
      refine z_cAp (z_rV (q := x0) (t := 0) (As := [.int (zi x2)]) hC (fun _ h1 => SChain_shopAt FU x0 x2 hx2 h1) (fun _ h1 => SChain_shopAt_k h1) rfl rfl zM0_25 zMv_FChain_shopAt ⟨by decide, by decide⟩ rfl rfl rfl (rest := []) (Nat.le_of_ble_eq_true rfl) ⟨Nat.le_of_ble_eq_true rfl, Nat.le_of_ble_eq_true rfl⟩ rfl dX0_runningNotices_14) (fun v2 => ?_)
      refine z_qstore_n (lo' := [(3, va_rf v2), (0, .ref x0), (1, .int (zi x1)), (2, .int (zi x2))]) hC dX0_runningNotices_17 rfl (by decide) rfl ?_
      refine z_qload_n hC 0 rfl dX0_runningNotices_18 rfl ?_
      refine z_ifnull (tgt := 32) hC dX0_runningNotices_19 (by decide) (fun h0 => ?_) (fun a3 h0 => ?_)
      · subst h0
        refine z_iinc (lo' := fun v4 => [(2, .int (zi v4)), (3, .null), (0, .ref x0), (1, .int (zi x1))]) hC 3 dX0_runningNotices_32 rfl (by decide) (fun _ => rfl) (fun v4 hv4 => ?_)
        refine z_goto (tgt := 4) hC dX0_runningNotices_35 (by decide) ?_
        refine z_sub hC [2, 3, 0] (lo' := [(0, .ref x0), (1, .int (zi x1)), (2, .int (zi v4))]) rfl ?_
        exact ih x0 x1 v4 hx1 hv4
      · subst h0
        refine z_aload_n hC 0 rfl dX0_runningNotices_22 rfl ?_
        refine z_cZp (z_rV (q := a3) (t := 7) (As := []) hC (fun _ h1 => SShop_hasRunningNotice FU a3 h1) (fun _ h1 => SShop_hasRunningNotice_k h1) rfl rfl zM0_59 zMv_FShop_hasRunningNotice ⟨by decide, by decide⟩ rfl rfl rfl (rest := []) (Nat.le_of_ble_eq_true rfl) ⟨Nat.le_of_ble_eq_true rfl, Nat.le_of_ble_eq_true rfl⟩ rfl dX0_runningNotices_23) (fun v5 hv5 => ?_)
        refine z_if_eq (tgt := 32) hC (hv5).i dX0_runningNotices_26 (by decide) (fun _ => ?_) (fun _ => ?_)
        · refine z_iinc (lo' := fun v6 => [(2, .int (zi v6)), (3, .ref a3), (0, .ref x0), (1, .int (zi x1))]) hC 3 dX0_runningNotices_32 rfl (by decide) (fun _ => rfl) (fun v6 hv6 => ?_)
          refine z_goto (tgt := 4) hC dX0_runningNotices_35 (by decide) ?_
          refine z_sub hC [2, 3, 0] (lo' := [(0, .ref x0), (1, .int (zi x1)), (2, .int (zi v6))]) rfl ?_
          exact ih x0 x1 v6 hx1 hv6
        · refine z_iinc (lo' := fun v7 => [(1, .int (zi v7)), (3, .ref a3), (0, .ref x0), (2, .int (zi x2))]) hC 2 dX0_runningNotices_29 rfl (by decide) (fun _ => rfl) (fun v7 hv7 => ?_)
          refine z_iinc (lo' := fun v8 => [(2, .int (zi v8)), (1, .int (zi v7)), (3, .ref a3), (0, .ref x0)]) hC 3 dX0_runningNotices_32 rfl (by decide) (fun _ => rfl) (fun v8 hv8 => ?_)
          refine z_goto (tgt := 4) hC dX0_runningNotices_35 (by decide) ?_
          refine z_sub hC [3, 1, 0] (lo' := [(0, .ref x0), (1, .int (zi v7)), (2, .int (zi v8))]) rfl ?_
          exact ih x0 v7 v8 hv7 hv8
    · refine z_iload_n hC 1 rfl dX0_runningNotices_38 rfl ?_
      exact z_iretp hC hx1 hr dX0_runningNotices_39
set_option maxRecDepth 100000 in
theorem SChain_runningNotices {l : Launch} {D : va_G} {aC : Nat → ClassId} (FU : Nat) (this : Nat) {G : Hp} {r1 : Int} (h1 : FChain_runningNotices FU this G = some r1) : Met l yX0_runningNotices (Cond.code yX0_runningNotices cX0_runningNotices 4 (some .int) :: zgood) ({ frames := 2, cells := 0, slots := 0, locals := 45 } : Room) (va_Pc [.ref this] (zU D aC G)) (zQ D aC G (zInI r1) (some (.int (zi r1))) G) 0 0 (zA G) := by
  refine z_met (y := yX0_runningNotices) (b := cX0_runningNotices) (maxL := 4) (mc := 0) (ms := 0) (ret := (some .int)) (As := [.ref this]) (Q1 := fun r1 => zQ D aC G (zInI r1) (some (.int (zi r1))) G) (X := FChain_runningNotices FU this G) (by decide) (Nat.le_of_ble_eq_true rfl) ?_ h1
  intro p e s m below meth c hC hr hi
  have hC : zC p m c meth s ([.ref this] : List Value).toArray cX0_runningNotices 4 RX0 D aC := hC
  generalize ([.ref this] : List Value).toArray = args at hC ⊢
  show zS p l e ({ frames := 2, cells := 0, slots := 0, locals := 45 } : Room) s m args below meth c D aC G (fun r1 => zfI D aC G below args s 0 0 (r1, G)) 4 0 0 (FChain_runningNotices FU this G) G 0 [(0, .ref this)] []
  unfold FChain_runningNotices
  refine z_gd ?_
  unfold FChain_runningNotices_b
  refine z_iconst hC dX0_runningNotices_0 ?_
  refine z_istore_n (lo' := [(1, .int (zi (0))), (0, .ref this)]) hC dX0_runningNotices_1 rfl (by decide) rfl ?_
  refine z_iconst hC dX0_runningNotices_2 ?_
  refine z_istore_n (lo' := [(2, .int (zi (0))), (1, .int (zi (0))), (0, .ref this)]) hC dX0_runningNotices_3 rfl (by decide) rfl ?_
  refine z_sub hC [2, 1, 0] (lo' := [(0, .ref this), (1, .int (zi (0))), (2, .int (zi (0)))]) rfl ?_
  exact SChain_runningNotices_L4 hC hr FU FU this (0) (0) (by decide) (by decide)
theorem SChain_runningNotices_k {FU : Nat} {this : Nat} {G : Hp} {r1 : Int} (h1 : FChain_runningNotices FU this G = some r1) : zk G this = some (0, 0) := zgd_k (k := FChain_runningNotices_b FU this G) h1

set_option maxRecDepth 100000 in
theorem SShop_endNotice {l : Launch} {D : va_G} {aC : Nat → ClassId} (FU : Nat) (this : Nat) (p1 : Int) (p2 : Int) (hp1 : zInI p1) (hp2 : zInI p2) {G : Hp} {r1 : (Unit × Hp)} (h1 : FShop_endNotice FU this p1 p2 G = some r1) : Met l yX7_endNotice (Cond.code yX7_endNotice cX7_endNotice 3 none :: zgood) ({ frames := 2, cells := 0, slots := 0, locals := 44 } : Room) (va_Pc [.ref this, .int (zi p1), .int (zi p2)] (zU D aC G)) (zQ D aC G (True) (none) r1.2) 0 0 (zA G) := by
  refine z_met (y := yX7_endNotice) (b := cX7_endNotice) (maxL := 3) (mc := 0) (ms := 0) (ret := none) (As := [.ref this, .int (zi p1), .int (zi p2)]) (Q1 := fun r1 => zQ D aC G (True) (none) r1.2) (X := FShop_endNotice FU this p1 p2 G) (by decide) (Nat.le_of_ble_eq_true rfl) ?_ h1
  intro p e s m below meth c hC hr hi
  have hC : zC p m c meth s ([.ref this, .int (zi p1), .int (zi p2)] : List Value).toArray cX7_endNotice 3 RX7 D aC := hC
  generalize ([.ref this, .int (zi p1), .int (zi p2)] : List Value).toArray = args at hC ⊢
  show zS p l e ({ frames := 2, cells := 0, slots := 0, locals := 44 } : Room) s m args below meth c D aC G (zfV D aC G below args s 0 0) 3 0 0 (FShop_endNotice FU this p1 p2 G) G 0 [(0, .ref this), (1, .int (zi p1)), (2, .int (zi p2))] []
  unfold FShop_endNotice
  refine z_gd ?_
  unfold FShop_endNotice_b
  refine z_aload_n hC 0 rfl dX7_endNotice_0 rfl ?_
  refine z_cZp (z_rV (q := this) (t := 7) (As := []) hC (fun _ h1 => SShop_hasRunningNotice FU this h1) (fun _ h1 => SShop_hasRunningNotice_k h1) rfl rfl zM7_76 zMv_FShop_hasRunningNotice ⟨by decide, by decide⟩ rfl rfl rfl (rest := []) (Nat.le_of_ble_eq_true rfl) ⟨Nat.le_of_ble_eq_true rfl, Nat.le_of_ble_eq_true rfl⟩ rfl dX7_endNotice_1) (fun v1 hv1 => ?_)
  refine z_if_ne (tgt := 8) hC (hv1).i dX7_endNotice_4 (by decide) (fun _ => ?_) (fun _ => ?_)
  · exact z_vret hC hr dX7_endNotice_7
  · refine z_aload_n hC 0 rfl dX7_endNotice_8 rfl ?_
    refine z_iload_n hC 1 rfl dX7_endNotice_9 rfl ?_
    refine z_putI hC hp1 zF7_70 rfl rfl dX7_endNotice_10 (fun G2 => ?_)
    refine z_aload_n hC 0 rfl dX7_endNotice_13 rfl ?_
    refine z_iload_n hC 2 rfl dX7_endNotice_14 rfl ?_
    refine z_putI hC hp2 zF7_73 rfl rfl dX7_endNotice_15 (fun G3 => ?_)
    exact z_vret hC hr dX7_endNotice_18
theorem SShop_endNotice_k {FU : Nat} {this : Nat} {p1 : Int} {p2 : Int} {G : Hp} {r1 : (Unit × Hp)} (h1 : FShop_endNotice FU this p1 p2 G = some r1) : zk G this = some (7, 0) := zgd_k (k := FShop_endNotice_b FU this p1 p2 G) h1

set_option maxRecDepth 100000 in
theorem SShop_shut {l : Launch} {D : va_G} {aC : Nat → ClassId} (FU : Nat) (this : Nat) (p1 : Int) (p2 : Int) (hp1 : zInI p1) (hp2 : zInI p2) {G : Hp} {r1 : (Unit × Hp)} (h1 : FShop_shut FU this p1 p2 G = some r1) : Met l yX7_shut (Cond.code yX7_shut cX7_shut 3 none :: zgood) ({ frames := 3, cells := 0, slots := 0, locals := 66 } : Room) (va_Pc [.ref this, .int (zi p1), .int (zi p2)] (zU D aC G)) (zQ D aC G (True) (none) r1.2) 0 0 (zA G) := by
  refine z_met (y := yX7_shut) (b := cX7_shut) (maxL := 3) (mc := 0) (ms := 0) (ret := none) (As := [.ref this, .int (zi p1), .int (zi p2)]) (Q1 := fun r1 => zQ D aC G (True) (none) r1.2) (X := FShop_shut FU this p1 p2 G) (by decide) (Nat.le_of_ble_eq_true rfl) ?_ h1
  intro p e s m below meth c hC hr hi
  have hC : zC p m c meth s ([.ref this, .int (zi p1), .int (zi p2)] : List Value).toArray cX7_shut 3 RX7 D aC := hC
  generalize ([.ref this, .int (zi p1), .int (zi p2)] : List Value).toArray = args at hC ⊢
  show zS p l e ({ frames := 3, cells := 0, slots := 0, locals := 66 } : Room) s m args below meth c D aC G (zfV D aC G below args s 0 0) 3 0 0 (FShop_shut FU this p1 p2 G) G 0 [(0, .ref this), (1, .int (zi p1)), (2, .int (zi p2))] []
  unfold FShop_shut
  refine z_gd ?_
  unfold FShop_shut_b
  refine z_aload_n hC 0 rfl dX7_shut_0 rfl ?_
  refine z_iload_n hC 1 rfl dX7_shut_1 rfl ?_
  refine z_putI hC hp1 zF7_17 rfl rfl dX7_shut_2 (fun G1 => ?_)
  refine z_aload_n hC 0 rfl dX7_shut_5 rfl ?_
  refine z_iload_n hC 2 rfl dX7_shut_6 rfl ?_
  refine z_iload_n hC 1 rfl dX7_shut_7 rfl ?_
  refine z_cV (z_rV (q := this) (t := 7) (As := [.int (zi p2), .int (zi p1)]) hC (fun _ h1 => SShop_endNotice FU this p2 p1 hp2 hp1 h1) (fun _ h1 => SShop_endNotice_k h1) rfl rfl zM7_36 zMv_FShop_endNotice ⟨by decide, by decide⟩ rfl rfl rfl (rest := []) (Nat.le_of_ble_eq_true rfl) ⟨Nat.le_of_ble_eq_true rfl, Nat.le_of_ble_eq_true rfl⟩ rfl dX7_shut_8) (fun G2 => ?_)
  exact z_vret hC hr dX7_shut_11
theorem SShop_shut_k {FU : Nat} {this : Nat} {p1 : Int} {p2 : Int} {G : Hp} {r1 : (Unit × Hp)} (h1 : FShop_shut FU this p1 p2 G = some r1) : zk G this = some (7, 0) := zgd_k (k := FShop_shut_b FU this p1 p2 G) h1

set_option maxRecDepth 100000 in
theorem SChain_lapseNotices_L2 {p : Program} {l : Launch} {e : Env} {s : State} {m : MethodId} {args : Array Value} {below : List Frame} {meth : Method} {c : Code} {D : va_G} {aC : Nat → ClassId} {G0 : Hp} (hC : zC p m c meth s args cX0_lapseNotices 4 RX0 D aC) (hr : meth.sig.returnType = none) (FU : Nat) : ∀ (n : Nat) (x0 : Nat) (x1 : Int) (x2 : Int) (G : Hp) (hx1 : zInI x1) (hx2 : zInI x2), zS p l e ({ frames := 4, cells := 0, slots := 0, locals := 88 } : Room) s m args below meth c D aC G0 (zfV D aC G0 below args s 0 0) 4 0 0 (FChain_lapseNotices_L2 FU n x0 x1 x2 G) G 2 [(0, .ref x0), (1, .int (zi x1)), (2, .int (zi x2))] [] := by
  intro n
  induction n with
  | zero => intros; exact z_none
  | succ n ih =>
    intro x0 x1 x2 G hx1 hx2
    rw [FChain_lapseNotices_L2]
    refine z_iload_n hC 2 rfl dX0_lapseNotices_2 rfl ?_
    refine z_aload_n hC 0 rfl dX0_lapseNotices_3 rfl ?_
    refine z_getI hC zF0_21 rfl dX0_lapseNotices_4 (fun v1 hv1 => ?_)
    refine z_icmp_ge (tgt := 50) hC hx2 hv1 dX0_lapseNotices_7 (by decide) (fun _ => ?_) (fun _ => ?_)
    · refine z_aload_n hC 0 rfl dX0_lapseNotices_10 rfl ?_
      refine z_iload_n hC 2 rfl dX0_lapseNotices_11 rfl ?_
      refine z_cAp (z_rV (q := x0) (t := 0) (As := [.int (zi x2)]) hC (fun _ h1 => SChain_shopAt FU x0 x2 hx2 h1) (fun _ h1 => SChain_shopAt_k h1) rfl rfl zM0_25 zMv_FChain_shopAt ⟨by decide, by decide⟩ rfl rfl rfl (rest := []) (Nat.le_of_ble_eq_true rfl) ⟨Nat.le_of_ble_eq_true rfl, Nat.le_of_ble_eq_true rfl⟩ rfl dX0_lapseNotices_12) (fun v2 => ?_)
      refine z_qstore_n (lo' := [(3, va_rf v2), (0, .ref x0), (1, .int (zi x1)), (2, .int (zi x2))]) hC dX0_lapseNotices_15 rfl (by decide) rfl ?_
      refine z_qload_n hC 0 rfl dX0_lapseNotices_16 rfl ?_
      refine z_ifnull (tgt := 44) hC dX0_lapseNotices_17 (by decide) (fun h0 => ?_) (fun a3 h0 => ?_)
      · subst h0
        refine z_iinc (lo' := fun v4 => [(2, .int (zi v4)), (3, .null), (0, .ref x0), (1, .int (zi x1))]) hC 3 dX0_lapseNotices_44 rfl (by decide) (fun _ => rfl) (fun v4 hv4 => ?_)
        refine z_goto (tgt := 2) hC dX0_lapseNotices_47 (by decide) ?_
        refine z_sub hC [2, 3, 0] (lo' := [(0, .ref x0), (1, .int (zi x1)), (2, .int (zi v4))]) rfl ?_
        exact ih x0 x1 v4 G hx1 hv4
      · subst h0
        refine z_aload_n hC 0 rfl dX0_lapseNotices_20 rfl ?_
        refine z_cZp (z_rV (q := a3) (t := 7) (As := []) hC (fun _ h1 => SShop_hasRunningNotice FU a3 h1) (fun _ h1 => SShop_hasRunningNotice_k h1) rfl rfl zM0_59 zMv_FShop_hasRunningNotice ⟨by decide, by decide⟩ rfl rfl rfl (rest := []) (Nat.le_of_ble_eq_true rfl) ⟨Nat.le_of_ble_eq_true rfl, Nat.le_of_ble_eq_true rfl⟩ rfl dX0_lapseNotices_21) (fun v5 hv5 => ?_)
        refine z_if_ne (tgt := 30) hC (hv5).i dX0_lapseNotices_24 (by decide) (fun _ => ?_) (fun _ => ?_)
        · refine z_goto (tgt := 44) hC dX0_lapseNotices_27 (by decide) ?_
          refine z_iinc (lo' := fun v6 => [(2, .int (zi v6)), (3, .ref a3), (0, .ref x0), (1, .int (zi x1))]) hC 3 dX0_lapseNotices_44 rfl (by decide) (fun _ => rfl) (fun v6 hv6 => ?_)
          refine z_goto (tgt := 2) hC dX0_lapseNotices_47 (by decide) ?_
          refine z_sub hC [2, 3, 0] (lo' := [(0, .ref x0), (1, .int (zi x1)), (2, .int (zi v6))]) rfl ?_
          exact ih x0 x1 v6 G hx1 hv6
        · refine z_iload_n hC 2 rfl dX0_lapseNotices_30 rfl ?_
          refine z_aload_n hC 0 rfl dX0_lapseNotices_31 rfl ?_
          refine z_getI hC zF0_62 rfl dX0_lapseNotices_32 (fun v7 hv7 => ?_)
          refine z_icmp_le (tgt := 44) hC hx1 hv7 dX0_lapseNotices_35 (by decide) (fun _ => ?_) (fun _ => ?_)
          · refine z_iinc (lo' := fun v8 => [(2, .int (zi v8)), (3, .ref a3), (0, .ref x0), (1, .int (zi x1))]) hC 3 dX0_lapseNotices_44 rfl (by decide) (fun _ => rfl) (fun v8 hv8 => ?_)
            refine z_goto (tgt := 2) hC dX0_lapseNotices_47 (by decide) ?_
            refine z_sub hC [2, 3, 0] (lo' := [(0, .ref x0), (1, .int (zi x1)), (2, .int (zi v8))]) rfl ?_
            exact ih x0 x1 v8 G hx1 hv8
          · refine z_aload_n hC 0 rfl dX0_lapseNotices_38 rfl ?_
            refine z_iload_n hC 2 rfl dX0_lapseNotices_39 rfl ?_
            refine z_iconst hC dX0_lapseNotices_40 ?_
            refine z_cV (z_rV (q := a3) (t := 7) (As := [.int (zi x1), .int (zi (2))]) hC (fun _ h1 => SShop_shut FU a3 x1 (2) hx1 (by decide) h1) (fun _ h1 => SShop_shut_k h1) rfl rfl zM0_65 zMv_FShop_shut ⟨by decide, by decide⟩ rfl rfl rfl (rest := []) (Nat.le_of_ble_eq_true rfl) ⟨Nat.le_of_ble_eq_true rfl, Nat.le_of_ble_eq_true rfl⟩ rfl dX0_lapseNotices_41) (fun G9 => ?_)
            refine z_iinc (lo' := fun v10 => [(2, .int (zi v10)), (3, .ref a3), (0, .ref x0), (1, .int (zi x1))]) hC 3 dX0_lapseNotices_44 rfl (by decide) (fun _ => rfl) (fun v10 hv10 => ?_)
            refine z_goto (tgt := 2) hC dX0_lapseNotices_47 (by decide) ?_
            refine z_sub hC [2, 3, 0] (lo' := [(0, .ref x0), (1, .int (zi x1)), (2, .int (zi v10))]) rfl ?_
            exact ih x0 x1 v10 G9 hx1 hv10
    · exact z_vret hC hr dX0_lapseNotices_50
set_option maxRecDepth 100000 in
theorem SChain_lapseNotices {l : Launch} {D : va_G} {aC : Nat → ClassId} (FU : Nat) (this : Nat) (p1 : Int) (hp1 : zInI p1) {G : Hp} {r1 : (Unit × Hp)} (h1 : FChain_lapseNotices FU this p1 G = some r1) : Met l yX0_lapseNotices (Cond.code yX0_lapseNotices cX0_lapseNotices 4 none :: zgood) ({ frames := 4, cells := 0, slots := 0, locals := 88 } : Room) (va_Pc [.ref this, .int (zi p1)] (zU D aC G)) (zQ D aC G (True) (none) r1.2) 0 0 (zA G) := by
  refine z_met (y := yX0_lapseNotices) (b := cX0_lapseNotices) (maxL := 4) (mc := 0) (ms := 0) (ret := none) (As := [.ref this, .int (zi p1)]) (Q1 := fun r1 => zQ D aC G (True) (none) r1.2) (X := FChain_lapseNotices FU this p1 G) (by decide) (Nat.le_of_ble_eq_true rfl) ?_ h1
  intro p e s m below meth c hC hr hi
  have hC : zC p m c meth s ([.ref this, .int (zi p1)] : List Value).toArray cX0_lapseNotices 4 RX0 D aC := hC
  generalize ([.ref this, .int (zi p1)] : List Value).toArray = args at hC ⊢
  show zS p l e ({ frames := 4, cells := 0, slots := 0, locals := 88 } : Room) s m args below meth c D aC G (zfV D aC G below args s 0 0) 4 0 0 (FChain_lapseNotices FU this p1 G) G 0 [(0, .ref this), (1, .int (zi p1))] []
  unfold FChain_lapseNotices
  refine z_gd ?_
  unfold FChain_lapseNotices_b
  refine z_iconst hC dX0_lapseNotices_0 ?_
  refine z_istore_n (lo' := [(2, .int (zi (0))), (0, .ref this), (1, .int (zi p1))]) hC dX0_lapseNotices_1 rfl (by decide) rfl ?_
  refine z_sub hC [1, 2, 0] (lo' := [(0, .ref this), (1, .int (zi p1)), (2, .int (zi (0)))]) rfl ?_
  exact SChain_lapseNotices_L2 hC hr FU FU this p1 (0) G hp1 (by decide)
theorem SChain_lapseNotices_k {FU : Nat} {this : Nat} {p1 : Int} {G : Hp} {r1 : (Unit × Hp)} (h1 : FChain_lapseNotices FU this p1 G = some r1) : zk G this = some (0, 0) := zgd_k (k := FChain_lapseNotices_b FU this p1 G) h1

set_option maxRecDepth 100000 in
theorem SFund_init {l : Launch} {D : va_G} {aC : Nat → ClassId} (FU : Nat) (this : Nat) (p1 : Nat) {G : Hp} {r1 : (Unit × Hp)} (h1 : FFund_init FU this p1 G = some r1) : Met l yX1_init (Cond.code yX1_init cX1_init 2 none :: zgood) ({ frames := 1, cells := 1, slots := 40, locals := 24 } : Room) (va_Pc [.ref this, .ref p1] (zU D aC G)) (zQ D aC G (True) (none) r1.2) 1 40 (zA G) := by
  refine z_met (y := yX1_init) (b := cX1_init) (maxL := 2) (mc := 1) (ms := 40) (ret := none) (As := [.ref this, .ref p1]) (Q1 := fun r1 => zQ D aC G (True) (none) r1.2) (X := FFund_init FU this p1 G) (by decide) (Nat.le_of_ble_eq_true rfl) ?_ h1
  intro p e s m below meth c hC hr hi
  have hC : zC p m c meth s ([.ref this, .ref p1] : List Value).toArray cX1_init 2 RX1 D aC := hC
  generalize ([.ref this, .ref p1] : List Value).toArray = args at hC ⊢
  show zS p l e ({ frames := 1, cells := 1, slots := 40, locals := 24 } : Room) s m args below meth c D aC G (zfV D aC G below args s 1 40) 2 0 0 (FFund_init FU this p1 G) G 0 [(0, .ref this), (1, .ref p1)] []
  unfold FFund_init
  refine z_aload_n hC 0 rfl dX1_init_0 rfl ?_
  refine z_objInit hC zO1_3 ⟨by decide, by decide⟩ ⟨by decide, by decide⟩ dX1_init_1 ?_
  refine z_aload_n hC 0 rfl dX1_init_4 rfl ?_
  refine z_bipush hC dX1_init_5 rfl ?_
  refine z_newarr20 hC 40 rfl (by decide) (zgood_in 155 (by decide +kernel) (by decide +kernel)) (by decide) (by decide) dX1_init_7 (fun a1 G2 => ?_)
  refine z_widen (k := 1) (n := 40) (by decide) (by decide) ?_
  refine z_putFR hC (t := 1) (k := 1) rfl (by decide) rfl (zgood_in 331 (by decide +kernel) (by decide +kernel)) rfl rfl hi rfl dX1_init_9 (fun G3 => ?_)
  refine z_aload_n hC 0 rfl dX1_init_12 rfl ?_
  refine z_aload_n hC 1 rfl dX1_init_13 rfl ?_
  refine z_putFR hC (t := 1) (k := 0) rfl (by decide) rfl (zgood_in 330 (by decide +kernel) (by decide +kernel)) rfl rfl hi rfl dX1_init_14 (fun G4 => ?_)
  exact z_vret hC hr dX1_init_17

set_option maxRecDepth 100000 in
theorem SFund_allGains_L4 {p : Program} {l : Launch} {e : Env} {s : State} {m : MethodId} {args : Array Value} {below : List Frame} {meth : Method} {c : Code} {D : va_G} {aC : Nat → ClassId} {G0 : Hp} (hC : zC p m c meth s args cX1_allGains 4 RX1 D aC) (hr : meth.sig.returnType = (some .int)) (FU : Nat) : ∀ (n : Nat) (x0 : Nat) (x1 : Int) (x2 : Int) (hx1 : zInI x1) (hx2 : zInI x2), zS p l e ({ frames := 2, cells := 0, slots := 0, locals := 45 } : Room) s m args below meth c D aC G0 (fun r1 => zfI D aC G0 below args s 0 0 (r1, G0)) 4 0 0 (FFund_allGains_L4 FU n x0 x1 x2 G0) G0 4 [(0, .ref x0), (1, .int (zi x1)), (2, .int (zi x2))] [] := by
  intro n
  induction n with
  | zero => intros; exact z_none
  | succ n ih =>
    intro x0 x1 x2 hx1 hx2
    rw [FFund_allGains_L4]
    refine z_iload_n hC 2 rfl dX1_allGains_4 rfl ?_
    refine z_aload_n hC 0 rfl dX1_allGains_5 rfl ?_
    refine z_getQ hC zF1_15 rfl dX1_allGains_6 (fun v1 => ?_)
    refine z_getI hC zF1_34 rfl dX1_allGains_9 (fun v2 hv2 => ?_)
    refine z_icmp_ge (tgt := 41) hC hx2 hv2 dX1_allGains_12 (by decide) (fun _ => ?_) (fun _ => ?_)
    · refine z_aload_n hC 0 rfl dX1_allGains_15 rfl ?_
      refine z_getQ hC zF1_15 rfl dX1_allGains_16 (fun v3 => ?_)
      refine z_iload_n hC 2 rfl dX1_allGains_19 rfl ?_
      refine z_cAp (z_rV (q := v3) (t := 0) (As := [.int (zi x2)]) hC (fun _ h1 => SChain_shopAt FU v3 x2 hx2 h1) (fun _ h1 => SChain_shopAt_k h1) rfl rfl zM1_39 zMv_FChain_shopAt ⟨by decide, by decide⟩ rfl rfl rfl (rest := []) (Nat.le_of_ble_eq_true rfl) ⟨Nat.le_of_ble_eq_true rfl, Nat.le_of_ble_eq_true rfl⟩ rfl dX1_allGains_20) (fun v4 => ?_)
      refine z_qstore_n (lo' := [(3, va_rf v4), (0, .ref x0), (1, .int (zi x1)), (2, .int (zi x2))]) hC dX1_allGains_23 rfl (by decide) rfl ?_
      refine z_qload_n hC 0 rfl dX1_allGains_24 rfl ?_
      refine z_ifnull (tgt := 35) hC dX1_allGains_25 (by decide) (fun h0 => ?_) (fun a5 h0 => ?_)
      · subst h0
        refine z_iinc (lo' := fun v6 => [(2, .int (zi v6)), (3, .null), (0, .ref x0), (1, .int (zi x1))]) hC 3 dX1_allGains_35 rfl (by decide) (fun _ => rfl) (fun v6 hv6 => ?_)
        refine z_goto (tgt := 4) hC dX1_allGains_38 (by decide) ?_
        refine z_sub hC [2, 3, 0] (lo' := [(0, .ref x0), (1, .int (zi x1)), (2, .int (zi v6))]) rfl ?_
        exact ih x0 x1 v6 hx1 hv6
      · subst h0
        refine z_iload_n hC 2 rfl dX1_allGains_28 rfl ?_
        refine z_aload_n hC 0 rfl dX1_allGains_29 rfl ?_
        refine z_getI hC zF1_43 rfl dX1_allGains_30 (fun v7 hv7 => ?_)
        refine z_iadd hC dX1_allGains_33 (fun v8 hv8 => ?_)
        refine z_istore_n (lo' := [(1, .int (zi v8)), (3, .ref a5), (0, .ref x0), (2, .int (zi x2))]) hC dX1_allGains_34 rfl (by decide) rfl ?_
        refine z_iinc (lo' := fun v9 => [(2, .int (zi v9)), (1, .int (zi v8)), (3, .ref a5), (0, .ref x0)]) hC 3 dX1_allGains_35 rfl (by decide) (fun _ => rfl) (fun v9 hv9 => ?_)
        refine z_goto (tgt := 4) hC dX1_allGains_38 (by decide) ?_
        refine z_sub hC [3, 1, 0] (lo' := [(0, .ref x0), (1, .int (zi v8)), (2, .int (zi v9))]) rfl ?_
        exact ih x0 v8 v9 hv8 hv9
    · refine z_iload_n hC 1 rfl dX1_allGains_41 rfl ?_
      exact z_iretp hC hx1 hr dX1_allGains_42
set_option maxRecDepth 100000 in
theorem SFund_allGains {l : Launch} {D : va_G} {aC : Nat → ClassId} (FU : Nat) (this : Nat) {G : Hp} {r1 : Int} (h1 : FFund_allGains FU this G = some r1) : Met l yX1_allGains (Cond.code yX1_allGains cX1_allGains 4 (some .int) :: zgood) ({ frames := 2, cells := 0, slots := 0, locals := 45 } : Room) (va_Pc [.ref this] (zU D aC G)) (zQ D aC G (zInI r1) (some (.int (zi r1))) G) 0 0 (zA G) := by
  refine z_met (y := yX1_allGains) (b := cX1_allGains) (maxL := 4) (mc := 0) (ms := 0) (ret := (some .int)) (As := [.ref this]) (Q1 := fun r1 => zQ D aC G (zInI r1) (some (.int (zi r1))) G) (X := FFund_allGains FU this G) (by decide) (Nat.le_of_ble_eq_true rfl) ?_ h1
  intro p e s m below meth c hC hr hi
  have hC : zC p m c meth s ([.ref this] : List Value).toArray cX1_allGains 4 RX1 D aC := hC
  generalize ([.ref this] : List Value).toArray = args at hC ⊢
  show zS p l e ({ frames := 2, cells := 0, slots := 0, locals := 45 } : Room) s m args below meth c D aC G (fun r1 => zfI D aC G below args s 0 0 (r1, G)) 4 0 0 (FFund_allGains FU this G) G 0 [(0, .ref this)] []
  unfold FFund_allGains
  refine z_gd ?_
  unfold FFund_allGains_b
  refine z_iconst hC dX1_allGains_0 ?_
  refine z_istore_n (lo' := [(1, .int (zi (0))), (0, .ref this)]) hC dX1_allGains_1 rfl (by decide) rfl ?_
  refine z_iconst hC dX1_allGains_2 ?_
  refine z_istore_n (lo' := [(2, .int (zi (0))), (1, .int (zi (0))), (0, .ref this)]) hC dX1_allGains_3 rfl (by decide) rfl ?_
  refine z_sub hC [2, 1, 0] (lo' := [(0, .ref this), (1, .int (zi (0))), (2, .int (zi (0)))]) rfl ?_
  exact SFund_allGains_L4 hC hr FU FU this (0) (0) (by decide) (by decide)
theorem SFund_allGains_k {FU : Nat} {this : Nat} {G : Hp} {r1 : Int} (h1 : FFund_allGains FU this G = some r1) : zk G this = some (1, 0) := zgd_k (k := FFund_allGains_b FU this G) h1

set_option maxRecDepth 100000 in
theorem SB_put {l : Launch} {D : va_G} {aC : Nat → ClassId} (FU : Nat) (p1 : Nat) (p2 : Int) (p3 : Int) (hp2 : zInI p2) (hp3 : zInI p3) {G : Hp} {r1 : (Unit × Hp)} (h1 : FB_put FU p1 p2 p3 G = some r1) : Met l yX11_put (Cond.code yX11_put cX11_put 3 none :: zgood) ({ frames := 1, cells := 0, slots := 0, locals := 24 } : Room) (va_Pc [.ref p1, .int (zi p2), .int (zi p3)] (zU D aC G)) (zQ D aC G (True) (none) r1.2) 0 0 (zA G) := by
  refine z_met (y := yX11_put) (b := cX11_put) (maxL := 3) (mc := 0) (ms := 0) (ret := none) (As := [.ref p1, .int (zi p2), .int (zi p3)]) (Q1 := fun r1 => zQ D aC G (True) (none) r1.2) (X := FB_put FU p1 p2 p3 G) (by decide) (Nat.le_of_ble_eq_true rfl) ?_ h1
  intro p e s m below meth c hC hr hi
  have hC : zC p m c meth s ([.ref p1, .int (zi p2), .int (zi p3)] : List Value).toArray cX11_put 3 RX11 D aC := hC
  generalize ([.ref p1, .int (zi p2), .int (zi p3)] : List Value).toArray = args at hC ⊢
  show zS p l e ({ frames := 1, cells := 0, slots := 0, locals := 24 } : Room) s m args below meth c D aC G (zfV D aC G below args s 0 0) 3 0 0 (FB_put FU p1 p2 p3 G) G 0 [(0, .ref p1), (1, .int (zi p2)), (2, .int (zi p3))] []
  unfold FB_put
  refine z_iload_n hC 1 rfl dX11_put_0 rfl ?_
  refine z_if_lt (tgt := 14) hC hp2 dX11_put_1 (by decide) (fun _ => ?_) (fun _ => ?_)
  · exact z_vret hC hr dX11_put_14
  · refine z_iload_n hC 1 rfl dX11_put_4 rfl ?_
    refine z_aload_n hC 0 rfl dX11_put_5 rfl ?_
    refine z_alen20 hC dX11_put_6 (fun v1 hv1 => ?_)
    refine z_icmp_ge (tgt := 14) hC hp2 hv1 dX11_put_7 (by decide) (fun _ => ?_) (fun _ => ?_)
    · refine z_aload_n hC 0 rfl dX11_put_10 rfl ?_
      refine z_iload_n hC 1 rfl dX11_put_11 rfl ?_
      refine z_iload_n hC 2 rfl dX11_put_12 rfl ?_
      refine z_iast hC hp2 hp3 dX11_put_13 (fun G2 => ?_)
      exact z_vret hC hr dX11_put_14
    · exact z_vret hC hr dX11_put_14

