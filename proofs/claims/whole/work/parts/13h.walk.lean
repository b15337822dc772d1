set_option maxRecDepth 100000 in
theorem SM_reach {l : Launch} {D : va_G} {aC : Nat → ClassId} (FU : Nat) (this : Nat) (p1 : Int) (p2 : Int) (hp1 : zInI p1) (hp2 : zInI p2) {G : Hp} {r1 : (Int × Hp)} (h1 : FM_reach FU this p1 p2 G = some r1) : Met l yX12_reach (Cond.code yX12_reach cX12_reach 4 (some .int) :: zgood) ({ frames := 2, cells := 0, slots := 0, locals := 46 } : Room) (va_Pc [.ref this, .int (zi p1), .int (zi p2)] (zU D aC G)) (zQ D aC G (zInI r1.1) (some (.int (zi r1.1))) r1.2) 0 0 (zA G) := by
  refine z_met (y := yX12_reach) (b := cX12_reach) (maxL := 4) (mc := 0) (ms := 0) (ret := (some .int)) (As := [.ref this, .int (zi p1), .int (zi p2)]) (Q1 := fun r1 => zQ D aC G (zInI r1.1) (some (.int (zi r1.1))) r1.2) (X := FM_reach FU this p1 p2 G) (by decide) (Nat.le_of_ble_eq_true rfl) ?_ h1
  intro p e s m below meth c hC hr hi
  have hC : zC p m c meth s ([.ref this, .int (zi p1), .int (zi p2)] : List Value).toArray cX12_reach 4 RX12 D aC := hC
  generalize ([.ref this, .int (zi p1), .int (zi p2)] : List Value).toArray = args at hC ⊢
  show zS p l e ({ frames := 2, cells := 0, slots := 0, locals := 46 } : Room) s m args below meth c D aC G (zfI D aC G below args s 0 0) 4 0 0 (FM_reach FU this p1 p2 G) G 0 [(0, .ref this), (1, .int (zi p1)), (2, .int (zi p2))] []
  unfold FM_reach
  refine z_gd ?_
  unfold FM_reach_b
  refine z_aload_n hC 0 rfl dX12_reach_0 rfl ?_
  refine z_iload_n hC 1 rfl dX12_reach_1 rfl ?_
  refine z_cZp (z_rV (q := this) (t := 12) (As := [.int (zi p1)]) hC (fun _ h1 => SM_isShop FU this p1 hp1 h1) (fun _ h1 => SM_isShop_k h1) rfl rfl zM12_192 zMv_FM_isShop ⟨by decide, by decide⟩ rfl rfl rfl (rest := []) (Nat.le_of_ble_eq_true rfl) ⟨Nat.le_of_ble_eq_true rfl, Nat.le_of_ble_eq_true rfl⟩ rfl dX12_reach_2) (fun v1 hv1 => ?_)
  refine z_if_eq (tgt := 19) hC (hv1).i dX12_reach_5 (by decide) (fun _ => ?_) (fun _ => ?_)
  · refine z_iconst hC dX12_reach_19 ?_
    exact z_iret hC (by decide) hr dX12_reach_20
  · refine z_iload_n hC 2 rfl dX12_reach_8 rfl ?_
    refine z_iconst hC dX12_reach_9 ?_
    refine z_sipush hC dX12_reach_10 rfl ?_
    refine z_cZp (z_rS (As := [.int (zi p2), .int (zi (0)), .int (zi (999))]) hC (fun _ h1 => SM_within FU p2 (0) (999) hp2 (by decide) (by decide) h1) zM12_142 zMs_FM_within ⟨by decide, by decide⟩ rfl rfl rfl (rest := []) (Nat.le_of_ble_eq_true rfl) ⟨Nat.le_of_ble_eq_true rfl, Nat.le_of_ble_eq_true rfl⟩ rfl dX12_reach_13) (fun v2 hv2 => ?_)
    refine z_if_ne (tgt := 21) hC (hv2).i dX12_reach_16 (by decide) (fun _ => ?_) (fun _ => ?_)
    · refine z_iconst hC dX12_reach_19 ?_
      exact z_iret hC (by decide) hr dX12_reach_20
    · refine z_aload_n hC 0 rfl dX12_reach_21 rfl ?_
      refine z_iload_n hC 1 rfl dX12_reach_22 rfl ?_
      refine z_cZp (z_rV (q := this) (t := 12) (As := [.int (zi p1)]) hC (fun _ h1 => SM_isOpen FU this p1 hp1 h1) (fun _ h1 => SM_isOpen_k h1) rfl rfl zM12_176 zMv_FM_isOpen ⟨by decide, by decide⟩ rfl rfl rfl (rest := []) (Nat.le_of_ble_eq_true rfl) ⟨Nat.le_of_ble_eq_true rfl, Nat.le_of_ble_eq_true rfl⟩ rfl dX12_reach_23) (fun v3 hv3 => ?_)
      refine z_if_ne (tgt := 32) hC (hv3).i dX12_reach_26 (by decide) (fun _ => ?_) (fun _ => ?_)
      · refine z_bipush hC dX12_reach_29 rfl ?_
        exact z_iret hC (by decide) hr dX12_reach_31
      · refine z_aload_n hC 0 rfl dX12_reach_32 rfl ?_
        refine z_getQ hC zF12_41 rfl dX12_reach_33 (fun v4 => ?_)
        refine z_iload_n hC 1 rfl dX12_reach_36 rfl ?_
        refine z_iald hC hp1 dX12_reach_37 (fun v5 hv5 => ?_)
        refine z_istore_n (lo' := [(3, .int (zi v5)), (0, .ref this), (1, .int (zi p1)), (2, .int (zi p2))]) hC dX12_reach_38 rfl (by decide) rfl ?_
        refine z_aload_n hC 1 rfl dX12_reach_39 rfl ?_
        refine z_getQ hC zF12_41 rfl dX12_reach_40 (fun v6 => ?_)
        refine z_iload_n hC 2 rfl dX12_reach_43 rfl ?_
        refine z_iload_n hC 3 rfl dX12_reach_44 rfl ?_
        refine z_iast hC hp1 hp2 dX12_reach_45 (fun G7 => ?_)
        refine z_iload_n hC 0 rfl dX12_reach_46 rfl ?_
        exact z_iret hC hv5 hr dX12_reach_47
theorem SM_reach_k {FU : Nat} {this : Nat} {p1 : Int} {p2 : Int} {G : Hp} {r1 : (Int × Hp)} (h1 : FM_reach FU this p1 p2 G = some r1) : zk G this = some (12, 0) := zgd_k (k := FM_reach_b FU this p1 p2 G) h1

set_option maxRecDepth 100000 in
theorem SM_whose {l : Launch} {D : va_G} {aC : Nat → ClassId} (FU : Nat) (this : Nat) (p1 : Int) (hp1 : zInI p1) {G : Hp} {r1 : (Int × Hp)} (h1 : FM_whose FU this p1 G = some r1) : Met l yX12_whose (Cond.code yX12_whose cX12_whose 3 (some .int) :: zgood) ({ frames := 4, cells := 0, slots := 0, locals := 95 } : Room) (va_Pc [.ref this, .int (zi p1)] (zU D aC G)) (zQ D aC G (zInI r1.1) (some (.int (zi r1.1))) r1.2) 0 0 (zA G) := by
  refine z_met (y := yX12_whose) (b := cX12_whose) (maxL := 3) (mc := 0) (ms := 0) (ret := (some .int)) (As := [.ref this, .int (zi p1)]) (Q1 := fun r1 => zQ D aC G (zInI r1.1) (some (.int (zi r1.1))) r1.2) (X := FM_whose FU this p1 G) (by decide) (Nat.le_of_ble_eq_true rfl) ?_ h1
  intro p e s m below meth c hC hr hi
  have hC : zC p m c meth s ([.ref this, .int (zi p1)] : List Value).toArray cX12_whose 3 RX12 D aC := hC
  generalize ([.ref this, .int (zi p1)] : List Value).toArray = args at hC ⊢
  show zS p l e ({ frames := 4, cells := 0, slots := 0, locals := 95 } : Room) s m args below meth c D aC G (zfI D aC G below args s 0 0) 3 0 0 (FM_whose FU this p1 G) G 0 [(0, .ref this), (1, .int (zi p1))] []
  unfold FM_whose
  refine z_gd ?_
  unfold FM_whose_b
  refine z_aload_n hC 0 rfl dX12_whose_0 rfl ?_
  refine z_iload_n hC 1 rfl dX12_whose_1 rfl ?_
  refine z_cZp (z_rV (q := this) (t := 12) (As := [.int (zi p1)]) hC (fun _ h1 => SM_isPlace FU this p1 hp1 h1) (fun _ h1 => SM_isPlace_k h1) rfl rfl zM12_150 zMv_FM_isPlace ⟨by decide, by decide⟩ rfl rfl rfl (rest := []) (Nat.le_of_ble_eq_true rfl) ⟨Nat.le_of_ble_eq_true rfl, Nat.le_of_ble_eq_true rfl⟩ rfl dX12_whose_2) (fun v1 hv1 => ?_)
  refine z_if_ne (tgt := 10) hC (hv1).i dX12_whose_5 (by decide) (fun _ => ?_) (fun _ => ?_)
  · refine z_iconst hC dX12_whose_8 ?_
    exact z_iret hC (by decide) hr dX12_whose_9
  · refine z_aload_n hC 0 rfl dX12_whose_10 rfl ?_
    refine z_iload_n hC 1 rfl dX12_whose_11 rfl ?_
    refine z_cI (z_rV (q := this) (t := 12) (As := [.int (zi p1)]) hC (fun _ h1 => SM_landOf FU this p1 hp1 h1) (fun _ h1 => SM_landOf_k h1) rfl rfl zM12_179 zMv_FM_landOf ⟨by decide, by decide⟩ rfl rfl rfl (rest := []) (Nat.le_of_ble_eq_true rfl) ⟨Nat.le_of_ble_eq_true rfl, Nat.le_of_ble_eq_true rfl⟩ rfl dX12_whose_12) (fun v3 G2 hv3 => ?_)
    refine z_istore_n (lo' := [(2, .int (zi v3)), (0, .ref this), (1, .int (zi p1))]) hC dX12_whose_15 rfl (by decide) rfl ?_
    refine z_iload_n hC 0 rfl dX12_whose_16 rfl ?_
    refine z_if_ge (tgt := 25) hC hv3 dX12_whose_17 (by decide) (fun _ => ?_) (fun _ => ?_)
    · refine z_bipush hC dX12_whose_20 rfl ?_
      refine z_goto (tgt := 26) hC dX12_whose_22 (by decide) ?_
      exact z_iret hC (by decide) hr dX12_whose_26
    · refine z_iload_n hC 0 rfl dX12_whose_25 rfl ?_
      exact z_iret hC hv3 hr dX12_whose_26
theorem SM_whose_k {FU : Nat} {this : Nat} {p1 : Int} {G : Hp} {r1 : (Int × Hp)} (h1 : FM_whose FU this p1 G = some r1) : zk G this = some (12, 0) := zgd_k (k := FM_whose_b FU this p1 G) h1

set_option maxRecDepth 100000 in
theorem SM_landSize_L4 {p : Program} {l : Launch} {e : Env} {s : State} {m : MethodId} {args : Array Value} {below : List Frame} {meth : Method} {c : Code} {D : va_G} {aC : Nat → ClassId} {G0 : Hp} (hC : zC p m c meth s args cX12_landSize 4 RX12 D aC) (hr : meth.sig.returnType = (some .int)) (FU : Nat) : ∀ (n : Nat) (x0 : Nat) (x1 : Int) (x2 : Int) (x3 : Int) (G : Hp) (hx1 : zInI x1) (hx2 : zInI x2) (hx3 : zInI x3), zS p l e ({ frames := 4, cells := 0, slots := 0, locals := 95 } : Room) s m args below meth c D aC G0 (zfI D aC G0 below args s 0 0) 4 0 0 (FM_landSize_L4 FU n x0 x1 x2 x3 G) G 4 [(0, .ref x0), (1, .int (zi x1)), (2, .int (zi x2)), (3, .int (zi x3))] [] := by
  intro n
  induction n with
  | zero => intros; exact z_none
  | succ n ih =>
    intro x0 x1 x2 x3 G hx1 hx2 hx3
    rw [FM_landSize_L4]
    refine z_iload_n hC 3 rfl dX12_landSize_4 rfl ?_
    refine z_aload_n hC 0 rfl dX12_landSize_5 rfl ?_
    refine z_getI hC zF12_136 rfl dX12_landSize_6 (fun v1 hv1 => ?_)
    refine z_icmp_ge (tgt := 35) hC hx3 hv1 dX12_landSize_9 (by decide) (fun _ => ?_) (fun _ => ?_)
    · refine z_iload_n hC 2 rfl dX12_landSize_12 rfl ?_
      refine z_aload_n hC 0 rfl dX12_landSize_13 rfl ?_
      refine z_iload_n hC 3 rfl dX12_landSize_14 rfl ?_
      refine z_cI (z_rV (q := x0) (t := 12) (As := [.int (zi x3)]) hC (fun _ h1 => SM_landOf FU x0 x3 hx3 h1) (fun _ h1 => SM_landOf_k h1) rfl rfl zM12_179 zMv_FM_landOf ⟨by decide, by decide⟩ rfl rfl rfl (rest := [.int (zi x2)]) (Nat.le_of_ble_eq_true rfl) ⟨Nat.le_of_ble_eq_true rfl, Nat.le_of_ble_eq_true rfl⟩ rfl dX12_landSize_15) (fun v3 G2 hv3 => ?_)
      refine z_iload_n hC 1 rfl dX12_landSize_18 rfl ?_
      refine z_icmp_ne (tgt := 26) hC hv3 hx1 dX12_landSize_19 (by decide) (fun _ => ?_) (fun _ => ?_)
      · refine z_iconst hC dX12_landSize_22 ?_
        refine z_goto (tgt := 27) hC dX12_landSize_23 (by decide) ?_
        refine z_iadd hC dX12_landSize_27 (fun v4 hv4 => ?_)
        refine z_istore_n (lo' := [(2, .int (zi v4)), (0, .ref x0), (1, .int (zi x1)), (3, .int (zi x3))]) hC dX12_landSize_28 rfl (by decide) rfl ?_
        refine z_iinc (lo' := fun v5 => [(3, .int (zi v5)), (2, .int (zi v4)), (0, .ref x0), (1, .int (zi x1))]) hC 3 dX12_landSize_29 rfl (by decide) (fun _ => rfl) (fun v5 hv5 => ?_)
        refine z_goto (tgt := 4) hC dX12_landSize_32 (by decide) ?_
        refine z_sub hC [2, 3, 1, 0] (lo' := [(0, .ref x0), (1, .int (zi x1)), (2, .int (zi v4)), (3, .int (zi v5))]) rfl ?_
        exact ih x0 x1 v4 v5 G2 hx1 hv4 hv5
      · refine z_iconst hC dX12_landSize_26 ?_
        refine z_iadd hC dX12_landSize_27 (fun v6 hv6 => ?_)
        refine z_istore_n (lo' := [(2, .int (zi v6)), (0, .ref x0), (1, .int (zi x1)), (3, .int (zi x3))]) hC dX12_landSize_28 rfl (by decide) rfl ?_
        refine z_iinc (lo' := fun v7 => [(3, .int (zi v7)), (2, .int (zi v6)), (0, .ref x0), (1, .int (zi x1))]) hC 3 dX12_landSize_29 rfl (by decide) (fun _ => rfl) (fun v7 hv7 => ?_)
        refine z_goto (tgt := 4) hC dX12_landSize_32 (by decide) ?_
        refine z_sub hC [2, 3, 1, 0] (lo' := [(0, .ref x0), (1, .int (zi x1)), (2, .int (zi v6)), (3, .int (zi v7))]) rfl ?_
        exact ih x0 x1 v6 v7 G2 hx1 hv6 hv7
    · refine z_iload_n hC 2 rfl dX12_landSize_35 rfl ?_
      exact z_iret hC hx2 hr dX12_landSize_36
set_option maxRecDepth 100000 in
theorem SM_landSize {l : Launch} {D : va_G} {aC : Nat → ClassId} (FU : Nat) (this : Nat) (p1 : Int) (hp1 : zInI p1) {G : Hp} {r1 : (Int × Hp)} (h1 : FM_landSize FU this p1 G = some r1) : Met l yX12_landSize (Cond.code yX12_landSize cX12_landSize 4 (some .int) :: zgood) ({ frames := 4, cells := 0, slots := 0, locals := 95 } : Room) (va_Pc [.ref this, .int (zi p1)] (zU D aC G)) (zQ D aC G (zInI r1.1) (some (.int (zi r1.1))) r1.2) 0 0 (zA G) := by
  refine z_met (y := yX12_landSize) (b := cX12_landSize) (maxL := 4) (mc := 0) (ms := 0) (ret := (some .int)) (As := [.ref this, .int (zi p1)]) (Q1 := fun r1 => zQ D aC G (zInI r1.1) (some (.int (zi r1.1))) r1.2) (X := FM_landSize FU this p1 G) (by decide) (Nat.le_of_ble_eq_true rfl) ?_ h1
  intro p e s m below meth c hC hr hi
  have hC : zC p m c meth s ([.ref this, .int (zi p1)] : List Value).toArray cX12_landSize 4 RX12 D aC := hC
  generalize ([.ref this, .int (zi p1)] : List Value).toArray = args at hC ⊢
  show zS p l e ({ frames := 4, cells := 0, slots := 0, locals := 95 } : Room) s m args below meth c D aC G (zfI D aC G below args s 0 0) 4 0 0 (FM_landSize FU this p1 G) G 0 [(0, .ref this), (1, .int (zi p1))] []
  unfold FM_landSize
  refine z_gd ?_
  unfold FM_landSize_b
  refine z_iconst hC dX12_landSize_0 ?_
  refine z_istore_n (lo' := [(2, .int (zi (0))), (0, .ref this), (1, .int (zi p1))]) hC dX12_landSize_1 rfl (by decide) rfl ?_
  refine z_iconst hC dX12_landSize_2 ?_
  refine z_istore_n (lo' := [(3, .int (zi (0))), (2, .int (zi (0))), (0, .ref this), (1, .int (zi p1))]) hC dX12_landSize_3 rfl (by decide) rfl ?_
  refine z_sub hC [2, 3, 1, 0] (lo' := [(0, .ref this), (1, .int (zi p1)), (2, .int (zi (0))), (3, .int (zi (0)))]) rfl ?_
  exact SM_landSize_L4 hC hr FU FU this p1 (0) (0) G hp1 (by decide) (by decide)
theorem SM_landSize_k {FU : Nat} {this : Nat} {p1 : Int} {G : Hp} {r1 : (Int × Hp)} (h1 : FM_landSize FU this p1 G = some r1) : zk G this = some (12, 0) := zgd_k (k := FM_landSize_b FU this p1 G) h1

set_option maxRecDepth 100000 in
theorem SM_ofShop {l : Launch} {D : va_G} {aC : Nat → ClassId} (FU : Nat) (this : Nat) (p1 : Int) (p2 : Int) (hp1 : zInI p1) (hp2 : zInI p2) {G : Hp} {r1 : (Int × Hp)} (h1 : FM_ofShop FU this p1 p2 G = some r1) : Met l yX12_ofShop (Cond.code yX12_ofShop cX12_ofShop 3 (some .int) :: zgood) ({ frames := 5, cells := 0, slots := 0, locals := 118 } : Room) (va_Pc [.ref this, .int (zi p1), .int (zi p2)] (zU D aC G)) (zQ D aC G (zInI r1.1) (some (.int (zi r1.1))) r1.2) 0 0 (zA G) := by
  refine z_met (y := yX12_ofShop) (b := cX12_ofShop) (maxL := 3) (mc := 0) (ms := 0) (ret := (some .int)) (As := [.ref this, .int (zi p1), .int (zi p2)]) (Q1 := fun r1 => zQ D aC G (zInI r1.1) (some (.int (zi r1.1))) r1.2) (X := FM_ofShop FU this p1 p2 G) (by decide) (Nat.le_of_ble_eq_true rfl) ?_ h1
  intro p e s m below meth c hC hr hi
  have hC : zC p m c meth s ([.ref this, .int (zi p1), .int (zi p2)] : List Value).toArray cX12_ofShop 3 RX12 D aC := hC
  generalize ([.ref this, .int (zi p1), .int (zi p2)] : List Value).toArray = args at hC ⊢
  show zS p l e ({ frames := 5, cells := 0, slots := 0, locals := 118 } : Room) s m args below meth c D aC G (zfI D aC G below args s 0 0) 3 0 0 (FM_ofShop FU this p1 p2 G) G 0 [(0, .ref this), (1, .int (zi p1)), (2, .int (zi p2))] []
  unfold FM_ofShop
  refine z_gd ?_
  unfold FM_ofShop_b
  refine z_aload_n hC 0 rfl dX12_ofShop_0 rfl ?_
  refine z_iload_n hC 1 rfl dX12_ofShop_1 rfl ?_
  refine z_cZp (z_rV (q := this) (t := 12) (As := [.int (zi p1)]) hC (fun _ h1 => SM_isShop FU this p1 hp1 h1) (fun _ h1 => SM_isShop_k h1) rfl rfl zM12_192 zMv_FM_isShop ⟨by decide, by decide⟩ rfl rfl rfl (rest := []) (Nat.le_of_ble_eq_true rfl) ⟨Nat.le_of_ble_eq_true rfl, Nat.le_of_ble_eq_true rfl⟩ rfl dX12_ofShop_2) (fun v1 hv1 => ?_)
  refine z_if_ne (tgt := 10) hC (hv1).i dX12_ofShop_5 (by decide) (fun _ => ?_) (fun _ => ?_)
  · refine z_iconst hC dX12_ofShop_8 ?_
    exact z_iret hC (by decide) hr dX12_ofShop_9
  · refine z_iload_n hC 2 rfl dX12_ofShop_10 rfl ?_
    refine z_tabIf (tgt := 56) hC hp2 dX12_ofShop_11 0 ⟨by decide, by decide⟩ rfl (by decide) (fun _ => ?_) (fun hsw0 => ?_)
    · refine z_aload_n hC 0 rfl dX12_ofShop_56 rfl ?_
      refine z_getQ hC zF12_26 rfl dX12_ofShop_57 (fun v2 => ?_)
      refine z_iload_n hC 1 rfl dX12_ofShop_60 rfl ?_
      refine z_iald hC hp1 dX12_ofShop_61 (fun v3 hv3 => ?_)
      exact z_iret hC hv3 hr dX12_ofShop_62
    refine z_tabIf (tgt := 63) hC hp2 dX12_ofShop_11 1 ⟨by decide, by decide⟩ rfl (by decide) (fun _ => ?_) (fun hsw1 => ?_)
    · refine z_aload_n hC 0 rfl dX12_ofShop_63 rfl ?_
      refine z_getQ hC zF12_29 rfl dX12_ofShop_64 (fun v4 => ?_)
      refine z_iload_n hC 1 rfl dX12_ofShop_67 rfl ?_
      refine z_iald hC hp1 dX12_ofShop_68 (fun v5 hv5 => ?_)
      exact z_iret hC hv5 hr dX12_ofShop_69
    refine z_tabIf (tgt := 70) hC hp2 dX12_ofShop_11 2 ⟨by decide, by decide⟩ rfl (by decide) (fun _ => ?_) (fun hsw2 => ?_)
    · refine z_aload_n hC 0 rfl dX12_ofShop_70 rfl ?_
      refine z_getQ hC zF12_32 rfl dX12_ofShop_71 (fun v6 => ?_)
      refine z_iload_n hC 1 rfl dX12_ofShop_74 rfl ?_
      refine z_iald hC hp1 dX12_ofShop_75 (fun v7 hv7 => ?_)
      exact z_iret hC hv7 hr dX12_ofShop_76
    refine z_tabIf (tgt := 77) hC hp2 dX12_ofShop_11 3 ⟨by decide, by decide⟩ rfl (by decide) (fun _ => ?_) (fun hsw3 => ?_)
    · refine z_aload_n hC 0 rfl dX12_ofShop_77 rfl ?_
      refine z_getQ hC zF12_35 rfl dX12_ofShop_78 (fun v8 => ?_)
      refine z_iload_n hC 1 rfl dX12_ofShop_81 rfl ?_
      refine z_iald hC hp1 dX12_ofShop_82 (fun v9 hv9 => ?_)
      exact z_iret hC hv9 hr dX12_ofShop_83
    refine z_tabIf (tgt := 84) hC hp2 dX12_ofShop_11 4 ⟨by decide, by decide⟩ rfl (by decide) (fun _ => ?_) (fun hsw4 => ?_)
    · refine z_aload_n hC 0 rfl dX12_ofShop_84 rfl ?_
      refine z_getQ hC zF12_38 rfl dX12_ofShop_85 (fun v10 => ?_)
      refine z_iload_n hC 1 rfl dX12_ofShop_88 rfl ?_
      refine z_iald hC hp1 dX12_ofShop_89 (fun v11 hv11 => ?_)
      exact z_iret hC hv11 hr dX12_ofShop_90
    refine z_tabIf (tgt := 91) hC hp2 dX12_ofShop_11 5 ⟨by decide, by decide⟩ rfl (by decide) (fun _ => ?_) (fun hsw5 => ?_)
    · refine z_aload_n hC 0 rfl dX12_ofShop_91 rfl ?_
      refine z_getQ hC zF12_41 rfl dX12_ofShop_92 (fun v12 => ?_)
      refine z_iload_n hC 1 rfl dX12_ofShop_95 rfl ?_
      refine z_iald hC hp1 dX12_ofShop_96 (fun v13 hv13 => ?_)
      exact z_iret hC hv13 hr dX12_ofShop_97
    refine z_tabIf (tgt := 98) hC hp2 dX12_ofShop_11 6 ⟨by decide, by decide⟩ rfl (by decide) (fun _ => ?_) (fun hsw6 => ?_)
    · refine z_aload_n hC 0 rfl dX12_ofShop_98 rfl ?_
      refine z_iload_n hC 1 rfl dX12_ofShop_99 rfl ?_
      refine z_cI (z_rV (q := this) (t := 12) (As := [.int (zi p1)]) hC (fun _ h1 => SM_landSize FU this p1 hp1 h1) (fun _ h1 => SM_landSize_k h1) rfl rfl zM12_195 zMv_FM_landSize ⟨by decide, by decide⟩ rfl rfl rfl (rest := []) (Nat.le_of_ble_eq_true rfl) ⟨Nat.le_of_ble_eq_true rfl, Nat.le_of_ble_eq_true rfl⟩ rfl dX12_ofShop_100) (fun v15 G14 hv15 => ?_)
      exact z_iret hC hv15 hr dX12_ofShop_103
    refine z_tabIf (tgt := 104) hC hp2 dX12_ofShop_11 7 ⟨by decide, by decide⟩ rfl (by decide) (fun _ => ?_) (fun hsw7 => ?_)
    · refine z_aload_n hC 0 rfl dX12_ofShop_104 rfl ?_
      refine z_getQ hC zF12_44 rfl dX12_ofShop_105 (fun v16 => ?_)
      refine z_iload_n hC 1 rfl dX12_ofShop_108 rfl ?_
      refine z_iald hC hp1 dX12_ofShop_109 (fun v17 hv17 => ?_)
      exact z_iret hC hv17 hr dX12_ofShop_110
    refine z_tabDef (tgt := 111) hC hp2 dX12_ofShop_11 (by omega) (by decide) ?_
    refine z_iconst hC dX12_ofShop_111 ?_
    exact z_iret hC (by decide) hr dX12_ofShop_112
theorem SM_ofShop_k {FU : Nat} {this : Nat} {p1 : Int} {p2 : Int} {G : Hp} {r1 : (Int × Hp)} (h1 : FM_ofShop FU this p1 p2 G = some r1) : zk G this = some (12, 0) := zgd_k (k := FM_ofShop_b FU this p1 p2 G) h1

set_option maxRecDepth 100000 in
theorem SM_draws {l : Launch} {D : va_G} {aC : Nat → ClassId} (FU : Nat) (this : Nat) (p1 : Int) (hp1 : zInI p1) {G : Hp} {r1 : Int} (h1 : FM_draws FU this p1 G = some r1) : Met l yX12_draws (Cond.code yX12_draws cX12_draws 2 (some .boolean) :: zgood) ({ frames := 2, cells := 0, slots := 0, locals := 45 } : Room) (va_Pc [.ref this, .int (zi p1)] (zU D aC G)) (zQ D aC G (zIn01 r1) (some (.int (zi r1))) G) 0 0 (zA G) := by
  refine z_met (y := yX12_draws) (b := cX12_draws) (maxL := 2) (mc := 0) (ms := 0) (ret := (some .boolean)) (As := [.ref this, .int (zi p1)]) (Q1 := fun r1 => zQ D aC G (zIn01 r1) (some (.int (zi r1))) G) (X := FM_draws FU this p1 G) (by decide) (Nat.le_of_ble_eq_true rfl) ?_ h1
  intro p e s m below meth c hC hr hi
  have hC : zC p m c meth s ([.ref this, .int (zi p1)] : List Value).toArray cX12_draws 2 RX12 D aC := hC
  generalize ([.ref this, .int (zi p1)] : List Value).toArray = args at hC ⊢
  show zS p l e ({ frames := 2, cells := 0, slots := 0, locals := 45 } : Room) s m args below meth c D aC G (fun r1 => zfZ D aC G below args s 0 0 (r1, G)) 2 0 0 (FM_draws FU this p1 G) G 0 [(0, .ref this), (1, .int (zi p1))] []
  unfold FM_draws
  refine z_gd ?_
  unfold FM_draws_b
  refine z_iload_n hC 1 rfl dX12_draws_0 rfl ?_
  refine z_aload_n hC 0 rfl dX12_draws_1 rfl ?_
  refine z_getI hC zF12_139 rfl dX12_draws_2 (fun v1 hv1 => ?_)
  refine z_icmp_ge (tgt := 16) hC hp1 hv1 dX12_draws_5 (by decide) (fun _ => ?_) (fun _ => ?_)
  · refine z_aload_n hC 0 rfl dX12_draws_8 rfl ?_
    refine z_iload_n hC 1 rfl dX12_draws_9 rfl ?_
    refine z_cZp (z_rV (q := this) (t := 12) (As := [.int (zi p1)]) hC (fun _ h1 => SM_isOpen FU this p1 hp1 h1) (fun _ h1 => SM_isOpen_k h1) rfl rfl zM12_176 zMv_FM_isOpen ⟨by decide, by decide⟩ rfl rfl rfl (rest := []) (Nat.le_of_ble_eq_true rfl) ⟨Nat.le_of_ble_eq_true rfl, Nat.le_of_ble_eq_true rfl⟩ rfl dX12_draws_10) (fun v2 hv2 => ?_)
    refine z_goto (tgt := 38) hC dX12_draws_13 (by decide) ?_
    exact z_zretp hC hr dX12_draws_38
  · refine z_iload_n hC 1 rfl dX12_draws_16 rfl ?_
    refine z_bipush hC dX12_draws_17 rfl ?_
    refine z_icmp_lt (tgt := 37) hC hp1 (by decide) dX12_draws_19 (by decide) (fun _ => ?_) (fun _ => ?_)
    · refine z_iconst hC dX12_draws_37 ?_
      exact z_zretp hC hr dX12_draws_38
    · refine z_iload_n hC 1 rfl dX12_draws_22 rfl ?_
      refine z_bipush hC dX12_draws_23 rfl ?_
      refine z_aload_n hC 0 rfl dX12_draws_25 rfl ?_
      refine z_getI hC zF12_198 rfl dX12_draws_26 (fun v3 hv3 => ?_)
      refine z_iadd hC dX12_draws_29 (fun v4 hv4 => ?_)
      refine z_icmp_ge (tgt := 37) hC hp1 hv4 dX12_draws_30 (by decide) (fun _ => ?_) (fun _ => ?_)
      · refine z_iconst hC dX12_draws_33 ?_
        refine z_goto (tgt := 38) hC dX12_draws_34 (by decide) ?_
        exact z_zretp hC hr dX12_draws_38
      · refine z_iconst hC dX12_draws_37 ?_
        exact z_zretp hC hr dX12_draws_38
theorem SM_draws_k {FU : Nat} {this : Nat} {p1 : Int} {G : Hp} {r1 : Int} (h1 : FM_draws FU this p1 G = some r1) : zk G this = some (12, 0) := zgd_k (k := FM_draws_b FU this p1 G) h1

set_option maxRecDepth 100000 in
theorem SM_pull_B24 {p : Program} {l : Launch} {e : Env} {s : State} {m : MethodId} {args : Array Value} {below : List Frame} {meth : Method} {c : Code} {D : va_G} {aC : Nat → ClassId} {G0 : Hp} (hC : zC p m c meth s args cX12_pull 4 RX12 D aC) (hr : meth.sig.returnType = (some .int)) (FU : Nat) (x0 : Nat) (x1 : Int) (y0 : Int) (G : Hp) (hx1 : zInI x1) (hy0 : zInI y0) : zS p l e ({ frames := 3, cells := 0, slots := 0, locals := 70 } : Room) s m args below meth c D aC G0 (zfI D aC G0 below args s 0 0) 4 0 0 (FM_pull_B24 FU x0 x1 y0 G) G 24 [(0, .ref x0), (1, .int (zi x1))] [.int (zi y0)] := by
  unfold FM_pull_B24
  refine z_istore_n (lo' := [(3, .int (zi y0)), (0, .ref x0), (1, .int (zi x1))]) hC dX12_pull_24 rfl (by decide) rfl ?_
  refine z_iload_n hC 0 rfl dX12_pull_25 rfl ?_
  refine z_ldc (z := 1000000) hC dX12_pull_26 zc12_154 ?_
  refine z_icmp_ge (tgt := 48) hC hy0 (by decide) dX12_pull_28 (by decide) (fun _ => ?_) (fun _ => ?_)
  · refine z_aload_n hC 1 rfl dX12_pull_31 rfl ?_
    refine z_getQ hC zF12_32 rfl dX12_pull_32 (fun v1 => ?_)
    refine z_iload_n hC 2 rfl dX12_pull_35 rfl ?_
    refine z_iald hC hx1 dX12_pull_36 (fun v2 hv2 => ?_)
    refine z_sipush hC dX12_pull_37 rfl ?_
    refine z_imul hC dX12_pull_40 (fun v3 hv3 => ?_)
    refine z_iconst hC dX12_pull_41 ?_
    refine z_iload_n hC 0 rfl dX12_pull_42 rfl ?_
    refine z_iadd hC dX12_pull_43 (fun v4 hv4 => ?_)
    refine z_idiv hC hv3 hv4 dX12_pull_44 (fun v5 hv5 => ?_)
    refine z_goto (tgt := 49) hC dX12_pull_45 (by decide) ?_
    exact z_iret hC hv5 hr dX12_pull_49
  · refine z_iconst hC dX12_pull_48 ?_
    exact z_iret hC (by decide) hr dX12_pull_49
set_option maxRecDepth 100000 in
theorem SM_pull {l : Launch} {D : va_G} {aC : Nat → ClassId} (FU : Nat) (this : Nat) (p1 : Int) (p2 : Int) (hp1 : zInI p1) (hp2 : zInI p2) {G : Hp} {r1 : (Int × Hp)} (h1 : FM_pull FU this p1 p2 G = some r1) : Met l yX12_pull (Cond.code yX12_pull cX12_pull 4 (some .int) :: zgood) ({ frames := 3, cells := 0, slots := 0, locals := 70 } : Room) (va_Pc [.ref this, .int (zi p1), .int (zi p2)] (zU D aC G)) (zQ D aC G (zInI r1.1) (some (.int (zi r1.1))) r1.2) 0 0 (zA G) := by
  refine z_met (y := yX12_pull) (b := cX12_pull) (maxL := 4) (mc := 0) (ms := 0) (ret := (some .int)) (As := [.ref this, .int (zi p1), .int (zi p2)]) (Q1 := fun r1 => zQ D aC G (zInI r1.1) (some (.int (zi r1.1))) r1.2) (X := FM_pull FU this p1 p2 G) (by decide) (Nat.le_of_ble_eq_true rfl) ?_ h1
  intro p e s m below meth c hC hr hi
  have hC : zC p m c meth s ([.ref this, .int (zi p1), .int (zi p2)] : List Value).toArray cX12_pull 4 RX12 D aC := hC
  generalize ([.ref this, .int (zi p1), .int (zi p2)] : List Value).toArray = args at hC ⊢
  show zS p l e ({ frames := 3, cells := 0, slots := 0, locals := 70 } : Room) s m args below meth c D aC G (zfI D aC G below args s 0 0) 4 0 0 (FM_pull FU this p1 p2 G) G 0 [(0, .ref this), (1, .int (zi p1)), (2, .int (zi p2))] []
  unfold FM_pull
  refine z_gd ?_
  unfold FM_pull_b
  refine z_aload_n hC 0 rfl dX12_pull_0 rfl ?_
  refine z_iload_n hC 1 rfl dX12_pull_1 rfl ?_
  refine z_cZp (z_rV (q := this) (t := 12) (As := [.int (zi p1)]) hC (fun _ h1 => SM_draws FU this p1 hp1 h1) (fun _ h1 => SM_draws_k h1) rfl rfl zM12_201 zMv_FM_draws ⟨by decide, by decide⟩ rfl rfl rfl (rest := []) (Nat.le_of_ble_eq_true rfl) ⟨Nat.le_of_ble_eq_true rfl, Nat.le_of_ble_eq_true rfl⟩ rfl dX12_pull_2) (fun v1 hv1 => ?_)
  refine z_if_eq (tgt := 22) hC (hv1).i dX12_pull_5 (by decide) (fun _ => ?_) (fun _ => ?_)
  · refine z_ldc (z := 1000000) hC dX12_pull_22 zc12_154 ?_
    refine z_sub hC [0, 1] (lo' := [(0, .ref this), (1, .int (zi p1))]) rfl ?_
    exact SM_pull_B24 hC hr FU this p1 (1000000) G hp1 (by decide)
  · refine z_aload_n hC 0 rfl dX12_pull_8 rfl ?_
    refine z_aload_n hC 0 rfl dX12_pull_9 rfl ?_
    refine z_getQ hC zF12_26 rfl dX12_pull_10 (fun v2 => ?_)
    refine z_iload_n hC 1 rfl dX12_pull_13 rfl ?_
    refine z_iald hC hp1 dX12_pull_14 (fun v3 hv3 => ?_)
    refine z_iload_n hC 2 rfl dX12_pull_15 rfl ?_
    refine z_cI (z_rV (q := this) (t := 12) (As := [.int (zi v3), .int (zi p2)]) hC (fun _ h1 => SM_wayOf FU this v3 p2 hv3 hp2 h1) (fun _ h1 => SM_wayOf_k h1) rfl rfl zM12_158 zMv_FM_wayOf ⟨by decide, by decide⟩ rfl rfl rfl (rest := []) (Nat.le_of_ble_eq_true rfl) ⟨Nat.le_of_ble_eq_true rfl, Nat.le_of_ble_eq_true rfl⟩ rfl dX12_pull_16) (fun v5 G4 hv5 => ?_)
    refine z_goto (tgt := 24) hC dX12_pull_19 (by decide) ?_
    refine z_sub hC [0, 1] (lo' := [(0, .ref this), (1, .int (zi p1))]) rfl ?_
    exact SM_pull_B24 hC hr FU this p1 v5 G4 hp1 hv5
theorem SM_pull_k {FU : Nat} {this : Nat} {p1 : Int} {p2 : Int} {G : Hp} {r1 : (Int × Hp)} (h1 : FM_pull FU this p1 p2 G = some r1) : zk G this = some (12, 0) := zgd_k (k := FM_pull_b FU this p1 p2 G) h1

set_option maxRecDepth 100000 in
theorem SM_foretoldOf_L20 {p : Program} {l : Launch} {e : Env} {s : State} {m : MethodId} {args : Array Value} {below : List Frame} {meth : Method} {c : Code} {D : va_G} {aC : Nat → ClassId} {G0 : Hp} (hC : zC p m c meth s args cX12_foretoldOf 9 RX12 D aC) (hr : meth.sig.returnType = (some .long)) (FU : Nat) (kL5 : Nat → Int → Int → Int → Hp → Option (Int × Hp)) (hkL5 : ∀ (a0 : Nat) (a1 : Int) (a2 : Int) (a3 : Int) (G : Hp), zInI a1 → zInL a2 → zInI a3 → zS p l e ({ frames := 4, cells := 0, slots := 0, locals := 93 } : Room) s m args below meth c D aC G0 (zfL D aC G0 below args s 0 0) 9 0 0 (kL5 a0 a1 a2 a3 G) G 5 [(0, .ref a0), (1, .int (zi a1)), (2, .long (zl a2)), (4, .int (zi a3))] []) : ∀ (n : Nat) (x0 : Nat) (x1 : Int) (x2 : Int) (x4 : Int) (x5 : Int) (x7 : Int) (G : Hp) (hx1 : zInI x1) (hx2 : zInL x2) (hx4 : zInI x4) (hx5 : zInL x5) (hx7 : zInI x7), zS p l e ({ frames := 4, cells := 0, slots := 0, locals := 93 } : Room) s m args below meth c D aC G0 (zfL D aC G0 below args s 0 0) 9 0 0 (FM_foretoldOf_L20 FU kL5 n x0 x1 x2 x4 x5 x7 G) G 20 [(0, .ref x0), (1, .int (zi x1)), (2, .long (zl x2)), (4, .int (zi x4)), (5, .long (zl x5)), (7, .int (zi x7))] [] := by
  intro n
  induction n with
  | zero => intros; exact z_none
  | succ n ih =>
    intro x0 x1 x2 x4 x5 x7 G hx1 hx2 hx4 hx5 hx7
    rw [FM_foretoldOf_L20]
    refine z_iload hC 5 rfl dX12_foretoldOf_20 ?_
    refine z_bipush hC dX12_foretoldOf_22 rfl ?_
    refine z_icmp_ge (tgt := 60) hC hx7 (by decide) dX12_foretoldOf_24 (by decide) (fun _ => ?_) (fun _ => ?_)
    · refine z_aload_n hC 0 rfl dX12_foretoldOf_27 rfl ?_
      refine z_iload hC 5 rfl dX12_foretoldOf_28 ?_
      refine z_iload hC 3 rfl dX12_foretoldOf_30 ?_
      refine z_cI (z_rV (q := x0) (t := 12) (As := [.int (zi x7), .int (zi x4)]) hC (fun _ h1 => SM_pull FU x0 x7 x4 hx7 hx4 h1) (fun _ h1 => SM_pull_k h1) rfl rfl zM12_204 zMv_FM_pull ⟨by decide, by decide⟩ rfl rfl rfl (rest := []) (Nat.le_of_ble_eq_true rfl) ⟨Nat.le_of_ble_eq_true rfl, Nat.le_of_ble_eq_true rfl⟩ rfl dX12_foretoldOf_32) (fun v2 G1 hv2 => ?_)
      refine z_istore (lo' := [(8, .int (zi v2)), (0, .ref x0), (1, .int (zi x1)), (2, .long (zl x2)), (4, .int (zi x4)), (5, .long (zl x5)), (7, .int (zi x7))]) hC dX12_foretoldOf_35 (by decide) rfl ?_
      refine z_lload hC 5 rfl dX12_foretoldOf_37 ?_
      refine z_iload hC 0 rfl dX12_foretoldOf_39 ?_
      refine z_if_ge (tgt := 48) hC hv2 dX12_foretoldOf_41 (by decide) (fun _ => ?_) (fun _ => ?_)
      · refine z_lconst (z := 0) hC dX12_foretoldOf_44 rfl ?_
        refine z_goto (tgt := 51) hC dX12_foretoldOf_45 (by decide) ?_
        refine z_ladd hC dX12_foretoldOf_51 (fun v3 hv3 => ?_)
        refine z_lstore (lo' := [(5, .long (zl v3)), (8, .int (zi v2)), (0, .ref x0), (1, .int (zi x1)), (2, .long (zl x2)), (4, .int (zi x4)), (7, .int (zi x7))]) hC dX12_foretoldOf_52 (by decide) rfl ?_
        refine z_iinc (lo' := fun v4 => [(7, .int (zi v4)), (5, .long (zl v3)), (8, .int (zi v2)), (0, .ref x0), (1, .int (zi x1)), (2, .long (zl x2)), (4, .int (zi x4))]) hC 6 dX12_foretoldOf_54 rfl (by decide) (fun _ => rfl) (fun v4 hv4 => ?_)
        refine z_goto (tgt := 20) hC dX12_foretoldOf_57 (by decide) ?_
        refine z_sub hC [3, 4, 5, 6, 1, 0] (lo' := [(0, .ref x0), (1, .int (zi x1)), (2, .long (zl x2)), (4, .int (zi x4)), (5, .long (zl v3)), (7, .int (zi v4))]) rfl ?_
        exact ih x0 x1 x2 x4 v3 v4 G1 hx1 hx2 hx4 hv3 hv4
      · refine z_iload hC 0 rfl dX12_foretoldOf_48 ?_
        refine z_i2l hC hv2 dX12_foretoldOf_50 ?_
        refine z_ladd hC dX12_foretoldOf_51 (fun v5 hv5 => ?_)
        refine z_lstore (lo' := [(5, .long (zl v5)), (8, .int (zi v2)), (0, .ref x0), (1, .int (zi x1)), (2, .long (zl x2)), (4, .int (zi x4)), (7, .int (zi x7))]) hC dX12_foretoldOf_52 (by decide) rfl ?_
        refine z_iinc (lo' := fun v6 => [(7, .int (zi v6)), (5, .long (zl v5)), (8, .int (zi v2)), (0, .ref x0), (1, .int (zi x1)), (2, .long (zl x2)), (4, .int (zi x4))]) hC 6 dX12_foretoldOf_54 rfl (by decide) (fun _ => rfl) (fun v6 hv6 => ?_)
        refine z_goto (tgt := 20) hC dX12_foretoldOf_57 (by decide) ?_
        refine z_sub hC [3, 4, 5, 6, 1, 0] (lo' := [(0, .ref x0), (1, .int (zi x1)), (2, .long (zl x2)), (4, .int (zi x4)), (5, .long (zl v5)), (7, .int (zi v6))]) rfl ?_
        exact ih x0 x1 x2 x4 v5 v6 G1 hx1 hx2 hx4 hv5 hv6
    · refine z_aload_n hC 0 rfl dX12_foretoldOf_60 rfl ?_
      refine z_iload_n hC 1 rfl dX12_foretoldOf_61 rfl ?_
      refine z_iload hC 3 rfl dX12_foretoldOf_62 ?_
      refine z_cI (z_rV (q := x0) (t := 12) (As := [.int (zi x1), .int (zi x4)]) hC (fun _ h1 => SM_pull FU x0 x1 x4 hx1 hx4 h1) (fun _ h1 => SM_pull_k h1) rfl rfl zM12_204 zMv_FM_pull ⟨by decide, by decide⟩ rfl rfl rfl (rest := []) (Nat.le_of_ble_eq_true rfl) ⟨Nat.le_of_ble_eq_true rfl, Nat.le_of_ble_eq_true rfl⟩ rfl dX12_foretoldOf_64) (fun v8 G7 hv8 => ?_)
      refine z_istore (lo' := [(7, .int (zi v8)), (0, .ref x0), (1, .int (zi x1)), (2, .long (zl x2)), (4, .int (zi x4)), (5, .long (zl x5))]) hC dX12_foretoldOf_67 (by decide) rfl ?_
      refine z_iload hC 0 rfl dX12_foretoldOf_69 ?_
      refine z_if_le (tgt := 98) hC hv8 dX12_foretoldOf_71 (by decide) (fun _ => ?_) (fun _ => ?_)
      · refine z_iinc (lo' := fun v9 => [(4, .int (zi v9)), (7, .int (zi v8)), (0, .ref x0), (1, .int (zi x1)), (2, .long (zl x2)), (5, .long (zl x5))]) hC 4 dX12_foretoldOf_98 rfl (by decide) (fun _ => rfl) (fun v9 hv9 => ?_)
        refine z_goto (tgt := 5) hC dX12_foretoldOf_101 (by decide) ?_
        refine z_sub hC [2, 3, 4, 0] (lo' := [(0, .ref x0), (1, .int (zi x1)), (2, .long (zl x2)), (4, .int (zi v9))]) rfl ?_
        exact hkL5 x0 x1 x2 v9 G7 hx1 hx2 hv9
      · refine z_lload_n hC 3 rfl dX12_foretoldOf_74 rfl ?_
        refine z_aload_n hC 1 rfl dX12_foretoldOf_75 rfl ?_
        refine z_getQ hC zF12_9 rfl dX12_foretoldOf_76 (fun v10 => ?_)
        refine z_iload hC 4 rfl dX12_foretoldOf_79 ?_
        refine z_iald hC hx4 dX12_foretoldOf_81 (fun v11 hv11 => ?_)
        refine z_i2l hC hv11 dX12_foretoldOf_82 ?_
        refine z_aload_n hC 1 rfl dX12_foretoldOf_83 rfl ?_
        refine z_getI hC zF12_19 rfl dX12_foretoldOf_84 (fun v12 hv12 => ?_)
        refine z_i2l hC hv12 dX12_foretoldOf_87 ?_
        refine z_lmul hC dX12_foretoldOf_88 (fun v13 hv13 => ?_)
        refine z_iload hC 0 rfl dX12_foretoldOf_89 ?_
        refine z_i2l hC hv8 dX12_foretoldOf_91 ?_
        refine z_lmul hC dX12_foretoldOf_92 (fun v14 hv14 => ?_)
        refine z_lload hC 5 rfl dX12_foretoldOf_93 ?_
        refine z_ldiv hC hv14 hx5 dX12_foretoldOf_95 (fun v15 hv15 => ?_)
        refine z_ladd hC dX12_foretoldOf_96 (fun v16 hv16 => ?_)
        refine z_lstore_n (lo' := [(2, .long (zl v16)), (7, .int (zi v8)), (0, .ref x0), (1, .int (zi x1)), (4, .int (zi x4)), (5, .long (zl x5))]) hC dX12_foretoldOf_97 rfl (by decide) rfl ?_
        refine z_iinc (lo' := fun v17 => [(4, .int (zi v17)), (2, .long (zl v16)), (7, .int (zi v8)), (0, .ref x0), (1, .int (zi x1)), (5, .long (zl x5))]) hC 4 dX12_foretoldOf_98 rfl (by decide) (fun _ => rfl) (fun v17 hv17 => ?_)
        refine z_goto (tgt := 5) hC dX12_foretoldOf_101 (by decide) ?_
        refine z_sub hC [3, 4, 1, 0] (lo' := [(0, .ref x0), (1, .int (zi x1)), (2, .long (zl v16)), (4, .int (zi v17))]) rfl ?_
        exact hkL5 x0 x1 v16 v17 G7 hx1 hv16 hv17
set_option maxRecDepth 100000 in
theorem SM_foretoldOf_L5 {p : Program} {l : Launch} {e : Env} {s : State} {m : MethodId} {args : Array Value} {below : List Frame} {meth : Method} {c : Code} {D : va_G} {aC : Nat → ClassId} {G0 : Hp} (hC : zC p m c meth s args cX12_foretoldOf 9 RX12 D aC) (hr : meth.sig.returnType = (some .long)) (FU : Nat) : ∀ (n : Nat) (x0 : Nat) (x1 : Int) (x2 : Int) (x4 : Int) (G : Hp) (hx1 : zInI x1) (hx2 : zInL x2) (hx4 : zInI x4), zS p l e ({ frames := 4, cells := 0, slots := 0, locals := 93 } : Room) s m args below meth c D aC G0 (zfL D aC G0 below args s 0 0) 9 0 0 (FM_foretoldOf_L5 FU n x0 x1 x2 x4 G) G 5 [(0, .ref x0), (1, .int (zi x1)), (2, .long (zl x2)), (4, .int (zi x4))] [] := by
  intro n
  induction n with
  | zero => intros; exact z_none
  | succ n ih =>
    intro x0 x1 x2 x4 G hx1 hx2 hx4
    rw [FM_foretoldOf_L5]
    refine z_iload hC 3 rfl dX12_foretoldOf_5 ?_
    refine z_aload_n hC 0 rfl dX12_foretoldOf_7 rfl ?_
    refine z_getI hC zF12_136 rfl dX12_foretoldOf_8 (fun v1 hv1 => ?_)
    refine z_icmp_ge (tgt := 104) hC hx4 hv1 dX12_foretoldOf_11 (by decide) (fun _ => ?_) (fun _ => ?_)
    · refine z_lconst (z := 0) hC dX12_foretoldOf_14 rfl ?_
      refine z_lstore (lo' := [(5, .long (zl (0))), (0, .ref x0), (1, .int (zi x1)), (2, .long (zl x2)), (4, .int (zi x4))]) hC dX12_foretoldOf_15 (by decide) rfl ?_
      refine z_iconst hC dX12_foretoldOf_17 ?_
      refine z_istore (lo' := [(7, .int (zi (0))), (5, .long (zl (0))), (0, .ref x0), (1, .int (zi x1)), (2, .long (zl x2)), (4, .int (zi x4))]) hC dX12_foretoldOf_18 (by decide) rfl ?_
      refine z_sub hC [2, 3, 4, 5, 1, 0] (lo' := [(0, .ref x0), (1, .int (zi x1)), (2, .long (zl x2)), (4, .int (zi x4)), (5, .long (zl (0))), (7, .int (zi (0)))]) rfl ?_
      exact SM_foretoldOf_L20 hC hr FU (FM_foretoldOf_L5 FU n) ih FU x0 x1 x2 x4 (0) (0) G hx1 hx2 hx4 (by decide) (by decide)
    · refine z_lload_n hC 2 rfl dX12_foretoldOf_104 rfl ?_
      exact z_lret hC hx2 hr dX12_foretoldOf_105
set_option maxRecDepth 100000 in
theorem SM_foretoldOf {l : Launch} {D : va_G} {aC : Nat → ClassId} (FU : Nat) (this : Nat) (p1 : Int) (hp1 : zInI p1) {G : Hp} {r1 : (Int × Hp)} (h1 : FM_foretoldOf FU this p1 G = some r1) : Met l yX12_foretoldOf (Cond.code yX12_foretoldOf cX12_foretoldOf 9 (some .long) :: zgood) ({ frames := 4, cells := 0, slots := 0, locals := 93 } : Room) (va_Pc [.ref this, .int (zi p1)] (zU D aC G)) (zQ D aC G (zInL r1.1) (some (.long (zl r1.1))) r1.2) 0 0 (zA G) := by
  refine z_met (y := yX12_foretoldOf) (b := cX12_foretoldOf) (maxL := 9) (mc := 0) (ms := 0) (ret := (some .long)) (As := [.ref this, .int (zi p1)]) (Q1 := fun r1 => zQ D aC G (zInL r1.1) (some (.long (zl r1.1))) r1.2) (X := FM_foretoldOf FU this p1 G) (by decide) (Nat.le_of_ble_eq_true rfl) ?_ h1
  intro p e s m below meth c hC hr hi
  have hC : zC p m c meth s ([.ref this, .int (zi p1)] : List Value).toArray cX12_foretoldOf 9 RX12 D aC := hC
  generalize ([.ref this, .int (zi p1)] : List Value).toArray = args at hC ⊢
  show zS p l e ({ frames := 4, cells := 0, slots := 0, locals := 93 } : Room) s m args below meth c D aC G (zfL D aC G below args s 0 0) 9 0 0 (FM_foretoldOf FU this p1 G) G 0 [(0, .ref this), (1, .int (zi p1))] []
  unfold FM_foretoldOf
  refine z_gd ?_
  unfold FM_foretoldOf_b
  refine z_lconst (z := 0) hC dX12_foretoldOf_0 rfl ?_
  refine z_lstore_n (lo' := [(2, .long (zl (0))), (0, .ref this), (1, .int (zi p1))]) hC dX12_foretoldOf_1 rfl (by decide) rfl ?_
  refine z_iconst hC dX12_foretoldOf_2 ?_
  refine z_istore (lo' := [(4, .int (zi (0))), (2, .long (zl (0))), (0, .ref this), (1, .int (zi p1))]) hC dX12_foretoldOf_3 (by decide) rfl ?_
  refine z_sub hC [2, 3, 1, 0] (lo' := [(0, .ref this), (1, .int (zi p1)), (2, .long (zl (0))), (4, .int (zi (0)))]) rfl ?_
  exact SM_foretoldOf_L5 hC hr FU FU this p1 (0) (0) G hp1 (by decide) (by decide)
theorem SM_foretoldOf_k {FU : Nat} {this : Nat} {p1 : Int} {G : Hp} {r1 : (Int × Hp)} (h1 : FM_foretoldOf FU this p1 G = some r1) : zk G this = some (12, 0) := zgd_k (k := FM_foretoldOf_b FU this p1 G) h1

set_option maxRecDepth 100000 in
theorem SM_foretold {l : Launch} {D : va_G} {aC : Nat → ClassId} (FU : Nat) (this : Nat) (p1 : Int) (hp1 : zInI p1) {G : Hp} {r1 : (Int × Hp)} (h1 : FM_foretold FU this p1 G = some r1) : Met l yX12_foretold (Cond.code yX12_foretold cX12_foretold 2 (some .int) :: zgood) ({ frames := 5, cells := 0, slots := 0, locals := 121 } : Room) (va_Pc [.ref this, .int (zi p1)] (zU D aC G)) (zQ D aC G (zInI r1.1) (some (.int (zi r1.1))) r1.2) 0 0 (zA G) := by
  refine z_met (y := yX12_foretold) (b := cX12_foretold) (maxL := 2) (mc := 0) (ms := 0) (ret := (some .int)) (As := [.ref this, .int (zi p1)]) (Q1 := fun r1 => zQ D aC G (zInI r1.1) (some (.int (zi r1.1))) r1.2) (X := FM_foretold FU this p1 G) (by decide) (Nat.le_of_ble_eq_true rfl) ?_ h1
  intro p e s m below meth c hC hr hi
  have hC : zC p m c meth s ([.ref this, .int (zi p1)] : List Value).toArray cX12_foretold 2 RX12 D aC := hC
  generalize ([.ref this, .int (zi p1)] : List Value).toArray = args at hC ⊢
  show zS p l e ({ frames := 5, cells := 0, slots := 0, locals := 121 } : Room) s m args below meth c D aC G (zfI D aC G below args s 0 0) 2 0 0 (FM_foretold FU this p1 G) G 0 [(0, .ref this), (1, .int (zi p1))] []
  unfold FM_foretold
  refine z_gd ?_
  unfold FM_foretold_b
  refine z_aload_n hC 0 rfl dX12_foretold_0 rfl ?_
  refine z_iload_n hC 1 rfl dX12_foretold_1 rfl ?_
  refine z_cZp (z_rV (q := this) (t := 12) (As := [.int (zi p1)]) hC (fun _ h1 => SM_isShop FU this p1 hp1 h1) (fun _ h1 => SM_isShop_k h1) rfl rfl zM12_192 zMv_FM_isShop ⟨by decide, by decide⟩ rfl rfl rfl (rest := []) (Nat.le_of_ble_eq_true rfl) ⟨Nat.le_of_ble_eq_true rfl, Nat.le_of_ble_eq_true rfl⟩ rfl dX12_foretold_2) (fun v1 hv1 => ?_)
  refine z_if_ne (tgt := 10) hC (hv1).i dX12_foretold_5 (by decide) (fun _ => ?_) (fun _ => ?_)
  · refine z_iconst hC dX12_foretold_8 ?_
    exact z_iret hC (by decide) hr dX12_foretold_9
  · refine z_aload_n hC 0 rfl dX12_foretold_10 rfl ?_
    refine z_iconst hC dX12_foretold_11 ?_
    refine z_putI hC (by decide) zF12_198 rfl rfl dX12_foretold_12 (fun G2 => ?_)
    refine z_aload_n hC 0 rfl dX12_foretold_15 rfl ?_
    refine z_iload_n hC 1 rfl dX12_foretold_16 rfl ?_
    refine z_cZp (z_rV (q := this) (t := 12) (As := [.int (zi p1)]) hC (fun _ h1 => SM_isOpen FU this p1 hp1 h1) (fun _ h1 => SM_isOpen_k h1) rfl rfl zM12_176 zMv_FM_isOpen ⟨by decide, by decide⟩ rfl rfl rfl (rest := []) (Nat.le_of_ble_eq_true rfl) ⟨Nat.le_of_ble_eq_true rfl, Nat.le_of_ble_eq_true rfl⟩ rfl dX12_foretold_17) (fun v3 hv3 => ?_)
    refine z_if_eq (tgt := 32) hC (hv3).i dX12_foretold_20 (by decide) (fun _ => ?_) (fun _ => ?_)
    · refine z_bipush hC dX12_foretold_32 rfl ?_
      exact z_iret hC (by decide) hr dX12_foretold_34
    · refine z_aload_n hC 0 rfl dX12_foretold_23 rfl ?_
      refine z_iload_n hC 1 rfl dX12_foretold_24 rfl ?_
      refine z_cL (z_rV (q := this) (t := 12) (As := [.int (zi p1)]) hC (fun _ h1 => SM_foretoldOf FU this p1 hp1 h1) (fun _ h1 => SM_foretoldOf_k h1) rfl rfl zM12_207 zMv_FM_foretoldOf ⟨by decide, by decide⟩ rfl rfl rfl (rest := []) (Nat.le_of_ble_eq_true rfl) ⟨Nat.le_of_ble_eq_true rfl, Nat.le_of_ble_eq_true rfl⟩ rfl dX12_foretold_25) (fun v5 G4 hv5 => ?_)
      refine z_l2i hC dX12_foretold_28 (fun v6 hv6 => ?_)
      refine z_goto (tgt := 34) hC dX12_foretold_29 (by decide) ?_
      exact z_iret hC hv6 hr dX12_foretold_34
theorem SM_foretold_k {FU : Nat} {this : Nat} {p1 : Int} {G : Hp} {r1 : (Int × Hp)} (h1 : FM_foretold FU this p1 G = some r1) : zk G this = some (12, 0) := zgd_k (k := FM_foretold_b FU this p1 G) h1

set_option maxRecDepth 100000 in
theorem SM_harmBy {l : Launch} {D : va_G} {aC : Nat → ClassId} (FU : Nat) (p1 : Int) (p2 : Int) (hp1 : zInL p1) (hp2 : zInL p2) {G : Hp} {r1 : Int} (h1 : FM_harmBy FU p1 p2 G = some r1) : Met l yX12_harmBy (Cond.code yX12_harmBy cX12_harmBy 4 (some .int) :: zgood) ({ frames := 1, cells := 0, slots := 0, locals := 24 } : Room) (va_Pc [.long (zl p1), .long (zl p2)] (zU D aC G)) (zQ D aC G (zInI r1) (some (.int (zi r1))) G) 0 0 (zA G) := by
  refine z_met (y := yX12_harmBy) (b := cX12_harmBy) (maxL := 4) (mc := 0) (ms := 0) (ret := (some .int)) (As := [.long (zl p1), .long (zl p2)]) (Q1 := fun r1 => zQ D aC G (zInI r1) (some (.int (zi r1))) G) (X := FM_harmBy FU p1 p2 G) (by decide) (Nat.le_of_ble_eq_true rfl) ?_ h1
  intro p e s m below meth c hC hr hi
  have hC : zC p m c meth s ([.long (zl p1), .long (zl p2)] : List Value).toArray cX12_harmBy 4 RX12 D aC := hC
  generalize ([.long (zl p1), .long (zl p2)] : List Value).toArray = args at hC ⊢
  show zS p l e ({ frames := 1, cells := 0, slots := 0, locals := 24 } : Room) s m args below meth c D aC G (fun r1 => zfI D aC G below args s 0 0 (r1, G)) 4 0 0 (FM_harmBy FU p1 p2 G) G 0 [(0, .long (zl p1)), (2, .long (zl p2))] []
  unfold FM_harmBy
  refine z_lload_n hC 0 rfl dX12_harmBy_0 rfl ?_
  refine z_lconst (z := 0) hC dX12_harmBy_1 rfl ?_
  refine z_lcmp hC hp1 (by decide) dX12_harmBy_2 (fun v1 hv1 => ?_)
  refine z_if_ne (tgt := 10) hC hv1 dX12_harmBy_3 (by decide) (fun _ => ?_) (fun _ => ?_)
  · refine z_iconst hC dX12_harmBy_6 ?_
    refine z_goto (tgt := 24) hC dX12_harmBy_7 (by decide) ?_
    exact z_iretp hC (by decide) hr dX12_harmBy_24
  · refine z_lload_n hC 0 rfl dX12_harmBy_10 rfl ?_
    refine z_lload_n hC 1 rfl dX12_harmBy_11 rfl ?_
    refine z_lsub hC dX12_harmBy_12 (fun v2 hv2 => ?_)
    refine z_ldc2 (z := 1000) hC dX12_harmBy_13 zc12_211 ?_
    refine z_lmul hC dX12_harmBy_16 (fun v3 hv3 => ?_)
    refine z_lload_n hC 0 rfl dX12_harmBy_17 rfl ?_
    refine z_ladd hC dX12_harmBy_18 (fun v4 hv4 => ?_)
    refine z_lconst (z := 1) hC dX12_harmBy_19 rfl ?_
    refine z_lsub hC dX12_harmBy_20 (fun v5 hv5 => ?_)
    refine z_lload_n hC 0 rfl dX12_harmBy_21 rfl ?_
    refine z_ldiv hC hv5 hp1 dX12_harmBy_22 (fun v6 hv6 => ?_)
    refine z_l2i hC dX12_harmBy_23 (fun v7 hv7 => ?_)
    exact z_iretp hC hv7 hr dX12_harmBy_24

set_option maxRecDepth 100000 in
theorem SM_harm {l : Launch} {D : va_G} {aC : Nat → ClassId} (FU : Nat) (this : Nat) (p1 : Int) (p2 : Int) (p3 : Int) (hp1 : zInI p1) (hp2 : zInI p2) (hp3 : zInI p3) {G : Hp} {r1 : (Int × Hp)} (h1 : FM_harm FU this p1 p2 p3 G = some r1) : Met l yX12_harm (Cond.code yX12_harm cX12_harm 8 (some .int) :: zgood) ({ frames := 5, cells := 0, slots := 0, locals := 121 } : Room) (va_Pc [.ref this, .int (zi p1), .int (zi p2), .int (zi p3)] (zU D aC G)) (zQ D aC G (zInI r1.1) (some (.int (zi r1.1))) r1.2) 0 0 (zA G) := by
  refine z_met (y := yX12_harm) (b := cX12_harm) (maxL := 8) (mc := 0) (ms := 0) (ret := (some .int)) (As := [.ref this, .int (zi p1), .int (zi p2), .int (zi p3)]) (Q1 := fun r1 => zQ D aC G (zInI r1.1) (some (.int (zi r1.1))) r1.2) (X := FM_harm FU this p1 p2 p3 G) (by decide) (Nat.le_of_ble_eq_true rfl) ?_ h1
  intro p e s m below meth c hC hr hi
  have hC : zC p m c meth s ([.ref this, .int (zi p1), .int (zi p2), .int (zi p3)] : List Value).toArray cX12_harm 8 RX12 D aC := hC
  generalize ([.ref this, .int (zi p1), .int (zi p2), .int (zi p3)] : List Value).toArray = args at hC ⊢
  show zS p l e ({ frames := 5, cells := 0, slots := 0, locals := 121 } : Room) s m args below meth c D aC G (zfI D aC G below args s 0 0) 8 0 0 (FM_harm FU this p1 p2 p3 G) G 0 [(0, .ref this), (1, .int (zi p1)), (2, .int (zi p2)), (3, .int (zi p3))] []
  unfold FM_harm
  refine z_gd ?_
  unfold FM_harm_b
  refine z_aload_n hC 0 rfl dX12_harm_0 rfl ?_
  refine z_iload_n hC 1 rfl dX12_harm_1 rfl ?_
  refine z_cZp (z_rV (q := this) (t := 12) (As := [.int (zi p1)]) hC (fun _ h1 => SM_isShop FU this p1 hp1 h1) (fun _ h1 => SM_isShop_k h1) rfl rfl zM12_192 zMv_FM_isShop ⟨by decide, by decide⟩ rfl rfl rfl (rest := []) (Nat.le_of_ble_eq_true rfl) ⟨Nat.le_of_ble_eq_true rfl, Nat.le_of_ble_eq_true rfl⟩ rfl dX12_harm_2) (fun v1 hv1 => ?_)
  refine z_if_eq (tgt := 26) hC (hv1).i dX12_harm_5 (by decide) (fun _ => ?_) (fun _ => ?_)
  · refine z_iconst hC dX12_harm_26 ?_
    exact z_iret hC (by decide) hr dX12_harm_27
  · refine z_aload_n hC 0 rfl dX12_harm_8 rfl ?_
    refine z_iload_n hC 2 rfl dX12_harm_9 rfl ?_
    refine z_cZp (z_rV (q := this) (t := 12) (As := [.int (zi p2)]) hC (fun _ h1 => SM_isPlace FU this p2 hp2 h1) (fun _ h1 => SM_isPlace_k h1) rfl rfl zM12_150 zMv_FM_isPlace ⟨by decide, by decide⟩ rfl rfl rfl (rest := []) (Nat.le_of_ble_eq_true rfl) ⟨Nat.le_of_ble_eq_true rfl, Nat.le_of_ble_eq_true rfl⟩ rfl dX12_harm_10) (fun v2 hv2 => ?_)
    refine z_if_eq (tgt := 26) hC (hv2).i dX12_harm_13 (by decide) (fun _ => ?_) (fun _ => ?_)
    · refine z_iconst hC dX12_harm_26 ?_
      exact z_iret hC (by decide) hr dX12_harm_27
    · refine z_iload_n hC 3 rfl dX12_harm_16 rfl ?_
      refine z_iconst hC dX12_harm_17 ?_
      refine z_bipush hC dX12_harm_18 rfl ?_
      refine z_cZp (z_rS (As := [.int (zi p3), .int (zi (1)), .int (zi (99))]) hC (fun _ h1 => SM_within FU p3 (1) (99) hp3 (by decide) (by decide) h1) zM12_142 zMs_FM_within ⟨by decide, by decide⟩ rfl rfl rfl (rest := []) (Nat.le_of_ble_eq_true rfl) ⟨Nat.le_of_ble_eq_true rfl, Nat.le_of_ble_eq_true rfl⟩ rfl dX12_harm_20) (fun v3 hv3 => ?_)
      refine z_if_ne (tgt := 28) hC (hv3).i dX12_harm_23 (by decide) (fun _ => ?_) (fun _ => ?_)
      · refine z_iconst hC dX12_harm_26 ?_
        exact z_iret hC (by decide) hr dX12_harm_27
      · refine z_aload_n hC 0 rfl dX12_harm_28 rfl ?_
        refine z_iload_n hC 1 rfl dX12_harm_29 rfl ?_
        refine z_cZp (z_rV (q := this) (t := 12) (As := [.int (zi p1)]) hC (fun _ h1 => SM_isOpen FU this p1 hp1 h1) (fun _ h1 => SM_isOpen_k h1) rfl rfl zM12_176 zMv_FM_isOpen ⟨by decide, by decide⟩ rfl rfl rfl (rest := []) (Nat.le_of_ble_eq_true rfl) ⟨Nat.le_of_ble_eq_true rfl, Nat.le_of_ble_eq_true rfl⟩ rfl dX12_harm_30) (fun v4 hv4 => ?_)
        refine z_if_eq (tgt := 44) hC (hv4).i dX12_harm_33 (by decide) (fun _ => ?_) (fun _ => ?_)
        · refine z_bipush hC dX12_harm_44 rfl ?_
          exact z_iret hC (by decide) hr dX12_harm_46
        · refine z_aload_n hC 0 rfl dX12_harm_36 rfl ?_
          refine z_iload_n hC 2 rfl dX12_harm_37 rfl ?_
          refine z_cIp (z_rV (q := this) (t := 12) (As := [.int (zi p2)]) hC (fun _ h1 => SM_openAt FU this p2 hp2 h1) (fun _ h1 => SM_openAt_k h1) rfl rfl zM12_185 zMv_FM_openAt ⟨by decide, by decide⟩ rfl rfl rfl (rest := []) (Nat.le_of_ble_eq_true rfl) ⟨Nat.le_of_ble_eq_true rfl, Nat.le_of_ble_eq_true rfl⟩ rfl dX12_harm_38) (fun v5 hv5 => ?_)
          refine z_if_lt (tgt := 47) hC hv5 dX12_harm_41 (by decide) (fun _ => ?_) (fun _ => ?_)
          · refine z_aload_n hC 0 rfl dX12_harm_47 rfl ?_
            refine z_iconst hC dX12_harm_48 ?_
            refine z_putI hC (by decide) zF12_198 rfl rfl dX12_harm_49 (fun G6 => ?_)
            refine z_aload_n hC 0 rfl dX12_harm_52 rfl ?_
            refine z_iload_n hC 1 rfl dX12_harm_53 rfl ?_
            refine z_cL (z_rV (q := this) (t := 12) (As := [.int (zi p1)]) hC (fun _ h1 => SM_foretoldOf FU this p1 hp1 h1) (fun _ h1 => SM_foretoldOf_k h1) rfl rfl zM12_207 zMv_FM_foretoldOf ⟨by decide, by decide⟩ rfl rfl rfl (rest := []) (Nat.le_of_ble_eq_true rfl) ⟨Nat.le_of_ble_eq_true rfl, Nat.le_of_ble_eq_true rfl⟩ rfl dX12_harm_54) (fun v8 G7 hv8 => ?_)
            refine z_lstore (lo' := [(4, .long (zl v8)), (0, .ref this), (1, .int (zi p1)), (2, .int (zi p2)), (3, .int (zi p3))]) hC dX12_harm_57 (by decide) rfl ?_
            refine z_aload_n hC 1 rfl dX12_harm_59 rfl ?_
            refine z_getQ hC zF12_26 rfl dX12_harm_60 (fun v9 => ?_)
            refine z_bipush hC dX12_harm_63 rfl ?_
            refine z_iload_n hC 3 rfl dX12_harm_65 rfl ?_
            refine z_iast hC (by decide) hp2 dX12_harm_66 (fun G10 => ?_)
            refine z_aload_n hC 1 rfl dX12_harm_67 rfl ?_
            refine z_getQ hC zF12_32 rfl dX12_harm_68 (fun v11 => ?_)
            refine z_bipush hC dX12_harm_71 rfl ?_
            refine z_iload_n hC 4 rfl dX12_harm_73 rfl ?_
            refine z_iast hC (by decide) hp3 dX12_harm_74 (fun G12 => ?_)
            refine z_aload_n hC 1 rfl dX12_harm_75 rfl ?_
            refine z_iconst hC dX12_harm_76 ?_
            refine z_putI hC (by decide) zF12_198 rfl rfl dX12_harm_77 (fun G13 => ?_)
            refine z_aload_n hC 1 rfl dX12_harm_80 rfl ?_
            refine z_iload_n hC 2 rfl dX12_harm_81 rfl ?_
            refine z_cL (z_rV (q := this) (t := 12) (As := [.int (zi p1)]) hC (fun _ h1 => SM_foretoldOf FU this p1 hp1 h1) (fun _ h1 => SM_foretoldOf_k h1) rfl rfl zM12_207 zMv_FM_foretoldOf ⟨by decide, by decide⟩ rfl rfl rfl (rest := []) (Nat.le_of_ble_eq_true rfl) ⟨Nat.le_of_ble_eq_true rfl, Nat.le_of_ble_eq_true rfl⟩ rfl dX12_harm_82) (fun v15 G14 hv15 => ?_)
            refine z_lstore (lo' := [(6, .long (zl v15)), (4, .long (zl v8)), (0, .ref this), (1, .int (zi p1)), (2, .int (zi p2)), (3, .int (zi p3))]) hC dX12_harm_85 (by decide) rfl ?_
            refine z_aload_n hC 2 rfl dX12_harm_87 rfl ?_
            refine z_iconst hC dX12_harm_88 ?_
            refine z_putI hC (by decide) zF12_198 rfl rfl dX12_harm_89 (fun G16 => ?_)
            refine z_lload hC 1 rfl dX12_harm_92 ?_
            refine z_lload hC 0 rfl dX12_harm_94 ?_
            refine z_cIp (z_rS (As := [.long (zl v8), .long (zl v15)]) hC (fun _ h1 => SM_harmBy FU v8 v15 hv8 hv15 h1) zM12_213 zMs_FM_harmBy ⟨by decide, by decide⟩ rfl rfl rfl (rest := []) (Nat.le_of_ble_eq_true rfl) ⟨Nat.le_of_ble_eq_true rfl, Nat.le_of_ble_eq_true rfl⟩ rfl dX12_harm_96) (fun v17 hv17 => ?_)
            exact z_iret hC hv17 hr dX12_harm_99
          · refine z_bipush hC dX12_harm_44 rfl ?_
            exact z_iret hC (by decide) hr dX12_harm_46
theorem SM_harm_k {FU : Nat} {this : Nat} {p1 : Int} {p2 : Int} {p3 : Int} {G : Hp} {r1 : (Int × Hp)} (h1 : FM_harm FU this p1 p2 p3 G = some r1) : zk G this = some (12, 0) := zgd_k (k := FM_harm_b FU this p1 p2 p3 G) h1

set_option maxRecDepth 100000 in
theorem SM_site_L12 {p : Program} {l : Launch} {e : Env} {s : State} {m : MethodId} {args : Array Value} {below : List Frame} {meth : Method} {c : Code} {D : va_G} {aC : Nat → ClassId} {G0 : Hp} (hC : zC p m c meth s args cX12_site 3 RX12 D aC) (hr : meth.sig.returnType = (some .int)) (FU : Nat) : ∀ (n : Nat) (x0 : Nat) (x1 : Int) (x2 : Int) (G : Hp) (hx1 : zInI x1) (hx2 : zInI x2), zS p l e ({ frames := 2, cells := 0, slots := 0, locals := 45 } : Room) s m args below meth c D aC G0 (zfI D aC G0 below args s 0 0) 3 0 0 (FM_site_L12 FU n x0 x1 x2 G) G 12 [(0, .ref x0), (1, .int (zi x1)), (2, .int (zi x2))] [] := by
  intro n
  induction n with
  | zero => intros; exact z_none
  | succ n ih =>
    intro x0 x1 x2 G hx1 hx2
    rw [FM_site_L12]
    refine z_iload_n hC 2 rfl dX12_site_12 rfl ?_
    refine z_aload_n hC 0 rfl dX12_site_13 rfl ?_
    refine z_getI hC zF12_217 rfl dX12_site_14 (fun v1 hv1 => ?_)
    refine z_icmp_ge (tgt := 38) hC hx2 hv1 dX12_site_17 (by decide) (fun _ => ?_) (fun _ => ?_)
    · refine z_aload_n hC 0 rfl dX12_site_20 rfl ?_
      refine z_getQ hC zF12_47 rfl dX12_site_21 (fun v2 => ?_)
      refine z_iload_n hC 2 rfl dX12_site_24 rfl ?_
      refine z_iald hC hx2 dX12_site_25 (fun v3 hv3 => ?_)
      refine z_iload_n hC 1 rfl dX12_site_26 rfl ?_
      refine z_icmp_ne (tgt := 32) hC hv3 hx1 dX12_site_27 (by decide) (fun _ => ?_) (fun _ => ?_)
      · refine z_iconst hC dX12_site_30 ?_
        exact z_iret hC (by decide) hr dX12_site_31
      · refine z_iinc (lo' := fun v4 => [(2, .int (zi v4)), (0, .ref x0), (1, .int (zi x1))]) hC 2 dX12_site_32 rfl (by decide) (fun _ => rfl) (fun v4 hv4 => ?_)
        refine z_goto (tgt := 12) hC dX12_site_35 (by decide) ?_
        refine z_sub hC [1, 2, 0] (lo' := [(0, .ref x0), (1, .int (zi x1)), (2, .int (zi v4))]) rfl ?_
        exact ih x0 x1 v4 G hx1 hv4
    · refine z_aload_n hC 0 rfl dX12_site_38 rfl ?_
      refine z_getI hC zF12_217 rfl dX12_site_39 (fun v5 hv5 => ?_)
      refine z_bipush hC dX12_site_42 rfl ?_
      refine z_icmp_ne (tgt := 50) hC hv5 (by decide) dX12_site_44 (by decide) (fun _ => ?_) (fun _ => ?_)
      · refine z_bipush hC dX12_site_47 rfl ?_
        exact z_iret hC (by decide) hr dX12_site_49
      · refine z_aload_n hC 0 rfl dX12_site_50 rfl ?_
        refine z_getQ hC zF12_47 rfl dX12_site_51 (fun v6 => ?_)
        refine z_aload_n hC 0 rfl dX12_site_54 rfl ?_
        refine z_getI hC zF12_217 rfl dX12_site_55 (fun v7 hv7 => ?_)
        refine z_iload_n hC 1 rfl dX12_site_58 rfl ?_
        refine z_iast hC hv7 hx1 dX12_site_59 (fun G8 => ?_)
        refine z_aload_n hC 0 rfl dX12_site_60 rfl ?_
        refine z_dup hC rfl dX12_site_61 ?_
        refine z_getI hC zF12_217 rfl dX12_site_62 (fun v9 hv9 => ?_)
        refine z_iconst hC dX12_site_65 ?_
        refine z_iadd hC dX12_site_66 (fun v10 hv10 => ?_)
        refine z_putI hC hv10 zF12_217 rfl rfl dX12_site_67 (fun G11 => ?_)
        refine z_aload_n hC 0 rfl dX12_site_70 rfl ?_
        refine z_getI hC zF12_217 rfl dX12_site_71 (fun v12 hv12 => ?_)
        exact z_iret hC hv12 hr dX12_site_74
set_option maxRecDepth 100000 in
theorem SM_site {l : Launch} {D : va_G} {aC : Nat → ClassId} (FU : Nat) (this : Nat) (p1 : Int) (hp1 : zInI p1) {G : Hp} {r1 : (Int × Hp)} (h1 : FM_site FU this p1 G = some r1) : Met l yX12_site (Cond.code yX12_site cX12_site 3 (some .int) :: zgood) ({ frames := 2, cells := 0, slots := 0, locals := 45 } : Room) (va_Pc [.ref this, .int (zi p1)] (zU D aC G)) (zQ D aC G (zInI r1.1) (some (.int (zi r1.1))) r1.2) 0 0 (zA G) := by
  refine z_met (y := yX12_site) (b := cX12_site) (maxL := 3) (mc := 0) (ms := 0) (ret := (some .int)) (As := [.ref this, .int (zi p1)]) (Q1 := fun r1 => zQ D aC G (zInI r1.1) (some (.int (zi r1.1))) r1.2) (X := FM_site FU this p1 G) (by decide) (Nat.le_of_ble_eq_true rfl) ?_ h1
  intro p e s m below meth c hC hr hi
  have hC : zC p m c meth s ([.ref this, .int (zi p1)] : List Value).toArray cX12_site 3 RX12 D aC := hC
  generalize ([.ref this, .int (zi p1)] : List Value).toArray = args at hC ⊢
  show zS p l e ({ frames := 2, cells := 0, slots := 0, locals := 45 } : Room) s m args below meth c D aC G (zfI D aC G below args s 0 0) 3 0 0 (FM_site FU this p1 G) G 0 [(0, .ref this), (1, .int (zi p1))] []
  unfold FM_site
  refine z_gd ?_
  unfold FM_site_b
  refine z_aload_n hC 0 rfl dX12_site_0 rfl ?_
  refine z_iload_n hC 1 rfl dX12_site_1 rfl ?_
  refine z_cZp (z_rV (q := this) (t := 12) (As := [.int (zi p1)]) hC (fun _ h1 => SM_isPlace FU this p1 hp1 h1) (fun _ h1 => SM_isPlace_k h1) rfl rfl zM12_150 zMv_FM_isPlace ⟨by decide, by decide⟩ rfl rfl rfl (rest := []) (Nat.le_of_ble_eq_true rfl) ⟨Nat.le_of_ble_eq_true rfl, Nat.le_of_ble_eq_true rfl⟩ rfl dX12_site_2) (fun v1 hv1 => ?_)
  refine z_if_ne (tgt := 10) hC (hv1).i dX12_site_5 (by decide) (fun _ => ?_) (fun _ => ?_)
  · refine z_iconst hC dX12_site_8 ?_
    exact z_iret hC (by decide) hr dX12_site_9
  · refine z_iconst hC dX12_site_10 ?_
    refine z_istore_n (lo' := [(2, .int (zi (0))), (0, .ref this), (1, .int (zi p1))]) hC dX12_site_11 rfl (by decide) rfl ?_
    refine z_sub hC [1, 2, 0] (lo' := [(0, .ref this), (1, .int (zi p1)), (2, .int (zi (0)))]) rfl ?_
    exact SM_site_L12 hC hr FU FU this p1 (0) G hp1 (by decide)
theorem SM_site_k {FU : Nat} {this : Nat} {p1 : Int} {G : Hp} {r1 : (Int × Hp)} (h1 : FM_site FU this p1 G = some r1) : zk G this = some (12, 0) := zgd_k (k := FM_site_b FU this p1 G) h1

set_option maxRecDepth 100000 in
theorem SM_sumOf_B155 {p : Program} {l : Launch} {e : Env} {s : State} {m : MethodId} {args : Array Value} {below : List Frame} {meth : Method} {c : Code} {D : va_G} {aC : Nat → ClassId} {G0 : Hp} (hC : zC p m c meth s args cX12_sumOf 11 RX12 D aC) (hr : meth.sig.returnType = (some .long)) (FU : Nat) (x0 : Nat) (x5 : Int) (x7 : Int) (G : Hp) (hx5 : zInL x5) (hx7 : zInI x7) : zS p l e ({ frames := 5, cells := 0, slots := 0, locals := 121 } : Room) s m args below meth c D aC G0 (zfL D aC G0 below args s 0 0) 11 0 0 (FM_sumOf_B155 FU x0 x5 x7 G) G 155 [(0, .ref x0), (5, .long (zl x5)), (7, .int (zi x7))] [] := by
  unfold FM_sumOf_B155
  refine z_aload_n hC 0 rfl dX12_sumOf_155 rfl ?_
  refine z_iconst hC dX12_sumOf_156 ?_
  refine z_putI hC (by decide) zF12_198 rfl rfl dX12_sumOf_157 (fun G1 => ?_)
  refine z_iload hC 2 rfl dX12_sumOf_160 ?_
  refine z_if_eq (tgt := 170) hC hx7 dX12_sumOf_162 (by decide) (fun _ => ?_) (fun _ => ?_)
  · refine z_ldc2 (z := -1) hC dX12_sumOf_170 zc12_220 ?_
    exact z_lret hC (by decide) hr dX12_sumOf_173
  · refine z_lload hC 1 rfl dX12_sumOf_165 ?_
    refine z_goto (tgt := 173) hC dX12_sumOf_167 (by decide) ?_
    exact z_lret hC hx5 hr dX12_sumOf_173
set_option maxRecDepth 100000 in
theorem SM_sumOf_L73 {p : Program} {l : Launch} {e : Env} {s : State} {m : MethodId} {args : Array Value} {below : List Frame} {meth : Method} {c : Code} {D : va_G} {aC : Nat → ClassId} {G0 : Hp} (hC : zC p m c meth s args cX12_sumOf 11 RX12 D aC) (hr : meth.sig.returnType = (some .long)) (FU : Nat) : ∀ (n : Nat) (x0 : Nat) (x1 : Int) (x2 : Int) (x4 : Int) (x5 : Int) (x7 : Int) (x8 : Int) (G : Hp) (hx1 : zInI x1) (hx2 : zInI x2) (hx4 : zInI x4) (hx5 : zInL x5) (hx7 : zInI x7) (hx8 : zInI x8), zS p l e ({ frames := 5, cells := 0, slots := 0, locals := 121 } : Room) s m args below meth c D aC G0 (zfL D aC G0 below args s 0 0) 11 0 0 (FM_sumOf_L73 FU n x0 x1 x2 x4 x5 x7 x8 G) G 73 [(0, .ref x0), (1, .int (zi x1)), (2, .int (zi x2)), (4, .int (zi x4)), (5, .long (zl x5)), (7, .int (zi x7)), (8, .int (zi x8))] [] := by
  intro n
  induction n with
  | zero => intros; exact z_none
  | succ n ih =>
    intro x0 x1 x2 x4 x5 x7 x8 G hx1 hx2 hx4 hx5 hx7 hx8
    rw [FM_sumOf_L73]
    refine z_iload hC 6 rfl dX12_sumOf_73 ?_
    refine z_bipush hC dX12_sumOf_75 rfl ?_
    refine z_iload_n hC 1 rfl dX12_sumOf_77 rfl ?_
    refine z_iadd hC dX12_sumOf_78 (fun v1 hv1 => ?_)
    refine z_icmp_ge (tgt := 155) hC hx8 hv1 dX12_sumOf_79 (by decide) (fun _ => ?_) (fun _ => ?_)
    · refine z_iload hC 5 rfl dX12_sumOf_82 ?_
      refine z_if_eq (tgt := 155) hC hx7 dX12_sumOf_84 (by decide) (fun _ => ?_) (fun _ => ?_)
      · refine z_sub hC [0, 4, 5] (lo' := [(0, .ref x0), (5, .long (zl x5)), (7, .int (zi x7))]) rfl ?_
        exact SM_sumOf_B155 hC hr FU x0 x5 x7 G hx5 hx7
      · refine z_aload_n hC 0 rfl dX12_sumOf_87 rfl ?_
        refine z_iload hC 6 rfl dX12_sumOf_88 ?_
        refine z_cZp (z_rV (q := x0) (t := 12) (As := [.int (zi x8)]) hC (fun _ h1 => SM_draws FU x0 x8 hx8 h1) (fun _ h1 => SM_draws_k h1) rfl rfl zM12_201 zMv_FM_draws ⟨by decide, by decide⟩ rfl rfl rfl (rest := []) (Nat.le_of_ble_eq_true rfl) ⟨Nat.le_of_ble_eq_true rfl, Nat.le_of_ble_eq_true rfl⟩ rfl dX12_sumOf_90) (fun v2 hv2 => ?_)
        refine z_if_eq (tgt := 149) hC (hv2).i dX12_sumOf_93 (by decide) (fun _ => ?_) (fun _ => ?_)
        · refine z_iinc (lo' := fun v3 => [(8, .int (zi v3)), (0, .ref x0), (1, .int (zi x1)), (2, .int (zi x2)), (4, .int (zi x4)), (5, .long (zl x5)), (7, .int (zi x7))]) hC 6 dX12_sumOf_149 rfl (by decide) (fun _ => rfl) (fun v3 hv3 => ?_)
          refine z_goto (tgt := 73) hC dX12_sumOf_152 (by decide) ?_
          refine z_sub hC [1, 2, 3, 4, 5, 6, 0] (lo' := [(0, .ref x0), (1, .int (zi x1)), (2, .int (zi x2)), (4, .int (zi x4)), (5, .long (zl x5)), (7, .int (zi x7)), (8, .int (zi v3))]) rfl ?_
          exact ih x0 x1 x2 x4 x5 x7 v3 G hx1 hx2 hx4 hx5 hx7 hv3
        · refine z_aload_n hC 0 rfl dX12_sumOf_96 rfl ?_
          refine z_iload hC 6 rfl dX12_sumOf_97 ?_
          refine z_cL (z_rV (q := x0) (t := 12) (As := [.int (zi x8)]) hC (fun _ h1 => SM_foretoldOf FU x0 x8 hx8 h1) (fun _ h1 => SM_foretoldOf_k h1) rfl rfl zM12_207 zMv_FM_foretoldOf ⟨by decide, by decide⟩ rfl rfl rfl (rest := []) (Nat.le_of_ble_eq_true rfl) ⟨Nat.le_of_ble_eq_true rfl, Nat.le_of_ble_eq_true rfl⟩ rfl dX12_sumOf_99) (fun v5 G4 hv5 => ?_)
          refine z_lstore (lo' := [(9, .long (zl v5)), (0, .ref x0), (1, .int (zi x1)), (2, .int (zi x2)), (4, .int (zi x4)), (5, .long (zl x5)), (7, .int (zi x7)), (8, .int (zi x8))]) hC dX12_sumOf_102 (by decide) rfl ?_
          refine z_aload_n hC 1 rfl dX12_sumOf_104 rfl ?_
          refine z_getQ hC zF12_29 rfl dX12_sumOf_105 (fun v6 => ?_)
          refine z_iload hC 7 rfl dX12_sumOf_108 ?_
          refine z_iald hC hx8 dX12_sumOf_110 (fun v7 hv7 => ?_)
          refine z_iload_n hC 3 rfl dX12_sumOf_111 rfl ?_
          refine z_icmp_ne (tgt := 125) hC hv7 hx2 dX12_sumOf_112 (by decide) (fun _ => ?_) (fun _ => ?_)
          · refine z_lload hC 5 rfl dX12_sumOf_115 ?_
            refine z_lload hC 0 rfl dX12_sumOf_117 ?_
            refine z_ladd hC dX12_sumOf_119 (fun v8 hv8 => ?_)
            refine z_lstore (lo' := [(5, .long (zl v8)), (9, .long (zl v5)), (0, .ref x0), (1, .int (zi x1)), (2, .int (zi x2)), (4, .int (zi x4)), (7, .int (zi x7)), (8, .int (zi x8))]) hC dX12_sumOf_120 (by decide) rfl ?_
            refine z_goto (tgt := 149) hC dX12_sumOf_122 (by decide) ?_
            refine z_iinc (lo' := fun v9 => [(8, .int (zi v9)), (5, .long (zl v8)), (9, .long (zl v5)), (0, .ref x0), (1, .int (zi x1)), (2, .int (zi x2)), (4, .int (zi x4)), (7, .int (zi x7))]) hC 7 dX12_sumOf_149 rfl (by decide) (fun _ => rfl) (fun v9 hv9 => ?_)
            refine z_goto (tgt := 73) hC dX12_sumOf_152 (by decide) ?_
            refine z_sub hC [3, 4, 5, 6, 1, 7, 0] (lo' := [(0, .ref x0), (1, .int (zi x1)), (2, .int (zi x2)), (4, .int (zi x4)), (5, .long (zl v8)), (7, .int (zi x7)), (8, .int (zi v9))]) rfl ?_
            exact ih x0 x1 x2 x4 v8 x7 v9 G4 hx1 hx2 hx4 hv8 hx7 hv9
          · refine z_aload_n hC 1 rfl dX12_sumOf_125 rfl ?_
            refine z_getQ hC zF12_56 rfl dX12_sumOf_126 (fun v10 => ?_)
            refine z_iload hC 7 rfl dX12_sumOf_129 ?_
            refine z_lald hC hx8 dX12_sumOf_131 (fun v11 hv11 => ?_)
            refine z_lload hC 0 rfl dX12_sumOf_132 ?_
            refine z_cIp (z_rS (As := [.long (zl v11), .long (zl v5)]) hC (fun _ h1 => SM_harmBy FU v11 v5 hv11 hv5 h1) zM12_213 zMs_FM_harmBy ⟨by decide, by decide⟩ rfl rfl rfl (rest := []) (Nat.le_of_ble_eq_true rfl) ⟨Nat.le_of_ble_eq_true rfl, Nat.le_of_ble_eq_true rfl⟩ rfl dX12_sumOf_134) (fun v12 hv12 => ?_)
            refine z_iload hC 4 rfl dX12_sumOf_137 ?_
            refine z_icmp_gt (tgt := 146) hC hv12 hx4 dX12_sumOf_139 (by decide) (fun _ => ?_) (fun _ => ?_)
            · refine z_iconst hC dX12_sumOf_142 ?_
              refine z_goto (tgt := 147) hC dX12_sumOf_143 (by decide) ?_
              refine z_istore (lo' := [(7, .int (zi (1))), (9, .long (zl v5)), (0, .ref x0), (1, .int (zi x1)), (2, .int (zi x2)), (4, .int (zi x4)), (5, .long (zl x5)), (8, .int (zi x8))]) hC dX12_sumOf_147 (by decide) rfl ?_
              refine z_iinc (lo' := fun v13 => [(8, .int (zi v13)), (7, .int (zi (1))), (9, .long (zl v5)), (0, .ref x0), (1, .int (zi x1)), (2, .int (zi x2)), (4, .int (zi x4)), (5, .long (zl x5))]) hC 7 dX12_sumOf_149 rfl (by decide) (fun _ => rfl) (fun v13 hv13 => ?_)
              refine z_goto (tgt := 73) hC dX12_sumOf_152 (by decide) ?_
              refine z_sub hC [3, 4, 5, 6, 7, 1, 0] (lo' := [(0, .ref x0), (1, .int (zi x1)), (2, .int (zi x2)), (4, .int (zi x4)), (5, .long (zl x5)), (7, .int (zi (1))), (8, .int (zi v13))]) rfl ?_
              exact ih x0 x1 x2 x4 x5 (1) v13 G4 hx1 hx2 hx4 hx5 (by decide) hv13
            · refine z_iconst hC dX12_sumOf_146 ?_
              refine z_istore (lo' := [(7, .int (zi (0))), (9, .long (zl v5)), (0, .ref x0), (1, .int (zi x1)), (2, .int (zi x2)), (4, .int (zi x4)), (5, .long (zl x5)), (8, .int (zi x8))]) hC dX12_sumOf_147 (by decide) rfl ?_
              refine z_iinc (lo' := fun v14 => [(8, .int (zi v14)), (7, .int (zi (0))), (9, .long (zl v5)), (0, .ref x0), (1, .int (zi x1)), (2, .int (zi x2)), (4, .int (zi x4)), (5, .long (zl x5))]) hC 7 dX12_sumOf_149 rfl (by decide) (fun _ => rfl) (fun v14 hv14 => ?_)
              refine z_goto (tgt := 73) hC dX12_sumOf_152 (by decide) ?_
              refine z_sub hC [3, 4, 5, 6, 7, 1, 0] (lo' := [(0, .ref x0), (1, .int (zi x1)), (2, .int (zi x2)), (4, .int (zi x4)), (5, .long (zl x5)), (7, .int (zi (0))), (8, .int (zi v14))]) rfl ?_
              exact ih x0 x1 x2 x4 x5 (0) v14 G4 hx1 hx2 hx4 hx5 (by decide) hv14
    · refine z_sub hC [0, 4, 5] (lo' := [(0, .ref x0), (5, .long (zl x5)), (7, .int (zi x7))]) rfl ?_
      exact SM_sumOf_B155 hC hr FU x0 x5 x7 G hx5 hx7
set_option maxRecDepth 100000 in
theorem SM_sumOf_L3 {p : Program} {l : Launch} {e : Env} {s : State} {m : MethodId} {args : Array Value} {below : List Frame} {meth : Method} {c : Code} {D : va_G} {aC : Nat → ClassId} {G0 : Hp} (hC : zC p m c meth s args cX12_sumOf 11 RX12 D aC) (hr : meth.sig.returnType = (some .long)) (FU : Nat) : ∀ (n : Nat) (x0 : Nat) (x1 : Int) (x2 : Int) (x3 : Int) (x4 : Int) (x5 : Int) (G : Hp) (hx1 : zInI x1) (hx2 : zInI x2) (hx3 : zInI x3) (hx4 : zInI x4) (hx5 : zInI x5), zS p l e ({ frames := 5, cells := 0, slots := 0, locals := 121 } : Room) s m args below meth c D aC G0 (zfL D aC G0 below args s 0 0) 11 0 0 (FM_sumOf_L3 FU n x0 x1 x2 x3 x4 x5 G) G 3 [(0, .ref x0), (1, .int (zi x1)), (2, .int (zi x2)), (3, .int (zi x3)), (4, .int (zi x4)), (5, .int (zi x5))] [] := by
  intro n
  induction n with
  | zero => intros; exact z_none
  | succ n ih =>
    intro x0 x1 x2 x3 x4 x5 G hx1 hx2 hx3 hx4 hx5
    rw [FM_sumOf_L3]
    refine z_iload hC 5 rfl dX12_sumOf_3 ?_
    refine z_iload_n hC 1 rfl dX12_sumOf_5 rfl ?_
    refine z_icmp_ge (tgt := 59) hC hx5 hx1 dX12_sumOf_6 (by decide) (fun _ => ?_) (fun _ => ?_)
    · refine z_aload_n hC 0 rfl dX12_sumOf_9 rfl ?_
      refine z_getQ hC zF12_26 rfl dX12_sumOf_10 (fun v1 => ?_)
      refine z_bipush hC dX12_sumOf_13 rfl ?_
      refine z_iload hC 5 rfl dX12_sumOf_15 ?_
      refine z_iadd hC dX12_sumOf_17 (fun v2 hv2 => ?_)
      refine z_aload_n hC 0 rfl dX12_sumOf_18 rfl ?_
      refine z_getQ hC zF12_47 rfl dX12_sumOf_19 (fun v3 => ?_)
      refine z_aload_n hC 0 rfl dX12_sumOf_22 rfl ?_
      refine z_getQ hC zF12_50 rfl dX12_sumOf_23 (fun v4 => ?_)
      refine z_iload hC 5 rfl dX12_sumOf_26 ?_
      refine z_iald hC hx5 dX12_sumOf_28 (fun v5 hv5 => ?_)
      refine z_iald hC hv5 dX12_sumOf_29 (fun v6 hv6 => ?_)
      refine z_iast hC hv2 hv6 dX12_sumOf_30 (fun G7 => ?_)
      refine z_aload_n hC 0 rfl dX12_sumOf_31 rfl ?_
      refine z_getQ hC zF12_29 rfl dX12_sumOf_32 (fun v8 => ?_)
      refine z_bipush hC dX12_sumOf_35 rfl ?_
      refine z_iload hC 5 rfl dX12_sumOf_37 ?_
      refine z_iadd hC dX12_sumOf_39 (fun v9 hv9 => ?_)
      refine z_iload_n hC 2 rfl dX12_sumOf_40 rfl ?_
      refine z_iast hC hv9 hx2 dX12_sumOf_41 (fun G10 => ?_)
      refine z_aload_n hC 0 rfl dX12_sumOf_42 rfl ?_
      refine z_getQ hC zF12_32 rfl dX12_sumOf_43 (fun v11 => ?_)
      refine z_bipush hC dX12_sumOf_46 rfl ?_
      refine z_iload hC 5 rfl dX12_sumOf_48 ?_
      refine z_iadd hC dX12_sumOf_50 (fun v12 hv12 => ?_)
      refine z_iload_n hC 3 rfl dX12_sumOf_51 rfl ?_
      refine z_iast hC hv12 hx3 dX12_sumOf_52 (fun G13 => ?_)
      refine z_iinc (lo' := fun v14 => [(5, .int (zi v14)), (0, .ref x0), (1, .int (zi x1)), (2, .int (zi x2)), (3, .int (zi x3)), (4, .int (zi x4))]) hC 5 dX12_sumOf_53 rfl (by decide) (fun _ => rfl) (fun v14 hv14 => ?_)
      refine z_goto (tgt := 3) hC dX12_sumOf_56 (by decide) ?_
      refine z_sub hC [1, 2, 3, 4, 5, 0] (lo' := [(0, .ref x0), (1, .int (zi x1)), (2, .int (zi x2)), (3, .int (zi x3)), (4, .int (zi x4)), (5, .int (zi v14))]) rfl ?_
      exact ih x0 x1 x2 x3 x4 v14 G13 hx1 hx2 hx3 hx4 hv14
    · refine z_aload_n hC 0 rfl dX12_sumOf_59 rfl ?_
      refine z_iload_n hC 1 rfl dX12_sumOf_60 rfl ?_
      refine z_putI hC hx1 zF12_198 rfl rfl dX12_sumOf_61 (fun G15 => ?_)
      refine z_lconst (z := 0) hC dX12_sumOf_64 rfl ?_
      refine z_lstore (lo' := [(5, .long (zl (0))), (0, .ref x0), (1, .int (zi x1)), (2, .int (zi x2)), (3, .int (zi x3)), (4, .int (zi x4))]) hC dX12_sumOf_65 (by decide) rfl ?_
      refine z_iconst hC dX12_sumOf_67 ?_
      refine z_istore (lo' := [(7, .int (zi (1))), (5, .long (zl (0))), (0, .ref x0), (1, .int (zi x1)), (2, .int (zi x2)), (3, .int (zi x3)), (4, .int (zi x4))]) hC dX12_sumOf_68 (by decide) rfl ?_
      refine z_iconst hC dX12_sumOf_70 ?_
      refine z_istore (lo' := [(8, .int (zi (0))), (7, .int (zi (1))), (5, .long (zl (0))), (0, .ref x0), (1, .int (zi x1)), (2, .int (zi x2)), (3, .int (zi x3)), (4, .int (zi x4))]) hC dX12_sumOf_71 (by decide) rfl ?_
      refine z_sub hC [3, 4, 5, 7, 2, 1, 0] (lo' := [(0, .ref x0), (1, .int (zi x1)), (2, .int (zi x2)), (4, .int (zi x4)), (5, .long (zl (0))), (7, .int (zi (1))), (8, .int (zi (0)))]) rfl ?_
      exact SM_sumOf_L73 hC hr FU FU x0 x1 x2 x4 (0) (1) (0) G15 hx1 hx2 hx4 (by decide) (by decide) (by decide)
set_option maxRecDepth 100000 in
theorem SM_sumOf {l : Launch} {D : va_G} {aC : Nat → ClassId} (FU : Nat) (this : Nat) (p1 : Int) (p2 : Int) (p3 : Int) (p4 : Int) (hp1 : zInI p1) (hp2 : zInI p2) (hp3 : zInI p3) (hp4 : zInI p4) {G : Hp} {r1 : (Int × Hp)} (h1 : FM_sumOf FU this p1 p2 p3 p4 G = some r1) : Met l yX12_sumOf (Cond.code yX12_sumOf cX12_sumOf 11 (some .long) :: zgood) ({ frames := 5, cells := 0, slots := 0, locals := 121 } : Room) (va_Pc [.ref this, .int (zi p1), .int (zi p2), .int (zi p3), .int (zi p4)] (zU D aC G)) (zQ D aC G (zInL r1.1) (some (.long (zl r1.1))) r1.2) 0 0 (zA G) := by
  refine z_met (y := yX12_sumOf) (b := cX12_sumOf) (maxL := 11) (mc := 0) (ms := 0) (ret := (some .long)) (As := [.ref this, .int (zi p1), .int (zi p2), .int (zi p3), .int (zi p4)]) (Q1 := fun r1 => zQ D aC G (zInL r1.1) (some (.long (zl r1.1))) r1.2) (X := FM_sumOf FU this p1 p2 p3 p4 G) (by decide) (Nat.le_of_ble_eq_true rfl) ?_ h1
  intro p e s m below meth c hC hr hi
  have hC : zC p m c meth s ([.ref this, .int (zi p1), .int (zi p2), .int (zi p3), .int (zi p4)] : List Value).toArray cX12_sumOf 11 RX12 D aC := hC
  generalize ([.ref this, .int (zi p1), .int (zi p2), .int (zi p3), .int (zi p4)] : List Value).toArray = args at hC ⊢
  show zS p l e ({ frames := 5, cells := 0, slots := 0, locals := 121 } : Room) s m args below meth c D aC G (zfL D aC G below args s 0 0) 11 0 0 (FM_sumOf FU this p1 p2 p3 p4 G) G 0 [(0, .ref this), (1, .int (zi p1)), (2, .int (zi p2)), (3, .int (zi p3)), (4, .int (zi p4))] []
  unfold FM_sumOf
  refine z_gd ?_
  unfold FM_sumOf_b
  refine z_iconst hC dX12_sumOf_0 ?_
  refine z_istore (lo' := [(5, .int (zi (0))), (0, .ref this), (1, .int (zi p1)), (2, .int (zi p2)), (3, .int (zi p3)), (4, .int (zi p4))]) hC dX12_sumOf_1 (by decide) rfl ?_
  refine z_sub hC [1, 2, 3, 4, 5, 0] (lo' := [(0, .ref this), (1, .int (zi p1)), (2, .int (zi p2)), (3, .int (zi p3)), (4, .int (zi p4)), (5, .int (zi (0)))]) rfl ?_
  exact SM_sumOf_L3 hC hr FU FU this p1 p2 p3 p4 (0) G hp1 hp2 hp3 hp4 (by decide)
theorem SM_sumOf_k {FU : Nat} {this : Nat} {p1 : Int} {p2 : Int} {p3 : Int} {p4 : Int} {G : Hp} {r1 : (Int × Hp)} (h1 : FM_sumOf FU this p1 p2 p3 p4 G = some r1) : zk G this = some (12, 0) := zgd_k (k := FM_sumOf_b FU this p1 p2 p3 p4 G) h1

