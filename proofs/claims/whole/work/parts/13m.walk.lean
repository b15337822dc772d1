set_option maxRecDepth 100000 in
theorem SB_street {l : Launch} {D : va_G} {aC : Nat → ClassId} (FU : Nat) (this : Nat) (p1 : Int) (p2 : Int) (p3 : Int) (hp1 : zInI p1) (hp2 : zInI p2) (hp3 : zInI p3) {G : Hp} {r1 : (Int × Hp)} (h1 : FB_street FU this p1 p2 p3 G = some r1) : Met l yX11_street (Cond.code yX11_street cX11_street 4 (some .int) :: zgood) ({ frames := 5, cells := 0, slots := 0, locals := 119 } : Room) (va_Pc [.ref this, .int (zi p1), .int (zi p2), .int (zi p3)] (zU D aC G)) (zQ D aC G (zInI r1.1) (some (.int (zi r1.1))) r1.2) 0 0 (zA G) := by
  refine z_met (y := yX11_street) (b := cX11_street) (maxL := 4) (mc := 0) (ms := 0) (ret := (some .int)) (As := [.ref this, .int (zi p1), .int (zi p2), .int (zi p3)]) (Q1 := fun r1 => zQ D aC G (zInI r1.1) (some (.int (zi r1.1))) r1.2) (X := FB_street FU this p1 p2 p3 G) (by decide) (Nat.le_of_ble_eq_true rfl) ?_ h1
  intro p e s m below meth c hC hr hi
  have hC : zC p m c meth s ([.ref this, .int (zi p1), .int (zi p2), .int (zi p3)] : List Value).toArray cX11_street 4 RX11 D aC := hC
  generalize ([.ref this, .int (zi p1), .int (zi p2), .int (zi p3)] : List Value).toArray = args at hC ⊢
  show zS p l e ({ frames := 5, cells := 0, slots := 0, locals := 119 } : Room) s m args below meth c D aC G (zfI D aC G below args s 0 0) 4 0 0 (FB_street FU this p1 p2 p3 G) G 0 [(0, .ref this), (1, .int (zi p1)), (2, .int (zi p2)), (3, .int (zi p3))] []
  unfold FB_street
  refine z_gd ?_
  unfold FB_street_b
  refine z_aload_n hC 0 rfl dX11_street_0 rfl ?_
  refine z_getQ hC zF11_16 rfl dX11_street_1 (fun v1 => ?_)
  refine z_iload_n hC 1 rfl dX11_street_4 rfl ?_
  refine z_cZp (z_rV (q := v1) (t := 10) (As := [.int (zi p1)]) hC (fun _ h1 => STown_hasPlace FU v1 p1 hp1 h1) (fun _ h1 => STown_hasPlace_k h1) rfl rfl zM11_76 zMv_FTown_hasPlace ⟨by decide, by decide⟩ rfl rfl rfl (rest := []) (Nat.le_of_ble_eq_true rfl) ⟨Nat.le_of_ble_eq_true rfl, Nat.le_of_ble_eq_true rfl⟩ rfl dX11_street_5) (fun v2 hv2 => ?_)
  refine z_if_eq (tgt := 37) hC (hv2).i dX11_street_8 (by decide) (fun _ => ?_) (fun _ => ?_)
  · refine z_iconst hC dX11_street_37 ?_
    exact z_iret hC (by decide) hr dX11_street_38
  · refine z_aload_n hC 0 rfl dX11_street_11 rfl ?_
    refine z_getQ hC zF11_16 rfl dX11_street_12 (fun v3 => ?_)
    refine z_iload_n hC 2 rfl dX11_street_15 rfl ?_
    refine z_cZp (z_rV (q := v3) (t := 10) (As := [.int (zi p2)]) hC (fun _ h1 => STown_hasPlace FU v3 p2 hp2 h1) (fun _ h1 => STown_hasPlace_k h1) rfl rfl zM11_76 zMv_FTown_hasPlace ⟨by decide, by decide⟩ rfl rfl rfl (rest := []) (Nat.le_of_ble_eq_true rfl) ⟨Nat.le_of_ble_eq_true rfl, Nat.le_of_ble_eq_true rfl⟩ rfl dX11_street_16) (fun v4 hv4 => ?_)
    refine z_if_eq (tgt := 37) hC (hv4).i dX11_street_19 (by decide) (fun _ => ?_) (fun _ => ?_)
    · refine z_iconst hC dX11_street_37 ?_
      exact z_iret hC (by decide) hr dX11_street_38
    · refine z_iload_n hC 1 rfl dX11_street_22 rfl ?_
      refine z_iload_n hC 2 rfl dX11_street_23 rfl ?_
      refine z_icmp_eq (tgt := 37) hC hp1 hp2 dX11_street_24 (by decide) (fun _ => ?_) (fun _ => ?_)
      · refine z_iconst hC dX11_street_37 ?_
        exact z_iret hC (by decide) hr dX11_street_38
      · refine z_iload_n hC 3 rfl dX11_street_27 rfl ?_
        refine z_iconst hC dX11_street_28 ?_
        refine z_bipush hC dX11_street_29 rfl ?_
        refine z_cZp (z_rS (As := [.int (zi p3), .int (zi (1)), .int (zi (99))]) hC (fun _ h1 => SB_isWithin FU p3 (1) (99) hp3 (by decide) (by decide) h1) zM11_68 zMs_FB_isWithin ⟨by decide, by decide⟩ rfl rfl rfl (rest := []) (Nat.le_of_ble_eq_true rfl) ⟨Nat.le_of_ble_eq_true rfl, Nat.le_of_ble_eq_true rfl⟩ rfl dX11_street_31) (fun v5 hv5 => ?_)
        refine z_if_ne (tgt := 39) hC (hv5).i dX11_street_34 (by decide) (fun _ => ?_) (fun _ => ?_)
        · refine z_iconst hC dX11_street_37 ?_
          exact z_iret hC (by decide) hr dX11_street_38
        · refine z_aload_n hC 0 rfl dX11_street_39 rfl ?_
          refine z_getQ hC zF11_16 rfl dX11_street_40 (fun v6 => ?_)
          refine z_iload_n hC 1 rfl dX11_street_43 rfl ?_
          refine z_iload_n hC 2 rfl dX11_street_44 rfl ?_
          refine z_iload_n hC 3 rfl dX11_street_45 rfl ?_
          refine z_cI (z_rV (q := v6) (t := 10) (As := [.int (zi p1), .int (zi p2), .int (zi p3)]) hC (fun _ h1 => STown_addStreet FU v6 p1 p2 p3 hp1 hp2 hp3 h1) (fun _ h1 => STown_addStreet_k h1) rfl rfl zM11_80 zMv_FTown_addStreet ⟨by decide, by decide⟩ rfl rfl rfl (rest := []) (Nat.le_of_ble_eq_true rfl) ⟨Nat.le_of_ble_eq_true rfl, Nat.le_of_ble_eq_true rfl⟩ rfl dX11_street_46) (fun v8 G7 hv8 => ?_)
          exact z_iret hC hv8 hr dX11_street_49
theorem SB_street_k {FU : Nat} {this : Nat} {p1 : Int} {p2 : Int} {p3 : Int} {G : Hp} {r1 : (Int × Hp)} (h1 : FB_street FU this p1 p2 p3 G = some r1) : zk G this = some (11, 0) := zgd_k (k := FB_street_b FU this p1 p2 p3 G) h1

set_option maxRecDepth 100000 in
theorem SB_way {l : Launch} {D : va_G} {aC : Nat → ClassId} (FU : Nat) (this : Nat) (p1 : Int) (p2 : Int) (hp1 : zInI p1) (hp2 : zInI p2) {G : Hp} {r1 : Int} (h1 : FB_way FU this p1 p2 G = some r1) : Met l yX11_way (Cond.code yX11_way cX11_way 4 (some .int) :: zgood) ({ frames := 3, cells := 0, slots := 0, locals := 69 } : Room) (va_Pc [.ref this, .int (zi p1), .int (zi p2)] (zU D aC G)) (zQ D aC G (zInI r1) (some (.int (zi r1))) G) 0 0 (zA G) := by
  refine z_met (y := yX11_way) (b := cX11_way) (maxL := 4) (mc := 0) (ms := 0) (ret := (some .int)) (As := [.ref this, .int (zi p1), .int (zi p2)]) (Q1 := fun r1 => zQ D aC G (zInI r1) (some (.int (zi r1))) G) (X := FB_way FU this p1 p2 G) (by decide) (Nat.le_of_ble_eq_true rfl) ?_ h1
  intro p e s m below meth c hC hr hi
  have hC : zC p m c meth s ([.ref this, .int (zi p1), .int (zi p2)] : List Value).toArray cX11_way 4 RX11 D aC := hC
  generalize ([.ref this, .int (zi p1), .int (zi p2)] : List Value).toArray = args at hC ⊢
  show zS p l e ({ frames := 3, cells := 0, slots := 0, locals := 69 } : Room) s m args below meth c D aC G (fun r1 => zfI D aC G below args s 0 0 (r1, G)) 4 0 0 (FB_way FU this p1 p2 G) G 0 [(0, .ref this), (1, .int (zi p1)), (2, .int (zi p2))] []
  unfold FB_way
  refine z_gd ?_
  unfold FB_way_b
  refine z_aload_n hC 0 rfl dX11_way_0 rfl ?_
  refine z_getQ hC zF11_16 rfl dX11_way_1 (fun v1 => ?_)
  refine z_iload_n hC 1 rfl dX11_way_4 rfl ?_
  refine z_cZp (z_rV (q := v1) (t := 10) (As := [.int (zi p1)]) hC (fun _ h1 => STown_hasPlace FU v1 p1 hp1 h1) (fun _ h1 => STown_hasPlace_k h1) rfl rfl zM11_76 zMv_FTown_hasPlace ⟨by decide, by decide⟩ rfl rfl rfl (rest := []) (Nat.le_of_ble_eq_true rfl) ⟨Nat.le_of_ble_eq_true rfl, Nat.le_of_ble_eq_true rfl⟩ rfl dX11_way_5) (fun v2 hv2 => ?_)
  refine z_if_eq (tgt := 22) hC (hv2).i dX11_way_8 (by decide) (fun _ => ?_) (fun _ => ?_)
  · refine z_iconst hC dX11_way_22 ?_
    exact z_iretp hC (by decide) hr dX11_way_23
  · refine z_aload_n hC 0 rfl dX11_way_11 rfl ?_
    refine z_getQ hC zF11_16 rfl dX11_way_12 (fun v3 => ?_)
    refine z_iload_n hC 2 rfl dX11_way_15 rfl ?_
    refine z_cZp (z_rV (q := v3) (t := 10) (As := [.int (zi p2)]) hC (fun _ h1 => STown_hasPlace FU v3 p2 hp2 h1) (fun _ h1 => STown_hasPlace_k h1) rfl rfl zM11_76 zMv_FTown_hasPlace ⟨by decide, by decide⟩ rfl rfl rfl (rest := []) (Nat.le_of_ble_eq_true rfl) ⟨Nat.le_of_ble_eq_true rfl, Nat.le_of_ble_eq_true rfl⟩ rfl dX11_way_16) (fun v4 hv4 => ?_)
    refine z_if_ne (tgt := 24) hC (hv4).i dX11_way_19 (by decide) (fun _ => ?_) (fun _ => ?_)
    · refine z_iconst hC dX11_way_22 ?_
      exact z_iretp hC (by decide) hr dX11_way_23
    · refine z_aload_n hC 0 rfl dX11_way_24 rfl ?_
      refine z_getQ hC zF11_16 rfl dX11_way_25 (fun v5 => ?_)
      refine z_iload_n hC 1 rfl dX11_way_28 rfl ?_
      refine z_iload_n hC 2 rfl dX11_way_29 rfl ?_
      refine z_cIp (z_rV (q := v5) (t := 10) (As := [.int (zi p1), .int (zi p2)]) hC (fun _ h1 => STown_wayBetween FU v5 p1 p2 hp1 hp2 h1) (fun _ h1 => STown_wayBetween_k h1) rfl rfl zM11_84 zMv_FTown_wayBetween ⟨by decide, by decide⟩ rfl rfl rfl (rest := []) (Nat.le_of_ble_eq_true rfl) ⟨Nat.le_of_ble_eq_true rfl, Nat.le_of_ble_eq_true rfl⟩ rfl dX11_way_30) (fun v6 hv6 => ?_)
      refine z_istore_n (lo' := [(3, .int (zi v6)), (0, .ref this), (1, .int (zi p1)), (2, .int (zi p2))]) hC dX11_way_33 rfl (by decide) rfl ?_
      refine z_iload_n hC 0 rfl dX11_way_34 rfl ?_
      refine z_if_ge (tgt := 43) hC hv6 dX11_way_35 (by decide) (fun _ => ?_) (fun _ => ?_)
      · refine z_bipush hC dX11_way_38 rfl ?_
        refine z_goto (tgt := 44) hC dX11_way_40 (by decide) ?_
        exact z_iretp hC (by decide) hr dX11_way_44
      · refine z_iload_n hC 0 rfl dX11_way_43 rfl ?_
        exact z_iretp hC hv6 hr dX11_way_44
theorem SB_way_k {FU : Nat} {this : Nat} {p1 : Int} {p2 : Int} {G : Hp} {r1 : Int} (h1 : FB_way FU this p1 p2 G = some r1) : zk G this = some (11, 0) := zgd_k (k := FB_way_b FU this p1 p2 G) h1

set_option maxRecDepth 100000 in
theorem SB_days_L27 {p : Program} {l : Launch} {e : Env} {s : State} {m : MethodId} {args : Array Value} {below : List Frame} {meth : Method} {c : Code} {D : va_G} {aC : Nat → ClassId} {G0 : Hp} (hC : zC p m c meth s args cX11_days 3 RX11 D aC) (hr : meth.sig.returnType = (some .int)) (FU : Nat) : ∀ (n : Nat) (x0 : Nat) (x1 : Int) (x2 : Int) (G : Hp) (hx1 : zInI x1) (hx2 : zInI x2), zS p l e ({ frames := 5, cells := 0, slots := 0, locals := 111 } : Room) s m args below meth c D aC G0 (zfI D aC G0 below args s 0 0) 3 0 0 (FB_days_L27 FU n x0 x1 x2 G) G 27 [(0, .ref x0), (1, .int (zi x1)), (2, .int (zi x2))] [] := by
  intro n
  induction n with
  | zero => intros; exact z_none
  | succ n ih =>
    intro x0 x1 x2 G hx1 hx2
    rw [FB_days_L27]
    refine z_iload_n hC 2 rfl dX11_days_27 rfl ?_
    refine z_iload_n hC 1 rfl dX11_days_28 rfl ?_
    refine z_icmp_ge (tgt := 59) hC hx2 hx1 dX11_days_29 (by decide) (fun _ => ?_) (fun _ => ?_)
    · refine z_aload_n hC 0 rfl dX11_days_32 rfl ?_
      refine z_dup hC rfl dX11_days_33 ?_
      refine z_getI hC zF11_88 rfl dX11_days_34 (fun v1 hv1 => ?_)
      refine z_iconst hC dX11_days_37 ?_
      refine z_iadd hC dX11_days_38 (fun v2 hv2 => ?_)
      refine z_putI hC hv2 zF11_88 rfl rfl dX11_days_39 (fun G3 => ?_)
      refine z_aload_n hC 0 rfl dX11_days_42 rfl ?_
      refine z_getQ hC zF11_25 rfl dX11_days_43 (fun v4 => ?_)
      refine z_aload_n hC 0 rfl dX11_days_46 rfl ?_
      refine z_getI hC zF11_88 rfl dX11_days_47 (fun v5 hv5 => ?_)
      refine z_cV (z_rV (q := v4) (t := 0) (As := [.int (zi v5)]) hC (fun _ h1 => SChain_lapseNotices FU v4 v5 hv5 h1) (fun _ h1 => SChain_lapseNotices_k h1) rfl rfl zM11_91 zMv_FChain_lapseNotices ⟨by decide, by decide⟩ rfl rfl rfl (rest := []) (Nat.le_of_ble_eq_true rfl) ⟨Nat.le_of_ble_eq_true rfl, Nat.le_of_ble_eq_true rfl⟩ rfl dX11_days_50) (fun G6 => ?_)
      refine z_iinc (lo' := fun v7 => [(2, .int (zi v7)), (0, .ref x0), (1, .int (zi x1))]) hC 2 dX11_days_53 rfl (by decide) (fun _ => rfl) (fun v7 hv7 => ?_)
      refine z_goto (tgt := 27) hC dX11_days_56 (by decide) ?_
      refine z_sub hC [1, 2, 0] (lo' := [(0, .ref x0), (1, .int (zi x1)), (2, .int (zi v7))]) rfl ?_
      exact ih x0 x1 v7 G6 hx1 hv7
    · refine z_aload_n hC 0 rfl dX11_days_59 rfl ?_
      refine z_getI hC zF11_88 rfl dX11_days_60 (fun v8 hv8 => ?_)
      exact z_iret hC hv8 hr dX11_days_63
set_option maxRecDepth 100000 in
theorem SB_days {l : Launch} {D : va_G} {aC : Nat → ClassId} (FU : Nat) (this : Nat) (p1 : Int) (hp1 : zInI p1) {G : Hp} {r1 : (Int × Hp)} (h1 : FB_days FU this p1 G = some r1) : Met l yX11_days (Cond.code yX11_days cX11_days 3 (some .int) :: zgood) ({ frames := 5, cells := 0, slots := 0, locals := 111 } : Room) (va_Pc [.ref this, .int (zi p1)] (zU D aC G)) (zQ D aC G (zInI r1.1) (some (.int (zi r1.1))) r1.2) 0 0 (zA G) := by
  refine z_met (y := yX11_days) (b := cX11_days) (maxL := 3) (mc := 0) (ms := 0) (ret := (some .int)) (As := [.ref this, .int (zi p1)]) (Q1 := fun r1 => zQ D aC G (zInI r1.1) (some (.int (zi r1.1))) r1.2) (X := FB_days FU this p1 G) (by decide) (Nat.le_of_ble_eq_true rfl) ?_ h1
  intro p e s m below meth c hC hr hi
  have hC : zC p m c meth s ([.ref this, .int (zi p1)] : List Value).toArray cX11_days 3 RX11 D aC := hC
  generalize ([.ref this, .int (zi p1)] : List Value).toArray = args at hC ⊢
  show zS p l e ({ frames := 5, cells := 0, slots := 0, locals := 111 } : Room) s m args below meth c D aC G (zfI D aC G below args s 0 0) 3 0 0 (FB_days FU this p1 G) G 0 [(0, .ref this), (1, .int (zi p1))] []
  unfold FB_days
  refine z_gd ?_
  unfold FB_days_b
  refine z_iload_n hC 1 rfl dX11_days_0 rfl ?_
  refine z_iconst hC dX11_days_1 ?_
  refine z_sipush hC dX11_days_2 rfl ?_
  refine z_cZp (z_rS (As := [.int (zi p1), .int (zi (1)), .int (zi (360))]) hC (fun _ h1 => SB_isWithin FU p1 (1) (360) hp1 (by decide) (by decide) h1) zM11_68 zMs_FB_isWithin ⟨by decide, by decide⟩ rfl rfl rfl (rest := []) (Nat.le_of_ble_eq_true rfl) ⟨Nat.le_of_ble_eq_true rfl, Nat.le_of_ble_eq_true rfl⟩ rfl dX11_days_5) (fun v1 hv1 => ?_)
  refine z_if_eq (tgt := 23) hC (hv1).i dX11_days_8 (by decide) (fun _ => ?_) (fun _ => ?_)
  · refine z_iconst hC dX11_days_23 ?_
    exact z_iret hC (by decide) hr dX11_days_24
  · refine z_aload_n hC 0 rfl dX11_days_11 rfl ?_
    refine z_getI hC zF11_88 rfl dX11_days_12 (fun v2 hv2 => ?_)
    refine z_iload_n hC 1 rfl dX11_days_15 rfl ?_
    refine z_iadd hC dX11_days_16 (fun v3 hv3 => ?_)
    refine z_sipush hC dX11_days_17 rfl ?_
    refine z_icmp_le (tgt := 25) hC hv3 (by decide) dX11_days_20 (by decide) (fun _ => ?_) (fun _ => ?_)
    · refine z_iconst hC dX11_days_25 ?_
      refine z_istore_n (lo' := [(2, .int (zi (0))), (0, .ref this), (1, .int (zi p1))]) hC dX11_days_26 rfl (by decide) rfl ?_
      refine z_sub hC [1, 2, 0] (lo' := [(0, .ref this), (1, .int (zi p1)), (2, .int (zi (0)))]) rfl ?_
      exact SB_days_L27 hC hr FU FU this p1 (0) G hp1 (by decide)
    · refine z_iconst hC dX11_days_23 ?_
      exact z_iret hC (by decide) hr dX11_days_24
theorem SB_days_k {FU : Nat} {this : Nat} {p1 : Int} {G : Hp} {r1 : (Int × Hp)} (h1 : FB_days FU this p1 G = some r1) : zk G this = some (11, 0) := zgd_k (k := FB_days_b FU this p1 G) h1

set_option maxRecDepth 100000 in
theorem SB_rule_B32 {p : Program} {l : Launch} {e : Env} {s : State} {m : MethodId} {args : Array Value} {below : List Frame} {meth : Method} {c : Code} {D : va_G} {aC : Nat → ClassId} {G0 : Hp} (hC : zC p m c meth s args cX11_rule 4 RX11 D aC) (hr : meth.sig.returnType = (some .int)) (FU : Nat) (x0 : Nat) (x1 : Int) (x2 : Int) (G : Hp) (hx1 : zInI x1) (hx2 : zInI x2) : zS p l e ({ frames := 2, cells := 0, slots := 0, locals := 46 } : Room) s m args below meth c D aC G0 (zfI D aC G0 below args s 0 0) 4 0 0 (FB_rule_B32 FU x0 x1 x2 G) G 32 [(0, .ref x0), (1, .int (zi x1)), (2, .int (zi x2))] [] := by
  unfold FB_rule_B32
  refine z_iload_n hC 1 rfl dX11_rule_32 rfl ?_
  refine z_iconst hC dX11_rule_33 ?_
  refine z_icmp_ne (tgt := 59) hC hx1 (by decide) dX11_rule_34 (by decide) (fun _ => ?_) (fun _ => ?_)
  · refine z_iload_n hC 2 rfl dX11_rule_37 rfl ?_
    refine z_iconst hC dX11_rule_38 ?_
    refine z_bipush hC dX11_rule_39 rfl ?_
    refine z_cZp (z_rS (As := [.int (zi x2), .int (zi (0)), .int (zi (99))]) hC (fun _ h1 => SB_isWithin FU x2 (0) (99) hx2 (by decide) (by decide) h1) zM11_68 zMs_FB_isWithin ⟨by decide, by decide⟩ rfl rfl rfl (rest := []) (Nat.le_of_ble_eq_true rfl) ⟨Nat.le_of_ble_eq_true rfl, Nat.le_of_ble_eq_true rfl⟩ rfl dX11_rule_41) (fun v1 hv1 => ?_)
    refine z_if_eq (tgt := 59) hC (hv1).i dX11_rule_44 (by decide) (fun _ => ?_) (fun _ => ?_)
    · refine z_iconst hC dX11_rule_59 ?_
      exact z_iret hC (by decide) hr dX11_rule_60
    · refine z_aload_n hC 0 rfl dX11_rule_47 rfl ?_
      refine z_getI hC zF11_9 rfl dX11_rule_48 (fun v2 hv2 => ?_)
      refine z_istore_n (lo' := [(3, .int (zi v2)), (0, .ref x0), (1, .int (zi x1)), (2, .int (zi x2))]) hC dX11_rule_51 rfl (by decide) rfl ?_
      refine z_aload_n hC 1 rfl dX11_rule_52 rfl ?_
      refine z_iload_n hC 3 rfl dX11_rule_53 rfl ?_
      refine z_putI hC hx2 zF11_9 rfl rfl dX11_rule_54 (fun G3 => ?_)
      refine z_iload_n hC 0 rfl dX11_rule_57 rfl ?_
      exact z_iret hC hv2 hr dX11_rule_58
  · refine z_iconst hC dX11_rule_59 ?_
    exact z_iret hC (by decide) hr dX11_rule_60
set_option maxRecDepth 100000 in
theorem SB_rule {l : Launch} {D : va_G} {aC : Nat → ClassId} (FU : Nat) (this : Nat) (p1 : Int) (p2 : Int) (hp1 : zInI p1) (hp2 : zInI p2) {G : Hp} {r1 : (Int × Hp)} (h1 : FB_rule FU this p1 p2 G = some r1) : Met l yX11_rule (Cond.code yX11_rule cX11_rule 4 (some .int) :: zgood) ({ frames := 2, cells := 0, slots := 0, locals := 46 } : Room) (va_Pc [.ref this, .int (zi p1), .int (zi p2)] (zU D aC G)) (zQ D aC G (zInI r1.1) (some (.int (zi r1.1))) r1.2) 0 0 (zA G) := by
  refine z_met (y := yX11_rule) (b := cX11_rule) (maxL := 4) (mc := 0) (ms := 0) (ret := (some .int)) (As := [.ref this, .int (zi p1), .int (zi p2)]) (Q1 := fun r1 => zQ D aC G (zInI r1.1) (some (.int (zi r1.1))) r1.2) (X := FB_rule FU this p1 p2 G) (by decide) (Nat.le_of_ble_eq_true rfl) ?_ h1
  intro p e s m below meth c hC hr hi
  have hC : zC p m c meth s ([.ref this, .int (zi p1), .int (zi p2)] : List Value).toArray cX11_rule 4 RX11 D aC := hC
  generalize ([.ref this, .int (zi p1), .int (zi p2)] : List Value).toArray = args at hC ⊢
  show zS p l e ({ frames := 2, cells := 0, slots := 0, locals := 46 } : Room) s m args below meth c D aC G (zfI D aC G below args s 0 0) 4 0 0 (FB_rule FU this p1 p2 G) G 0 [(0, .ref this), (1, .int (zi p1)), (2, .int (zi p2))] []
  unfold FB_rule
  refine z_gd ?_
  unfold FB_rule_b
  refine z_iload_n hC 1 rfl dX11_rule_0 rfl ?_
  refine z_if_ne (tgt := 32) hC hp1 dX11_rule_1 (by decide) (fun _ => ?_) (fun _ => ?_)
  · refine z_iload_n hC 2 rfl dX11_rule_4 rfl ?_
    refine z_iconst hC dX11_rule_5 ?_
    refine z_bipush hC dX11_rule_6 rfl ?_
    refine z_cZp (z_rS (As := [.int (zi p2), .int (zi (1)), .int (zi (99))]) hC (fun _ h1 => SB_isWithin FU p2 (1) (99) hp2 (by decide) (by decide) h1) zM11_68 zMs_FB_isWithin ⟨by decide, by decide⟩ rfl rfl rfl (rest := []) (Nat.le_of_ble_eq_true rfl) ⟨Nat.le_of_ble_eq_true rfl, Nat.le_of_ble_eq_true rfl⟩ rfl dX11_rule_8) (fun v1 hv1 => ?_)
    refine z_if_eq (tgt := 32) hC (hv1).i dX11_rule_11 (by decide) (fun _ => ?_) (fun _ => ?_)
    · refine z_sub hC [0, 1, 2] (lo' := [(0, .ref this), (1, .int (zi p1)), (2, .int (zi p2))]) rfl ?_
      exact SB_rule_B32 hC hr FU this p1 p2 G hp1 hp2
    · refine z_aload_n hC 0 rfl dX11_rule_14 rfl ?_
      refine z_getQ hC zF11_32 rfl dX11_rule_15 (fun v2 => ?_)
      refine z_getI hC zF11_95 rfl dX11_rule_18 (fun v3 hv3 => ?_)
      refine z_istore_n (lo' := [(3, .int (zi v3)), (0, .ref this), (1, .int (zi p1)), (2, .int (zi p2))]) hC dX11_rule_21 rfl (by decide) rfl ?_
      refine z_aload_n hC 1 rfl dX11_rule_22 rfl ?_
      refine z_getQ hC zF11_32 rfl dX11_rule_23 (fun v4 => ?_)
      refine z_iload_n hC 3 rfl dX11_rule_26 rfl ?_
      refine z_putI hC hp2 zF11_95 rfl rfl dX11_rule_27 (fun G5 => ?_)
      refine z_iload_n hC 0 rfl dX11_rule_30 rfl ?_
      exact z_iret hC hv3 hr dX11_rule_31
  · refine z_sub hC [0, 1, 2] (lo' := [(0, .ref this), (1, .int (zi p1)), (2, .int (zi p2))]) rfl ?_
    exact SB_rule_B32 hC hr FU this p1 p2 G hp1 hp2
theorem SB_rule_k {FU : Nat} {this : Nat} {p1 : Int} {p2 : Int} {G : Hp} {r1 : (Int × Hp)} (h1 : FB_rule FU this p1 p2 G = some r1) : zk G this = some (11, 0) := zgd_k (k := FB_rule_b FU this p1 p2 G) h1

set_option maxRecDepth 100000 in
theorem SB_isWho {l : Launch} {D : va_G} {aC : Nat → ClassId} (FU : Nat) (p1 : Int) (hp1 : zInI p1) {G : Hp} {r1 : Int} (h1 : FB_isWho FU p1 G = some r1) : Met l yX11_isWho (Cond.code yX11_isWho cX11_isWho 1 (some .boolean) :: zgood) ({ frames := 2, cells := 0, slots := 0, locals := 46 } : Room) (va_Pc [.int (zi p1)] (zU D aC G)) (zQ D aC G (zIn01 r1) (some (.int (zi r1))) G) 0 0 (zA G) := by
  refine z_met (y := yX11_isWho) (b := cX11_isWho) (maxL := 1) (mc := 0) (ms := 0) (ret := (some .boolean)) (As := [.int (zi p1)]) (Q1 := fun r1 => zQ D aC G (zIn01 r1) (some (.int (zi r1))) G) (X := FB_isWho FU p1 G) (by decide) (Nat.le_of_ble_eq_true rfl) ?_ h1
  intro p e s m below meth c hC hr hi
  have hC : zC p m c meth s ([.int (zi p1)] : List Value).toArray cX11_isWho 1 RX11 D aC := hC
  generalize ([.int (zi p1)] : List Value).toArray = args at hC ⊢
  show zS p l e ({ frames := 2, cells := 0, slots := 0, locals := 46 } : Room) s m args below meth c D aC G (fun r1 => zfZ D aC G below args s 0 0 (r1, G)) 1 0 0 (FB_isWho FU p1 G) G 0 [(0, .int (zi p1))] []
  unfold FB_isWho
  refine z_iload_n hC 0 rfl dX11_isWho_0 rfl ?_
  refine z_iconst hC dX11_isWho_1 ?_
  refine z_sipush hC dX11_isWho_2 rfl ?_
  refine z_cZp (z_rS (As := [.int (zi p1), .int (zi (1)), .int (zi (1499))]) hC (fun _ h1 => SB_isWithin FU p1 (1) (1499) hp1 (by decide) (by decide) h1) zM11_68 zMs_FB_isWithin ⟨by decide, by decide⟩ rfl rfl rfl (rest := []) (Nat.le_of_ble_eq_true rfl) ⟨Nat.le_of_ble_eq_true rfl, Nat.le_of_ble_eq_true rfl⟩ rfl dX11_isWho_5) (fun v1 hv1 => ?_)
  refine z_if_eq (tgt := 22) hC (hv1).i dX11_isWho_8 (by decide) (fun _ => ?_) (fun _ => ?_)
  · refine z_iconst hC dX11_isWho_22 ?_
    exact z_zretp hC hr dX11_isWho_23
  · refine z_iload_n hC 0 rfl dX11_isWho_11 rfl ?_
    refine z_cIp (z_rS (As := [.int (zi p1)]) hC (fun _ h1 => SB_likeIn FU p1 hp1 h1) zM11_116 zMs_FB_likeIn ⟨by decide, by decide⟩ rfl rfl rfl (rest := []) (Nat.le_of_ble_eq_true rfl) ⟨Nat.le_of_ble_eq_true rfl, Nat.le_of_ble_eq_true rfl⟩ rfl dX11_isWho_12) (fun v2 hv2 => ?_)
    refine z_if_eq (tgt := 22) hC hv2 dX11_isWho_15 (by decide) (fun _ => ?_) (fun _ => ?_)
    · refine z_iconst hC dX11_isWho_22 ?_
      exact z_zretp hC hr dX11_isWho_23
    · refine z_iconst hC dX11_isWho_18 ?_
      refine z_goto (tgt := 23) hC dX11_isWho_19 (by decide) ?_
      exact z_zretp hC hr dX11_isWho_23

set_option maxRecDepth 100000 in
theorem SB_open {l : Launch} {D : va_G} {aC : Nat → ClassId} (FU : Nat) (this : Nat) (p1 : Int) (p2 : Int) (hp1 : zInI p1) (hp2 : zInI p2) {G : Hp} {r1 : (Int × Hp)} (h1 : FB_open FU this p1 p2 G = some r1) : Met l yX11_open (Cond.code yX11_open cX11_open 3 (some .int) :: zgood) ({ frames := 5, cells := 2, slots := 348, locals := 118 } : Room) (va_Pc [.ref this, .int (zi p1), .int (zi p2)] (zU D aC G)) (zQ D aC G (zInI r1.1) (some (.int (zi r1.1))) r1.2) 2 348 (zA G) := by
  refine z_met (y := yX11_open) (b := cX11_open) (maxL := 3) (mc := 2) (ms := 348) (ret := (some .int)) (As := [.ref this, .int (zi p1), .int (zi p2)]) (Q1 := fun r1 => zQ D aC G (zInI r1.1) (some (.int (zi r1.1))) r1.2) (X := FB_open FU this p1 p2 G) (by decide) (Nat.le_of_ble_eq_true rfl) ?_ h1
  intro p e s m below meth c hC hr hi
  have hC : zC p m c meth s ([.ref this, .int (zi p1), .int (zi p2)] : List Value).toArray cX11_open 3 RX11 D aC := hC
  generalize ([.ref this, .int (zi p1), .int (zi p2)] : List Value).toArray = args at hC ⊢
  show zS p l e ({ frames := 5, cells := 2, slots := 348, locals := 118 } : Room) s m args below meth c D aC G (zfI D aC G below args s 2 348) 3 0 0 (FB_open FU this p1 p2 G) G 0 [(0, .ref this), (1, .int (zi p1)), (2, .int (zi p2))] []
  unfold FB_open
  refine z_gd ?_
  unfold FB_open_b
  refine z_aload_n hC 0 rfl dX11_open_0 rfl ?_
  refine z_getQ hC zF11_16 rfl dX11_open_1 (fun v1 => ?_)
  refine z_iload_n hC 1 rfl dX11_open_4 rfl ?_
  refine z_cZp (z_rV (q := v1) (t := 10) (As := [.int (zi p1)]) hC (fun _ h1 => STown_hasPlace FU v1 p1 hp1 h1) (fun _ h1 => STown_hasPlace_k h1) rfl rfl zM11_76 zMv_FTown_hasPlace ⟨by decide, by decide⟩ rfl rfl rfl (rest := []) (Nat.le_of_ble_eq_true rfl) ⟨Nat.le_of_ble_eq_true rfl, Nat.le_of_ble_eq_true rfl⟩ rfl dX11_open_5) (fun v2 hv2 => ?_)
  refine z_if_eq (tgt := 18) hC (hv2).i dX11_open_8 (by decide) (fun _ => ?_) (fun _ => ?_)
  · refine z_iconst hC dX11_open_18 ?_
    refine z_widen (k := 2) (n := 348) (by decide) (by decide) ?_
    exact z_iret hC (by decide) hr dX11_open_19
  · refine z_iload_n hC 2 rfl dX11_open_11 rfl ?_
    refine z_cZp (z_rS (As := [.int (zi p2)]) hC (fun _ h1 => SB_isWho FU p2 hp2 h1) zM11_98 zMs_FB_isWho ⟨by decide, by decide⟩ rfl rfl rfl (rest := []) (Nat.le_of_ble_eq_true rfl) ⟨Nat.le_of_ble_eq_true rfl, Nat.le_of_ble_eq_true rfl⟩ rfl dX11_open_12) (fun v3 hv3 => ?_)
    refine z_if_ne (tgt := 20) hC (hv3).i dX11_open_15 (by decide) (fun _ => ?_) (fun _ => ?_)
    · refine z_iconst hC dX11_open_18 ?_
      refine z_widen (k := 2) (n := 348) (by decide) (by decide) ?_
      exact z_iret hC (by decide) hr dX11_open_19
    · refine z_aload_n hC 0 rfl dX11_open_20 rfl ?_
      refine z_getQ hC zF11_25 rfl dX11_open_21 (fun v4 => ?_)
      refine z_iload_n hC 1 rfl dX11_open_24 rfl ?_
      refine z_cZp (z_rV (q := v4) (t := 0) (As := [.int (zi p1)]) hC (fun _ h1 => SChain_isTaken FU v4 p1 hp1 h1) (fun _ h1 => SChain_isTaken_k h1) rfl rfl zM11_101 zMv_FChain_isTaken ⟨by decide, by decide⟩ rfl rfl rfl (rest := []) (Nat.le_of_ble_eq_true rfl) ⟨Nat.le_of_ble_eq_true rfl, Nat.le_of_ble_eq_true rfl⟩ rfl dX11_open_25) (fun v5 hv5 => ?_)
      refine z_if_ne (tgt := 46) hC (hv5).i dX11_open_28 (by decide) (fun _ => ?_) (fun _ => ?_)
      · refine z_aload_n hC 0 rfl dX11_open_31 rfl ?_
        refine z_getQ hC zF11_25 rfl dX11_open_32 (fun v6 => ?_)
        refine z_iload_n hC 1 rfl dX11_open_35 rfl ?_
        refine z_iload_n hC 2 rfl dX11_open_36 rfl ?_
        refine z_cIp (z_rS (As := [.int (zi p2)]) hC (fun _ h1 => SB_ownerIn FU p2 hp2 h1) zM11_104 zMs_FB_ownerIn ⟨by decide, by decide⟩ rfl rfl rfl (rest := [.int (zi p1), .ref v6]) (Nat.le_of_ble_eq_true rfl) ⟨Nat.le_of_ble_eq_true rfl, Nat.le_of_ble_eq_true rfl⟩ rfl dX11_open_37) (fun v7 hv7 => ?_)
        refine z_cZp (z_rV (q := v6) (t := 0) (As := [.int (zi p1), .int (zi v7)]) hC (fun _ h1 => SChain_isBarred FU v6 p1 v7 hp1 hv7 h1) (fun _ h1 => SChain_isBarred_k h1) rfl rfl zM11_107 zMv_FChain_isBarred ⟨by decide, by decide⟩ rfl rfl rfl (rest := []) (Nat.le_of_ble_eq_true rfl) ⟨Nat.le_of_ble_eq_true rfl, Nat.le_of_ble_eq_true rfl⟩ rfl dX11_open_40) (fun v8 hv8 => ?_)
        refine z_if_eq (tgt := 49) hC (hv8).i dX11_open_43 (by decide) (fun _ => ?_) (fun _ => ?_)
        · refine z_aload_n hC 0 rfl dX11_open_49 rfl ?_
          refine z_getQ hC zF11_25 rfl dX11_open_50 (fun v9 => ?_)
          refine z_getI hC zF11_111 rfl dX11_open_53 (fun v10 hv10 => ?_)
          refine z_bipush hC dX11_open_56 rfl ?_
          refine z_icmp_lt (tgt := 64) hC hv10 (by decide) dX11_open_58 (by decide) (fun _ => ?_) (fun _ => ?_)
          · refine z_aload_n hC 0 rfl dX11_open_64 rfl ?_
            refine z_getQ hC zF11_25 rfl dX11_open_65 (fun v11 => ?_)
            refine z_new (t := 7) hC rfl (zgood_in 511 (by decide +kernel) (by decide +kernel)) (zgood_in 466 (by decide +kernel) (by decide +kernel)) (zgood_in 112 (by decide +kernel) (by decide +kernel)) (by decide) (by decide) dX11_open_68 (fun a12 G13 => ?_)
            refine z_widen (k := 1) (n := 15) (by decide) (by decide) ?_
            refine z_dup hC rfl dX11_open_71 ?_
            refine z_iload_n hC 1 rfl dX11_open_72 rfl ?_
            refine z_iload_n hC 2 rfl dX11_open_73 rfl ?_
            refine z_cIp (z_rS (As := [.int (zi p2)]) hC (fun _ h1 => SB_ownerIn FU p2 hp2 h1) zM11_104 zMs_FB_ownerIn ⟨by decide, by decide⟩ rfl rfl rfl (rest := [.int (zi p1), .ref a12, .ref a12, .ref v11]) (Nat.le_of_ble_eq_true rfl) ⟨Nat.le_of_ble_eq_true rfl, Nat.le_of_ble_eq_true rfl⟩ rfl dX11_open_74) (fun v14 hv14 => ?_)
            refine z_iload_n hC 2 rfl dX11_open_77 rfl ?_
            refine z_cIp (z_rS (As := [.int (zi p2)]) hC (fun _ h1 => SB_likeIn FU p2 hp2 h1) zM11_116 zMs_FB_likeIn ⟨by decide, by decide⟩ rfl rfl rfl (rest := [.int (zi v14), .int (zi p1), .ref a12, .ref a12, .ref v11]) (Nat.le_of_ble_eq_true rfl) ⟨Nat.le_of_ble_eq_true rfl, Nat.le_of_ble_eq_true rfl⟩ rfl dX11_open_78) (fun v15 hv15 => ?_)
            refine z_aload_n hC 0 rfl dX11_open_81 rfl ?_
            refine z_getI hC zF11_88 rfl dX11_open_82 (fun v16 hv16 => ?_)
            refine z_cV (z_rI (q := a12) (As := [.int (zi p1), .int (zi v14), .int (zi v15), .int (zi v16)]) hC (fun _ h1 => SShop_init FU a12 p1 v14 v15 v16 hp1 hv14 hv15 hv16 h1) zM11_119 zMi_FShop_init ⟨by decide, by decide⟩ rfl rfl rfl (rest := [.ref a12, .ref v11]) (Nat.le_of_ble_eq_true rfl) ⟨Nat.le_of_ble_eq_true rfl, Nat.le_of_ble_eq_true rfl⟩ rfl dX11_open_85) (fun G17 => ?_)
            refine z_widen (k := 2) (n := 348) (by decide) (by decide) ?_
            refine z_cI (z_rV (q := v11) (t := 0) (As := [.ref a12]) hC (fun _ h1 => SChain_addShop FU v11 a12 h1) (fun _ h1 => SChain_addShop_k h1) rfl rfl zM11_122 zMv_FChain_addShop ⟨by decide, by decide⟩ rfl rfl rfl (rest := []) (Nat.le_of_ble_eq_true rfl) ⟨Nat.le_of_ble_eq_true rfl, Nat.le_of_ble_eq_true rfl⟩ rfl dX11_open_88) (fun v19 G18 hv19 => ?_)
            exact z_iret hC hv19 hr dX11_open_91
          · refine z_bipush hC dX11_open_61 rfl ?_
            refine z_widen (k := 2) (n := 348) (by decide) (by decide) ?_
            exact z_iret hC (by decide) hr dX11_open_63
        · refine z_bipush hC dX11_open_46 rfl ?_
          refine z_widen (k := 2) (n := 348) (by decide) (by decide) ?_
          exact z_iret hC (by decide) hr dX11_open_48
      · refine z_bipush hC dX11_open_46 rfl ?_
        refine z_widen (k := 2) (n := 348) (by decide) (by decide) ?_
        exact z_iret hC (by decide) hr dX11_open_48
theorem SB_open_k {FU : Nat} {this : Nat} {p1 : Int} {p2 : Int} {G : Hp} {r1 : (Int × Hp)} (h1 : FB_open FU this p1 p2 G = some r1) : zk G this = some (11, 0) := zgd_k (k := FB_open_b FU this p1 p2 G) h1

set_option maxRecDepth 100000 in
theorem SB_close {l : Launch} {D : va_G} {aC : Nat → ClassId} (FU : Nat) (this : Nat) (p1 : Int) (hp1 : zInI p1) {G : Hp} {r1 : (Int × Hp)} (h1 : FB_close FU this p1 G = some r1) : Met l yX11_close (Cond.code yX11_close cX11_close 3 (some .int) :: zgood) ({ frames := 4, cells := 0, slots := 0, locals := 88 } : Room) (va_Pc [.ref this, .int (zi p1)] (zU D aC G)) (zQ D aC G (zInI r1.1) (some (.int (zi r1.1))) r1.2) 0 0 (zA G) := by
  refine z_met (y := yX11_close) (b := cX11_close) (maxL := 3) (mc := 0) (ms := 0) (ret := (some .int)) (As := [.ref this, .int (zi p1)]) (Q1 := fun r1 => zQ D aC G (zInI r1.1) (some (.int (zi r1.1))) r1.2) (X := FB_close FU this p1 G) (by decide) (Nat.le_of_ble_eq_true rfl) ?_ h1
  intro p e s m below meth c hC hr hi
  have hC : zC p m c meth s ([.ref this, .int (zi p1)] : List Value).toArray cX11_close 3 RX11 D aC := hC
  generalize ([.ref this, .int (zi p1)] : List Value).toArray = args at hC ⊢
  show zS p l e ({ frames := 4, cells := 0, slots := 0, locals := 88 } : Room) s m args below meth c D aC G (zfI D aC G below args s 0 0) 3 0 0 (FB_close FU this p1 G) G 0 [(0, .ref this), (1, .int (zi p1))] []
  unfold FB_close
  refine z_gd ?_
  unfold FB_close_b
  refine z_aload_n hC 0 rfl dX11_close_0 rfl ?_
  refine z_getQ hC zF11_25 rfl dX11_close_1 (fun v1 => ?_)
  refine z_iload_n hC 1 rfl dX11_close_4 rfl ?_
  refine z_cAp (z_rV (q := v1) (t := 0) (As := [.int (zi p1)]) hC (fun _ h1 => SChain_shopAt FU v1 p1 hp1 h1) (fun _ h1 => SChain_shopAt_k h1) rfl rfl zM11_126 zMv_FChain_shopAt ⟨by decide, by decide⟩ rfl rfl rfl (rest := []) (Nat.le_of_ble_eq_true rfl) ⟨Nat.le_of_ble_eq_true rfl, Nat.le_of_ble_eq_true rfl⟩ rfl dX11_close_5) (fun v2 => ?_)
  refine z_qstore_n (lo' := [(2, va_rf v2), (0, .ref this), (1, .int (zi p1))]) hC dX11_close_8 rfl (by decide) rfl ?_
  refine z_qload_n hC 0 rfl dX11_close_9 rfl ?_
  refine z_ifnonnull (tgt := 15) hC dX11_close_10 (by decide) (fun h0 => ?_) (fun a3 h0 => ?_)
  · subst h0
    refine z_iconst hC dX11_close_13 ?_
    exact z_iret hC (by decide) hr dX11_close_14
  · subst h0
    refine z_aload_n hC 0 rfl dX11_close_15 rfl ?_
    refine z_cZp (z_rV (q := a3) (t := 7) (As := []) hC (fun _ h1 => SShop_isOpen FU a3 h1) (fun _ h1 => SShop_isOpen_k h1) rfl rfl zM11_130 zMv_FShop_isOpen ⟨by decide, by decide⟩ rfl rfl rfl (rest := []) (Nat.le_of_ble_eq_true rfl) ⟨Nat.le_of_ble_eq_true rfl, Nat.le_of_ble_eq_true rfl⟩ rfl dX11_close_16) (fun v4 hv4 => ?_)
    refine z_if_ne (tgt := 25) hC (hv4).i dX11_close_19 (by decide) (fun _ => ?_) (fun _ => ?_)
    · refine z_bipush hC dX11_close_22 rfl ?_
      exact z_iret hC (by decide) hr dX11_close_24
    · refine z_aload_n hC 0 rfl dX11_close_25 rfl ?_
      refine z_aload_n hC 1 rfl dX11_close_26 rfl ?_
      refine z_getI hC zF11_88 rfl dX11_close_27 (fun v5 hv5 => ?_)
      refine z_iconst hC dX11_close_30 ?_
      refine z_cV (z_rV (q := a3) (t := 7) (As := [.int (zi v5), .int (zi (3))]) hC (fun _ h1 => SShop_shut FU a3 v5 (3) hv5 (by decide) h1) (fun _ h1 => SShop_shut_k h1) rfl rfl zM11_134 zMv_FShop_shut ⟨by decide, by decide⟩ rfl rfl rfl (rest := []) (Nat.le_of_ble_eq_true rfl) ⟨Nat.le_of_ble_eq_true rfl, Nat.le_of_ble_eq_true rfl⟩ rfl dX11_close_31) (fun G6 => ?_)
      refine z_iconst hC dX11_close_34 ?_
      exact z_iret hC (by decide) hr dX11_close_35
theorem SB_close_k {FU : Nat} {this : Nat} {p1 : Int} {G : Hp} {r1 : (Int × Hp)} (h1 : FB_close FU this p1 G = some r1) : zk G this = some (11, 0) := zgd_k (k := FB_close_b FU this p1 G) h1

set_option maxRecDepth 100000 in
theorem SB_reach {l : Launch} {D : va_G} {aC : Nat → ClassId} (FU : Nat) (this : Nat) (p1 : Int) (p2 : Int) (hp1 : zInI p1) (hp2 : zInI p2) {G : Hp} {r1 : (Int × Hp)} (h1 : FB_reach FU this p1 p2 G = some r1) : Met l yX11_reach (Cond.code yX11_reach cX11_reach 5 (some .int) :: zgood) ({ frames := 2, cells := 0, slots := 0, locals := 46 } : Room) (va_Pc [.ref this, .int (zi p1), .int (zi p2)] (zU D aC G)) (zQ D aC G (zInI r1.1) (some (.int (zi r1.1))) r1.2) 0 0 (zA G) := by
  refine z_met (y := yX11_reach) (b := cX11_reach) (maxL := 5) (mc := 0) (ms := 0) (ret := (some .int)) (As := [.ref this, .int (zi p1), .int (zi p2)]) (Q1 := fun r1 => zQ D aC G (zInI r1.1) (some (.int (zi r1.1))) r1.2) (X := FB_reach FU this p1 p2 G) (by decide) (Nat.le_of_ble_eq_true rfl) ?_ h1
  intro p e s m below meth c hC hr hi
  have hC : zC p m c meth s ([.ref this, .int (zi p1), .int (zi p2)] : List Value).toArray cX11_reach 5 RX11 D aC := hC
  generalize ([.ref this, .int (zi p1), .int (zi p2)] : List Value).toArray = args at hC ⊢
  show zS p l e ({ frames := 2, cells := 0, slots := 0, locals := 46 } : Room) s m args below meth c D aC G (zfI D aC G below args s 0 0) 5 0 0 (FB_reach FU this p1 p2 G) G 0 [(0, .ref this), (1, .int (zi p1)), (2, .int (zi p2))] []
  unfold FB_reach
  refine z_gd ?_
  unfold FB_reach_b
  refine z_aload_n hC 0 rfl dX11_reach_0 rfl ?_
  refine z_getQ hC zF11_25 rfl dX11_reach_1 (fun v1 => ?_)
  refine z_iload_n hC 1 rfl dX11_reach_4 rfl ?_
  refine z_cAp (z_rV (q := v1) (t := 0) (As := [.int (zi p1)]) hC (fun _ h1 => SChain_shopAt FU v1 p1 hp1 h1) (fun _ h1 => SChain_shopAt_k h1) rfl rfl zM11_126 zMv_FChain_shopAt ⟨by decide, by decide⟩ rfl rfl rfl (rest := []) (Nat.le_of_ble_eq_true rfl) ⟨Nat.le_of_ble_eq_true rfl, Nat.le_of_ble_eq_true rfl⟩ rfl dX11_reach_5) (fun v2 => ?_)
  refine z_qstore_n (lo' := [(3, va_rf v2), (0, .ref this), (1, .int (zi p1)), (2, .int (zi p2))]) hC dX11_reach_8 rfl (by decide) rfl ?_
  refine z_qload_n hC 0 rfl dX11_reach_9 rfl ?_
  refine z_ifnull (tgt := 24) hC dX11_reach_10 (by decide) (fun h0 => ?_) (fun a3 h0 => ?_)
  · subst h0
    refine z_iconst hC dX11_reach_24 ?_
    exact z_iret hC (by decide) hr dX11_reach_25
  · subst h0
    refine z_iload_n hC 3 rfl dX11_reach_13 rfl ?_
    refine z_iconst hC dX11_reach_14 ?_
    refine z_sipush hC dX11_reach_15 rfl ?_
    refine z_cZp (z_rS (As := [.int (zi p2), .int (zi (0)), .int (zi (999))]) hC (fun _ h1 => SB_isWithin FU p2 (0) (999) hp2 (by decide) (by decide) h1) zM11_68 zMs_FB_isWithin ⟨by decide, by decide⟩ rfl rfl rfl (rest := []) (Nat.le_of_ble_eq_true rfl) ⟨Nat.le_of_ble_eq_true rfl, Nat.le_of_ble_eq_true rfl⟩ rfl dX11_reach_18) (fun v4 hv4 => ?_)
    refine z_if_ne (tgt := 26) hC (hv4).i dX11_reach_21 (by decide) (fun _ => ?_) (fun _ => ?_)
    · refine z_iconst hC dX11_reach_24 ?_
      exact z_iret hC (by decide) hr dX11_reach_25
    · refine z_aload_n hC 0 rfl dX11_reach_26 rfl ?_
      refine z_cZp (z_rV (q := a3) (t := 7) (As := []) hC (fun _ h1 => SShop_isOpen FU a3 h1) (fun _ h1 => SShop_isOpen_k h1) rfl rfl zM11_130 zMv_FShop_isOpen ⟨by decide, by decide⟩ rfl rfl rfl (rest := []) (Nat.le_of_ble_eq_true rfl) ⟨Nat.le_of_ble_eq_true rfl, Nat.le_of_ble_eq_true rfl⟩ rfl dX11_reach_27) (fun v5 hv5 => ?_)
      refine z_if_ne (tgt := 36) hC (hv5).i dX11_reach_30 (by decide) (fun _ => ?_) (fun _ => ?_)
      · refine z_bipush hC dX11_reach_33 rfl ?_
        exact z_iret hC (by decide) hr dX11_reach_35
      · refine z_aload_n hC 0 rfl dX11_reach_36 rfl ?_
        refine z_getI hC zF11_138 rfl dX11_reach_37 (fun v6 hv6 => ?_)
        refine z_istore (lo' := [(4, .int (zi v6)), (3, .ref a3), (0, .ref this), (1, .int (zi p1)), (2, .int (zi p2))]) hC dX11_reach_40 (by decide) rfl ?_
        refine z_aload_n hC 1 rfl dX11_reach_42 rfl ?_
        refine z_iload_n hC 4 rfl dX11_reach_43 rfl ?_
        refine z_putI hC hp2 zF11_138 rfl rfl dX11_reach_44 (fun G7 => ?_)
        refine z_iload hC 0 rfl dX11_reach_47 ?_
        exact z_iret hC hv6 hr dX11_reach_49
theorem SB_reach_k {FU : Nat} {this : Nat} {p1 : Int} {p2 : Int} {G : Hp} {r1 : (Int × Hp)} (h1 : FB_reach FU this p1 p2 G = some r1) : zk G this = some (11, 0) := zgd_k (k := FB_reach_b FU this p1 p2 G) h1

set_option maxRecDepth 100000 in
theorem SB_whose {l : Launch} {D : va_G} {aC : Nat → ClassId} (FU : Nat) (this : Nat) (p1 : Int) (hp1 : zInI p1) {G : Hp} {r1 : Int} (h1 : FB_whose FU this p1 G = some r1) : Met l yX11_whose (Cond.code yX11_whose cX11_whose 3 (some .int) :: zgood) ({ frames := 4, cells := 0, slots := 0, locals := 95 } : Room) (va_Pc [.ref this, .int (zi p1)] (zU D aC G)) (zQ D aC G (zInI r1) (some (.int (zi r1))) G) 0 0 (zA G) := by
  refine z_met (y := yX11_whose) (b := cX11_whose) (maxL := 3) (mc := 0) (ms := 0) (ret := (some .int)) (As := [.ref this, .int (zi p1)]) (Q1 := fun r1 => zQ D aC G (zInI r1) (some (.int (zi r1))) G) (X := FB_whose FU this p1 G) (by decide) (Nat.le_of_ble_eq_true rfl) ?_ h1
  intro p e s m below meth c hC hr hi
  have hC : zC p m c meth s ([.ref this, .int (zi p1)] : List Value).toArray cX11_whose 3 RX11 D aC := hC
  generalize ([.ref this, .int (zi p1)] : List Value).toArray = args at hC ⊢
  show zS p l e ({ frames := 4, cells := 0, slots := 0, locals := 95 } : Room) s m args below meth c D aC G (fun r1 => zfI D aC G below args s 0 0 (r1, G)) 3 0 0 (FB_whose FU this p1 G) G 0 [(0, .ref this), (1, .int (zi p1))] []
  unfold FB_whose
  refine z_gd ?_
  unfold FB_whose_b
  refine z_aload_n hC 0 rfl dX11_whose_0 rfl ?_
  refine z_getQ hC zF11_16 rfl dX11_whose_1 (fun v1 => ?_)
  refine z_iload_n hC 1 rfl dX11_whose_4 rfl ?_
  refine z_cZp (z_rV (q := v1) (t := 10) (As := [.int (zi p1)]) hC (fun _ h1 => STown_hasPlace FU v1 p1 hp1 h1) (fun _ h1 => STown_hasPlace_k h1) rfl rfl zM11_76 zMv_FTown_hasPlace ⟨by decide, by decide⟩ rfl rfl rfl (rest := []) (Nat.le_of_ble_eq_true rfl) ⟨Nat.le_of_ble_eq_true rfl, Nat.le_of_ble_eq_true rfl⟩ rfl dX11_whose_5) (fun v2 hv2 => ?_)
  refine z_if_ne (tgt := 13) hC (hv2).i dX11_whose_8 (by decide) (fun _ => ?_) (fun _ => ?_)
  · refine z_iconst hC dX11_whose_11 ?_
    exact z_iretp hC (by decide) hr dX11_whose_12
  · refine z_aload_n hC 0 rfl dX11_whose_13 rfl ?_
    refine z_getQ hC zF11_25 rfl dX11_whose_14 (fun v3 => ?_)
    refine z_iload_n hC 1 rfl dX11_whose_17 rfl ?_
    refine z_cIp (z_rV (q := v3) (t := 0) (As := [.int (zi p1)]) hC (fun _ h1 => SChain_landHolder FU v3 p1 hp1 h1) (fun _ h1 => SChain_landHolder_k h1) rfl rfl zM11_141 zMv_FChain_landHolder ⟨by decide, by decide⟩ rfl rfl rfl (rest := []) (Nat.le_of_ble_eq_true rfl) ⟨Nat.le_of_ble_eq_true rfl, Nat.le_of_ble_eq_true rfl⟩ rfl dX11_whose_18) (fun v4 hv4 => ?_)
    refine z_istore_n (lo' := [(2, .int (zi v4)), (0, .ref this), (1, .int (zi p1))]) hC dX11_whose_21 rfl (by decide) rfl ?_
    refine z_iload_n hC 0 rfl dX11_whose_22 rfl ?_
    refine z_if_ge (tgt := 31) hC hv4 dX11_whose_23 (by decide) (fun _ => ?_) (fun _ => ?_)
    · refine z_bipush hC dX11_whose_26 rfl ?_
      refine z_goto (tgt := 32) hC dX11_whose_28 (by decide) ?_
      exact z_iretp hC (by decide) hr dX11_whose_32
    · refine z_iload_n hC 0 rfl dX11_whose_31 rfl ?_
      exact z_iretp hC hv4 hr dX11_whose_32
theorem SB_whose_k {FU : Nat} {this : Nat} {p1 : Int} {G : Hp} {r1 : Int} (h1 : FB_whose FU this p1 G = some r1) : zk G this = some (11, 0) := zgd_k (k := FB_whose_b FU this p1 G) h1

set_option maxRecDepth 100000 in
theorem SB_ofShop {l : Launch} {D : va_G} {aC : Nat → ClassId} (FU : Nat) (this : Nat) (p1 : Int) (p2 : Int) (hp1 : zInI p1) (hp2 : zInI p2) {G : Hp} {r1 : Int} (h1 : FB_ofShop FU this p1 p2 G = some r1) : Met l yX11_ofShop (Cond.code yX11_ofShop cX11_ofShop 4 (some .int) :: zgood) ({ frames := 5, cells := 0, slots := 0, locals := 118 } : Room) (va_Pc [.ref this, .int (zi p1), .int (zi p2)] (zU D aC G)) (zQ D aC G (zInI r1) (some (.int (zi r1))) G) 0 0 (zA G) := by
  refine z_met (y := yX11_ofShop) (b := cX11_ofShop) (maxL := 4) (mc := 0) (ms := 0) (ret := (some .int)) (As := [.ref this, .int (zi p1), .int (zi p2)]) (Q1 := fun r1 => zQ D aC G (zInI r1) (some (.int (zi r1))) G) (X := FB_ofShop FU this p1 p2 G) (by decide) (Nat.le_of_ble_eq_true rfl) ?_ h1
  intro p e s m below meth c hC hr hi
  have hC : zC p m c meth s ([.ref this, .int (zi p1), .int (zi p2)] : List Value).toArray cX11_ofShop 4 RX11 D aC := hC
  generalize ([.ref this, .int (zi p1), .int (zi p2)] : List Value).toArray = args at hC ⊢
  show zS p l e ({ frames := 5, cells := 0, slots := 0, locals := 118 } : Room) s m args below meth c D aC G (fun r1 => zfI D aC G below args s 0 0 (r1, G)) 4 0 0 (FB_ofShop FU this p1 p2 G) G 0 [(0, .ref this), (1, .int (zi p1)), (2, .int (zi p2))] []
  unfold FB_ofShop
  refine z_gd ?_
  unfold FB_ofShop_b
  refine z_aload_n hC 0 rfl dX11_ofShop_0 rfl ?_
  refine z_getQ hC zF11_25 rfl dX11_ofShop_1 (fun v1 => ?_)
  refine z_iload_n hC 1 rfl dX11_ofShop_4 rfl ?_
  refine z_cAp (z_rV (q := v1) (t := 0) (As := [.int (zi p1)]) hC (fun _ h1 => SChain_shopAt FU v1 p1 hp1 h1) (fun _ h1 => SChain_shopAt_k h1) rfl rfl zM11_126 zMv_FChain_shopAt ⟨by decide, by decide⟩ rfl rfl rfl (rest := []) (Nat.le_of_ble_eq_true rfl) ⟨Nat.le_of_ble_eq_true rfl, Nat.le_of_ble_eq_true rfl⟩ rfl dX11_ofShop_5) (fun v2 => ?_)
  refine z_qstore_n (lo' := [(3, va_rf v2), (0, .ref this), (1, .int (zi p1)), (2, .int (zi p2))]) hC dX11_ofShop_8 rfl (by decide) rfl ?_
  refine z_qload_n hC 0 rfl dX11_ofShop_9 rfl ?_
  refine z_ifnonnull (tgt := 15) hC dX11_ofShop_10 (by decide) (fun h0 => ?_) (fun a3 h0 => ?_)
  · subst h0
    refine z_iconst hC dX11_ofShop_13 ?_
    exact z_iretp hC (by decide) hr dX11_ofShop_14
  · subst h0
    refine z_iload_n hC 3 rfl dX11_ofShop_15 rfl ?_
    refine z_tabIf (tgt := 64) hC hp2 dX11_ofShop_16 0 ⟨by decide, by decide⟩ rfl (by decide) (fun _ => ?_) (fun hsw0 => ?_)
    · refine z_aload_n hC 0 rfl dX11_ofShop_64 rfl ?_
      refine z_getI hC zF11_144 rfl dX11_ofShop_65 (fun v4 hv4 => ?_)
      exact z_iretp hC hv4 hr dX11_ofShop_68
    refine z_tabIf (tgt := 69) hC hp2 dX11_ofShop_16 1 ⟨by decide, by decide⟩ rfl (by decide) (fun _ => ?_) (fun hsw1 => ?_)
    · refine z_aload_n hC 0 rfl dX11_ofShop_69 rfl ?_
      refine z_getI hC zF11_147 rfl dX11_ofShop_70 (fun v5 hv5 => ?_)
      exact z_iretp hC hv5 hr dX11_ofShop_73
    refine z_tabIf (tgt := 74) hC hp2 dX11_ofShop_16 2 ⟨by decide, by decide⟩ rfl (by decide) (fun _ => ?_) (fun hsw2 => ?_)
    · refine z_aload_n hC 0 rfl dX11_ofShop_74 rfl ?_
      refine z_getI hC zF11_150 rfl dX11_ofShop_75 (fun v6 hv6 => ?_)
      exact z_iretp hC hv6 hr dX11_ofShop_78
    refine z_tabIf (tgt := 79) hC hp2 dX11_ofShop_16 3 ⟨by decide, by decide⟩ rfl (by decide) (fun _ => ?_) (fun hsw3 => ?_)
    · refine z_aload_n hC 0 rfl dX11_ofShop_79 rfl ?_
      refine z_getI hC zF11_153 rfl dX11_ofShop_80 (fun v7 hv7 => ?_)
      exact z_iretp hC hv7 hr dX11_ofShop_83
    refine z_tabIf (tgt := 84) hC hp2 dX11_ofShop_16 4 ⟨by decide, by decide⟩ rfl (by decide) (fun _ => ?_) (fun hsw4 => ?_)
    · refine z_aload_n hC 0 rfl dX11_ofShop_84 rfl ?_
      refine z_getI hC zF11_156 rfl dX11_ofShop_85 (fun v8 hv8 => ?_)
      exact z_iretp hC hv8 hr dX11_ofShop_88
    refine z_tabIf (tgt := 89) hC hp2 dX11_ofShop_16 5 ⟨by decide, by decide⟩ rfl (by decide) (fun _ => ?_) (fun hsw5 => ?_)
    · refine z_aload_n hC 0 rfl dX11_ofShop_89 rfl ?_
      refine z_getI hC zF11_138 rfl dX11_ofShop_90 (fun v9 hv9 => ?_)
      exact z_iretp hC hv9 hr dX11_ofShop_93
    refine z_tabIf (tgt := 94) hC hp2 dX11_ofShop_16 6 ⟨by decide, by decide⟩ rfl (by decide) (fun _ => ?_) (fun hsw6 => ?_)
    · refine z_aload_n hC 1 rfl dX11_ofShop_94 rfl ?_
      refine z_getQ hC zF11_25 rfl dX11_ofShop_95 (fun v10 => ?_)
      refine z_iload_n hC 2 rfl dX11_ofShop_98 rfl ?_
      refine z_cIp (z_rV (q := v10) (t := 0) (As := [.int (zi p1)]) hC (fun _ h1 => SChain_landSize FU v10 p1 hp1 h1) (fun _ h1 => SChain_landSize_k h1) rfl rfl zM11_159 zMv_FChain_landSize ⟨by decide, by decide⟩ rfl rfl rfl (rest := []) (Nat.le_of_ble_eq_true rfl) ⟨Nat.le_of_ble_eq_true rfl, Nat.le_of_ble_eq_true rfl⟩ rfl dX11_ofShop_99) (fun v11 hv11 => ?_)
      exact z_iretp hC hv11 hr dX11_ofShop_102
    refine z_tabIf (tgt := 103) hC hp2 dX11_ofShop_16 7 ⟨by decide, by decide⟩ rfl (by decide) (fun _ => ?_) (fun hsw7 => ?_)
    · refine z_aload_n hC 0 rfl dX11_ofShop_103 rfl ?_
      refine z_getI hC zF11_162 rfl dX11_ofShop_104 (fun v12 hv12 => ?_)
      exact z_iretp hC hv12 hr dX11_ofShop_107
    refine z_tabDef (tgt := 108) hC hp2 dX11_ofShop_16 (by omega) (by decide) ?_
    refine z_iconst hC dX11_ofShop_108 ?_
    exact z_iretp hC (by decide) hr dX11_ofShop_109
theorem SB_ofShop_k {FU : Nat} {this : Nat} {p1 : Int} {p2 : Int} {G : Hp} {r1 : Int} (h1 : FB_ofShop FU this p1 p2 G = some r1) : zk G this = some (11, 0) := zgd_k (k := FB_ofShop_b FU this p1 p2 G) h1

set_option maxRecDepth 100000 in
theorem SB_foretold {l : Launch} {D : va_G} {aC : Nat → ClassId} (FU : Nat) (this : Nat) (p1 : Int) (hp1 : zInI p1) {G : Hp} {r1 : (Int × Hp)} (h1 : FB_foretold FU this p1 G = some r1) : Met l yX11_foretold (Cond.code yX11_foretold cX11_foretold 3 (some .int) :: zgood) ({ frames := 5, cells := 0, slots := 0, locals := 117 } : Room) (va_Pc [.ref this, .int (zi p1)] (zU D aC G)) (zQ D aC G (zInI r1.1) (some (.int (zi r1.1))) r1.2) 0 0 (zA G) := by
  refine z_met (y := yX11_foretold) (b := cX11_foretold) (maxL := 3) (mc := 0) (ms := 0) (ret := (some .int)) (As := [.ref this, .int (zi p1)]) (Q1 := fun r1 => zQ D aC G (zInI r1.1) (some (.int (zi r1.1))) r1.2) (X := FB_foretold FU this p1 G) (by decide) (Nat.le_of_ble_eq_true rfl) ?_ h1
  intro p e s m below meth c hC hr hi
  have hC : zC p m c meth s ([.ref this, .int (zi p1)] : List Value).toArray cX11_foretold 3 RX11 D aC := hC
  generalize ([.ref this, .int (zi p1)] : List Value).toArray = args at hC ⊢
  show zS p l e ({ frames := 5, cells := 0, slots := 0, locals := 117 } : Room) s m args below meth c D aC G (zfI D aC G below args s 0 0) 3 0 0 (FB_foretold FU this p1 G) G 0 [(0, .ref this), (1, .int (zi p1))] []
  unfold FB_foretold
  refine z_gd ?_
  unfold FB_foretold_b
  refine z_aload_n hC 0 rfl dX11_foretold_0 rfl ?_
  refine z_getQ hC zF11_25 rfl dX11_foretold_1 (fun v1 => ?_)
  refine z_iload_n hC 1 rfl dX11_foretold_4 rfl ?_
  refine z_cAp (z_rV (q := v1) (t := 0) (As := [.int (zi p1)]) hC (fun _ h1 => SChain_shopAt FU v1 p1 hp1 h1) (fun _ h1 => SChain_shopAt_k h1) rfl rfl zM11_126 zMv_FChain_shopAt ⟨by decide, by decide⟩ rfl rfl rfl (rest := []) (Nat.le_of_ble_eq_true rfl) ⟨Nat.le_of_ble_eq_true rfl, Nat.le_of_ble_eq_true rfl⟩ rfl dX11_foretold_5) (fun v2 => ?_)
  refine z_qstore_n (lo' := [(2, va_rf v2), (0, .ref this), (1, .int (zi p1))]) hC dX11_foretold_8 rfl (by decide) rfl ?_
  refine z_qload_n hC 0 rfl dX11_foretold_9 rfl ?_
  refine z_ifnonnull (tgt := 15) hC dX11_foretold_10 (by decide) (fun h0 => ?_) (fun a3 h0 => ?_)
  · subst h0
    refine z_iconst hC dX11_foretold_13 ?_
    exact z_iret hC (by decide) hr dX11_foretold_14
  · subst h0
    refine z_aload_n hC 0 rfl dX11_foretold_15 rfl ?_
    refine z_cZp (z_rV (q := a3) (t := 7) (As := []) hC (fun _ h1 => SShop_isOpen FU a3 h1) (fun _ h1 => SShop_isOpen_k h1) rfl rfl zM11_130 zMv_FShop_isOpen ⟨by decide, by decide⟩ rfl rfl rfl (rest := []) (Nat.le_of_ble_eq_true rfl) ⟨Nat.le_of_ble_eq_true rfl, Nat.le_of_ble_eq_true rfl⟩ rfl dX11_foretold_16) (fun v4 hv4 => ?_)
    refine z_if_ne (tgt := 25) hC (hv4).i dX11_foretold_19 (by decide) (fun _ => ?_) (fun _ => ?_)
    · refine z_bipush hC dX11_foretold_22 rfl ?_
      exact z_iret hC (by decide) hr dX11_foretold_24
    · refine z_aload_n hC 1 rfl dX11_foretold_25 rfl ?_
      refine z_getQ hC zF11_32 rfl dX11_foretold_26 (fun v5 => ?_)
      refine z_aload_n hC 1 rfl dX11_foretold_29 rfl ?_
      refine z_getQ hC zF11_25 rfl dX11_foretold_30 (fun v6 => ?_)
      refine z_cV (z_rV (q := v5) (t := 2) (As := [.ref v6]) hC (fun _ h1 => SMarket_fillFrom FU v5 v6 h1) (fun _ h1 => SMarket_fillFrom_k h1) rfl rfl zM11_165 zMv_FMarket_fillFrom ⟨by decide, by decide⟩ rfl rfl rfl (rest := []) (Nat.le_of_ble_eq_true rfl) ⟨Nat.le_of_ble_eq_true rfl, Nat.le_of_ble_eq_true rfl⟩ rfl dX11_foretold_33) (fun G7 => ?_)
      refine z_aload_n hC 1 rfl dX11_foretold_36 rfl ?_
      refine z_getQ hC zF11_32 rfl dX11_foretold_37 (fun v8 => ?_)
      refine z_iload_n hC 2 rfl dX11_foretold_40 rfl ?_
      refine z_cIp (z_rV (q := v8) (t := 2) (As := [.int (zi p1)]) hC (fun _ h1 => SMarket_takingsOf FU v8 p1 hp1 h1) (fun _ h1 => SMarket_takingsOf_k h1) rfl rfl zM11_168 zMv_FMarket_takingsOf ⟨by decide, by decide⟩ rfl rfl rfl (rest := []) (Nat.le_of_ble_eq_true rfl) ⟨Nat.le_of_ble_eq_true rfl, Nat.le_of_ble_eq_true rfl⟩ rfl dX11_foretold_41) (fun v9 hv9 => ?_)
      exact z_iret hC hv9 hr dX11_foretold_44
theorem SB_foretold_k {FU : Nat} {this : Nat} {p1 : Int} {G : Hp} {r1 : (Int × Hp)} (h1 : FB_foretold FU this p1 G = some r1) : zk G this = some (11, 0) := zgd_k (k := FB_foretold_b FU this p1 G) h1

set_option maxRecDepth 100000 in
theorem SB_harm {l : Launch} {D : va_G} {aC : Nat → ClassId} (FU : Nat) (this : Nat) (p1 : Int) (p2 : Int) (p3 : Int) (hp1 : zInI p1) (hp2 : zInI p2) (hp3 : zInI p3) {G : Hp} {r1 : (Int × Hp)} (h1 : FB_harm FU this p1 p2 p3 G = some r1) : Met l yX11_harm (Cond.code yX11_harm cX11_harm 6 (some .int) :: zgood) ({ frames := 5, cells := 0, slots := 0, locals := 117 } : Room) (va_Pc [.ref this, .int (zi p1), .int (zi p2), .int (zi p3)] (zU D aC G)) (zQ D aC G (zInI r1.1) (some (.int (zi r1.1))) r1.2) 0 0 (zA G) := by
  refine z_met (y := yX11_harm) (b := cX11_harm) (maxL := 6) (mc := 0) (ms := 0) (ret := (some .int)) (As := [.ref this, .int (zi p1), .int (zi p2), .int (zi p3)]) (Q1 := fun r1 => zQ D aC G (zInI r1.1) (some (.int (zi r1.1))) r1.2) (X := FB_harm FU this p1 p2 p3 G) (by decide) (Nat.le_of_ble_eq_true rfl) ?_ h1
  intro p e s m below meth c hC hr hi
  have hC : zC p m c meth s ([.ref this, .int (zi p1), .int (zi p2), .int (zi p3)] : List Value).toArray cX11_harm 6 RX11 D aC := hC
  generalize ([.ref this, .int (zi p1), .int (zi p2), .int (zi p3)] : List Value).toArray = args at hC ⊢
  show zS p l e ({ frames := 5, cells := 0, slots := 0, locals := 117 } : Room) s m args below meth c D aC G (zfI D aC G below args s 0 0) 6 0 0 (FB_harm FU this p1 p2 p3 G) G 0 [(0, .ref this), (1, .int (zi p1)), (2, .int (zi p2)), (3, .int (zi p3))] []
  unfold FB_harm
  refine z_gd ?_
  unfold FB_harm_b
  refine z_aload_n hC 0 rfl dX11_harm_0 rfl ?_
  refine z_getQ hC zF11_25 rfl dX11_harm_1 (fun v1 => ?_)
  refine z_iload_n hC 1 rfl dX11_harm_4 rfl ?_
  refine z_cAp (z_rV (q := v1) (t := 0) (As := [.int (zi p1)]) hC (fun _ h1 => SChain_shopAt FU v1 p1 hp1 h1) (fun _ h1 => SChain_shopAt_k h1) rfl rfl zM11_126 zMv_FChain_shopAt ⟨by decide, by decide⟩ rfl rfl rfl (rest := []) (Nat.le_of_ble_eq_true rfl) ⟨Nat.le_of_ble_eq_true rfl, Nat.le_of_ble_eq_true rfl⟩ rfl dX11_harm_5) (fun v2 => ?_)
  refine z_qstore (lo' := [(4, va_rf v2), (0, .ref this), (1, .int (zi p1)), (2, .int (zi p2)), (3, .int (zi p3))]) hC dX11_harm_8 (by decide) rfl ?_
  refine z_qload hC 0 rfl dX11_harm_10 ?_
  refine z_ifnull (tgt := 36) hC dX11_harm_12 (by decide) (fun h0 => ?_) (fun a3 h0 => ?_)
  · subst h0
    refine z_iconst hC dX11_harm_36 ?_
    exact z_iret hC (by decide) hr dX11_harm_37
  · subst h0
    refine z_aload_n hC 1 rfl dX11_harm_15 rfl ?_
    refine z_getQ hC zF11_16 rfl dX11_harm_16 (fun v4 => ?_)
    refine z_iload_n hC 3 rfl dX11_harm_19 rfl ?_
    refine z_cZp (z_rV (q := v4) (t := 10) (As := [.int (zi p2)]) hC (fun _ h1 => STown_hasPlace FU v4 p2 hp2 h1) (fun _ h1 => STown_hasPlace_k h1) rfl rfl zM11_76 zMv_FTown_hasPlace ⟨by decide, by decide⟩ rfl rfl rfl (rest := []) (Nat.le_of_ble_eq_true rfl) ⟨Nat.le_of_ble_eq_true rfl, Nat.le_of_ble_eq_true rfl⟩ rfl dX11_harm_20) (fun v5 hv5 => ?_)
    refine z_if_eq (tgt := 36) hC (hv5).i dX11_harm_23 (by decide) (fun _ => ?_) (fun _ => ?_)
    · refine z_iconst hC dX11_harm_36 ?_
      exact z_iret hC (by decide) hr dX11_harm_37
    · refine z_iload_n hC 4 rfl dX11_harm_26 rfl ?_
      refine z_iconst hC dX11_harm_27 ?_
      refine z_bipush hC dX11_harm_28 rfl ?_
      refine z_cZp (z_rS (As := [.int (zi p3), .int (zi (1)), .int (zi (99))]) hC (fun _ h1 => SB_isWithin FU p3 (1) (99) hp3 (by decide) (by decide) h1) zM11_68 zMs_FB_isWithin ⟨by decide, by decide⟩ rfl rfl rfl (rest := []) (Nat.le_of_ble_eq_true rfl) ⟨Nat.le_of_ble_eq_true rfl, Nat.le_of_ble_eq_true rfl⟩ rfl dX11_harm_30) (fun v6 hv6 => ?_)
      refine z_if_ne (tgt := 38) hC (hv6).i dX11_harm_33 (by decide) (fun _ => ?_) (fun _ => ?_)
      · refine z_iconst hC dX11_harm_36 ?_
        exact z_iret hC (by decide) hr dX11_harm_37
      · refine z_aload hC 0 rfl dX11_harm_38 ?_
        refine z_cZp (z_rV (q := a3) (t := 7) (As := []) hC (fun _ h1 => SShop_isOpen FU a3 h1) (fun _ h1 => SShop_isOpen_k h1) rfl rfl zM11_130 zMv_FShop_isOpen ⟨by decide, by decide⟩ rfl rfl rfl (rest := []) (Nat.le_of_ble_eq_true rfl) ⟨Nat.le_of_ble_eq_true rfl, Nat.le_of_ble_eq_true rfl⟩ rfl dX11_harm_40) (fun v7 hv7 => ?_)
        refine z_if_eq (tgt := 57) hC (hv7).i dX11_harm_43 (by decide) (fun _ => ?_) (fun _ => ?_)
        · refine z_bipush hC dX11_harm_57 rfl ?_
          exact z_iret hC (by decide) hr dX11_harm_59
        · refine z_aload_n hC 1 rfl dX11_harm_46 rfl ?_
          refine z_getQ hC zF11_25 rfl dX11_harm_47 (fun v8 => ?_)
          refine z_iload_n hC 3 rfl dX11_harm_50 rfl ?_
          refine z_cZp (z_rV (q := v8) (t := 0) (As := [.int (zi p2)]) hC (fun _ h1 => SChain_isTaken FU v8 p2 hp2 h1) (fun _ h1 => SChain_isTaken_k h1) rfl rfl zM11_101 zMv_FChain_isTaken ⟨by decide, by decide⟩ rfl rfl rfl (rest := []) (Nat.le_of_ble_eq_true rfl) ⟨Nat.le_of_ble_eq_true rfl, Nat.le_of_ble_eq_true rfl⟩ rfl dX11_harm_51) (fun v9 hv9 => ?_)
          refine z_if_eq (tgt := 60) hC (hv9).i dX11_harm_54 (by decide) (fun _ => ?_) (fun _ => ?_)
          · refine z_aload_n hC 1 rfl dX11_harm_60 rfl ?_
            refine z_getQ hC zF11_32 rfl dX11_harm_61 (fun v10 => ?_)
            refine z_aload_n hC 1 rfl dX11_harm_64 rfl ?_
            refine z_getQ hC zF11_25 rfl dX11_harm_65 (fun v11 => ?_)
            refine z_cV (z_rV (q := v10) (t := 2) (As := [.ref v11]) hC (fun _ h1 => SMarket_fillFrom FU v10 v11 h1) (fun _ h1 => SMarket_fillFrom_k h1) rfl rfl zM11_165 zMv_FMarket_fillFrom ⟨by decide, by decide⟩ rfl rfl rfl (rest := []) (Nat.le_of_ble_eq_true rfl) ⟨Nat.le_of_ble_eq_true rfl, Nat.le_of_ble_eq_true rfl⟩ rfl dX11_harm_68) (fun G12 => ?_)
            refine z_aload_n hC 1 rfl dX11_harm_71 rfl ?_
            refine z_getQ hC zF11_32 rfl dX11_harm_72 (fun v13 => ?_)
            refine z_iload_n hC 2 rfl dX11_harm_75 rfl ?_
            refine z_cIp (z_rV (q := v13) (t := 2) (As := [.int (zi p1)]) hC (fun _ h1 => SMarket_takingsOf FU v13 p1 hp1 h1) (fun _ h1 => SMarket_takingsOf_k h1) rfl rfl zM11_168 zMv_FMarket_takingsOf ⟨by decide, by decide⟩ rfl rfl rfl (rest := []) (Nat.le_of_ble_eq_true rfl) ⟨Nat.le_of_ble_eq_true rfl, Nat.le_of_ble_eq_true rfl⟩ rfl dX11_harm_76) (fun v14 hv14 => ?_)
            refine z_istore (lo' := [(5, .int (zi v14)), (4, .ref a3), (0, .ref this), (1, .int (zi p1)), (2, .int (zi p2)), (3, .int (zi p3))]) hC dX11_harm_79 (by decide) rfl ?_
            refine z_aload_n hC 2 rfl dX11_harm_81 rfl ?_
            refine z_getQ hC zF11_32 rfl dX11_harm_82 (fun v15 => ?_)
            refine z_iload_n hC 4 rfl dX11_harm_85 rfl ?_
            refine z_iload_n hC 5 rfl dX11_harm_86 rfl ?_
            refine z_iconst hC dX11_harm_87 ?_
            refine z_cV (z_rV (q := v15) (t := 2) (As := [.int (zi p2), .int (zi p3), .int (zi (-1))]) hC (fun _ h1 => SMarket_addStall FU v15 p2 p3 (-1) hp2 hp3 (by decide) h1) (fun _ h1 => SMarket_addStall_k h1) rfl rfl zM11_171 zMv_FMarket_addStall ⟨by decide, by decide⟩ rfl rfl rfl (rest := []) (Nat.le_of_ble_eq_true rfl) ⟨Nat.le_of_ble_eq_true rfl, Nat.le_of_ble_eq_true rfl⟩ rfl dX11_harm_88) (fun G16 => ?_)
            refine z_iload hC 0 rfl dX11_harm_91 ?_
            refine z_aload_n hC 2 rfl dX11_harm_93 rfl ?_
            refine z_getQ hC zF11_32 rfl dX11_harm_94 (fun v17 => ?_)
            refine z_iload_n hC 3 rfl dX11_harm_97 rfl ?_
            refine z_cIp (z_rV (q := v17) (t := 2) (As := [.int (zi p1)]) hC (fun _ h1 => SMarket_takingsOf FU v17 p1 hp1 h1) (fun _ h1 => SMarket_takingsOf_k h1) rfl rfl zM11_168 zMv_FMarket_takingsOf ⟨by decide, by decide⟩ rfl rfl rfl (rest := [.int (zi v14)]) (Nat.le_of_ble_eq_true rfl) ⟨Nat.le_of_ble_eq_true rfl, Nat.le_of_ble_eq_true rfl⟩ rfl dX11_harm_98) (fun v18 hv18 => ?_)
            refine z_cIp (z_rS (As := [.int (zi v14), .int (zi v18)]) hC (fun _ h1 => SB_lossInThousandths FU v14 v18 hv14 hv18 h1) zM11_175 zMs_FB_lossInThousandths ⟨by decide, by decide⟩ rfl rfl rfl (rest := []) (Nat.le_of_ble_eq_true rfl) ⟨Nat.le_of_ble_eq_true rfl, Nat.le_of_ble_eq_true rfl⟩ rfl dX11_harm_101) (fun v19 hv19 => ?_)
            exact z_iret hC hv19 hr dX11_harm_104
          · refine z_bipush hC dX11_harm_57 rfl ?_
            exact z_iret hC (by decide) hr dX11_harm_59
theorem SB_harm_k {FU : Nat} {this : Nat} {p1 : Int} {p2 : Int} {p3 : Int} {G : Hp} {r1 : (Int × Hp)} (h1 : FB_harm FU this p1 p2 p3 G = some r1) : zk G this = some (11, 0) := zgd_k (k := FB_harm_b FU this p1 p2 p3 G) h1

set_option maxRecDepth 100000 in
theorem SB_site {l : Launch} {D : va_G} {aC : Nat → ClassId} (FU : Nat) (this : Nat) (p1 : Int) (hp1 : zInI p1) {G : Hp} {r1 : (Int × Hp)} (h1 : FB_site FU this p1 G = some r1) : Met l yX11_site (Cond.code yX11_site cX11_site 2 (some .int) :: zgood) ({ frames := 3, cells := 0, slots := 0, locals := 67 } : Room) (va_Pc [.ref this, .int (zi p1)] (zU D aC G)) (zQ D aC G (zInI r1.1) (some (.int (zi r1.1))) r1.2) 0 0 (zA G) := by
  refine z_met (y := yX11_site) (b := cX11_site) (maxL := 2) (mc := 0) (ms := 0) (ret := (some .int)) (As := [.ref this, .int (zi p1)]) (Q1 := fun r1 => zQ D aC G (zInI r1.1) (some (.int (zi r1.1))) r1.2) (X := FB_site FU this p1 G) (by decide) (Nat.le_of_ble_eq_true rfl) ?_ h1
  intro p e s m below meth c hC hr hi
  have hC : zC p m c meth s ([.ref this, .int (zi p1)] : List Value).toArray cX11_site 2 RX11 D aC := hC
  generalize ([.ref this, .int (zi p1)] : List Value).toArray = args at hC ⊢
  show zS p l e ({ frames := 3, cells := 0, slots := 0, locals := 67 } : Room) s m args below meth c D aC G (zfI D aC G below args s 0 0) 2 0 0 (FB_site FU this p1 G) G 0 [(0, .ref this), (1, .int (zi p1))] []
  unfold FB_site
  refine z_gd ?_
  unfold FB_site_b
  refine z_aload_n hC 0 rfl dX11_site_0 rfl ?_
  refine z_getQ hC zF11_16 rfl dX11_site_1 (fun v1 => ?_)
  refine z_iload_n hC 1 rfl dX11_site_4 rfl ?_
  refine z_cZp (z_rV (q := v1) (t := 10) (As := [.int (zi p1)]) hC (fun _ h1 => STown_hasPlace FU v1 p1 hp1 h1) (fun _ h1 => STown_hasPlace_k h1) rfl rfl zM11_76 zMv_FTown_hasPlace ⟨by decide, by decide⟩ rfl rfl rfl (rest := []) (Nat.le_of_ble_eq_true rfl) ⟨Nat.le_of_ble_eq_true rfl, Nat.le_of_ble_eq_true rfl⟩ rfl dX11_site_5) (fun v2 hv2 => ?_)
  refine z_if_eq (tgt := 22) hC (hv2).i dX11_site_8 (by decide) (fun _ => ?_) (fun _ => ?_)
  · refine z_iconst hC dX11_site_22 ?_
    exact z_iret hC (by decide) hr dX11_site_23
  · refine z_aload_n hC 0 rfl dX11_site_11 rfl ?_
    refine z_getQ hC zF11_16 rfl dX11_site_12 (fun v3 => ?_)
    refine z_iload_n hC 1 rfl dX11_site_15 rfl ?_
    refine z_cZp (z_rV (q := v3) (t := 10) (As := [.int (zi p1)]) hC (fun _ h1 => STown_isSite FU v3 p1 hp1 h1) (fun _ h1 => STown_isSite_k h1) rfl rfl zM11_178 zMv_FTown_isSite ⟨by decide, by decide⟩ rfl rfl rfl (rest := []) (Nat.le_of_ble_eq_true rfl) ⟨Nat.le_of_ble_eq_true rfl, Nat.le_of_ble_eq_true rfl⟩ rfl dX11_site_16) (fun v4 hv4 => ?_)
    refine z_if_eq (tgt := 24) hC (hv4).i dX11_site_19 (by decide) (fun _ => ?_) (fun _ => ?_)
    · refine z_aload_n hC 0 rfl dX11_site_24 rfl ?_
      refine z_getQ hC zF11_16 rfl dX11_site_25 (fun v5 => ?_)
      refine z_iload_n hC 1 rfl dX11_site_28 rfl ?_
      refine z_cI (z_rV (q := v5) (t := 10) (As := [.int (zi p1)]) hC (fun _ h1 => STown_addSite FU v5 p1 hp1 h1) (fun _ h1 => STown_addSite_k h1) rfl rfl zM11_181 zMv_FTown_addSite ⟨by decide, by decide⟩ rfl rfl rfl (rest := []) (Nat.le_of_ble_eq_true rfl) ⟨Nat.le_of_ble_eq_true rfl, Nat.le_of_ble_eq_true rfl⟩ rfl dX11_site_29) (fun v7 G6 hv7 => ?_)
      exact z_iret hC hv7 hr dX11_site_32
    · refine z_iconst hC dX11_site_22 ?_
      exact z_iret hC (by decide) hr dX11_site_23
theorem SB_site_k {FU : Nat} {this : Nat} {p1 : Int} {G : Hp} {r1 : (Int × Hp)} (h1 : FB_site FU this p1 G = some r1) : zk G this = some (11, 0) := zgd_k (k := FB_site_b FU this p1 G) h1

set_option maxRecDepth 100000 in
theorem SB_best {l : Launch} {D : va_G} {aC : Nat → ClassId} (FU : Nat) (this : Nat) (p1 : Int) (p2 : Int) (p3 : Int) (hp1 : zInI p1) (hp2 : zInI p2) (hp3 : zInI p3) {G : Hp} {r1 : (Int × Hp)} (h1 : FB_best FU this p1 p2 p3 G = some r1) : Met l yX11_best (Cond.code yX11_best cX11_best 4 (some .int) :: zgood) ({ frames := 50, cells := 0, slots := 0, locals := 1152 } : Room) (va_Pc [.ref this, .int (zi p1), .int (zi p2), .int (zi p3)] (zU D aC G)) (zQ D aC G (zInI r1.1) (some (.int (zi r1.1))) r1.2) 0 0 (zA G) := by
  refine z_met (y := yX11_best) (b := cX11_best) (maxL := 4) (mc := 0) (ms := 0) (ret := (some .int)) (As := [.ref this, .int (zi p1), .int (zi p2), .int (zi p3)]) (Q1 := fun r1 => zQ D aC G (zInI r1.1) (some (.int (zi r1.1))) r1.2) (X := FB_best FU this p1 p2 p3 G) (by decide) (Nat.le_of_ble_eq_true rfl) ?_ h1
  intro p e s m below meth c hC hr hi
  have hC : zC p m c meth s ([.ref this, .int (zi p1), .int (zi p2), .int (zi p3)] : List Value).toArray cX11_best 4 RX11 D aC := hC
  generalize ([.ref this, .int (zi p1), .int (zi p2), .int (zi p3)] : List Value).toArray = args at hC ⊢
  show zS p l e ({ frames := 50, cells := 0, slots := 0, locals := 1152 } : Room) s m args below meth c D aC G (zfI D aC G below args s 0 0) 4 0 0 (FB_best FU this p1 p2 p3 G) G 0 [(0, .ref this), (1, .int (zi p1)), (2, .int (zi p2)), (3, .int (zi p3))] []
  unfold FB_best
  refine z_gd ?_
  unfold FB_best_b
  refine z_iload_n hC 1 rfl dX11_best_0 rfl ?_
  refine z_iconst hC dX11_best_1 ?_
  refine z_iconst hC dX11_best_2 ?_
  refine z_cZp (z_rS (As := [.int (zi p1), .int (zi (1)), .int (zi (3))]) hC (fun _ h1 => SB_isWithin FU p1 (1) (3) hp1 (by decide) (by decide) h1) zM11_68 zMs_FB_isWithin ⟨by decide, by decide⟩ rfl rfl rfl (rest := []) (Nat.le_of_ble_eq_true rfl) ⟨Nat.le_of_ble_eq_true rfl, Nat.le_of_ble_eq_true rfl⟩ rfl dX11_best_3) (fun v1 hv1 => ?_)
  refine z_if_eq (tgt := 27) hC (hv1).i dX11_best_6 (by decide) (fun _ => ?_) (fun _ => ?_)
  · refine z_iconst hC dX11_best_27 ?_
    exact z_iret hC (by decide) hr dX11_best_28
  · refine z_iload_n hC 2 rfl dX11_best_9 rfl ?_
    refine z_cZp (z_rS (As := [.int (zi p2)]) hC (fun _ h1 => SB_isWho FU p2 hp2 h1) zM11_98 zMs_FB_isWho ⟨by decide, by decide⟩ rfl rfl rfl (rest := []) (Nat.le_of_ble_eq_true rfl) ⟨Nat.le_of_ble_eq_true rfl, Nat.le_of_ble_eq_true rfl⟩ rfl dX11_best_10) (fun v2 hv2 => ?_)
    refine z_if_eq (tgt := 27) hC (hv2).i dX11_best_13 (by decide) (fun _ => ?_) (fun _ => ?_)
    · refine z_iconst hC dX11_best_27 ?_
      exact z_iret hC (by decide) hr dX11_best_28
    · refine z_iload_n hC 3 rfl dX11_best_16 rfl ?_
      refine z_iconst hC dX11_best_17 ?_
      refine z_sipush hC dX11_best_18 rfl ?_
      refine z_cZp (z_rS (As := [.int (zi p3), .int (zi (0)), .int (zi (1000))]) hC (fun _ h1 => SB_isWithin FU p3 (0) (1000) hp3 (by decide) (by decide) h1) zM11_68 zMs_FB_isWithin ⟨by decide, by decide⟩ rfl rfl rfl (rest := []) (Nat.le_of_ble_eq_true rfl) ⟨Nat.le_of_ble_eq_true rfl, Nat.le_of_ble_eq_true rfl⟩ rfl dX11_best_21) (fun v3 hv3 => ?_)
      refine z_if_ne (tgt := 29) hC (hv3).i dX11_best_24 (by decide) (fun _ => ?_) (fun _ => ?_)
      · refine z_iconst hC dX11_best_27 ?_
        exact z_iret hC (by decide) hr dX11_best_28
      · refine z_aload_n hC 0 rfl dX11_best_29 rfl ?_
        refine z_getQ hC zF11_41 rfl dX11_best_30 (fun v4 => ?_)
        refine z_iload_n hC 1 rfl dX11_best_33 rfl ?_
        refine z_iload_n hC 2 rfl dX11_best_34 rfl ?_
        refine z_iload_n hC 3 rfl dX11_best_35 rfl ?_
        refine z_cI (z_rV (q := v4) (t := 8) (As := [.int (zi p1), .int (zi p2), .int (zi p3)]) hC (fun _ h1 => SSearch_findBest FU v4 p1 p2 p3 hp1 hp2 hp3 h1) (fun _ h1 => SSearch_findBest_k h1) rfl rfl zM11_184 zMv_FSearch_findBest ⟨by decide, by decide⟩ rfl rfl rfl (rest := []) (Nat.le_of_ble_eq_true rfl) ⟨Nat.le_of_ble_eq_true rfl, Nat.le_of_ble_eq_true rfl⟩ rfl dX11_best_36) (fun v6 G5 hv6 => ?_)
        exact z_iret hC hv6 hr dX11_best_39
theorem SB_best_k {FU : Nat} {this : Nat} {p1 : Int} {p2 : Int} {p3 : Int} {G : Hp} {r1 : (Int × Hp)} (h1 : FB_best FU this p1 p2 p3 G = some r1) : zk G this = some (11, 0) := zgd_k (k := FB_best_b FU this p1 p2 p3 G) h1

set_option maxRecDepth 100000 in
theorem SB_found {l : Launch} {D : va_G} {aC : Nat → ClassId} (FU : Nat) (this : Nat) (p1 : Int) (hp1 : zInI p1) {G : Hp} {r1 : Int} (h1 : FB_found FU this p1 G = some r1) : Met l yX11_found (Cond.code yX11_found cX11_found 2 (some .int) :: zgood) ({ frames := 3, cells := 0, slots := 0, locals := 66 } : Room) (va_Pc [.ref this, .int (zi p1)] (zU D aC G)) (zQ D aC G (zInI r1) (some (.int (zi r1))) G) 0 0 (zA G) := by
  refine z_met (y := yX11_found) (b := cX11_found) (maxL := 2) (mc := 0) (ms := 0) (ret := (some .int)) (As := [.ref this, .int (zi p1)]) (Q1 := fun r1 => zQ D aC G (zInI r1) (some (.int (zi r1))) G) (X := FB_found FU this p1 G) (by decide) (Nat.le_of_ble_eq_true rfl) ?_ h1
  intro p e s m below meth c hC hr hi
  have hC : zC p m c meth s ([.ref this, .int (zi p1)] : List Value).toArray cX11_found 2 RX11 D aC := hC
  generalize ([.ref this, .int (zi p1)] : List Value).toArray = args at hC ⊢
  show zS p l e ({ frames := 3, cells := 0, slots := 0, locals := 66 } : Room) s m args below meth c D aC G (fun r1 => zfI D aC G below args s 0 0 (r1, G)) 2 0 0 (FB_found FU this p1 G) G 0 [(0, .ref this), (1, .int (zi p1))] []
  unfold FB_found
  refine z_gd ?_
  unfold FB_found_b
  refine z_aload_n hC 0 rfl dX11_found_0 rfl ?_
  refine z_getQ hC zF11_41 rfl dX11_found_1 (fun v1 => ?_)
  refine z_iload_n hC 1 rfl dX11_found_4 rfl ?_
  refine z_cIp (z_rV (q := v1) (t := 8) (As := [.int (zi p1)]) hC (fun _ h1 => SSearch_foundAt FU v1 p1 hp1 h1) (fun _ h1 => SSearch_foundAt_k h1) rfl rfl zM11_187 zMv_FSearch_foundAt ⟨by decide, by decide⟩ rfl rfl rfl (rest := []) (Nat.le_of_ble_eq_true rfl) ⟨Nat.le_of_ble_eq_true rfl, Nat.le_of_ble_eq_true rfl⟩ rfl dX11_found_5) (fun v2 hv2 => ?_)
  exact z_iretp hC hv2 hr dX11_found_8
theorem SB_found_k {FU : Nat} {this : Nat} {p1 : Int} {G : Hp} {r1 : Int} (h1 : FB_found FU this p1 G = some r1) : zk G this = some (11, 0) := zgd_k (k := FB_found_b FU this p1 G) h1

set_option maxRecDepth 100000 in
theorem SB_feed {l : Launch} {D : va_G} {aC : Nat → ClassId} (FU : Nat) (this : Nat) (p1 : Int) (p2 : Int) (hp1 : zInI p1) (hp2 : zInI p2) {G : Hp} {r1 : (Int × Hp)} (h1 : FB_feed FU this p1 p2 G = some r1) : Met l yX11_feed (Cond.code yX11_feed cX11_feed 3 (some .int) :: zgood) ({ frames := 3, cells := 0, slots := 0, locals := 69 } : Room) (va_Pc [.ref this, .int (zi p1), .int (zi p2)] (zU D aC G)) (zQ D aC G (zInI r1.1) (some (.int (zi r1.1))) r1.2) 0 0 (zA G) := by
  refine z_met (y := yX11_feed) (b := cX11_feed) (maxL := 3) (mc := 0) (ms := 0) (ret := (some .int)) (As := [.ref this, .int (zi p1), .int (zi p2)]) (Q1 := fun r1 => zQ D aC G (zInI r1.1) (some (.int (zi r1.1))) r1.2) (X := FB_feed FU this p1 p2 G) (by decide) (Nat.le_of_ble_eq_true rfl) ?_ h1
  intro p e s m below meth c hC hr hi
  have hC : zC p m c meth s ([.ref this, .int (zi p1), .int (zi p2)] : List Value).toArray cX11_feed 3 RX11 D aC := hC
  generalize ([.ref this, .int (zi p1), .int (zi p2)] : List Value).toArray = args at hC ⊢
  show zS p l e ({ frames := 3, cells := 0, slots := 0, locals := 69 } : Room) s m args below meth c D aC G (zfI D aC G below args s 0 0) 3 0 0 (FB_feed FU this p1 p2 G) G 0 [(0, .ref this), (1, .int (zi p1)), (2, .int (zi p2))] []
  unfold FB_feed
  refine z_gd ?_
  unfold FB_feed_b
  refine z_iload_n hC 1 rfl dX11_feed_0 rfl ?_
  refine z_iconst hC dX11_feed_1 ?_
  refine z_iconst hC dX11_feed_2 ?_
  refine z_cZp (z_rS (As := [.int (zi p1), .int (zi (1)), .int (zi (4))]) hC (fun _ h1 => SB_isWithin FU p1 (1) (4) hp1 (by decide) (by decide) h1) zM11_68 zMs_FB_isWithin ⟨by decide, by decide⟩ rfl rfl rfl (rest := []) (Nat.le_of_ble_eq_true rfl) ⟨Nat.le_of_ble_eq_true rfl, Nat.le_of_ble_eq_true rfl⟩ rfl dX11_feed_3) (fun v1 hv1 => ?_)
  refine z_if_ne (tgt := 11) hC (hv1).i dX11_feed_6 (by decide) (fun _ => ?_) (fun _ => ?_)
  · refine z_iconst hC dX11_feed_9 ?_
    exact z_iret hC (by decide) hr dX11_feed_10
  · refine z_aload_n hC 0 rfl dX11_feed_11 rfl ?_
    refine z_getQ hC zF11_50 rfl dX11_feed_12 (fun v2 => ?_)
    refine z_iload_n hC 1 rfl dX11_feed_15 rfl ?_
    refine z_iload_n hC 2 rfl dX11_feed_16 rfl ?_
    refine z_cI (z_rV (q := v2) (t := 6) (As := [.int (zi p1), .int (zi p2)]) hC (fun _ h1 => SShelf_addBytes FU v2 p1 p2 hp1 hp2 h1) (fun _ h1 => SShelf_addBytes_k h1) rfl rfl zM11_190 zMv_FShelf_addBytes ⟨by decide, by decide⟩ rfl rfl rfl (rest := []) (Nat.le_of_ble_eq_true rfl) ⟨Nat.le_of_ble_eq_true rfl, Nat.le_of_ble_eq_true rfl⟩ rfl dX11_feed_17) (fun v4 G3 hv4 => ?_)
    exact z_iret hC hv4 hr dX11_feed_20
theorem SB_feed_k {FU : Nat} {this : Nat} {p1 : Int} {p2 : Int} {G : Hp} {r1 : (Int × Hp)} (h1 : FB_feed FU this p1 p2 G = some r1) : zk G this = some (11, 0) := zgd_k (k := FB_feed_b FU this p1 p2 G) h1

set_option maxRecDepth 100000 in
theorem SB_isKind {l : Launch} {D : va_G} {aC : Nat → ClassId} (FU : Nat) (p1 : Int) (hp1 : zInI p1) {G : Hp} {r1 : Int} (h1 : FB_isKind FU p1 G = some r1) : Met l yX11_isKind (Cond.code yX11_isKind cX11_isKind 1 (some .boolean) :: zgood) ({ frames := 2, cells := 0, slots := 0, locals := 46 } : Room) (va_Pc [.int (zi p1)] (zU D aC G)) (zQ D aC G (zIn01 r1) (some (.int (zi r1))) G) 0 0 (zA G) := by
  refine z_met (y := yX11_isKind) (b := cX11_isKind) (maxL := 1) (mc := 0) (ms := 0) (ret := (some .boolean)) (As := [.int (zi p1)]) (Q1 := fun r1 => zQ D aC G (zIn01 r1) (some (.int (zi r1))) G) (X := FB_isKind FU p1 G) (by decide) (Nat.le_of_ble_eq_true rfl) ?_ h1
  intro p e s m below meth c hC hr hi
  have hC : zC p m c meth s ([.int (zi p1)] : List Value).toArray cX11_isKind 1 RX11 D aC := hC
  generalize ([.int (zi p1)] : List Value).toArray = args at hC ⊢
  show zS p l e ({ frames := 2, cells := 0, slots := 0, locals := 46 } : Room) s m args below meth c D aC G (fun r1 => zfZ D aC G below args s 0 0 (r1, G)) 1 0 0 (FB_isKind FU p1 G) G 0 [(0, .int (zi p1))] []
  unfold FB_isKind
  refine z_iload_n hC 0 rfl dX11_isKind_0 rfl ?_
  refine z_iconst hC dX11_isKind_1 ?_
  refine z_iconst hC dX11_isKind_2 ?_
  refine z_cZp (z_rS (As := [.int (zi p1), .int (zi (0)), .int (zi (2))]) hC (fun _ h1 => SB_isWithin FU p1 (0) (2) hp1 (by decide) (by decide) h1) zM11_68 zMs_FB_isWithin ⟨by decide, by decide⟩ rfl rfl rfl (rest := []) (Nat.le_of_ble_eq_true rfl) ⟨Nat.le_of_ble_eq_true rfl, Nat.le_of_ble_eq_true rfl⟩ rfl dX11_isKind_3) (fun v1 hv1 => ?_)
  exact z_zretp hC hr dX11_isKind_6

set_option maxRecDepth 100000 in
theorem SB_isDay {l : Launch} {D : va_G} {aC : Nat → ClassId} (FU : Nat) (p1 : Int) (hp1 : zInI p1) {G : Hp} {r1 : Int} (h1 : FB_isDay FU p1 G = some r1) : Met l yX11_isDay (Cond.code yX11_isDay cX11_isDay 1 (some .boolean) :: zgood) ({ frames := 2, cells := 0, slots := 0, locals := 46 } : Room) (va_Pc [.int (zi p1)] (zU D aC G)) (zQ D aC G (zIn01 r1) (some (.int (zi r1))) G) 0 0 (zA G) := by
  refine z_met (y := yX11_isDay) (b := cX11_isDay) (maxL := 1) (mc := 0) (ms := 0) (ret := (some .boolean)) (As := [.int (zi p1)]) (Q1 := fun r1 => zQ D aC G (zIn01 r1) (some (.int (zi r1))) G) (X := FB_isDay FU p1 G) (by decide) (Nat.le_of_ble_eq_true rfl) ?_ h1
  intro p e s m below meth c hC hr hi
  have hC : zC p m c meth s ([.int (zi p1)] : List Value).toArray cX11_isDay 1 RX11 D aC := hC
  generalize ([.int (zi p1)] : List Value).toArray = args at hC ⊢
  show zS p l e ({ frames := 2, cells := 0, slots := 0, locals := 46 } : Room) s m args below meth c D aC G (fun r1 => zfZ D aC G below args s 0 0 (r1, G)) 1 0 0 (FB_isDay FU p1 G) G 0 [(0, .int (zi p1))] []
  unfold FB_isDay
  refine z_iload_n hC 0 rfl dX11_isDay_0 rfl ?_
  refine z_iconst hC dX11_isDay_1 ?_
  refine z_sipush hC dX11_isDay_2 rfl ?_
  refine z_cZp (z_rS (As := [.int (zi p1), .int (zi (0)), .int (zi (9999))]) hC (fun _ h1 => SB_isWithin FU p1 (0) (9999) hp1 (by decide) (by decide) h1) zM11_68 zMs_FB_isWithin ⟨by decide, by decide⟩ rfl rfl rfl (rest := []) (Nat.le_of_ble_eq_true rfl) ⟨Nat.le_of_ble_eq_true rfl, Nat.le_of_ble_eq_true rfl⟩ rfl dX11_isDay_5) (fun v1 hv1 => ?_)
  exact z_zretp hC hr dX11_isDay_8

set_option maxRecDepth 100000 in
theorem SB_terms {l : Launch} {D : va_G} {aC : Nat → ClassId} (FU : Nat) (this : Nat) (p1 : Int) (p2 : Int) (hp1 : zInI p1) (hp2 : zInI p2) {G : Hp} {r1 : (Int × Hp)} (h1 : FB_terms FU this p1 p2 G = some r1) : Met l yX11_terms (Cond.code yX11_terms cX11_terms 3 (some .int) :: zgood) ({ frames := 63, cells := 2, slots := 125, locals := 1457 } : Room) (va_Pc [.ref this, .int (zi p1), .int (zi p2)] (zU D aC G)) (zQ D aC G (zInI r1.1) (some (.int (zi r1.1))) r1.2) 2 125 (zA G) := by
  refine z_met (y := yX11_terms) (b := cX11_terms) (maxL := 3) (mc := 2) (ms := 125) (ret := (some .int)) (As := [.ref this, .int (zi p1), .int (zi p2)]) (Q1 := fun r1 => zQ D aC G (zInI r1.1) (some (.int (zi r1.1))) r1.2) (X := FB_terms FU this p1 p2 G) (by decide) (Nat.le_of_ble_eq_true rfl) ?_ h1
  intro p e s m below meth c hC hr hi
  have hC : zC p m c meth s ([.ref this, .int (zi p1), .int (zi p2)] : List Value).toArray cX11_terms 3 RX11 D aC := hC
  generalize ([.ref this, .int (zi p1), .int (zi p2)] : List Value).toArray = args at hC ⊢
  show zS p l e ({ frames := 63, cells := 2, slots := 125, locals := 1457 } : Room) s m args below meth c D aC G (zfI D aC G below args s 2 125) 3 0 0 (FB_terms FU this p1 p2 G) G 0 [(0, .ref this), (1, .int (zi p1)), (2, .int (zi p2))] []
  unfold FB_terms
  refine z_gd ?_
  unfold FB_terms_b
  refine z_iload_n hC 1 rfl dX11_terms_0 rfl ?_
  refine z_cZp (z_rS (As := [.int (zi p1)]) hC (fun _ h1 => SB_isKind FU p1 hp1 h1) zM11_193 zMs_FB_isKind ⟨by decide, by decide⟩ rfl rfl rfl (rest := []) (Nat.le_of_ble_eq_true rfl) ⟨Nat.le_of_ble_eq_true rfl, Nat.le_of_ble_eq_true rfl⟩ rfl dX11_terms_1) (fun v1 hv1 => ?_)
  refine z_if_eq (tgt := 14) hC (hv1).i dX11_terms_4 (by decide) (fun _ => ?_) (fun _ => ?_)
  · refine z_iconst hC dX11_terms_14 ?_
    refine z_widen (k := 2) (n := 125) (by decide) (by decide) ?_
    exact z_iret hC (by decide) hr dX11_terms_15
  · refine z_iload_n hC 2 rfl dX11_terms_7 rfl ?_
    refine z_cZp (z_rS (As := [.int (zi p2)]) hC (fun _ h1 => SB_isDay FU p2 hp2 h1) zM11_196 zMs_FB_isDay ⟨by decide, by decide⟩ rfl rfl rfl (rest := []) (Nat.le_of_ble_eq_true rfl) ⟨Nat.le_of_ble_eq_true rfl, Nat.le_of_ble_eq_true rfl⟩ rfl dX11_terms_8) (fun v2 hv2 => ?_)
    refine z_if_ne (tgt := 16) hC (hv2).i dX11_terms_11 (by decide) (fun _ => ?_) (fun _ => ?_)
    · refine z_iconst hC dX11_terms_14 ?_
      refine z_widen (k := 2) (n := 125) (by decide) (by decide) ?_
      exact z_iret hC (by decide) hr dX11_terms_15
    · refine z_aload_n hC 0 rfl dX11_terms_16 rfl ?_
      refine z_getQ hC zF11_50 rfl dX11_terms_17 (fun v3 => ?_)
      refine z_iload_n hC 1 rfl dX11_terms_20 rfl ?_
      refine z_iload_n hC 2 rfl dX11_terms_21 rfl ?_
      refine z_aload_n hC 0 rfl dX11_terms_22 rfl ?_
      refine z_getI hC zF11_88 rfl dX11_terms_23 (fun v4 hv4 => ?_)
      refine z_cI (z_rV (q := v3) (t := 6) (As := [.int (zi p1), .int (zi p2), .int (zi v4)]) hC (fun _ h1 => SShelf_makeText FU v3 p1 p2 v4 hp1 hp2 hv4 h1) (fun _ h1 => SShelf_makeText_k h1) rfl rfl zM11_199 zMv_FShelf_makeText ⟨by decide, by decide⟩ rfl rfl rfl (rest := []) (Nat.le_of_ble_eq_true rfl) ⟨Nat.le_of_ble_eq_true rfl, Nat.le_of_ble_eq_true rfl⟩ rfl dX11_terms_26) (fun v6 G5 hv6 => ?_)
      refine z_widen (k := 2) (n := 125) (by decide) (by decide) ?_
      exact z_iret hC hv6 hr dX11_terms_29
theorem SB_terms_k {FU : Nat} {this : Nat} {p1 : Int} {p2 : Int} {G : Hp} {r1 : (Int × Hp)} (h1 : FB_terms FU this p1 p2 G = some r1) : zk G this = some (11, 0) := zgd_k (k := FB_terms_b FU this p1 p2 G) h1

set_option maxRecDepth 100000 in
theorem SB_inForce {l : Launch} {D : va_G} {aC : Nat → ClassId} (FU : Nat) (this : Nat) (p1 : Int) (p2 : Int) (p3 : Int) (hp1 : zInI p1) (hp2 : zInI p2) (hp3 : zInI p3) {G : Hp} {r1 : Int} (h1 : FB_inForce FU this p1 p2 p3 G = some r1) : Met l yX11_inForce (Cond.code yX11_inForce cX11_inForce 5 (some .int) :: zgood) ({ frames := 3, cells := 0, slots := 0, locals := 70 } : Room) (va_Pc [.ref this, .int (zi p1), .int (zi p2), .int (zi p3)] (zU D aC G)) (zQ D aC G (zInI r1) (some (.int (zi r1))) G) 0 0 (zA G) := by
  refine z_met (y := yX11_inForce) (b := cX11_inForce) (maxL := 5) (mc := 0) (ms := 0) (ret := (some .int)) (As := [.ref this, .int (zi p1), .int (zi p2), .int (zi p3)]) (Q1 := fun r1 => zQ D aC G (zInI r1) (some (.int (zi r1))) G) (X := FB_inForce FU this p1 p2 p3 G) (by decide) (Nat.le_of_ble_eq_true rfl) ?_ h1
  intro p e s m below meth c hC hr hi
  have hC : zC p m c meth s ([.ref this, .int (zi p1), .int (zi p2), .int (zi p3)] : List Value).toArray cX11_inForce 5 RX11 D aC := hC
  generalize ([.ref this, .int (zi p1), .int (zi p2), .int (zi p3)] : List Value).toArray = args at hC ⊢
  show zS p l e ({ frames := 3, cells := 0, slots := 0, locals := 70 } : Room) s m args below meth c D aC G (fun r1 => zfI D aC G below args s 0 0 (r1, G)) 5 0 0 (FB_inForce FU this p1 p2 p3 G) G 0 [(0, .ref this), (1, .int (zi p1)), (2, .int (zi p2)), (3, .int (zi p3))] []
  unfold FB_inForce
  refine z_gd ?_
  unfold FB_inForce_b
  refine z_iload_n hC 1 rfl dX11_inForce_0 rfl ?_
  refine z_cZp (z_rS (As := [.int (zi p1)]) hC (fun _ h1 => SB_isKind FU p1 hp1 h1) zM11_193 zMs_FB_isKind ⟨by decide, by decide⟩ rfl rfl rfl (rest := []) (Nat.le_of_ble_eq_true rfl) ⟨Nat.le_of_ble_eq_true rfl, Nat.le_of_ble_eq_true rfl⟩ rfl dX11_inForce_1) (fun v1 hv1 => ?_)
  refine z_if_eq (tgt := 21) hC (hv1).i dX11_inForce_4 (by decide) (fun _ => ?_) (fun _ => ?_)
  · refine z_iconst hC dX11_inForce_21 ?_
    exact z_iretp hC (by decide) hr dX11_inForce_22
  · refine z_iload_n hC 2 rfl dX11_inForce_7 rfl ?_
    refine z_cZp (z_rS (As := [.int (zi p2)]) hC (fun _ h1 => SB_isDay FU p2 hp2 h1) zM11_196 zMs_FB_isDay ⟨by decide, by decide⟩ rfl rfl rfl (rest := []) (Nat.le_of_ble_eq_true rfl) ⟨Nat.le_of_ble_eq_true rfl, Nat.le_of_ble_eq_true rfl⟩ rfl dX11_inForce_8) (fun v2 hv2 => ?_)
    refine z_if_eq (tgt := 21) hC (hv2).i dX11_inForce_11 (by decide) (fun _ => ?_) (fun _ => ?_)
    · refine z_iconst hC dX11_inForce_21 ?_
      exact z_iretp hC (by decide) hr dX11_inForce_22
    · refine z_iload_n hC 3 rfl dX11_inForce_14 rfl ?_
      refine z_cZp (z_rS (As := [.int (zi p3)]) hC (fun _ h1 => SB_isDay FU p3 hp3 h1) zM11_196 zMs_FB_isDay ⟨by decide, by decide⟩ rfl rfl rfl (rest := []) (Nat.le_of_ble_eq_true rfl) ⟨Nat.le_of_ble_eq_true rfl, Nat.le_of_ble_eq_true rfl⟩ rfl dX11_inForce_15) (fun v3 hv3 => ?_)
      refine z_if_ne (tgt := 23) hC (hv3).i dX11_inForce_18 (by decide) (fun _ => ?_) (fun _ => ?_)
      · refine z_iconst hC dX11_inForce_21 ?_
        exact z_iretp hC (by decide) hr dX11_inForce_22
      · refine z_aload_n hC 0 rfl dX11_inForce_23 rfl ?_
        refine z_getQ hC zF11_50 rfl dX11_inForce_24 (fun v4 => ?_)
        refine z_iload_n hC 1 rfl dX11_inForce_27 rfl ?_
        refine z_iload_n hC 2 rfl dX11_inForce_28 rfl ?_
        refine z_iload_n hC 3 rfl dX11_inForce_29 rfl ?_
        refine z_cIp (z_rV (q := v4) (t := 6) (As := [.int (zi p1), .int (zi p2), .int (zi p3)]) hC (fun _ h1 => SShelf_numberInForce FU v4 p1 p2 p3 hp1 hp2 hp3 h1) (fun _ h1 => SShelf_numberInForce_k h1) rfl rfl zM11_202 zMv_FShelf_numberInForce ⟨by decide, by decide⟩ rfl rfl rfl (rest := []) (Nat.le_of_ble_eq_true rfl) ⟨Nat.le_of_ble_eq_true rfl, Nat.le_of_ble_eq_true rfl⟩ rfl dX11_inForce_30) (fun v5 hv5 => ?_)
        refine z_istore (lo' := [(4, .int (zi v5)), (0, .ref this), (1, .int (zi p1)), (2, .int (zi p2)), (3, .int (zi p3))]) hC dX11_inForce_33 (by decide) rfl ?_
        refine z_iload hC 0 rfl dX11_inForce_35 ?_
        refine z_if_ge (tgt := 45) hC hv5 dX11_inForce_37 (by decide) (fun _ => ?_) (fun _ => ?_)
        · refine z_bipush hC dX11_inForce_40 rfl ?_
          refine z_goto (tgt := 47) hC dX11_inForce_42 (by decide) ?_
          exact z_iretp hC (by decide) hr dX11_inForce_47
        · refine z_iload hC 0 rfl dX11_inForce_45 ?_
          exact z_iretp hC hv5 hr dX11_inForce_47
theorem SB_inForce_k {FU : Nat} {this : Nat} {p1 : Int} {p2 : Int} {p3 : Int} {G : Hp} {r1 : Int} (h1 : FB_inForce FU this p1 p2 p3 G = some r1) : zk G this = some (11, 0) := zgd_k (k := FB_inForce_b FU this p1 p2 p3 G) h1

set_option maxRecDepth 100000 in
theorem SB_isMonth {l : Launch} {D : va_G} {aC : Nat → ClassId} (FU : Nat) (p1 : Int) (hp1 : zInI p1) {G : Hp} {r1 : Int} (h1 : FB_isMonth FU p1 G = some r1) : Met l yX11_isMonth (Cond.code yX11_isMonth cX11_isMonth 1 (some .boolean) :: zgood) ({ frames := 2, cells := 0, slots := 0, locals := 46 } : Room) (va_Pc [.int (zi p1)] (zU D aC G)) (zQ D aC G (zIn01 r1) (some (.int (zi r1))) G) 0 0 (zA G) := by
  refine z_met (y := yX11_isMonth) (b := cX11_isMonth) (maxL := 1) (mc := 0) (ms := 0) (ret := (some .boolean)) (As := [.int (zi p1)]) (Q1 := fun r1 => zQ D aC G (zIn01 r1) (some (.int (zi r1))) G) (X := FB_isMonth FU p1 G) (by decide) (Nat.le_of_ble_eq_true rfl) ?_ h1
  intro p e s m below meth c hC hr hi
  have hC : zC p m c meth s ([.int (zi p1)] : List Value).toArray cX11_isMonth 1 RX11 D aC := hC
  generalize ([.int (zi p1)] : List Value).toArray = args at hC ⊢
  show zS p l e ({ frames := 2, cells := 0, slots := 0, locals := 46 } : Room) s m args below meth c D aC G (fun r1 => zfZ D aC G below args s 0 0 (r1, G)) 1 0 0 (FB_isMonth FU p1 G) G 0 [(0, .int (zi p1))] []
  unfold FB_isMonth
  refine z_iload_n hC 0 rfl dX11_isMonth_0 rfl ?_
  refine z_iconst hC dX11_isMonth_1 ?_
  refine z_sipush hC dX11_isMonth_2 rfl ?_
  refine z_cZp (z_rS (As := [.int (zi p1), .int (zi (0)), .int (zi (332))]) hC (fun _ h1 => SB_isWithin FU p1 (0) (332) hp1 (by decide) (by decide) h1) zM11_68 zMs_FB_isWithin ⟨by decide, by decide⟩ rfl rfl rfl (rest := []) (Nat.le_of_ble_eq_true rfl) ⟨Nat.le_of_ble_eq_true rfl, Nat.le_of_ble_eq_true rfl⟩ rfl dX11_isMonth_5) (fun v1 hv1 => ?_)
  exact z_zretp hC hr dX11_isMonth_8

set_option maxRecDepth 100000 in
theorem SB_lastDayOf {l : Launch} {D : va_G} {aC : Nat → ClassId} (FU : Nat) (p1 : Int) (hp1 : zInI p1) {G : Hp} {r1 : Int} (h1 : FB_lastDayOf FU p1 G = some r1) : Met l yX11_lastDayOf (Cond.code yX11_lastDayOf cX11_lastDayOf 1 (some .int) :: zgood) ({ frames := 1, cells := 0, slots := 0, locals := 24 } : Room) (va_Pc [.int (zi p1)] (zU D aC G)) (zQ D aC G (zInI r1) (some (.int (zi r1))) G) 0 0 (zA G) := by
  refine z_met (y := yX11_lastDayOf) (b := cX11_lastDayOf) (maxL := 1) (mc := 0) (ms := 0) (ret := (some .int)) (As := [.int (zi p1)]) (Q1 := fun r1 => zQ D aC G (zInI r1) (some (.int (zi r1))) G) (X := FB_lastDayOf FU p1 G) (by decide) (Nat.le_of_ble_eq_true rfl) ?_ h1
  intro p e s m below meth c hC hr hi
  have hC : zC p m c meth s ([.int (zi p1)] : List Value).toArray cX11_lastDayOf 1 RX11 D aC := hC
  generalize ([.int (zi p1)] : List Value).toArray = args at hC ⊢
  show zS p l e ({ frames := 1, cells := 0, slots := 0, locals := 24 } : Room) s m args below meth c D aC G (fun r1 => zfI D aC G below args s 0 0 (r1, G)) 1 0 0 (FB_lastDayOf FU p1 G) G 0 [(0, .int (zi p1))] []
  unfold FB_lastDayOf
  refine z_iload_n hC 0 rfl dX11_lastDayOf_0 rfl ?_
  refine z_bipush hC dX11_lastDayOf_1 rfl ?_
  refine z_imul hC dX11_lastDayOf_3 (fun v1 hv1 => ?_)
  refine z_bipush hC dX11_lastDayOf_4 rfl ?_
  refine z_iadd hC dX11_lastDayOf_6 (fun v2 hv2 => ?_)
  refine z_iconst hC dX11_lastDayOf_7 ?_
  refine z_isub hC dX11_lastDayOf_8 (fun v3 hv3 => ?_)
  exact z_iretp hC hv3 hr dX11_lastDayOf_9

