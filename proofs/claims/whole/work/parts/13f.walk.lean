set_option maxRecDepth 100000 in
theorem STown_setCell {l : Launch} {D : va_G} {aC : Nat → ClassId} (FU : Nat) (p1 : Nat) (p2 : Int) (p3 : Int) (p4 : Int) (hp2 : zInI p2) (hp3 : zInI p3) (hp4 : zInI p4) {G : Hp} {r1 : (Unit × Hp)} (h1 : FTown_setCell FU p1 p2 p3 p4 G = some r1) : Met l yX10_setCell (Cond.code yX10_setCell cX10_setCell 4 none :: zgood) ({ frames := 2, cells := 0, slots := 0, locals := 46 } : Room) (va_Pc [.ref p1, .int (zi p2), .int (zi p3), .int (zi p4)] (zU D aC G)) (zQ D aC G (True) (none) r1.2) 0 0 (zA G) := by
  refine z_met (y := yX10_setCell) (b := cX10_setCell) (maxL := 4) (mc := 0) (ms := 0) (ret := none) (As := [.ref p1, .int (zi p2), .int (zi p3), .int (zi p4)]) (Q1 := fun r1 => zQ D aC G (True) (none) r1.2) (X := FTown_setCell FU p1 p2 p3 p4 G) (by decide) (Nat.le_of_ble_eq_true rfl) ?_ h1
  intro p e s m below meth c hC hr hi
  have hC : zC p m c meth s ([.ref p1, .int (zi p2), .int (zi p3), .int (zi p4)] : List Value).toArray cX10_setCell 4 RX10 D aC := hC
  generalize ([.ref p1, .int (zi p2), .int (zi p3), .int (zi p4)] : List Value).toArray = args at hC ⊢
  show zS p l e ({ frames := 2, cells := 0, slots := 0, locals := 46 } : Room) s m args below meth c D aC G (zfV D aC G below args s 0 0) 4 0 0 (FTown_setCell FU p1 p2 p3 p4 G) G 0 [(0, .ref p1), (1, .int (zi p2)), (2, .int (zi p3)), (3, .int (zi p4))] []
  unfold FTown_setCell
  refine z_iload_n hC 1 rfl dX10_setCell_0 rfl ?_
  refine z_if_lt (tgt := 18) hC hp2 dX10_setCell_1 (by decide) (fun _ => ?_) (fun _ => ?_)
  · exact z_vret hC hr dX10_setCell_18
  · refine z_iload_n hC 1 rfl dX10_setCell_4 rfl ?_
    refine z_aload_n hC 0 rfl dX10_setCell_5 rfl ?_
    refine z_alen26 hC dX10_setCell_6 (fun v1 hv1 => ?_)
    refine z_icmp_ge (tgt := 18) hC hp2 hv1 dX10_setCell_7 (by decide) (fun _ => ?_) (fun _ => ?_)
    · refine z_aload_n hC 0 rfl dX10_setCell_10 rfl ?_
      refine z_iload_n hC 1 rfl dX10_setCell_11 rfl ?_
      refine z_aald26 hC hp2 dX10_setCell_12 (fun v2 => ?_)
      refine z_iload_n hC 2 rfl dX10_setCell_13 rfl ?_
      refine z_iload_n hC 3 rfl dX10_setCell_14 rfl ?_
      refine z_cV (z_rS (As := [.ref v2, .int (zi p3), .int (zi p4)]) hC (fun _ h1 => SB_put FU v2 p3 p4 hp3 hp4 h1) zM10_30 zMs_FB_put ⟨by decide, by decide⟩ rfl rfl rfl (rest := []) (Nat.le_of_ble_eq_true rfl) ⟨Nat.le_of_ble_eq_true rfl, Nat.le_of_ble_eq_true rfl⟩ rfl dX10_setCell_15) (fun G3 => ?_)
      exact z_vret hC hr dX10_setCell_18
    · exact z_vret hC hr dX10_setCell_18

set_option maxRecDepth 100000 in
theorem STown_sumOf {l : Launch} {D : va_G} {aC : Nat → ClassId} (FU : Nat) (p1 : Int) (p2 : Int) (p3 : Int) (hp1 : zInI p1) (hp2 : zInI p2) (hp3 : zInI p3) {G : Hp} {r1 : Int} (h1 : FTown_sumOf FU p1 p2 p3 G = some r1) : Met l yX10_sumOf (Cond.code yX10_sumOf cX10_sumOf 3 (some .int) :: zgood) ({ frames := 1, cells := 0, slots := 0, locals := 24 } : Room) (va_Pc [.int (zi p1), .int (zi p2), .int (zi p3)] (zU D aC G)) (zQ D aC G (zInI r1) (some (.int (zi r1))) G) 0 0 (zA G) := by
  refine z_met (y := yX10_sumOf) (b := cX10_sumOf) (maxL := 3) (mc := 0) (ms := 0) (ret := (some .int)) (As := [.int (zi p1), .int (zi p2), .int (zi p3)]) (Q1 := fun r1 => zQ D aC G (zInI r1) (some (.int (zi r1))) G) (X := FTown_sumOf FU p1 p2 p3 G) (by decide) (Nat.le_of_ble_eq_true rfl) ?_ h1
  intro p e s m below meth c hC hr hi
  have hC : zC p m c meth s ([.int (zi p1), .int (zi p2), .int (zi p3)] : List Value).toArray cX10_sumOf 3 RX10 D aC := hC
  generalize ([.int (zi p1), .int (zi p2), .int (zi p3)] : List Value).toArray = args at hC ⊢
  show zS p l e ({ frames := 1, cells := 0, slots := 0, locals := 24 } : Room) s m args below meth c D aC G (fun r1 => zfI D aC G below args s 0 0 (r1, G)) 3 0 0 (FTown_sumOf FU p1 p2 p3 G) G 0 [(0, .int (zi p1)), (1, .int (zi p2)), (2, .int (zi p3))] []
  unfold FTown_sumOf
  refine z_iload_n hC 0 rfl dX10_sumOf_0 rfl ?_
  refine z_iconst hC dX10_sumOf_1 ?_
  refine z_icmp_eq (tgt := 10) hC hp1 (by decide) dX10_sumOf_2 (by decide) (fun _ => ?_) (fun _ => ?_)
  · refine z_iconst hC dX10_sumOf_10 ?_
    refine z_goto (tgt := 19) hC dX10_sumOf_11 (by decide) ?_
    exact z_iretp hC (by decide) hr dX10_sumOf_19
  · refine z_iload_n hC 2 rfl dX10_sumOf_5 rfl ?_
    refine z_iconst hC dX10_sumOf_6 ?_
    refine z_icmp_ne (tgt := 14) hC hp3 (by decide) dX10_sumOf_7 (by decide) (fun _ => ?_) (fun _ => ?_)
    · refine z_iconst hC dX10_sumOf_10 ?_
      refine z_goto (tgt := 19) hC dX10_sumOf_11 (by decide) ?_
      exact z_iretp hC (by decide) hr dX10_sumOf_19
    · refine z_iload_n hC 0 rfl dX10_sumOf_14 rfl ?_
      refine z_iload_n hC 1 rfl dX10_sumOf_15 rfl ?_
      refine z_iadd hC dX10_sumOf_16 (fun v1 hv1 => ?_)
      refine z_iload_n hC 2 rfl dX10_sumOf_17 rfl ?_
      refine z_iadd hC dX10_sumOf_18 (fun v2 hv2 => ?_)
      exact z_iretp hC hv2 hr dX10_sumOf_19

set_option maxRecDepth 100000 in
theorem STown_offerWay_B25 {p : Program} {l : Launch} {e : Env} {s : State} {m : MethodId} {args : Array Value} {below : List Frame} {meth : Method} {c : Code} {D : va_G} {aC : Nat → ClassId} {G0 : Hp} (hC : zC p m c meth s args cX10_offerWay 5 RX10 D aC) (hr : meth.sig.returnType = none) (FU : Nat) (x0 : Nat) (x1 : Int) (x2 : Int) (x3 : Int) (G : Hp) (hx1 : zInI x1) (hx2 : zInI x2) (hx3 : zInI x3) : zS p l e ({ frames := 3, cells := 0, slots := 0, locals := 69 } : Room) s m args below meth c D aC G0 (zfV D aC G0 below args s 0 0) 5 0 0 (FTown_offerWay_B25 FU x0 x1 x2 x3 G) G 25 [(0, .ref x0), (1, .int (zi x1)), (2, .int (zi x2)), (3, .int (zi x3))] [] := by
  unfold FTown_offerWay_B25
  refine z_aload_n hC 0 rfl dX10_offerWay_25 rfl ?_
  refine z_getQ hC zF10_20 rfl dX10_offerWay_26 (fun v1 => ?_)
  refine z_iload_n hC 1 rfl dX10_offerWay_29 rfl ?_
  refine z_iload_n hC 2 rfl dX10_offerWay_30 rfl ?_
  refine z_iload_n hC 3 rfl dX10_offerWay_31 rfl ?_
  refine z_cV (z_rS (As := [.ref v1, .int (zi x1), .int (zi x2), .int (zi x3)]) hC (fun _ h1 => STown_setCell FU v1 x1 x2 x3 hx1 hx2 hx3 h1) zM10_42 zMs_FTown_setCell ⟨by decide, by decide⟩ rfl rfl rfl (rest := []) (Nat.le_of_ble_eq_true rfl) ⟨Nat.le_of_ble_eq_true rfl, Nat.le_of_ble_eq_true rfl⟩ rfl dX10_offerWay_32) (fun G2 => ?_)
  exact z_vret hC hr dX10_offerWay_35
set_option maxRecDepth 100000 in
theorem STown_offerWay {l : Launch} {D : va_G} {aC : Nat → ClassId} (FU : Nat) (this : Nat) (p1 : Int) (p2 : Int) (p3 : Int) (hp1 : zInI p1) (hp2 : zInI p2) (hp3 : zInI p3) {G : Hp} {r1 : (Unit × Hp)} (h1 : FTown_offerWay FU this p1 p2 p3 G = some r1) : Met l yX10_offerWay (Cond.code yX10_offerWay cX10_offerWay 5 none :: zgood) ({ frames := 3, cells := 0, slots := 0, locals := 69 } : Room) (va_Pc [.ref this, .int (zi p1), .int (zi p2), .int (zi p3)] (zU D aC G)) (zQ D aC G (True) (none) r1.2) 0 0 (zA G) := by
  refine z_met (y := yX10_offerWay) (b := cX10_offerWay) (maxL := 5) (mc := 0) (ms := 0) (ret := none) (As := [.ref this, .int (zi p1), .int (zi p2), .int (zi p3)]) (Q1 := fun r1 => zQ D aC G (True) (none) r1.2) (X := FTown_offerWay FU this p1 p2 p3 G) (by decide) (Nat.le_of_ble_eq_true rfl) ?_ h1
  intro p e s m below meth c hC hr hi
  have hC : zC p m c meth s ([.ref this, .int (zi p1), .int (zi p2), .int (zi p3)] : List Value).toArray cX10_offerWay 5 RX10 D aC := hC
  generalize ([.ref this, .int (zi p1), .int (zi p2), .int (zi p3)] : List Value).toArray = args at hC ⊢
  show zS p l e ({ frames := 3, cells := 0, slots := 0, locals := 69 } : Room) s m args below meth c D aC G (zfV D aC G below args s 0 0) 5 0 0 (FTown_offerWay FU this p1 p2 p3 G) G 0 [(0, .ref this), (1, .int (zi p1)), (2, .int (zi p2)), (3, .int (zi p3))] []
  unfold FTown_offerWay
  refine z_gd ?_
  unfold FTown_offerWay_b
  refine z_aload_n hC 0 rfl dX10_offerWay_0 rfl ?_
  refine z_iload_n hC 1 rfl dX10_offerWay_1 rfl ?_
  refine z_iload_n hC 2 rfl dX10_offerWay_2 rfl ?_
  refine z_cIp (z_rV (q := this) (t := 10) (As := [.int (zi p1), .int (zi p2)]) hC (fun _ h1 => STown_wayBetween FU this p1 p2 hp1 hp2 h1) (fun _ h1 => STown_wayBetween_k h1) rfl rfl zM10_46 zMv_FTown_wayBetween ⟨by decide, by decide⟩ rfl rfl rfl (rest := []) (Nat.le_of_ble_eq_true rfl) ⟨Nat.le_of_ble_eq_true rfl, Nat.le_of_ble_eq_true rfl⟩ rfl dX10_offerWay_3) (fun v1 hv1 => ?_)
  refine z_istore (lo' := [(4, .int (zi v1)), (0, .ref this), (1, .int (zi p1)), (2, .int (zi p2)), (3, .int (zi p3))]) hC dX10_offerWay_6 (by decide) rfl ?_
  refine z_iload_n hC 4 rfl dX10_offerWay_8 rfl ?_
  refine z_iconst hC dX10_offerWay_9 ?_
  refine z_icmp_eq (tgt := 35) hC hp3 (by decide) dX10_offerWay_10 (by decide) (fun _ => ?_) (fun _ => ?_)
  · exact z_vret hC hr dX10_offerWay_35
  · refine z_iload hC 0 rfl dX10_offerWay_13 ?_
    refine z_iconst hC dX10_offerWay_15 ?_
    refine z_icmp_eq (tgt := 25) hC hv1 (by decide) dX10_offerWay_16 (by decide) (fun _ => ?_) (fun _ => ?_)
    · refine z_sub hC [1, 2, 3, 4] (lo' := [(0, .ref this), (1, .int (zi p1)), (2, .int (zi p2)), (3, .int (zi p3))]) rfl ?_
      exact STown_offerWay_B25 hC hr FU this p1 p2 p3 G hp1 hp2 hp3
    · refine z_iload_n hC 4 rfl dX10_offerWay_19 rfl ?_
      refine z_iload hC 0 rfl dX10_offerWay_20 ?_
      refine z_icmp_ge (tgt := 35) hC hp3 hv1 dX10_offerWay_22 (by decide) (fun _ => ?_) (fun _ => ?_)
      · refine z_sub hC [1, 2, 3, 4] (lo' := [(0, .ref this), (1, .int (zi p1)), (2, .int (zi p2)), (3, .int (zi p3))]) rfl ?_
        exact STown_offerWay_B25 hC hr FU this p1 p2 p3 G hp1 hp2 hp3
      · exact z_vret hC hr dX10_offerWay_35
theorem STown_offerWay_k {FU : Nat} {this : Nat} {p1 : Int} {p2 : Int} {p3 : Int} {G : Hp} {r1 : (Unit × Hp)} (h1 : FTown_offerWay FU this p1 p2 p3 G = some r1) : zk G this = some (10, 0) := zgd_k (k := FTown_offerWay_b FU this p1 p2 p3 G) h1

set_option maxRecDepth 100000 in
theorem STown_addStreet_L60 {p : Program} {l : Launch} {e : Env} {s : State} {m : MethodId} {args : Array Value} {below : List Frame} {meth : Method} {c : Code} {D : va_G} {aC : Nat → ClassId} {G0 : Hp} (hC : zC p m c meth s args cX10_addStreet 7 RX10 D aC) (hr : meth.sig.returnType = (some .int)) (FU : Nat) (kL48 : Nat → Int → Int → Int → Int → Hp → Option (Int × Hp)) (hkL48 : ∀ (a0 : Nat) (a1 : Int) (a2 : Int) (a3 : Int) (a4 : Int) (G : Hp), zInI a1 → zInI a2 → zInI a3 → zInI a4 → zS p l e ({ frames := 4, cells := 0, slots := 0, locals := 93 } : Room) s m args below meth c D aC G0 (zfI D aC G0 below args s 0 0) 7 0 0 (kL48 a0 a1 a2 a3 a4 G) G 48 [(0, .ref a0), (1, .int (zi a1)), (2, .int (zi a2)), (3, .int (zi a3)), (5, .int (zi a4))] []) : ∀ (n : Nat) (x0 : Nat) (x1 : Int) (x2 : Int) (x3 : Int) (x5 : Int) (x6 : Int) (G : Hp) (hx1 : zInI x1) (hx2 : zInI x2) (hx3 : zInI x3) (hx5 : zInI x5) (hx6 : zInI x6), zS p l e ({ frames := 4, cells := 0, slots := 0, locals := 93 } : Room) s m args below meth c D aC G0 (zfI D aC G0 below args s 0 0) 7 0 0 (FTown_addStreet_L60 FU kL48 n x0 x1 x2 x3 x5 x6 G) G 60 [(0, .ref x0), (1, .int (zi x1)), (2, .int (zi x2)), (3, .int (zi x3)), (5, .int (zi x5)), (6, .int (zi x6))] [] := by
  intro n
  induction n with
  | zero => intros; exact z_none
  | succ n ih =>
    intro x0 x1 x2 x3 x5 x6 G hx1 hx2 hx3 hx5 hx6
    rw [FTown_addStreet_L60]
    refine z_iload hC 5 rfl dX10_addStreet_60 ?_
    refine z_aload_n hC 0 rfl dX10_addStreet_62 rfl ?_
    refine z_getI hC zF10_26 rfl dX10_addStreet_63 (fun v1 hv1 => ?_)
    refine z_icmp_ge (tgt := 127) hC hx6 hv1 dX10_addStreet_66 (by decide) (fun _ => ?_) (fun _ => ?_)
    · refine z_aload_n hC 0 rfl dX10_addStreet_69 rfl ?_
      refine z_iload hC 4 rfl dX10_addStreet_70 ?_
      refine z_iload hC 5 rfl dX10_addStreet_72 ?_
      refine z_aload_n hC 0 rfl dX10_addStreet_74 rfl ?_
      refine z_iload hC 4 rfl dX10_addStreet_75 ?_
      refine z_iload_n hC 1 rfl dX10_addStreet_77 rfl ?_
      refine z_cIp (z_rV (q := x0) (t := 10) (As := [.int (zi x5), .int (zi x1)]) hC (fun _ h1 => STown_wayBetween FU x0 x5 x1 hx5 hx1 h1) (fun _ h1 => STown_wayBetween_k h1) rfl rfl zM10_46 zMv_FTown_wayBetween ⟨by decide, by decide⟩ rfl rfl rfl (rest := [.int (zi x6), .int (zi x5), .ref x0]) (Nat.le_of_ble_eq_true rfl) ⟨Nat.le_of_ble_eq_true rfl, Nat.le_of_ble_eq_true rfl⟩ rfl dX10_addStreet_78) (fun v2 hv2 => ?_)
      refine z_iload_n hC 3 rfl dX10_addStreet_81 rfl ?_
      refine z_aload_n hC 0 rfl dX10_addStreet_82 rfl ?_
      refine z_iload_n hC 2 rfl dX10_addStreet_83 rfl ?_
      refine z_iload hC 5 rfl dX10_addStreet_84 ?_
      refine z_cIp (z_rV (q := x0) (t := 10) (As := [.int (zi x2), .int (zi x6)]) hC (fun _ h1 => STown_wayBetween FU x0 x2 x6 hx2 hx6 h1) (fun _ h1 => STown_wayBetween_k h1) rfl rfl zM10_46 zMv_FTown_wayBetween ⟨by decide, by decide⟩ rfl rfl rfl (rest := [.int (zi x3), .int (zi v2), .int (zi x6), .int (zi x5), .ref x0]) (Nat.le_of_ble_eq_true rfl) ⟨Nat.le_of_ble_eq_true rfl, Nat.le_of_ble_eq_true rfl⟩ rfl dX10_addStreet_86) (fun v3 hv3 => ?_)
      refine z_cIp (z_rS (As := [.int (zi v2), .int (zi x3), .int (zi v3)]) hC (fun _ h1 => STown_sumOf FU v2 x3 v3 hv2 hx3 hv3 h1) zM10_50 zMs_FTown_sumOf ⟨by decide, by decide⟩ rfl rfl rfl (rest := [.int (zi x6), .int (zi x5), .ref x0]) (Nat.le_of_ble_eq_true rfl) ⟨Nat.le_of_ble_eq_true rfl, Nat.le_of_ble_eq_true rfl⟩ rfl dX10_addStreet_89) (fun v4 hv4 => ?_)
      refine z_cV (z_rV (q := x0) (t := 10) (As := [.int (zi x5), .int (zi x6), .int (zi v4)]) hC (fun _ h1 => STown_offerWay FU x0 x5 x6 v4 hx5 hx6 hv4 h1) (fun _ h1 => STown_offerWay_k h1) rfl rfl zM10_54 zMv_FTown_offerWay ⟨by decide, by decide⟩ rfl rfl rfl (rest := []) (Nat.le_of_ble_eq_true rfl) ⟨Nat.le_of_ble_eq_true rfl, Nat.le_of_ble_eq_true rfl⟩ rfl dX10_addStreet_92) (fun G5 => ?_)
      refine z_aload_n hC 0 rfl dX10_addStreet_95 rfl ?_
      refine z_iload hC 4 rfl dX10_addStreet_96 ?_
      refine z_iload hC 5 rfl dX10_addStreet_98 ?_
      refine z_aload_n hC 0 rfl dX10_addStreet_100 rfl ?_
      refine z_iload hC 4 rfl dX10_addStreet_101 ?_
      refine z_iload_n hC 2 rfl dX10_addStreet_103 rfl ?_
      refine z_cIp (z_rV (q := x0) (t := 10) (As := [.int (zi x5), .int (zi x2)]) hC (fun _ h1 => STown_wayBetween FU x0 x5 x2 hx5 hx2 h1) (fun _ h1 => STown_wayBetween_k h1) rfl rfl zM10_46 zMv_FTown_wayBetween ⟨by decide, by decide⟩ rfl rfl rfl (rest := [.int (zi x6), .int (zi x5), .ref x0]) (Nat.le_of_ble_eq_true rfl) ⟨Nat.le_of_ble_eq_true rfl, Nat.le_of_ble_eq_true rfl⟩ rfl dX10_addStreet_104) (fun v6 hv6 => ?_)
      refine z_iload_n hC 3 rfl dX10_addStreet_107 rfl ?_
      refine z_aload_n hC 0 rfl dX10_addStreet_108 rfl ?_
      refine z_iload_n hC 1 rfl dX10_addStreet_109 rfl ?_
      refine z_iload hC 5 rfl dX10_addStreet_110 ?_
      refine z_cIp (z_rV (q := x0) (t := 10) (As := [.int (zi x1), .int (zi x6)]) hC (fun _ h1 => STown_wayBetween FU x0 x1 x6 hx1 hx6 h1) (fun _ h1 => STown_wayBetween_k h1) rfl rfl zM10_46 zMv_FTown_wayBetween ⟨by decide, by decide⟩ rfl rfl rfl (rest := [.int (zi x3), .int (zi v6), .int (zi x6), .int (zi x5), .ref x0]) (Nat.le_of_ble_eq_true rfl) ⟨Nat.le_of_ble_eq_true rfl, Nat.le_of_ble_eq_true rfl⟩ rfl dX10_addStreet_112) (fun v7 hv7 => ?_)
      refine z_cIp (z_rS (As := [.int (zi v6), .int (zi x3), .int (zi v7)]) hC (fun _ h1 => STown_sumOf FU v6 x3 v7 hv6 hx3 hv7 h1) zM10_50 zMs_FTown_sumOf ⟨by decide, by decide⟩ rfl rfl rfl (rest := [.int (zi x6), .int (zi x5), .ref x0]) (Nat.le_of_ble_eq_true rfl) ⟨Nat.le_of_ble_eq_true rfl, Nat.le_of_ble_eq_true rfl⟩ rfl dX10_addStreet_115) (fun v8 hv8 => ?_)
      refine z_cV (z_rV (q := x0) (t := 10) (As := [.int (zi x5), .int (zi x6), .int (zi v8)]) hC (fun _ h1 => STown_offerWay FU x0 x5 x6 v8 hx5 hx6 hv8 h1) (fun _ h1 => STown_offerWay_k h1) rfl rfl zM10_54 zMv_FTown_offerWay ⟨by decide, by decide⟩ rfl rfl rfl (rest := []) (Nat.le_of_ble_eq_true rfl) ⟨Nat.le_of_ble_eq_true rfl, Nat.le_of_ble_eq_true rfl⟩ rfl dX10_addStreet_118) (fun G9 => ?_)
      refine z_iinc (lo' := fun v10 => [(6, .int (zi v10)), (0, .ref x0), (1, .int (zi x1)), (2, .int (zi x2)), (3, .int (zi x3)), (5, .int (zi x5))]) hC 5 dX10_addStreet_121 rfl (by decide) (fun _ => rfl) (fun v10 hv10 => ?_)
      refine z_goto (tgt := 60) hC dX10_addStreet_124 (by decide) ?_
      refine z_sub hC [1, 2, 3, 4, 5, 0] (lo' := [(0, .ref x0), (1, .int (zi x1)), (2, .int (zi x2)), (3, .int (zi x3)), (5, .int (zi x5)), (6, .int (zi v10))]) rfl ?_
      exact ih x0 x1 x2 x3 x5 v10 G9 hx1 hx2 hx3 hx5 hv10
    · refine z_iinc (lo' := fun v11 => [(5, .int (zi v11)), (0, .ref x0), (1, .int (zi x1)), (2, .int (zi x2)), (3, .int (zi x3)), (6, .int (zi x6))]) hC 4 dX10_addStreet_127 rfl (by decide) (fun _ => rfl) (fun v11 hv11 => ?_)
      refine z_goto (tgt := 48) hC dX10_addStreet_130 (by decide) ?_
      refine z_sub hC [1, 2, 3, 4, 0] (lo' := [(0, .ref x0), (1, .int (zi x1)), (2, .int (zi x2)), (3, .int (zi x3)), (5, .int (zi v11))]) rfl ?_
      exact hkL48 x0 x1 x2 x3 v11 G hx1 hx2 hx3 hv11
set_option maxRecDepth 100000 in
theorem STown_addStreet_L48 {p : Program} {l : Launch} {e : Env} {s : State} {m : MethodId} {args : Array Value} {below : List Frame} {meth : Method} {c : Code} {D : va_G} {aC : Nat → ClassId} {G0 : Hp} (hC : zC p m c meth s args cX10_addStreet 7 RX10 D aC) (hr : meth.sig.returnType = (some .int)) (FU : Nat) : ∀ (n : Nat) (x0 : Nat) (x1 : Int) (x2 : Int) (x3 : Int) (x5 : Int) (G : Hp) (hx1 : zInI x1) (hx2 : zInI x2) (hx3 : zInI x3) (hx5 : zInI x5), zS p l e ({ frames := 4, cells := 0, slots := 0, locals := 93 } : Room) s m args below meth c D aC G0 (zfI D aC G0 below args s 0 0) 7 0 0 (FTown_addStreet_L48 FU n x0 x1 x2 x3 x5 G) G 48 [(0, .ref x0), (1, .int (zi x1)), (2, .int (zi x2)), (3, .int (zi x3)), (5, .int (zi x5))] [] := by
  intro n
  induction n with
  | zero => intros; exact z_none
  | succ n ih =>
    intro x0 x1 x2 x3 x5 G hx1 hx2 hx3 hx5
    rw [FTown_addStreet_L48]
    refine z_iload hC 4 rfl dX10_addStreet_48 ?_
    refine z_aload_n hC 0 rfl dX10_addStreet_50 rfl ?_
    refine z_getI hC zF10_26 rfl dX10_addStreet_51 (fun v1 hv1 => ?_)
    refine z_icmp_ge (tgt := 133) hC hx5 hv1 dX10_addStreet_54 (by decide) (fun _ => ?_) (fun _ => ?_)
    · refine z_iconst hC dX10_addStreet_57 ?_
      refine z_istore (lo' := [(6, .int (zi (0))), (0, .ref x0), (1, .int (zi x1)), (2, .int (zi x2)), (3, .int (zi x3)), (5, .int (zi x5))]) hC dX10_addStreet_58 (by decide) rfl ?_
      refine z_sub hC [1, 2, 3, 4, 5, 0] (lo' := [(0, .ref x0), (1, .int (zi x1)), (2, .int (zi x2)), (3, .int (zi x3)), (5, .int (zi x5)), (6, .int (zi (0)))]) rfl ?_
      exact STown_addStreet_L60 hC hr FU (FTown_addStreet_L48 FU n) ih FU x0 x1 x2 x3 x5 (0) G hx1 hx2 hx3 hx5 (by decide)
    · refine z_iload_n hC 3 rfl dX10_addStreet_133 rfl ?_
      exact z_iret hC hx3 hr dX10_addStreet_134
set_option maxRecDepth 100000 in
theorem STown_addStreet_B25 {p : Program} {l : Launch} {e : Env} {s : State} {m : MethodId} {args : Array Value} {below : List Frame} {meth : Method} {c : Code} {D : va_G} {aC : Nat → ClassId} {G0 : Hp} (hC : zC p m c meth s args cX10_addStreet 7 RX10 D aC) (hr : meth.sig.returnType = (some .int)) (FU : Nat) (x0 : Nat) (x1 : Int) (x2 : Int) (x3 : Int) (G : Hp) (hx1 : zInI x1) (hx2 : zInI x2) (hx3 : zInI x3) : zS p l e ({ frames := 4, cells := 0, slots := 0, locals := 93 } : Room) s m args below meth c D aC G0 (zfI D aC G0 below args s 0 0) 7 0 0 (FTown_addStreet_B25 FU x0 x1 x2 x3 G) G 25 [(0, .ref x0), (1, .int (zi x1)), (2, .int (zi x2)), (3, .int (zi x3))] [] := by
  unfold FTown_addStreet_B25
  refine z_aload_n hC 0 rfl dX10_addStreet_25 rfl ?_
  refine z_getQ hC zF10_17 rfl dX10_addStreet_26 (fun v1 => ?_)
  refine z_iload_n hC 1 rfl dX10_addStreet_29 rfl ?_
  refine z_iload_n hC 2 rfl dX10_addStreet_30 rfl ?_
  refine z_iload_n hC 3 rfl dX10_addStreet_31 rfl ?_
  refine z_cV (z_rS (As := [.ref v1, .int (zi x1), .int (zi x2), .int (zi x3)]) hC (fun _ h1 => STown_setCell FU v1 x1 x2 x3 hx1 hx2 hx3 h1) zM10_42 zMs_FTown_setCell ⟨by decide, by decide⟩ rfl rfl rfl (rest := []) (Nat.le_of_ble_eq_true rfl) ⟨Nat.le_of_ble_eq_true rfl, Nat.le_of_ble_eq_true rfl⟩ rfl dX10_addStreet_32) (fun G2 => ?_)
  refine z_aload_n hC 0 rfl dX10_addStreet_35 rfl ?_
  refine z_getQ hC zF10_17 rfl dX10_addStreet_36 (fun v3 => ?_)
  refine z_iload_n hC 2 rfl dX10_addStreet_39 rfl ?_
  refine z_iload_n hC 1 rfl dX10_addStreet_40 rfl ?_
  refine z_iload_n hC 3 rfl dX10_addStreet_41 rfl ?_
  refine z_cV (z_rS (As := [.ref v3, .int (zi x2), .int (zi x1), .int (zi x3)]) hC (fun _ h1 => STown_setCell FU v3 x2 x1 x3 hx2 hx1 hx3 h1) zM10_42 zMs_FTown_setCell ⟨by decide, by decide⟩ rfl rfl rfl (rest := []) (Nat.le_of_ble_eq_true rfl) ⟨Nat.le_of_ble_eq_true rfl, Nat.le_of_ble_eq_true rfl⟩ rfl dX10_addStreet_42) (fun G4 => ?_)
  refine z_iconst hC dX10_addStreet_45 ?_
  refine z_istore (lo' := [(5, .int (zi (0))), (0, .ref x0), (1, .int (zi x1)), (2, .int (zi x2)), (3, .int (zi x3))]) hC dX10_addStreet_46 (by decide) rfl ?_
  refine z_sub hC [1, 2, 3, 4, 0] (lo' := [(0, .ref x0), (1, .int (zi x1)), (2, .int (zi x2)), (3, .int (zi x3)), (5, .int (zi (0)))]) rfl ?_
  exact STown_addStreet_L48 hC hr FU FU x0 x1 x2 x3 (0) G4 hx1 hx2 hx3 (by decide)
set_option maxRecDepth 100000 in
theorem STown_addStreet {l : Launch} {D : va_G} {aC : Nat → ClassId} (FU : Nat) (this : Nat) (p1 : Int) (p2 : Int) (p3 : Int) (hp1 : zInI p1) (hp2 : zInI p2) (hp3 : zInI p3) {G : Hp} {r1 : (Int × Hp)} (h1 : FTown_addStreet FU this p1 p2 p3 G = some r1) : Met l yX10_addStreet (Cond.code yX10_addStreet cX10_addStreet 7 (some .int) :: zgood) ({ frames := 4, cells := 0, slots := 0, locals := 93 } : Room) (va_Pc [.ref this, .int (zi p1), .int (zi p2), .int (zi p3)] (zU D aC G)) (zQ D aC G (zInI r1.1) (some (.int (zi r1.1))) r1.2) 0 0 (zA G) := by
  refine z_met (y := yX10_addStreet) (b := cX10_addStreet) (maxL := 7) (mc := 0) (ms := 0) (ret := (some .int)) (As := [.ref this, .int (zi p1), .int (zi p2), .int (zi p3)]) (Q1 := fun r1 => zQ D aC G (zInI r1.1) (some (.int (zi r1.1))) r1.2) (X := FTown_addStreet FU this p1 p2 p3 G) (by decide) (Nat.le_of_ble_eq_true rfl) ?_ h1
  intro p e s m below meth c hC hr hi
  have hC : zC p m c meth s ([.ref this, .int (zi p1), .int (zi p2), .int (zi p3)] : List Value).toArray cX10_addStreet 7 RX10 D aC := hC
  generalize ([.ref this, .int (zi p1), .int (zi p2), .int (zi p3)] : List Value).toArray = args at hC ⊢
  show zS p l e ({ frames := 4, cells := 0, slots := 0, locals := 93 } : Room) s m args below meth c D aC G (zfI D aC G below args s 0 0) 7 0 0 (FTown_addStreet FU this p1 p2 p3 G) G 0 [(0, .ref this), (1, .int (zi p1)), (2, .int (zi p2)), (3, .int (zi p3))] []
  unfold FTown_addStreet
  refine z_gd ?_
  unfold FTown_addStreet_b
  refine z_aload_n hC 0 rfl dX10_addStreet_0 rfl ?_
  refine z_getQ hC zF10_17 rfl dX10_addStreet_1 (fun v1 => ?_)
  refine z_iload_n hC 1 rfl dX10_addStreet_4 rfl ?_
  refine z_iload_n hC 2 rfl dX10_addStreet_5 rfl ?_
  refine z_cIp (z_rS (As := [.ref v1, .int (zi p1), .int (zi p2)]) hC (fun _ h1 => STown_cell FU v1 p1 p2 hp1 hp2 h1) zM10_38 zMs_FTown_cell ⟨by decide, by decide⟩ rfl rfl rfl (rest := []) (Nat.le_of_ble_eq_true rfl) ⟨Nat.le_of_ble_eq_true rfl, Nat.le_of_ble_eq_true rfl⟩ rfl dX10_addStreet_6) (fun v2 hv2 => ?_)
  refine z_istore (lo' := [(4, .int (zi v2)), (0, .ref this), (1, .int (zi p1)), (2, .int (zi p2)), (3, .int (zi p3))]) hC dX10_addStreet_9 (by decide) rfl ?_
  refine z_iload hC 0 rfl dX10_addStreet_11 ?_
  refine z_if_le (tgt := 25) hC hv2 dX10_addStreet_13 (by decide) (fun _ => ?_) (fun _ => ?_)
  · refine z_sub hC [1, 2, 3, 4] (lo' := [(0, .ref this), (1, .int (zi p1)), (2, .int (zi p2)), (3, .int (zi p3))]) rfl ?_
    exact STown_addStreet_B25 hC hr FU this p1 p2 p3 G hp1 hp2 hp3
  · refine z_iload hC 0 rfl dX10_addStreet_16 ?_
    refine z_iload_n hC 4 rfl dX10_addStreet_18 rfl ?_
    refine z_icmp_gt (tgt := 25) hC hv2 hp3 dX10_addStreet_19 (by decide) (fun _ => ?_) (fun _ => ?_)
    · refine z_iload hC 0 rfl dX10_addStreet_22 ?_
      exact z_iret hC hv2 hr dX10_addStreet_24
    · refine z_sub hC [1, 2, 3, 4] (lo' := [(0, .ref this), (1, .int (zi p1)), (2, .int (zi p2)), (3, .int (zi p3))]) rfl ?_
      exact STown_addStreet_B25 hC hr FU this p1 p2 p3 G hp1 hp2 hp3
theorem STown_addStreet_k {FU : Nat} {this : Nat} {p1 : Int} {p2 : Int} {p3 : Int} {G : Hp} {r1 : (Int × Hp)} (h1 : FTown_addStreet FU this p1 p2 p3 G = some r1) : zk G this = some (10, 0) := zgd_k (k := FTown_addStreet_b FU this p1 p2 p3 G) h1

set_option maxRecDepth 100000 in
theorem STown_isSite_L2 {p : Program} {l : Launch} {e : Env} {s : State} {m : MethodId} {args : Array Value} {below : List Frame} {meth : Method} {c : Code} {D : va_G} {aC : Nat → ClassId} {G0 : Hp} (hC : zC p m c meth s args cX10_isSite 3 RX10 D aC) (hr : meth.sig.returnType = (some .boolean)) (FU : Nat) : ∀ (n : Nat) (x0 : Nat) (x1 : Int) (x2 : Int) (hx1 : zInI x1) (hx2 : zInI x2), zS p l e ({ frames := 2, cells := 0, slots := 0, locals := 45 } : Room) s m args below meth c D aC G0 (fun r1 => zfZ D aC G0 below args s 0 0 (r1, G0)) 3 0 0 (FTown_isSite_L2 FU n x0 x1 x2 G0) G0 2 [(0, .ref x0), (1, .int (zi x1)), (2, .int (zi x2))] [] := by
  intro n
  induction n with
  | zero => intros; exact z_none
  | succ n ih =>
    intro x0 x1 x2 hx1 hx2
    rw [FTown_isSite_L2]
    refine z_iload_n hC 2 rfl dX10_isSite_2 rfl ?_
    refine z_aload_n hC 0 rfl dX10_isSite_3 rfl ?_
    refine z_getI hC zF10_58 rfl dX10_isSite_4 (fun v1 hv1 => ?_)
    refine z_icmp_ge (tgt := 30) hC hx2 hv1 dX10_isSite_7 (by decide) (fun _ => ?_) (fun _ => ?_)
    · refine z_aload_n hC 0 rfl dX10_isSite_10 rfl ?_
      refine z_getQ hC zF10_23 rfl dX10_isSite_11 (fun v2 => ?_)
      refine z_iload_n hC 2 rfl dX10_isSite_14 rfl ?_
      refine z_cIp (z_rS (As := [.ref v2, .int (zi x2)]) hC (fun _ h1 => SB_at FU v2 x2 hx2 h1) zM10_34 zMs_FB_at ⟨by decide, by decide⟩ rfl rfl rfl (rest := []) (Nat.le_of_ble_eq_true rfl) ⟨Nat.le_of_ble_eq_true rfl, Nat.le_of_ble_eq_true rfl⟩ rfl dX10_isSite_15) (fun v3 hv3 => ?_)
      refine z_iload_n hC 1 rfl dX10_isSite_18 rfl ?_
      refine z_icmp_ne (tgt := 24) hC hv3 hx1 dX10_isSite_19 (by decide) (fun _ => ?_) (fun _ => ?_)
      · refine z_iconst hC dX10_isSite_22 ?_
        exact z_zretp hC hr dX10_isSite_23
      · refine z_iinc (lo' := fun v4 => [(2, .int (zi v4)), (0, .ref x0), (1, .int (zi x1))]) hC 2 dX10_isSite_24 rfl (by decide) (fun _ => rfl) (fun v4 hv4 => ?_)
        refine z_goto (tgt := 2) hC dX10_isSite_27 (by decide) ?_
        refine z_sub hC [1, 2, 0] (lo' := [(0, .ref x0), (1, .int (zi x1)), (2, .int (zi v4))]) rfl ?_
        exact ih x0 x1 v4 hx1 hv4
    · refine z_iconst hC dX10_isSite_30 ?_
      exact z_zretp hC hr dX10_isSite_31
set_option maxRecDepth 100000 in
theorem STown_isSite {l : Launch} {D : va_G} {aC : Nat → ClassId} (FU : Nat) (this : Nat) (p1 : Int) (hp1 : zInI p1) {G : Hp} {r1 : Int} (h1 : FTown_isSite FU this p1 G = some r1) : Met l yX10_isSite (Cond.code yX10_isSite cX10_isSite 3 (some .boolean) :: zgood) ({ frames := 2, cells := 0, slots := 0, locals := 45 } : Room) (va_Pc [.ref this, .int (zi p1)] (zU D aC G)) (zQ D aC G (zIn01 r1) (some (.int (zi r1))) G) 0 0 (zA G) := by
  refine z_met (y := yX10_isSite) (b := cX10_isSite) (maxL := 3) (mc := 0) (ms := 0) (ret := (some .boolean)) (As := [.ref this, .int (zi p1)]) (Q1 := fun r1 => zQ D aC G (zIn01 r1) (some (.int (zi r1))) G) (X := FTown_isSite FU this p1 G) (by decide) (Nat.le_of_ble_eq_true rfl) ?_ h1
  intro p e s m below meth c hC hr hi
  have hC : zC p m c meth s ([.ref this, .int (zi p1)] : List Value).toArray cX10_isSite 3 RX10 D aC := hC
  generalize ([.ref this, .int (zi p1)] : List Value).toArray = args at hC ⊢
  show zS p l e ({ frames := 2, cells := 0, slots := 0, locals := 45 } : Room) s m args below meth c D aC G (fun r1 => zfZ D aC G below args s 0 0 (r1, G)) 3 0 0 (FTown_isSite FU this p1 G) G 0 [(0, .ref this), (1, .int (zi p1))] []
  unfold FTown_isSite
  refine z_gd ?_
  unfold FTown_isSite_b
  refine z_iconst hC dX10_isSite_0 ?_
  refine z_istore_n (lo' := [(2, .int (zi (0))), (0, .ref this), (1, .int (zi p1))]) hC dX10_isSite_1 rfl (by decide) rfl ?_
  refine z_sub hC [1, 2, 0] (lo' := [(0, .ref this), (1, .int (zi p1)), (2, .int (zi (0)))]) rfl ?_
  exact STown_isSite_L2 hC hr FU FU this p1 (0) hp1 (by decide)
theorem STown_isSite_k {FU : Nat} {this : Nat} {p1 : Int} {G : Hp} {r1 : Int} (h1 : FTown_isSite FU this p1 G = some r1) : zk G this = some (10, 0) := zgd_k (k := FTown_isSite_b FU this p1 G) h1

set_option maxRecDepth 100000 in
theorem STown_addSite {l : Launch} {D : va_G} {aC : Nat → ClassId} (FU : Nat) (this : Nat) (p1 : Int) (hp1 : zInI p1) {G : Hp} {r1 : (Int × Hp)} (h1 : FTown_addSite FU this p1 G = some r1) : Met l yX10_addSite (Cond.code yX10_addSite cX10_addSite 2 (some .int) :: zgood) ({ frames := 2, cells := 0, slots := 0, locals := 46 } : Room) (va_Pc [.ref this, .int (zi p1)] (zU D aC G)) (zQ D aC G (zInI r1.1) (some (.int (zi r1.1))) r1.2) 0 0 (zA G) := by
  refine z_met (y := yX10_addSite) (b := cX10_addSite) (maxL := 2) (mc := 0) (ms := 0) (ret := (some .int)) (As := [.ref this, .int (zi p1)]) (Q1 := fun r1 => zQ D aC G (zInI r1.1) (some (.int (zi r1.1))) r1.2) (X := FTown_addSite FU this p1 G) (by decide) (Nat.le_of_ble_eq_true rfl) ?_ h1
  intro p e s m below meth c hC hr hi
  have hC : zC p m c meth s ([.ref this, .int (zi p1)] : List Value).toArray cX10_addSite 2 RX10 D aC := hC
  generalize ([.ref this, .int (zi p1)] : List Value).toArray = args at hC ⊢
  show zS p l e ({ frames := 2, cells := 0, slots := 0, locals := 46 } : Room) s m args below meth c D aC G (zfI D aC G below args s 0 0) 2 0 0 (FTown_addSite FU this p1 G) G 0 [(0, .ref this), (1, .int (zi p1))] []
  unfold FTown_addSite
  refine z_gd ?_
  unfold FTown_addSite_b
  refine z_aload_n hC 0 rfl dX10_addSite_0 rfl ?_
  refine z_getI hC zF10_58 rfl dX10_addSite_1 (fun v1 hv1 => ?_)
  refine z_bipush hC dX10_addSite_4 rfl ?_
  refine z_icmp_lt (tgt := 12) hC hv1 (by decide) dX10_addSite_6 (by decide) (fun _ => ?_) (fun _ => ?_)
  · refine z_aload_n hC 0 rfl dX10_addSite_12 rfl ?_
    refine z_getQ hC zF10_23 rfl dX10_addSite_13 (fun v2 => ?_)
    refine z_aload_n hC 0 rfl dX10_addSite_16 rfl ?_
    refine z_getI hC zF10_58 rfl dX10_addSite_17 (fun v3 hv3 => ?_)
    refine z_iload_n hC 1 rfl dX10_addSite_20 rfl ?_
    refine z_cV (z_rS (As := [.ref v2, .int (zi v3), .int (zi p1)]) hC (fun _ h1 => SB_put FU v2 v3 p1 hv3 hp1 h1) zM10_30 zMs_FB_put ⟨by decide, by decide⟩ rfl rfl rfl (rest := []) (Nat.le_of_ble_eq_true rfl) ⟨Nat.le_of_ble_eq_true rfl, Nat.le_of_ble_eq_true rfl⟩ rfl dX10_addSite_21) (fun G4 => ?_)
    refine z_aload_n hC 0 rfl dX10_addSite_24 rfl ?_
    refine z_dup hC rfl dX10_addSite_25 ?_
    refine z_getI hC zF10_58 rfl dX10_addSite_26 (fun v5 hv5 => ?_)
    refine z_iconst hC dX10_addSite_29 ?_
    refine z_iadd hC dX10_addSite_30 (fun v6 hv6 => ?_)
    refine z_putI hC hv6 zF10_58 rfl rfl dX10_addSite_31 (fun G7 => ?_)
    refine z_aload_n hC 0 rfl dX10_addSite_34 rfl ?_
    refine z_getI hC zF10_58 rfl dX10_addSite_35 (fun v8 hv8 => ?_)
    exact z_iret hC hv8 hr dX10_addSite_38
  · refine z_bipush hC dX10_addSite_9 rfl ?_
    exact z_iret hC (by decide) hr dX10_addSite_11
theorem STown_addSite_k {FU : Nat} {this : Nat} {p1 : Int} {G : Hp} {r1 : (Int × Hp)} (h1 : FTown_addSite FU this p1 G = some r1) : zk G this = some (10, 0) := zgd_k (k := FTown_addSite_b FU this p1 G) h1

set_option maxRecDepth 100000 in
theorem SM_init_L337 {p : Program} {l : Launch} {e : Env} {s : State} {m : MethodId} {args : Array Value} {below : List Frame} {meth : Method} {c : Code} {D : va_G} {aC : Nat → ClassId} {G0 : Hp} (hC : zC p m c meth s args cX12_init 2 RX12 D aC) (hr : meth.sig.returnType = none) (hi : meth.name = "<init>") (FU : Nat) : ∀ (n : Nat) (x0 : Nat) (x1 : Int) (G : Hp) (hx1 : zInI x1), zS p l e ({ frames := 1, cells := 39, slots := 111710, locals := 24 } : Room) s m args below meth c D aC G0 (zfV D aC G0 below args s 39 111710) 2 39 111710 (FM_init_L337 FU n x0 x1 G) G 337 [(0, .ref x0), (1, .int (zi x1))] [] := by
  intro n
  induction n with
  | zero => intros; exact z_none
  | succ n ih =>
    intro x0 x1 G hx1
    rw [FM_init_L337]
    refine z_iload_n hC 1 rfl dX12_init_337 rfl ?_
    refine z_bipush hC dX12_init_338 rfl ?_
    refine z_icmp_ge (tgt := 370) hC hx1 (by decide) dX12_init_340 (by decide) (fun _ => ?_) (fun _ => ?_)
    · refine z_aload_n hC 0 rfl dX12_init_343 rfl ?_
      refine z_getQ hC zF12_38 rfl dX12_init_344 (fun v1 => ?_)
      refine z_iload_n hC 1 rfl dX12_init_347 rfl ?_
      refine z_iconst hC dX12_init_348 ?_
      refine z_iast hC hx1 (by decide) dX12_init_349 (fun G2 => ?_)
      refine z_aload_n hC 0 rfl dX12_init_350 rfl ?_
      refine z_getQ hC zF12_109 rfl dX12_init_351 (fun v3 => ?_)
      refine z_iload_n hC 1 rfl dX12_init_354 rfl ?_
      refine z_iconst hC dX12_init_355 ?_
      refine z_iast hC hx1 (by decide) dX12_init_356 (fun G4 => ?_)
      refine z_aload_n hC 0 rfl dX12_init_357 rfl ?_
      refine z_getQ hC zF12_130 rfl dX12_init_358 (fun v5 => ?_)
      refine z_iload_n hC 1 rfl dX12_init_361 rfl ?_
      refine z_iconst hC dX12_init_362 ?_
      refine z_iast hC hx1 (by decide) dX12_init_363 (fun G6 => ?_)
      refine z_iinc (lo' := fun v7 => [(1, .int (zi v7)), (0, .ref x0)]) hC 1 dX12_init_364 rfl (by decide) (fun _ => rfl) (fun v7 hv7 => ?_)
      refine z_goto (tgt := 337) hC dX12_init_367 (by decide) ?_
      refine z_sub hC [1, 0] (lo' := [(0, .ref x0), (1, .int (zi v7))]) rfl ?_
      exact ih x0 v7 G6 hv7
    · exact z_vret hC hr dX12_init_370
set_option maxRecDepth 100000 in
theorem SM_init {l : Launch} {D : va_G} {aC : Nat → ClassId} (FU : Nat) (this : Nat) {G : Hp} {r1 : (Unit × Hp)} (h1 : FM_init FU this G = some r1) : Met l yX12_init (Cond.code yX12_init cX12_init 2 none :: zgood) ({ frames := 1, cells := 39, slots := 111710, locals := 24 } : Room) (va_Pc [.ref this] (zU D aC G)) (zQ D aC G (True) (none) r1.2) 39 111710 (zA G) := by
  refine z_met (y := yX12_init) (b := cX12_init) (maxL := 2) (mc := 39) (ms := 111710) (ret := none) (As := [.ref this]) (Q1 := fun r1 => zQ D aC G (True) (none) r1.2) (X := FM_init FU this G) (by decide) (Nat.le_of_ble_eq_true rfl) ?_ h1
  intro p e s m below meth c hC hr hi
  have hC : zC p m c meth s ([.ref this] : List Value).toArray cX12_init 2 RX12 D aC := hC
  generalize ([.ref this] : List Value).toArray = args at hC ⊢
  show zS p l e ({ frames := 1, cells := 39, slots := 111710, locals := 24 } : Room) s m args below meth c D aC G (zfV D aC G below args s 39 111710) 2 0 0 (FM_init FU this G) G 0 [(0, .ref this)] []
  unfold FM_init
  refine z_aload_n hC 0 rfl dX12_init_0 rfl ?_
  refine z_objInit hC zO12_1 ⟨by decide, by decide⟩ ⟨by decide, by decide⟩ dX12_init_1 ?_
  refine z_aload_n hC 0 rfl dX12_init_4 rfl ?_
  refine z_bipush hC dX12_init_5 rfl ?_
  refine z_newarr20 hC 30 rfl (by decide) (zgood_in 155 (by decide +kernel) (by decide +kernel)) (by decide) (by decide) dX12_init_7 (fun a1 G2 => ?_)
  refine z_widen (k := 1) (n := 30) (by decide) (by decide) ?_
  refine z_putFR hC (t := 12) (k := 1) rfl (by decide) rfl (zgood_in 1058 (by decide +kernel) (by decide +kernel)) rfl rfl hi rfl dX12_init_9 (fun G3 => ?_)
  refine z_aload_n hC 0 rfl dX12_init_12 rfl ?_
  refine z_sipush hC dX12_init_13 rfl ?_
  refine z_newarr20 hC 900 rfl (by decide) (zgood_in 155 (by decide +kernel) (by decide +kernel)) (by decide) (by decide) dX12_init_16 (fun a4 G5 => ?_)
  refine z_widen (k := 2) (n := 930) (by decide) (by decide) ?_
  refine z_putFR hC (t := 12) (k := 3) rfl (by decide) rfl (zgood_in 1060 (by decide +kernel) (by decide +kernel)) rfl rfl hi rfl dX12_init_18 (fun G6 => ?_)
  refine z_aload_n hC 0 rfl dX12_init_21 rfl ?_
  refine z_sipush hC dX12_init_22 rfl ?_
  refine z_newarr20 hC 900 rfl (by decide) (zgood_in 155 (by decide +kernel) (by decide +kernel)) (by decide) (by decide) dX12_init_25 (fun a7 G8 => ?_)
  refine z_widen (k := 3) (n := 1830) (by decide) (by decide) ?_
  refine z_putFR hC (t := 12) (k := 4) rfl (by decide) rfl (zgood_in 1061 (by decide +kernel) (by decide +kernel)) rfl rfl hi rfl dX12_init_27 (fun G9 => ?_)
  refine z_aload_n hC 0 rfl dX12_init_30 rfl ?_
  refine z_bipush hC dX12_init_31 rfl ?_
  refine z_putI hC (by decide) zF12_19 rfl rfl dX12_init_33 (fun G10 => ?_)
  refine z_aload_n hC 0 rfl dX12_init_36 rfl ?_
  refine z_iconst hC dX12_init_37 ?_
  refine z_putI hC (by decide) zF12_23 rfl rfl dX12_init_38 (fun G11 => ?_)
  refine z_aload_n hC 0 rfl dX12_init_41 rfl ?_
  refine z_bipush hC dX12_init_42 rfl ?_
  refine z_newarr20 hC 43 rfl (by decide) (zgood_in 155 (by decide +kernel) (by decide +kernel)) (by decide) (by decide) dX12_init_44 (fun a12 G13 => ?_)
  refine z_widen (k := 4) (n := 1873) (by decide) (by decide) ?_
  refine z_putFR hC (t := 12) (k := 8) rfl (by decide) rfl (zgood_in 1065 (by decide +kernel) (by decide +kernel)) rfl rfl hi rfl dX12_init_46 (fun G14 => ?_)
  refine z_aload_n hC 0 rfl dX12_init_49 rfl ?_
  refine z_bipush hC dX12_init_50 rfl ?_
  refine z_newarr20 hC 43 rfl (by decide) (zgood_in 155 (by decide +kernel) (by decide +kernel)) (by decide) (by decide) dX12_init_52 (fun a15 G16 => ?_)
  refine z_widen (k := 5) (n := 1916) (by decide) (by decide) ?_
  refine z_putFR hC (t := 12) (k := 9) rfl (by decide) rfl (zgood_in 1066 (by decide +kernel) (by decide +kernel)) rfl rfl hi rfl dX12_init_54 (fun G17 => ?_)
  refine z_aload_n hC 0 rfl dX12_init_57 rfl ?_
  refine z_bipush hC dX12_init_58 rfl ?_
  refine z_newarr20 hC 43 rfl (by decide) (zgood_in 155 (by decide +kernel) (by decide +kernel)) (by decide) (by decide) dX12_init_60 (fun a18 G19 => ?_)
  refine z_widen (k := 6) (n := 1959) (by decide) (by decide) ?_
  refine z_putFR hC (t := 12) (k := 10) rfl (by decide) rfl (zgood_in 1067 (by decide +kernel) (by decide +kernel)) rfl rfl hi rfl dX12_init_62 (fun G20 => ?_)
  refine z_aload_n hC 0 rfl dX12_init_65 rfl ?_
  refine z_bipush hC dX12_init_66 rfl ?_
  refine z_newarr20 hC 40 rfl (by decide) (zgood_in 155 (by decide +kernel) (by decide +kernel)) (by decide) (by decide) dX12_init_68 (fun a21 G22 => ?_)
  refine z_widen (k := 7) (n := 1999) (by decide) (by decide) ?_
  refine z_putFR hC (t := 12) (k := 11) rfl (by decide) rfl (zgood_in 1068 (by decide +kernel) (by decide +kernel)) rfl rfl hi rfl dX12_init_70 (fun G23 => ?_)
  refine z_aload_n hC 0 rfl dX12_init_73 rfl ?_
  refine z_bipush hC dX12_init_74 rfl ?_
  refine z_newarr20 hC 40 rfl (by decide) (zgood_in 155 (by decide +kernel) (by decide +kernel)) (by decide) (by decide) dX12_init_76 (fun a24 G25 => ?_)
  refine z_widen (k := 8) (n := 2039) (by decide) (by decide) ?_
  refine z_putFR hC (t := 12) (k := 12) rfl (by decide) rfl (zgood_in 1069 (by decide +kernel) (by decide +kernel)) rfl rfl hi rfl dX12_init_78 (fun G26 => ?_)
  refine z_aload_n hC 0 rfl dX12_init_81 rfl ?_
  refine z_bipush hC dX12_init_82 rfl ?_
  refine z_newarr20 hC 40 rfl (by decide) (zgood_in 155 (by decide +kernel) (by decide +kernel)) (by decide) (by decide) dX12_init_84 (fun a27 G28 => ?_)
  refine z_widen (k := 9) (n := 2079) (by decide) (by decide) ?_
  refine z_putFR hC (t := 12) (k := 13) rfl (by decide) rfl (zgood_in 1070 (by decide +kernel) (by decide +kernel)) rfl rfl hi rfl dX12_init_86 (fun G29 => ?_)
  refine z_aload_n hC 0 rfl dX12_init_89 rfl ?_
  refine z_bipush hC dX12_init_90 rfl ?_
  refine z_newarr20 hC 40 rfl (by decide) (zgood_in 155 (by decide +kernel) (by decide +kernel)) (by decide) (by decide) dX12_init_92 (fun a30 G31 => ?_)
  refine z_widen (k := 10) (n := 2119) (by decide) (by decide) ?_
  refine z_putFR hC (t := 12) (k := 14) rfl (by decide) rfl (zgood_in 1071 (by decide +kernel) (by decide +kernel)) rfl rfl hi rfl dX12_init_94 (fun G32 => ?_)
  refine z_aload_n hC 0 rfl dX12_init_97 rfl ?_
  refine z_bipush hC dX12_init_98 rfl ?_
  refine z_newarr20 hC 10 rfl (by decide) (zgood_in 155 (by decide +kernel) (by decide +kernel)) (by decide) (by decide) dX12_init_100 (fun a33 G34 => ?_)
  refine z_widen (k := 11) (n := 2129) (by decide) (by decide) ?_
  refine z_putFR hC (t := 12) (k := 17) rfl (by decide) rfl (zgood_in 1074 (by decide +kernel) (by decide +kernel)) rfl rfl hi rfl dX12_init_102 (fun G35 => ?_)
  refine z_aload_n hC 0 rfl dX12_init_105 rfl ?_
  refine z_iconst hC dX12_init_106 ?_
  refine z_newarr20 hC 3 rfl (by decide) (zgood_in 155 (by decide +kernel) (by decide +kernel)) (by decide) (by decide) dX12_init_107 (fun a36 G37 => ?_)
  refine z_widen (k := 12) (n := 2132) (by decide) (by decide) ?_
  refine z_putFR hC (t := 12) (k := 19) rfl (by decide) rfl (zgood_in 1076 (by decide +kernel) (by decide +kernel)) rfl rfl hi rfl dX12_init_109 (fun G38 => ?_)
  refine z_aload_n hC 0 rfl dX12_init_112 rfl ?_
  refine z_iconst hC dX12_init_113 ?_
  refine z_newarr20 hC 3 rfl (by decide) (zgood_in 155 (by decide +kernel) (by decide +kernel)) (by decide) (by decide) dX12_init_114 (fun a39 G40 => ?_)
  refine z_widen (k := 13) (n := 2135) (by decide) (by decide) ?_
  refine z_putFR hC (t := 12) (k := 20) rfl (by decide) rfl (zgood_in 1077 (by decide +kernel) (by decide +kernel)) rfl rfl hi rfl dX12_init_116 (fun G41 => ?_)
  refine z_aload_n hC 0 rfl dX12_init_119 rfl ?_
  refine z_bipush hC dX12_init_120 rfl ?_
  refine z_newarr22 hC 40 rfl (by decide) (zgood_in 1238 (by decide +kernel) (by decide +kernel)) (by decide) (by decide) dX12_init_122 (fun a42 G43 => ?_)
  refine z_widen (k := 14) (n := 2175) (by decide) (by decide) ?_
  refine z_putFR hC (t := 12) (k := 23) rfl (by decide) rfl (zgood_in 1080 (by decide +kernel) (by decide +kernel)) rfl rfl hi rfl dX12_init_124 (fun G44 => ?_)
  refine z_aload_n hC 0 rfl dX12_init_127 rfl ?_
  refine z_bipush hC dX12_init_128 rfl ?_
  refine z_newarr20 hC 120 rfl (by decide) (zgood_in 155 (by decide +kernel) (by decide +kernel)) (by decide) (by decide) dX12_init_130 (fun a45 G46 => ?_)
  refine z_widen (k := 15) (n := 2295) (by decide) (by decide) ?_
  refine z_putFR hC (t := 12) (k := 24) rfl (by decide) rfl (zgood_in 1081 (by decide +kernel) (by decide +kernel)) rfl rfl hi rfl dX12_init_132 (fun G47 => ?_)
  refine z_aload_n hC 0 rfl dX12_init_135 rfl ?_
  refine z_sipush hC dX12_init_136 rfl ?_
  refine z_newarr20 hC 2400 rfl (by decide) (zgood_in 155 (by decide +kernel) (by decide +kernel)) (by decide) (by decide) dX12_init_139 (fun a48 G49 => ?_)
  refine z_widen (k := 16) (n := 4695) (by decide) (by decide) ?_
  refine z_putFR hC (t := 12) (k := 26) rfl (by decide) rfl (zgood_in 1083 (by decide +kernel) (by decide +kernel)) rfl rfl hi rfl dX12_init_141 (fun G50 => ?_)
  refine z_aload_n hC 0 rfl dX12_init_144 rfl ?_
  refine z_bipush hC dX12_init_145 rfl ?_
  refine z_newarr20 hC 20 rfl (by decide) (zgood_in 155 (by decide +kernel) (by decide +kernel)) (by decide) (by decide) dX12_init_147 (fun a51 G52 => ?_)
  refine z_widen (k := 17) (n := 4715) (by decide) (by decide) ?_
  refine z_putFR hC (t := 12) (k := 27) rfl (by decide) rfl (zgood_in 1084 (by decide +kernel) (by decide +kernel)) rfl rfl hi rfl dX12_init_149 (fun G53 => ?_)
  refine z_aload_n hC 0 rfl dX12_init_152 rfl ?_
  refine z_bipush hC dX12_init_153 rfl ?_
  refine z_newarr20 hC 20 rfl (by decide) (zgood_in 155 (by decide +kernel) (by decide +kernel)) (by decide) (by decide) dX12_init_155 (fun a54 G55 => ?_)
  refine z_widen (k := 18) (n := 4735) (by decide) (by decide) ?_
  refine z_putFR hC (t := 12) (k := 28) rfl (by decide) rfl (zgood_in 1085 (by decide +kernel) (by decide +kernel)) rfl rfl hi rfl dX12_init_157 (fun G56 => ?_)
  refine z_aload_n hC 0 rfl dX12_init_160 rfl ?_
  refine z_bipush hC dX12_init_161 rfl ?_
  refine z_newarr20 hC 20 rfl (by decide) (zgood_in 155 (by decide +kernel) (by decide +kernel)) (by decide) (by decide) dX12_init_163 (fun a57 G58 => ?_)
  refine z_widen (k := 19) (n := 4755) (by decide) (by decide) ?_
  refine z_putFR hC (t := 12) (k := 29) rfl (by decide) rfl (zgood_in 1086 (by decide +kernel) (by decide +kernel)) rfl rfl hi rfl dX12_init_165 (fun G59 => ?_)
  refine z_aload_n hC 0 rfl dX12_init_168 rfl ?_
  refine z_bipush hC dX12_init_169 rfl ?_
  refine z_newarr20 hC 20 rfl (by decide) (zgood_in 155 (by decide +kernel) (by decide +kernel)) (by decide) (by decide) dX12_init_171 (fun a60 G61 => ?_)
  refine z_widen (k := 20) (n := 4775) (by decide) (by decide) ?_
  refine z_putFR hC (t := 12) (k := 30) rfl (by decide) rfl (zgood_in 1087 (by decide +kernel) (by decide +kernel)) rfl rfl hi rfl dX12_init_173 (fun G62 => ?_)
  refine z_aload_n hC 0 rfl dX12_init_176 rfl ?_
  refine z_iconst hC dX12_init_177 ?_
  refine z_newarr20 hC 5 rfl (by decide) (zgood_in 155 (by decide +kernel) (by decide +kernel)) (by decide) (by decide) dX12_init_178 (fun a63 G64 => ?_)
  refine z_widen (k := 21) (n := 4780) (by decide) (by decide) ?_
  refine z_putFR hC (t := 12) (k := 32) rfl (by decide) rfl (zgood_in 1089 (by decide +kernel) (by decide +kernel)) rfl rfl hi rfl dX12_init_180 (fun G65 => ?_)
  refine z_aload_n hC 0 rfl dX12_init_183 rfl ?_
  refine z_sipush hC dX12_init_184 rfl ?_
  refine z_newarr21 hC 13320 rfl (by decide) (zgood_in 1239 (by decide +kernel) (by decide +kernel)) (by decide) (by decide) dX12_init_187 (fun a66 G67 => ?_)
  refine z_widen (k := 22) (n := 18100) (by decide) (by decide) ?_
  refine z_putFR hC (t := 12) (k := 33) rfl (by decide) rfl (zgood_in 1090 (by decide +kernel) (by decide +kernel)) rfl rfl hi rfl dX12_init_189 (fun G68 => ?_)
  refine z_aload_n hC 0 rfl dX12_init_192 rfl ?_
  refine z_sipush hC dX12_init_193 rfl ?_
  refine z_newarr20 hC 13320 rfl (by decide) (zgood_in 155 (by decide +kernel) (by decide +kernel)) (by decide) (by decide) dX12_init_196 (fun a69 G70 => ?_)
  refine z_widen (k := 23) (n := 31420) (by decide) (by decide) ?_
  refine z_putFR hC (t := 12) (k := 34) rfl (by decide) rfl (zgood_in 1091 (by decide +kernel) (by decide +kernel)) rfl rfl hi rfl dX12_init_198 (fun G71 => ?_)
  refine z_aload_n hC 0 rfl dX12_init_201 rfl ?_
  refine z_sipush hC dX12_init_202 rfl ?_
  refine z_newarr20 hC 13320 rfl (by decide) (zgood_in 155 (by decide +kernel) (by decide +kernel)) (by decide) (by decide) dX12_init_205 (fun a72 G73 => ?_)
  refine z_widen (k := 24) (n := 44740) (by decide) (by decide) ?_
  refine z_putFR hC (t := 12) (k := 35) rfl (by decide) rfl (zgood_in 1092 (by decide +kernel) (by decide +kernel)) rfl rfl hi rfl dX12_init_207 (fun G74 => ?_)
  refine z_aload_n hC 0 rfl dX12_init_210 rfl ?_
  refine z_sipush hC dX12_init_211 rfl ?_
  refine z_newarr20 hC 13320 rfl (by decide) (zgood_in 155 (by decide +kernel) (by decide +kernel)) (by decide) (by decide) dX12_init_214 (fun a75 G76 => ?_)
  refine z_widen (k := 25) (n := 58060) (by decide) (by decide) ?_
  refine z_putFR hC (t := 12) (k := 36) rfl (by decide) rfl (zgood_in 1093 (by decide +kernel) (by decide +kernel)) rfl rfl hi rfl dX12_init_216 (fun G77 => ?_)
  refine z_aload_n hC 0 rfl dX12_init_219 rfl ?_
  refine z_sipush hC dX12_init_220 rfl ?_
  refine z_newarr20 hC 13320 rfl (by decide) (zgood_in 155 (by decide +kernel) (by decide +kernel)) (by decide) (by decide) dX12_init_223 (fun a78 G79 => ?_)
  refine z_widen (k := 26) (n := 71380) (by decide) (by decide) ?_
  refine z_putFR hC (t := 12) (k := 37) rfl (by decide) rfl (zgood_in 1094 (by decide +kernel) (by decide +kernel)) rfl rfl hi rfl dX12_init_225 (fun G80 => ?_)
  refine z_aload_n hC 0 rfl dX12_init_228 rfl ?_
  refine z_sipush hC dX12_init_229 rfl ?_
  refine z_newarr20 hC 13320 rfl (by decide) (zgood_in 155 (by decide +kernel) (by decide +kernel)) (by decide) (by decide) dX12_init_232 (fun a81 G82 => ?_)
  refine z_widen (k := 27) (n := 84700) (by decide) (by decide) ?_
  refine z_putFR hC (t := 12) (k := 38) rfl (by decide) rfl (zgood_in 1095 (by decide +kernel) (by decide +kernel)) rfl rfl hi rfl dX12_init_234 (fun G83 => ?_)
  refine z_aload_n hC 0 rfl dX12_init_237 rfl ?_
  refine z_sipush hC dX12_init_238 rfl ?_
  refine z_newarr20 hC 13320 rfl (by decide) (zgood_in 155 (by decide +kernel) (by decide +kernel)) (by decide) (by decide) dX12_init_241 (fun a84 G85 => ?_)
  refine z_widen (k := 28) (n := 98020) (by decide) (by decide) ?_
  refine z_putFR hC (t := 12) (k := 39) rfl (by decide) rfl (zgood_in 1096 (by decide +kernel) (by decide +kernel)) rfl rfl hi rfl dX12_init_243 (fun G86 => ?_)
  refine z_aload_n hC 0 rfl dX12_init_246 rfl ?_
  refine z_sipush hC dX12_init_247 rfl ?_
  refine z_newarr20 hC 13320 rfl (by decide) (zgood_in 155 (by decide +kernel) (by decide +kernel)) (by decide) (by decide) dX12_init_250 (fun a87 G88 => ?_)
  refine z_widen (k := 29) (n := 111340) (by decide) (by decide) ?_
  refine z_putFR hC (t := 12) (k := 40) rfl (by decide) rfl (zgood_in 1097 (by decide +kernel) (by decide +kernel)) rfl rfl hi rfl dX12_init_252 (fun G89 => ?_)
  refine z_aload_n hC 0 rfl dX12_init_255 rfl ?_
  refine z_bipush hC dX12_init_256 rfl ?_
  refine z_newarr20 hC 40 rfl (by decide) (zgood_in 155 (by decide +kernel) (by decide +kernel)) (by decide) (by decide) dX12_init_258 (fun a90 G91 => ?_)
  refine z_widen (k := 30) (n := 111380) (by decide) (by decide) ?_
  refine z_putFR hC (t := 12) (k := 41) rfl (by decide) rfl (zgood_in 1098 (by decide +kernel) (by decide +kernel)) rfl rfl hi rfl dX12_init_260 (fun G92 => ?_)
  refine z_aload_n hC 0 rfl dX12_init_263 rfl ?_
  refine z_bipush hC dX12_init_264 rfl ?_
  refine z_newarr20 hC 40 rfl (by decide) (zgood_in 155 (by decide +kernel) (by decide +kernel)) (by decide) (by decide) dX12_init_266 (fun a93 G94 => ?_)
  refine z_widen (k := 31) (n := 111420) (by decide) (by decide) ?_
  refine z_putFR hC (t := 12) (k := 43) rfl (by decide) rfl (zgood_in 1100 (by decide +kernel) (by decide +kernel)) rfl rfl hi rfl dX12_init_268 (fun G95 => ?_)
  refine z_aload_n hC 0 rfl dX12_init_271 rfl ?_
  refine z_bipush hC dX12_init_272 rfl ?_
  refine z_newarr20 hC 40 rfl (by decide) (zgood_in 155 (by decide +kernel) (by decide +kernel)) (by decide) (by decide) dX12_init_274 (fun a96 G97 => ?_)
  refine z_widen (k := 32) (n := 111460) (by decide) (by decide) ?_
  refine z_putFR hC (t := 12) (k := 44) rfl (by decide) rfl (zgood_in 1101 (by decide +kernel) (by decide +kernel)) rfl rfl hi rfl dX12_init_276 (fun G98 => ?_)
  refine z_aload_n hC 0 rfl dX12_init_279 rfl ?_
  refine z_bipush hC dX12_init_280 rfl ?_
  refine z_newarr20 hC 40 rfl (by decide) (zgood_in 155 (by decide +kernel) (by decide +kernel)) (by decide) (by decide) dX12_init_282 (fun a99 G100 => ?_)
  refine z_widen (k := 33) (n := 111500) (by decide) (by decide) ?_
  refine z_putFR hC (t := 12) (k := 45) rfl (by decide) rfl (zgood_in 1102 (by decide +kernel) (by decide +kernel)) rfl rfl hi rfl dX12_init_284 (fun G101 => ?_)
  refine z_aload_n hC 0 rfl dX12_init_287 rfl ?_
  refine z_bipush hC dX12_init_288 rfl ?_
  refine z_newarr20 hC 40 rfl (by decide) (zgood_in 155 (by decide +kernel) (by decide +kernel)) (by decide) (by decide) dX12_init_290 (fun a102 G103 => ?_)
  refine z_widen (k := 34) (n := 111540) (by decide) (by decide) ?_
  refine z_putFR hC (t := 12) (k := 46) rfl (by decide) rfl (zgood_in 1103 (by decide +kernel) (by decide +kernel)) rfl rfl hi rfl dX12_init_292 (fun G104 => ?_)
  refine z_aload_n hC 0 rfl dX12_init_295 rfl ?_
  refine z_bipush hC dX12_init_296 rfl ?_
  refine z_newarr20 hC 40 rfl (by decide) (zgood_in 155 (by decide +kernel) (by decide +kernel)) (by decide) (by decide) dX12_init_298 (fun a105 G106 => ?_)
  refine z_widen (k := 35) (n := 111580) (by decide) (by decide) ?_
  refine z_putFR hC (t := 12) (k := 47) rfl (by decide) rfl (zgood_in 1104 (by decide +kernel) (by decide +kernel)) rfl rfl hi rfl dX12_init_300 (fun G107 => ?_)
  refine z_aload_n hC 0 rfl dX12_init_303 rfl ?_
  refine z_bipush hC dX12_init_304 rfl ?_
  refine z_newarr20 hC 40 rfl (by decide) (zgood_in 155 (by decide +kernel) (by decide +kernel)) (by decide) (by decide) dX12_init_306 (fun a108 G109 => ?_)
  refine z_widen (k := 36) (n := 111620) (by decide) (by decide) ?_
  refine z_putFR hC (t := 12) (k := 48) rfl (by decide) rfl (zgood_in 1105 (by decide +kernel) (by decide +kernel)) rfl rfl hi rfl dX12_init_308 (fun G110 => ?_)
  refine z_aload_n hC 0 rfl dX12_init_311 rfl ?_
  refine z_bipush hC dX12_init_312 rfl ?_
  refine z_newarr20 hC 40 rfl (by decide) (zgood_in 155 (by decide +kernel) (by decide +kernel)) (by decide) (by decide) dX12_init_314 (fun a111 G112 => ?_)
  refine z_widen (k := 37) (n := 111660) (by decide) (by decide) ?_
  refine z_putFR hC (t := 12) (k := 50) rfl (by decide) rfl (zgood_in 1107 (by decide +kernel) (by decide +kernel)) rfl rfl hi rfl dX12_init_316 (fun G113 => ?_)
  refine z_aload_n hC 0 rfl dX12_init_319 rfl ?_
  refine z_bipush hC dX12_init_320 rfl ?_
  refine z_newarr20 hC 40 rfl (by decide) (zgood_in 155 (by decide +kernel) (by decide +kernel)) (by decide) (by decide) dX12_init_322 (fun a114 G115 => ?_)
  refine z_widen (k := 38) (n := 111700) (by decide) (by decide) ?_
  refine z_putFR hC (t := 12) (k := 51) rfl (by decide) rfl (zgood_in 1108 (by decide +kernel) (by decide +kernel)) rfl rfl hi rfl dX12_init_324 (fun G116 => ?_)
  refine z_aload_n hC 0 rfl dX12_init_327 rfl ?_
  refine z_bipush hC dX12_init_328 rfl ?_
  refine z_newarr20 hC 10 rfl (by decide) (zgood_in 155 (by decide +kernel) (by decide +kernel)) (by decide) (by decide) dX12_init_330 (fun a117 G118 => ?_)
  refine z_widen (k := 39) (n := 111710) (by decide) (by decide) ?_
  refine z_putFR hC (t := 12) (k := 52) rfl (by decide) rfl (zgood_in 1109 (by decide +kernel) (by decide +kernel)) rfl rfl hi rfl dX12_init_332 (fun G119 => ?_)
  refine z_iconst hC dX12_init_335 ?_
  refine z_istore_n (lo' := [(1, .int (zi (0))), (0, .ref this)]) hC dX12_init_336 rfl (by decide) rfl ?_
  refine z_sub hC [1, 0] (lo' := [(0, .ref this), (1, .int (zi (0)))]) rfl ?_
  exact SM_init_L337 hC hr hi FU FU this (0) G119 (by decide)

set_option maxRecDepth 100000 in
theorem SM_within {l : Launch} {D : va_G} {aC : Nat → ClassId} (FU : Nat) (p1 : Int) (p2 : Int) (p3 : Int) (hp1 : zInI p1) (hp2 : zInI p2) (hp3 : zInI p3) {G : Hp} {r1 : Int} (h1 : FM_within FU p1 p2 p3 G = some r1) : Met l yX12_within (Cond.code yX12_within cX12_within 3 (some .boolean) :: zgood) ({ frames := 1, cells := 0, slots := 0, locals := 24 } : Room) (va_Pc [.int (zi p1), .int (zi p2), .int (zi p3)] (zU D aC G)) (zQ D aC G (zIn01 r1) (some (.int (zi r1))) G) 0 0 (zA G) := by
  refine z_met (y := yX12_within) (b := cX12_within) (maxL := 3) (mc := 0) (ms := 0) (ret := (some .boolean)) (As := [.int (zi p1), .int (zi p2), .int (zi p3)]) (Q1 := fun r1 => zQ D aC G (zIn01 r1) (some (.int (zi r1))) G) (X := FM_within FU p1 p2 p3 G) (by decide) (Nat.le_of_ble_eq_true rfl) ?_ h1
  intro p e s m below meth c hC hr hi
  have hC : zC p m c meth s ([.int (zi p1), .int (zi p2), .int (zi p3)] : List Value).toArray cX12_within 3 RX12 D aC := hC
  generalize ([.int (zi p1), .int (zi p2), .int (zi p3)] : List Value).toArray = args at hC ⊢
  show zS p l e ({ frames := 1, cells := 0, slots := 0, locals := 24 } : Room) s m args below meth c D aC G (fun r1 => zfZ D aC G below args s 0 0 (r1, G)) 3 0 0 (FM_within FU p1 p2 p3 G) G 0 [(0, .int (zi p1)), (1, .int (zi p2)), (2, .int (zi p3))] []
  unfold FM_within
  refine z_iload_n hC 0 rfl dX12_within_0 rfl ?_
  refine z_iload_n hC 1 rfl dX12_within_1 rfl ?_
  refine z_icmp_lt (tgt := 14) hC hp1 hp2 dX12_within_2 (by decide) (fun _ => ?_) (fun _ => ?_)
  · refine z_iconst hC dX12_within_14 ?_
    exact z_zretp hC hr dX12_within_15
  · refine z_iload_n hC 0 rfl dX12_within_5 rfl ?_
    refine z_iload_n hC 2 rfl dX12_within_6 rfl ?_
    refine z_icmp_gt (tgt := 14) hC hp1 hp3 dX12_within_7 (by decide) (fun _ => ?_) (fun _ => ?_)
    · refine z_iconst hC dX12_within_10 ?_
      refine z_goto (tgt := 15) hC dX12_within_11 (by decide) ?_
      exact z_zretp hC hr dX12_within_15
    · refine z_iconst hC dX12_within_14 ?_
      exact z_zretp hC hr dX12_within_15

set_option maxRecDepth 100000 in
theorem SM_isPlace {l : Launch} {D : va_G} {aC : Nat → ClassId} (FU : Nat) (this : Nat) (p1 : Int) (hp1 : zInI p1) {G : Hp} {r1 : Int} (h1 : FM_isPlace FU this p1 G = some r1) : Met l yX12_isPlace (Cond.code yX12_isPlace cX12_isPlace 2 (some .boolean) :: zgood) ({ frames := 1, cells := 0, slots := 0, locals := 24 } : Room) (va_Pc [.ref this, .int (zi p1)] (zU D aC G)) (zQ D aC G (zIn01 r1) (some (.int (zi r1))) G) 0 0 (zA G) := by
  refine z_met (y := yX12_isPlace) (b := cX12_isPlace) (maxL := 2) (mc := 0) (ms := 0) (ret := (some .boolean)) (As := [.ref this, .int (zi p1)]) (Q1 := fun r1 => zQ D aC G (zIn01 r1) (some (.int (zi r1))) G) (X := FM_isPlace FU this p1 G) (by decide) (Nat.le_of_ble_eq_true rfl) ?_ h1
  intro p e s m below meth c hC hr hi
  have hC : zC p m c meth s ([.ref this, .int (zi p1)] : List Value).toArray cX12_isPlace 2 RX12 D aC := hC
  generalize ([.ref this, .int (zi p1)] : List Value).toArray = args at hC ⊢
  show zS p l e ({ frames := 1, cells := 0, slots := 0, locals := 24 } : Room) s m args below meth c D aC G (fun r1 => zfZ D aC G below args s 0 0 (r1, G)) 2 0 0 (FM_isPlace FU this p1 G) G 0 [(0, .ref this), (1, .int (zi p1))] []
  unfold FM_isPlace
  refine z_gd ?_
  unfold FM_isPlace_b
  refine z_iload_n hC 1 rfl dX12_isPlace_0 rfl ?_
  refine z_if_lt (tgt := 16) hC hp1 dX12_isPlace_1 (by decide) (fun _ => ?_) (fun _ => ?_)
  · refine z_iconst hC dX12_isPlace_16 ?_
    exact z_zretp hC hr dX12_isPlace_17
  · refine z_iload_n hC 1 rfl dX12_isPlace_4 rfl ?_
    refine z_aload_n hC 0 rfl dX12_isPlace_5 rfl ?_
    refine z_getI hC zF12_136 rfl dX12_isPlace_6 (fun v1 hv1 => ?_)
    refine z_icmp_ge (tgt := 16) hC hp1 hv1 dX12_isPlace_9 (by decide) (fun _ => ?_) (fun _ => ?_)
    · refine z_iconst hC dX12_isPlace_12 ?_
      refine z_goto (tgt := 17) hC dX12_isPlace_13 (by decide) ?_
      exact z_zretp hC hr dX12_isPlace_17
    · refine z_iconst hC dX12_isPlace_16 ?_
      exact z_zretp hC hr dX12_isPlace_17
theorem SM_isPlace_k {FU : Nat} {this : Nat} {p1 : Int} {G : Hp} {r1 : Int} (h1 : FM_isPlace FU this p1 G = some r1) : zk G this = some (12, 0) := zgd_k (k := FM_isPlace_b FU this p1 G) h1

set_option maxRecDepth 100000 in
theorem SM_isShop {l : Launch} {D : va_G} {aC : Nat → ClassId} (FU : Nat) (this : Nat) (p1 : Int) (hp1 : zInI p1) {G : Hp} {r1 : Int} (h1 : FM_isShop FU this p1 G = some r1) : Met l yX12_isShop (Cond.code yX12_isShop cX12_isShop 2 (some .boolean) :: zgood) ({ frames := 1, cells := 0, slots := 0, locals := 24 } : Room) (va_Pc [.ref this, .int (zi p1)] (zU D aC G)) (zQ D aC G (zIn01 r1) (some (.int (zi r1))) G) 0 0 (zA G) := by
  refine z_met (y := yX12_isShop) (b := cX12_isShop) (maxL := 2) (mc := 0) (ms := 0) (ret := (some .boolean)) (As := [.ref this, .int (zi p1)]) (Q1 := fun r1 => zQ D aC G (zIn01 r1) (some (.int (zi r1))) G) (X := FM_isShop FU this p1 G) (by decide) (Nat.le_of_ble_eq_true rfl) ?_ h1
  intro p e s m below meth c hC hr hi
  have hC : zC p m c meth s ([.ref this, .int (zi p1)] : List Value).toArray cX12_isShop 2 RX12 D aC := hC
  generalize ([.ref this, .int (zi p1)] : List Value).toArray = args at hC ⊢
  show zS p l e ({ frames := 1, cells := 0, slots := 0, locals := 24 } : Room) s m args below meth c D aC G (fun r1 => zfZ D aC G below args s 0 0 (r1, G)) 2 0 0 (FM_isShop FU this p1 G) G 0 [(0, .ref this), (1, .int (zi p1))] []
  unfold FM_isShop
  refine z_gd ?_
  unfold FM_isShop_b
  refine z_iload_n hC 1 rfl dX12_isShop_0 rfl ?_
  refine z_if_lt (tgt := 16) hC hp1 dX12_isShop_1 (by decide) (fun _ => ?_) (fun _ => ?_)
  · refine z_iconst hC dX12_isShop_16 ?_
    exact z_zretp hC hr dX12_isShop_17
  · refine z_iload_n hC 1 rfl dX12_isShop_4 rfl ?_
    refine z_aload_n hC 0 rfl dX12_isShop_5 rfl ?_
    refine z_getI hC zF12_139 rfl dX12_isShop_6 (fun v1 hv1 => ?_)
    refine z_icmp_ge (tgt := 16) hC hp1 hv1 dX12_isShop_9 (by decide) (fun _ => ?_) (fun _ => ?_)
    · refine z_iconst hC dX12_isShop_12 ?_
      refine z_goto (tgt := 17) hC dX12_isShop_13 (by decide) ?_
      exact z_zretp hC hr dX12_isShop_17
    · refine z_iconst hC dX12_isShop_16 ?_
      exact z_zretp hC hr dX12_isShop_17
theorem SM_isShop_k {FU : Nat} {this : Nat} {p1 : Int} {G : Hp} {r1 : Int} (h1 : FM_isShop FU this p1 G = some r1) : zk G this = some (12, 0) := zgd_k (k := FM_isShop_b FU this p1 G) h1

set_option maxRecDepth 100000 in
theorem SM_isOpen {l : Launch} {D : va_G} {aC : Nat → ClassId} (FU : Nat) (this : Nat) (p1 : Int) (hp1 : zInI p1) {G : Hp} {r1 : Int} (h1 : FM_isOpen FU this p1 G = some r1) : Met l yX12_isOpen (Cond.code yX12_isOpen cX12_isOpen 2 (some .boolean) :: zgood) ({ frames := 1, cells := 0, slots := 0, locals := 24 } : Room) (va_Pc [.ref this, .int (zi p1)] (zU D aC G)) (zQ D aC G (zIn01 r1) (some (.int (zi r1))) G) 0 0 (zA G) := by
  refine z_met (y := yX12_isOpen) (b := cX12_isOpen) (maxL := 2) (mc := 0) (ms := 0) (ret := (some .boolean)) (As := [.ref this, .int (zi p1)]) (Q1 := fun r1 => zQ D aC G (zIn01 r1) (some (.int (zi r1))) G) (X := FM_isOpen FU this p1 G) (by decide) (Nat.le_of_ble_eq_true rfl) ?_ h1
  intro p e s m below meth c hC hr hi
  have hC : zC p m c meth s ([.ref this, .int (zi p1)] : List Value).toArray cX12_isOpen 2 RX12 D aC := hC
  generalize ([.ref this, .int (zi p1)] : List Value).toArray = args at hC ⊢
  show zS p l e ({ frames := 1, cells := 0, slots := 0, locals := 24 } : Room) s m args below meth c D aC G (fun r1 => zfZ D aC G below args s 0 0 (r1, G)) 2 0 0 (FM_isOpen FU this p1 G) G 0 [(0, .ref this), (1, .int (zi p1))] []
  unfold FM_isOpen
  refine z_gd ?_
  unfold FM_isOpen_b
  refine z_aload_n hC 0 rfl dX12_isOpen_0 rfl ?_
  refine z_getQ hC zF12_38 rfl dX12_isOpen_1 (fun v1 => ?_)
  refine z_iload_n hC 1 rfl dX12_isOpen_4 rfl ?_
  refine z_iald hC hp1 dX12_isOpen_5 (fun v2 hv2 => ?_)
  refine z_if_ge (tgt := 13) hC hv2 dX12_isOpen_6 (by decide) (fun _ => ?_) (fun _ => ?_)
  · refine z_iconst hC dX12_isOpen_9 ?_
    refine z_goto (tgt := 14) hC dX12_isOpen_10 (by decide) ?_
    exact z_zretp hC hr dX12_isOpen_14
  · refine z_iconst hC dX12_isOpen_13 ?_
    exact z_zretp hC hr dX12_isOpen_14
theorem SM_isOpen_k {FU : Nat} {this : Nat} {p1 : Int} {G : Hp} {r1 : Int} (h1 : FM_isOpen FU this p1 G = some r1) : zk G this = some (12, 0) := zgd_k (k := FM_isOpen_b FU this p1 G) h1

set_option maxRecDepth 100000 in
theorem SM_isDay {l : Launch} {D : va_G} {aC : Nat → ClassId} (FU : Nat) (p1 : Int) (hp1 : zInI p1) {G : Hp} {r1 : Int} (h1 : FM_isDay FU p1 G = some r1) : Met l yX12_isDay (Cond.code yX12_isDay cX12_isDay 1 (some .boolean) :: zgood) ({ frames := 2, cells := 0, slots := 0, locals := 46 } : Room) (va_Pc [.int (zi p1)] (zU D aC G)) (zQ D aC G (zIn01 r1) (some (.int (zi r1))) G) 0 0 (zA G) := by
  refine z_met (y := yX12_isDay) (b := cX12_isDay) (maxL := 1) (mc := 0) (ms := 0) (ret := (some .boolean)) (As := [.int (zi p1)]) (Q1 := fun r1 => zQ D aC G (zIn01 r1) (some (.int (zi r1))) G) (X := FM_isDay FU p1 G) (by decide) (Nat.le_of_ble_eq_true rfl) ?_ h1
  intro p e s m below meth c hC hr hi
  have hC : zC p m c meth s ([.int (zi p1)] : List Value).toArray cX12_isDay 1 RX12 D aC := hC
  generalize ([.int (zi p1)] : List Value).toArray = args at hC ⊢
  show zS p l e ({ frames := 2, cells := 0, slots := 0, locals := 46 } : Room) s m args below meth c D aC G (fun r1 => zfZ D aC G below args s 0 0 (r1, G)) 1 0 0 (FM_isDay FU p1 G) G 0 [(0, .int (zi p1))] []
  unfold FM_isDay
  refine z_iload_n hC 0 rfl dX12_isDay_0 rfl ?_
  refine z_iconst hC dX12_isDay_1 ?_
  refine z_sipush hC dX12_isDay_2 rfl ?_
  refine z_cZp (z_rS (As := [.int (zi p1), .int (zi (0)), .int (zi (9999))]) hC (fun _ h1 => SM_within FU p1 (0) (9999) hp1 (by decide) (by decide) h1) zM12_142 zMs_FM_within ⟨by decide, by decide⟩ rfl rfl rfl (rest := []) (Nat.le_of_ble_eq_true rfl) ⟨Nat.le_of_ble_eq_true rfl, Nat.le_of_ble_eq_true rfl⟩ rfl dX12_isDay_5) (fun v1 hv1 => ?_)
  exact z_zretp hC hr dX12_isDay_8

set_option maxRecDepth 100000 in
theorem SM_isMonth {l : Launch} {D : va_G} {aC : Nat → ClassId} (FU : Nat) (p1 : Int) (hp1 : zInI p1) {G : Hp} {r1 : Int} (h1 : FM_isMonth FU p1 G = some r1) : Met l yX12_isMonth (Cond.code yX12_isMonth cX12_isMonth 1 (some .boolean) :: zgood) ({ frames := 2, cells := 0, slots := 0, locals := 46 } : Room) (va_Pc [.int (zi p1)] (zU D aC G)) (zQ D aC G (zIn01 r1) (some (.int (zi r1))) G) 0 0 (zA G) := by
  refine z_met (y := yX12_isMonth) (b := cX12_isMonth) (maxL := 1) (mc := 0) (ms := 0) (ret := (some .boolean)) (As := [.int (zi p1)]) (Q1 := fun r1 => zQ D aC G (zIn01 r1) (some (.int (zi r1))) G) (X := FM_isMonth FU p1 G) (by decide) (Nat.le_of_ble_eq_true rfl) ?_ h1
  intro p e s m below meth c hC hr hi
  have hC : zC p m c meth s ([.int (zi p1)] : List Value).toArray cX12_isMonth 1 RX12 D aC := hC
  generalize ([.int (zi p1)] : List Value).toArray = args at hC ⊢
  show zS p l e ({ frames := 2, cells := 0, slots := 0, locals := 46 } : Room) s m args below meth c D aC G (fun r1 => zfZ D aC G below args s 0 0 (r1, G)) 1 0 0 (FM_isMonth FU p1 G) G 0 [(0, .int (zi p1))] []
  unfold FM_isMonth
  refine z_iload_n hC 0 rfl dX12_isMonth_0 rfl ?_
  refine z_iconst hC dX12_isMonth_1 ?_
  refine z_sipush hC dX12_isMonth_2 rfl ?_
  refine z_cZp (z_rS (As := [.int (zi p1), .int (zi (0)), .int (zi (332))]) hC (fun _ h1 => SM_within FU p1 (0) (332) hp1 (by decide) (by decide) h1) zM12_142 zMs_FM_within ⟨by decide, by decide⟩ rfl rfl rfl (rest := []) (Nat.le_of_ble_eq_true rfl) ⟨Nat.le_of_ble_eq_true rfl, Nat.le_of_ble_eq_true rfl⟩ rfl dX12_isMonth_5) (fun v1 hv1 => ?_)
  exact z_zretp hC hr dX12_isMonth_8

set_option maxRecDepth 100000 in
theorem SM_place {l : Launch} {D : va_G} {aC : Nat → ClassId} (FU : Nat) (this : Nat) (p1 : Int) (hp1 : zInI p1) {G : Hp} {r1 : (Int × Hp)} (h1 : FM_place FU this p1 G = some r1) : Met l yX12_place (Cond.code yX12_place cX12_place 2 (some .int) :: zgood) ({ frames := 2, cells := 0, slots := 0, locals := 46 } : Room) (va_Pc [.ref this, .int (zi p1)] (zU D aC G)) (zQ D aC G (zInI r1.1) (some (.int (zi r1.1))) r1.2) 0 0 (zA G) := by
  refine z_met (y := yX12_place) (b := cX12_place) (maxL := 2) (mc := 0) (ms := 0) (ret := (some .int)) (As := [.ref this, .int (zi p1)]) (Q1 := fun r1 => zQ D aC G (zInI r1.1) (some (.int (zi r1.1))) r1.2) (X := FM_place FU this p1 G) (by decide) (Nat.le_of_ble_eq_true rfl) ?_ h1
  intro p e s m below meth c hC hr hi
  have hC : zC p m c meth s ([.ref this, .int (zi p1)] : List Value).toArray cX12_place 2 RX12 D aC := hC
  generalize ([.ref this, .int (zi p1)] : List Value).toArray = args at hC ⊢
  show zS p l e ({ frames := 2, cells := 0, slots := 0, locals := 46 } : Room) s m args below meth c D aC G (zfI D aC G below args s 0 0) 2 0 0 (FM_place FU this p1 G) G 0 [(0, .ref this), (1, .int (zi p1))] []
  unfold FM_place
  refine z_gd ?_
  unfold FM_place_b
  refine z_iload_n hC 1 rfl dX12_place_0 rfl ?_
  refine z_iconst hC dX12_place_1 ?_
  refine z_sipush hC dX12_place_2 rfl ?_
  refine z_cZp (z_rS (As := [.int (zi p1), .int (zi (0)), .int (zi (999))]) hC (fun _ h1 => SM_within FU p1 (0) (999) hp1 (by decide) (by decide) h1) zM12_142 zMs_FM_within ⟨by decide, by decide⟩ rfl rfl rfl (rest := []) (Nat.le_of_ble_eq_true rfl) ⟨Nat.le_of_ble_eq_true rfl, Nat.le_of_ble_eq_true rfl⟩ rfl dX12_place_5) (fun v1 hv1 => ?_)
  refine z_if_ne (tgt := 13) hC (hv1).i dX12_place_8 (by decide) (fun _ => ?_) (fun _ => ?_)
  · refine z_iconst hC dX12_place_11 ?_
    exact z_iret hC (by decide) hr dX12_place_12
  · refine z_aload_n hC 0 rfl dX12_place_13 rfl ?_
    refine z_getI hC zF12_136 rfl dX12_place_14 (fun v2 hv2 => ?_)
    refine z_bipush hC dX12_place_17 rfl ?_
    refine z_icmp_ne (tgt := 25) hC hv2 (by decide) dX12_place_19 (by decide) (fun _ => ?_) (fun _ => ?_)
    · refine z_bipush hC dX12_place_22 rfl ?_
      exact z_iret hC (by decide) hr dX12_place_24
    · refine z_aload_n hC 0 rfl dX12_place_25 rfl ?_
      refine z_getQ hC zF12_9 rfl dX12_place_26 (fun v3 => ?_)
      refine z_aload_n hC 0 rfl dX12_place_29 rfl ?_
      refine z_getI hC zF12_136 rfl dX12_place_30 (fun v4 hv4 => ?_)
      refine z_iload_n hC 1 rfl dX12_place_33 rfl ?_
      refine z_iast hC hv4 hp1 dX12_place_34 (fun G5 => ?_)
      refine z_aload_n hC 0 rfl dX12_place_35 rfl ?_
      refine z_dup hC rfl dX12_place_36 ?_
      refine z_getI hC zF12_136 rfl dX12_place_37 (fun v6 hv6 => ?_)
      refine z_iconst hC dX12_place_40 ?_
      refine z_iadd hC dX12_place_41 (fun v7 hv7 => ?_)
      refine z_putI hC hv7 zF12_136 rfl rfl dX12_place_42 (fun G8 => ?_)
      refine z_aload_n hC 0 rfl dX12_place_45 rfl ?_
      refine z_iconst hC dX12_place_46 ?_
      refine z_putZ hC zF12_146 rfl rfl dX12_place_47 (fun G9 => ?_)
      refine z_aload_n hC 0 rfl dX12_place_50 rfl ?_
      refine z_getI hC zF12_136 rfl dX12_place_51 (fun v10 hv10 => ?_)
      refine z_iconst hC dX12_place_54 ?_
      refine z_isub hC dX12_place_55 (fun v11 hv11 => ?_)
      exact z_iret hC hv11 hr dX12_place_56
theorem SM_place_k {FU : Nat} {this : Nat} {p1 : Int} {G : Hp} {r1 : (Int × Hp)} (h1 : FM_place FU this p1 G = some r1) : zk G this = some (12, 0) := zgd_k (k := FM_place_b FU this p1 G) h1

set_option maxRecDepth 100000 in
theorem SM_street_B63 {p : Program} {l : Launch} {e : Env} {s : State} {m : MethodId} {args : Array Value} {below : List Frame} {meth : Method} {c : Code} {D : va_G} {aC : Nat → ClassId} {G0 : Hp} (hC : zC p m c meth s args cX12_street 6 RX12 D aC) (hr : meth.sig.returnType = (some .int)) (FU : Nat) (x0 : Nat) (x1 : Int) (x2 : Int) (y0 : Int) (G : Hp) (hx1 : zInI x1) (hx2 : zInI x2) (hy0 : zInI y0) : zS p l e ({ frames := 2, cells := 0, slots := 0, locals := 46 } : Room) s m args below meth c D aC G0 (zfI D aC G0 below args s 0 0) 6 0 0 (FM_street_B63 FU x0 x1 x2 y0 G) G 63 [(0, .ref x0), (1, .int (zi x1)), (2, .int (zi x2))] [.int (zi y0)] := by
  unfold FM_street_B63
  refine z_istore (lo' := [(5, .int (zi y0)), (0, .ref x0), (1, .int (zi x1)), (2, .int (zi x2))]) hC dX12_street_63 (by decide) rfl ?_
  refine z_aload_n hC 1 rfl dX12_street_65 rfl ?_
  refine z_getQ hC zF12_13 rfl dX12_street_66 (fun v1 => ?_)
  refine z_bipush hC dX12_street_69 rfl ?_
  refine z_iload_n hC 2 rfl dX12_street_71 rfl ?_
  refine z_imul hC dX12_street_72 (fun v2 hv2 => ?_)
  refine z_iload_n hC 3 rfl dX12_street_73 rfl ?_
  refine z_iadd hC dX12_street_74 (fun v3 hv3 => ?_)
  refine z_iload hC 0 rfl dX12_street_75 ?_
  refine z_iast hC hv3 hy0 dX12_street_77 (fun G4 => ?_)
  refine z_aload_n hC 1 rfl dX12_street_78 rfl ?_
  refine z_getQ hC zF12_13 rfl dX12_street_79 (fun v5 => ?_)
  refine z_bipush hC dX12_street_82 rfl ?_
  refine z_iload_n hC 3 rfl dX12_street_84 rfl ?_
  refine z_imul hC dX12_street_85 (fun v6 hv6 => ?_)
  refine z_iload_n hC 2 rfl dX12_street_86 rfl ?_
  refine z_iadd hC dX12_street_87 (fun v7 hv7 => ?_)
  refine z_iload hC 0 rfl dX12_street_88 ?_
  refine z_iast hC hv7 hy0 dX12_street_90 (fun G8 => ?_)
  refine z_aload_n hC 1 rfl dX12_street_91 rfl ?_
  refine z_iconst hC dX12_street_92 ?_
  refine z_putZ hC zF12_146 rfl rfl dX12_street_93 (fun G9 => ?_)
  refine z_iload hC 0 rfl dX12_street_96 ?_
  exact z_iret hC hy0 hr dX12_street_98
set_option maxRecDepth 100000 in
theorem SM_street_B62 {p : Program} {l : Launch} {e : Env} {s : State} {m : MethodId} {args : Array Value} {below : List Frame} {meth : Method} {c : Code} {D : va_G} {aC : Nat → ClassId} {G0 : Hp} (hC : zC p m c meth s args cX12_street 6 RX12 D aC) (hr : meth.sig.returnType = (some .int)) (FU : Nat) (x0 : Nat) (x1 : Int) (x2 : Int) (x3 : Int) (G : Hp) (hx1 : zInI x1) (hx2 : zInI x2) (hx3 : zInI x3) : zS p l e ({ frames := 2, cells := 0, slots := 0, locals := 46 } : Room) s m args below meth c D aC G0 (zfI D aC G0 below args s 0 0) 6 0 0 (FM_street_B62 FU x0 x1 x2 x3 G) G 62 [(0, .ref x0), (1, .int (zi x1)), (2, .int (zi x2)), (3, .int (zi x3))] [] := by
  unfold FM_street_B62
  refine z_iload_n hC 3 rfl dX12_street_62 rfl ?_
  refine z_sub hC [0, 1, 2] (lo' := [(0, .ref x0), (1, .int (zi x1)), (2, .int (zi x2))]) rfl ?_
  exact SM_street_B63 hC hr FU x0 x1 x2 x3 G hx1 hx2 hx3
set_option maxRecDepth 100000 in
theorem SM_street {l : Launch} {D : va_G} {aC : Nat → ClassId} (FU : Nat) (this : Nat) (p1 : Int) (p2 : Int) (p3 : Int) (hp1 : zInI p1) (hp2 : zInI p2) (hp3 : zInI p3) {G : Hp} {r1 : (Int × Hp)} (h1 : FM_street FU this p1 p2 p3 G = some r1) : Met l yX12_street (Cond.code yX12_street cX12_street 6 (some .int) :: zgood) ({ frames := 2, cells := 0, slots := 0, locals := 46 } : Room) (va_Pc [.ref this, .int (zi p1), .int (zi p2), .int (zi p3)] (zU D aC G)) (zQ D aC G (zInI r1.1) (some (.int (zi r1.1))) r1.2) 0 0 (zA G) := by
  refine z_met (y := yX12_street) (b := cX12_street) (maxL := 6) (mc := 0) (ms := 0) (ret := (some .int)) (As := [.ref this, .int (zi p1), .int (zi p2), .int (zi p3)]) (Q1 := fun r1 => zQ D aC G (zInI r1.1) (some (.int (zi r1.1))) r1.2) (X := FM_street FU this p1 p2 p3 G) (by decide) (Nat.le_of_ble_eq_true rfl) ?_ h1
  intro p e s m below meth c hC hr hi
  have hC : zC p m c meth s ([.ref this, .int (zi p1), .int (zi p2), .int (zi p3)] : List Value).toArray cX12_street 6 RX12 D aC := hC
  generalize ([.ref this, .int (zi p1), .int (zi p2), .int (zi p3)] : List Value).toArray = args at hC ⊢
  show zS p l e ({ frames := 2, cells := 0, slots := 0, locals := 46 } : Room) s m args below meth c D aC G (zfI D aC G below args s 0 0) 6 0 0 (FM_street FU this p1 p2 p3 G) G 0 [(0, .ref this), (1, .int (zi p1)), (2, .int (zi p2)), (3, .int (zi p3))] []
  unfold FM_street
  refine z_gd ?_
  unfold FM_street_b
  refine z_aload_n hC 0 rfl dX12_street_0 rfl ?_
  refine z_iload_n hC 1 rfl dX12_street_1 rfl ?_
  refine z_cZp (z_rV (q := this) (t := 12) (As := [.int (zi p1)]) hC (fun _ h1 => SM_isPlace FU this p1 hp1 h1) (fun _ h1 => SM_isPlace_k h1) rfl rfl zM12_150 zMv_FM_isPlace ⟨by decide, by decide⟩ rfl rfl rfl (rest := []) (Nat.le_of_ble_eq_true rfl) ⟨Nat.le_of_ble_eq_true rfl, Nat.le_of_ble_eq_true rfl⟩ rfl dX12_street_2) (fun v1 hv1 => ?_)
  refine z_if_eq (tgt := 31) hC (hv1).i dX12_street_5 (by decide) (fun _ => ?_) (fun _ => ?_)
  · refine z_iconst hC dX12_street_31 ?_
    exact z_iret hC (by decide) hr dX12_street_32
  · refine z_aload_n hC 0 rfl dX12_street_8 rfl ?_
    refine z_iload_n hC 2 rfl dX12_street_9 rfl ?_
    refine z_cZp (z_rV (q := this) (t := 12) (As := [.int (zi p2)]) hC (fun _ h1 => SM_isPlace FU this p2 hp2 h1) (fun _ h1 => SM_isPlace_k h1) rfl rfl zM12_150 zMv_FM_isPlace ⟨by decide, by decide⟩ rfl rfl rfl (rest := []) (Nat.le_of_ble_eq_true rfl) ⟨Nat.le_of_ble_eq_true rfl, Nat.le_of_ble_eq_true rfl⟩ rfl dX12_street_10) (fun v2 hv2 => ?_)
    refine z_if_eq (tgt := 31) hC (hv2).i dX12_street_13 (by decide) (fun _ => ?_) (fun _ => ?_)
    · refine z_iconst hC dX12_street_31 ?_
      exact z_iret hC (by decide) hr dX12_street_32
    · refine z_iload_n hC 1 rfl dX12_street_16 rfl ?_
      refine z_iload_n hC 2 rfl dX12_street_17 rfl ?_
      refine z_icmp_eq (tgt := 31) hC hp1 hp2 dX12_street_18 (by decide) (fun _ => ?_) (fun _ => ?_)
      · refine z_iconst hC dX12_street_31 ?_
        exact z_iret hC (by decide) hr dX12_street_32
      · refine z_iload_n hC 3 rfl dX12_street_21 rfl ?_
        refine z_iconst hC dX12_street_22 ?_
        refine z_bipush hC dX12_street_23 rfl ?_
        refine z_cZp (z_rS (As := [.int (zi p3), .int (zi (1)), .int (zi (99))]) hC (fun _ h1 => SM_within FU p3 (1) (99) hp3 (by decide) (by decide) h1) zM12_142 zMs_FM_within ⟨by decide, by decide⟩ rfl rfl rfl (rest := []) (Nat.le_of_ble_eq_true rfl) ⟨Nat.le_of_ble_eq_true rfl, Nat.le_of_ble_eq_true rfl⟩ rfl dX12_street_25) (fun v3 hv3 => ?_)
        refine z_if_ne (tgt := 33) hC (hv3).i dX12_street_28 (by decide) (fun _ => ?_) (fun _ => ?_)
        · refine z_iconst hC dX12_street_31 ?_
          exact z_iret hC (by decide) hr dX12_street_32
        · refine z_aload_n hC 0 rfl dX12_street_33 rfl ?_
          refine z_getQ hC zF12_13 rfl dX12_street_34 (fun v4 => ?_)
          refine z_bipush hC dX12_street_37 rfl ?_
          refine z_iload_n hC 1 rfl dX12_street_39 rfl ?_
          refine z_imul hC dX12_street_40 (fun v5 hv5 => ?_)
          refine z_iload_n hC 2 rfl dX12_street_41 rfl ?_
          refine z_iadd hC dX12_street_42 (fun v6 hv6 => ?_)
          refine z_iald hC hv6 dX12_street_43 (fun v7 hv7 => ?_)
          refine z_istore (lo' := [(4, .int (zi v7)), (0, .ref this), (1, .int (zi p1)), (2, .int (zi p2)), (3, .int (zi p3))]) hC dX12_street_44 (by decide) rfl ?_
          refine z_iload hC 0 rfl dX12_street_46 ?_
          refine z_if_le (tgt := 62) hC hv7 dX12_street_48 (by decide) (fun _ => ?_) (fun _ => ?_)
          · refine z_sub hC [1, 2, 3, 4] (lo' := [(0, .ref this), (1, .int (zi p1)), (2, .int (zi p2)), (3, .int (zi p3))]) rfl ?_
            exact SM_street_B62 hC hr FU this p1 p2 p3 G hp1 hp2 hp3
          · refine z_iload hC 0 rfl dX12_street_51 ?_
            refine z_iload_n hC 4 rfl dX12_street_53 rfl ?_
            refine z_icmp_ge (tgt := 62) hC hv7 hp3 dX12_street_54 (by decide) (fun _ => ?_) (fun _ => ?_)
            · refine z_iload hC 0 rfl dX12_street_57 ?_
              refine z_goto (tgt := 63) hC dX12_street_59 (by decide) ?_
              refine z_sub hC [1, 2, 3] (lo' := [(0, .ref this), (1, .int (zi p1)), (2, .int (zi p2))]) rfl ?_
              exact SM_street_B63 hC hr FU this p1 p2 v7 G hp1 hp2 hv7
            · refine z_sub hC [1, 2, 3, 4] (lo' := [(0, .ref this), (1, .int (zi p1)), (2, .int (zi p2)), (3, .int (zi p3))]) rfl ?_
              exact SM_street_B62 hC hr FU this p1 p2 p3 G hp1 hp2 hp3
theorem SM_street_k {FU : Nat} {this : Nat} {p1 : Int} {p2 : Int} {p3 : Int} {G : Hp} {r1 : (Int × Hp)} (h1 : FM_street FU this p1 p2 p3 G = some r1) : zk G this = some (12, 0) := zgd_k (k := FM_street_b FU this p1 p2 p3 G) h1

