set_option maxRecDepth 100000 in
theorem SShop_settle_B113 {p : Program} {l : Launch} {e : Env} {s : State} {m : MethodId} {args : Array Value} {below : List Frame} {meth : Method} {c : Code} {D : va_G} {aC : Nat → ClassId} {G0 : Hp} (hC : zC p m c meth s args cX7_settle 8 RX7 D aC) (hr : meth.sig.returnType = (some .int)) (FU : Nat) (x0 : Nat) (x2 : Int) (x3 : Int) (G : Hp) (hx2 : zInI x2) (hx3 : zInI x3) : zS p l e ({ frames := 3, cells := 0, slots := 0, locals := 66 } : Room) s m args below meth c D aC G0 (zfI D aC G0 below args s 0 0) 8 0 0 (FShop_settle_B113 FU x0 x2 x3 G) G 113 [(0, .ref x0), (2, .int (zi x2)), (3, .int (zi x3))] [] := by
  unfold FShop_settle_B113
  refine z_aload_n hC 0 rfl dX7_settle_113 rfl ?_
  refine z_getI hC zF7_46 rfl dX7_settle_114 (fun v1 hv1 => ?_)
  refine z_if_ne (tgt := 126) hC hv1 dX7_settle_117 (by decide) (fun _ => ?_) (fun _ => ?_)
  · refine z_aload_n hC 0 rfl dX7_settle_120 rfl ?_
    refine z_iconst hC dX7_settle_121 ?_
    refine z_iload_n hC 1 rfl dX7_settle_122 rfl ?_
    refine z_cV (z_rV (q := x0) (t := 7) (As := [.int (zi (1)), .int (zi x2)]) hC (fun _ h1 => SShop_endNotice FU x0 (1) x2 (by decide) hx2 h1) (fun _ h1 => SShop_endNotice_k h1) rfl rfl zM7_36 zMv_FShop_endNotice ⟨by decide, by decide⟩ rfl rfl rfl (rest := []) (Nat.le_of_ble_eq_true rfl) ⟨Nat.le_of_ble_eq_true rfl, Nat.le_of_ble_eq_true rfl⟩ rfl dX7_settle_123) (fun G2 => ?_)
    refine z_iload_n hC 2 rfl dX7_settle_126 rfl ?_
    exact z_iret hC hx3 hr dX7_settle_127
  · refine z_iload_n hC 2 rfl dX7_settle_126 rfl ?_
    exact z_iret hC hx3 hr dX7_settle_127
set_option maxRecDepth 100000 in
theorem SShop_settle_L15 {p : Program} {l : Launch} {e : Env} {s : State} {m : MethodId} {args : Array Value} {below : List Frame} {meth : Method} {c : Code} {D : va_G} {aC : Nat → ClassId} {G0 : Hp} (hC : zC p m c meth s args cX7_settle 8 RX7 D aC) (hr : meth.sig.returnType = (some .int)) (FU : Nat) : ∀ (n : Nat) (x0 : Nat) (x2 : Int) (x3 : Int) (x4 : Int) (G : Hp) (hx2 : zInI x2) (hx3 : zInI x3) (hx4 : zInI x4), zS p l e ({ frames := 3, cells := 0, slots := 0, locals := 66 } : Room) s m args below meth c D aC G0 (zfI D aC G0 below args s 0 0) 8 0 0 (FShop_settle_L15 FU n x0 x2 x3 x4 G) G 15 [(0, .ref x0), (2, .int (zi x2)), (3, .int (zi x3)), (4, .int (zi x4))] [] := by
  intro n
  induction n with
  | zero => intros; exact z_none
  | succ n ih =>
    intro x0 x2 x3 x4 G hx2 hx3 hx4
    rw [FShop_settle_L15]
    refine z_iload hC 3 rfl dX7_settle_15 ?_
    refine z_aload_n hC 0 rfl dX7_settle_17 rfl ?_
    refine z_getQ hC zF7_11 rfl dX7_settle_18 (fun v1 => ?_)
    refine z_alen24 hC dX7_settle_21 (fun v2 hv2 => ?_)
    refine z_icmp_ge (tgt := 113) hC hx4 hv2 dX7_settle_22 (by decide) (fun _ => ?_) (fun _ => ?_)
    · refine z_aload_n hC 0 rfl dX7_settle_25 rfl ?_
      refine z_getI hC zF7_49 rfl dX7_settle_26 (fun v3 hv3 => ?_)
      refine z_if_le (tgt := 113) hC hv3 dX7_settle_29 (by decide) (fun _ => ?_) (fun _ => ?_)
      · refine z_sub hC [0, 1, 2] (lo' := [(0, .ref x0), (2, .int (zi x2)), (3, .int (zi x3))]) rfl ?_
        exact SShop_settle_B113 hC hr FU x0 x2 x3 G hx2 hx3
      · refine z_aload_n hC 0 rfl dX7_settle_32 rfl ?_
        refine z_getQ hC zF7_11 rfl dX7_settle_33 (fun v4 => ?_)
        refine z_iload hC 3 rfl dX7_settle_36 ?_
        refine z_aald24 hC hx4 dX7_settle_38 (fun v5 => ?_)
        refine z_qstore (lo' := [(5, va_rf v5), (0, .ref x0), (2, .int (zi x2)), (3, .int (zi x3)), (4, .int (zi x4))]) hC dX7_settle_39 (by decide) rfl ?_
        refine z_qload hC 0 rfl dX7_settle_41 ?_
        refine z_ifnonnull (tgt := 49) hC dX7_settle_43 (by decide) (fun h0 => ?_) (fun a6 h0 => ?_)
        · subst h0
          refine z_goto (tgt := 107) hC dX7_settle_46 (by decide) ?_
          refine z_iinc (lo' := fun v7 => [(4, .int (zi v7)), (5, .null), (0, .ref x0), (2, .int (zi x2)), (3, .int (zi x3))]) hC 4 dX7_settle_107 rfl (by decide) (fun _ => rfl) (fun v7 hv7 => ?_)
          refine z_goto (tgt := 15) hC dX7_settle_110 (by decide) ?_
          refine z_sub hC [2, 3, 4, 0] (lo' := [(0, .ref x0), (2, .int (zi x2)), (3, .int (zi x3)), (4, .int (zi v7))]) rfl ?_
          exact ih x0 x2 x3 v7 G hx2 hx3 hv7
        · subst h0
          refine z_aload hC 0 rfl dX7_settle_49 ?_
          refine z_aload_n hC 1 rfl dX7_settle_51 rfl ?_
          refine z_getI hC zF7_49 rfl dX7_settle_52 (fun v8 hv8 => ?_)
          refine z_cI (z_rV (q := a6) (t := 3) (As := [.int (zi v8)]) hC (fun _ h1 => SMonth_payRoyalty FU a6 v8 hv8 h1) (fun _ h1 => SMonth_payRoyalty_k h1) rfl rfl zM7_52 zMv_FMonth_payRoyalty ⟨by decide, by decide⟩ rfl rfl rfl (rest := []) (Nat.le_of_ble_eq_true rfl) ⟨Nat.le_of_ble_eq_true rfl, Nat.le_of_ble_eq_true rfl⟩ rfl dX7_settle_55) (fun v10 G9 hv10 => ?_)
          refine z_istore (lo' := [(6, .int (zi v10)), (5, .ref a6), (0, .ref x0), (2, .int (zi x2)), (3, .int (zi x3)), (4, .int (zi x4))]) hC dX7_settle_58 (by decide) rfl ?_
          refine z_aload hC 1 rfl dX7_settle_60 ?_
          refine z_aload_n hC 2 rfl dX7_settle_62 rfl ?_
          refine z_getI hC zF7_49 rfl dX7_settle_63 (fun v11 hv11 => ?_)
          refine z_iload hC 0 rfl dX7_settle_66 ?_
          refine z_isub hC dX7_settle_68 (fun v12 hv12 => ?_)
          refine z_cI (z_rV (q := a6) (t := 3) (As := [.int (zi v12)]) hC (fun _ h1 => SMonth_payFund FU a6 v12 hv12 h1) (fun _ h1 => SMonth_payFund_k h1) rfl rfl zM7_56 zMv_FMonth_payFund ⟨by decide, by decide⟩ rfl rfl rfl (rest := []) (Nat.le_of_ble_eq_true rfl) ⟨Nat.le_of_ble_eq_true rfl, Nat.le_of_ble_eq_true rfl⟩ rfl dX7_settle_69) (fun v14 G13 hv14 => ?_)
          refine z_istore (lo' := [(7, .int (zi v14)), (6, .int (zi v10)), (5, .ref a6), (0, .ref x0), (2, .int (zi x2)), (3, .int (zi x3)), (4, .int (zi x4))]) hC dX7_settle_72 (by decide) rfl ?_
          refine z_aload_n hC 3 rfl dX7_settle_74 rfl ?_
          refine z_dup hC rfl dX7_settle_75 ?_
          refine z_getI hC zF7_49 rfl dX7_settle_76 (fun v15 hv15 => ?_)
          refine z_iload hC 1 rfl dX7_settle_79 ?_
          refine z_iload hC 0 rfl dX7_settle_81 ?_
          refine z_iadd hC dX7_settle_83 (fun v16 hv16 => ?_)
          refine z_isub hC dX7_settle_84 (fun v17 hv17 => ?_)
          refine z_putI hC hv17 zF7_49 rfl rfl dX7_settle_85 (fun G18 => ?_)
          refine z_aload_n hC 3 rfl dX7_settle_88 rfl ?_
          refine z_dup hC rfl dX7_settle_89 ?_
          refine z_getI hC zF7_46 rfl dX7_settle_90 (fun v19 hv19 => ?_)
          refine z_iload hC 1 rfl dX7_settle_93 ?_
          refine z_iload hC 0 rfl dX7_settle_95 ?_
          refine z_iadd hC dX7_settle_97 (fun v20 hv20 => ?_)
          refine z_isub hC dX7_settle_98 (fun v21 hv21 => ?_)
          refine z_putI hC hv21 zF7_46 rfl rfl dX7_settle_99 (fun G22 => ?_)
          refine z_iload_n hC 5 rfl dX7_settle_102 rfl ?_
          refine z_iload hC 0 rfl dX7_settle_103 ?_
          refine z_iadd hC dX7_settle_105 (fun v23 hv23 => ?_)
          refine z_istore_n (lo' := [(3, .int (zi v23)), (7, .int (zi v14)), (6, .int (zi v10)), (5, .ref a6), (0, .ref x0), (2, .int (zi x2)), (4, .int (zi x4))]) hC dX7_settle_106 rfl (by decide) rfl ?_
          refine z_iinc (lo' := fun v24 => [(4, .int (zi v24)), (3, .int (zi v23)), (7, .int (zi v14)), (6, .int (zi v10)), (5, .ref a6), (0, .ref x0), (2, .int (zi x2))]) hC 6 dX7_settle_107 rfl (by decide) (fun _ => rfl) (fun v24 hv24 => ?_)
          refine z_goto (tgt := 15) hC dX7_settle_110 (by decide) ?_
          refine z_sub hC [5, 6, 1, 0] (lo' := [(0, .ref x0), (2, .int (zi x2)), (3, .int (zi v23)), (4, .int (zi v24))]) rfl ?_
          exact ih x0 x2 v23 v24 G22 hx2 hv23 hv24
    · refine z_sub hC [0, 1, 2] (lo' := [(0, .ref x0), (2, .int (zi x2)), (3, .int (zi x3))]) rfl ?_
      exact SShop_settle_B113 hC hr FU x0 x2 x3 G hx2 hx3
set_option maxRecDepth 100000 in
theorem SShop_settle {l : Launch} {D : va_G} {aC : Nat → ClassId} (FU : Nat) (this : Nat) (p1 : Int) (p2 : Int) (hp1 : zInI p1) (hp2 : zInI p2) {G : Hp} {r1 : (Int × Hp)} (h1 : FShop_settle FU this p1 p2 G = some r1) : Met l yX7_settle (Cond.code yX7_settle cX7_settle 8 (some .int) :: zgood) ({ frames := 3, cells := 0, slots := 0, locals := 66 } : Room) (va_Pc [.ref this, .int (zi p1), .int (zi p2)] (zU D aC G)) (zQ D aC G (zInI r1.1) (some (.int (zi r1.1))) r1.2) 0 0 (zA G) := by
  refine z_met (y := yX7_settle) (b := cX7_settle) (maxL := 8) (mc := 0) (ms := 0) (ret := (some .int)) (As := [.ref this, .int (zi p1), .int (zi p2)]) (Q1 := fun r1 => zQ D aC G (zInI r1.1) (some (.int (zi r1.1))) r1.2) (X := FShop_settle FU this p1 p2 G) (by decide) (Nat.le_of_ble_eq_true rfl) ?_ h1
  intro p e s m below meth c hC hr hi
  have hC : zC p m c meth s ([.ref this, .int (zi p1), .int (zi p2)] : List Value).toArray cX7_settle 8 RX7 D aC := hC
  generalize ([.ref this, .int (zi p1), .int (zi p2)] : List Value).toArray = args at hC ⊢
  show zS p l e ({ frames := 3, cells := 0, slots := 0, locals := 66 } : Room) s m args below meth c D aC G (zfI D aC G below args s 0 0) 8 0 0 (FShop_settle FU this p1 p2 G) G 0 [(0, .ref this), (1, .int (zi p1)), (2, .int (zi p2))] []
  unfold FShop_settle
  refine z_gd ?_
  unfold FShop_settle_b
  refine z_aload_n hC 0 rfl dX7_settle_0 rfl ?_
  refine z_dup hC rfl dX7_settle_1 ?_
  refine z_getI hC zF7_49 rfl dX7_settle_2 (fun v1 hv1 => ?_)
  refine z_iload_n hC 1 rfl dX7_settle_5 rfl ?_
  refine z_iadd hC dX7_settle_6 (fun v2 hv2 => ?_)
  refine z_putI hC hv2 zF7_49 rfl rfl dX7_settle_7 (fun G3 => ?_)
  refine z_iconst hC dX7_settle_10 ?_
  refine z_istore_n (lo' := [(3, .int (zi (0))), (0, .ref this), (1, .int (zi p1)), (2, .int (zi p2))]) hC dX7_settle_11 rfl (by decide) rfl ?_
  refine z_iconst hC dX7_settle_12 ?_
  refine z_istore (lo' := [(4, .int (zi (0))), (3, .int (zi (0))), (0, .ref this), (1, .int (zi p1)), (2, .int (zi p2))]) hC dX7_settle_13 (by decide) rfl ?_
  refine z_sub hC [2, 4, 1, 0] (lo' := [(0, .ref this), (2, .int (zi p2)), (3, .int (zi (0))), (4, .int (zi (0)))]) rfl ?_
  exact SShop_settle_L15 hC hr FU FU this p2 (0) (0) G3 hp2 (by decide) (by decide)
theorem SShop_settle_k {FU : Nat} {this : Nat} {p1 : Int} {p2 : Int} {G : Hp} {r1 : (Int × Hp)} (h1 : FShop_settle FU this p1 p2 G = some r1) : zk G this = some (7, 0) := zgd_k (k := FShop_settle_b FU this p1 p2 G) h1

set_option maxRecDepth 100000 in
theorem SShop_balance {l : Launch} {D : va_G} {aC : Nat → ClassId} (FU : Nat) (this : Nat) {G : Hp} {r1 : Int} (h1 : FShop_balance FU this G = some r1) : Met l yX7_balance (Cond.code yX7_balance cX7_balance 1 (some .int) :: zgood) ({ frames := 1, cells := 0, slots := 0, locals := 24 } : Room) (va_Pc [.ref this] (zU D aC G)) (zQ D aC G (zInI r1) (some (.int (zi r1))) G) 0 0 (zA G) := by
  refine z_met (y := yX7_balance) (b := cX7_balance) (maxL := 1) (mc := 0) (ms := 0) (ret := (some .int)) (As := [.ref this]) (Q1 := fun r1 => zQ D aC G (zInI r1) (some (.int (zi r1))) G) (X := FShop_balance FU this G) (by decide) (Nat.le_of_ble_eq_true rfl) ?_ h1
  intro p e s m below meth c hC hr hi
  have hC : zC p m c meth s ([.ref this] : List Value).toArray cX7_balance 1 RX7 D aC := hC
  generalize ([.ref this] : List Value).toArray = args at hC ⊢
  show zS p l e ({ frames := 1, cells := 0, slots := 0, locals := 24 } : Room) s m args below meth c D aC G (fun r1 => zfI D aC G below args s 0 0 (r1, G)) 1 0 0 (FShop_balance FU this G) G 0 [(0, .ref this)] []
  unfold FShop_balance
  refine z_gd ?_
  unfold FShop_balance_b
  refine z_aload_n hC 0 rfl dX7_balance_0 rfl ?_
  refine z_getI hC zF7_46 rfl dX7_balance_1 (fun v1 hv1 => ?_)
  refine z_aload_n hC 0 rfl dX7_balance_4 rfl ?_
  refine z_getI hC zF7_49 rfl dX7_balance_5 (fun v2 hv2 => ?_)
  refine z_isub hC dX7_balance_8 (fun v3 hv3 => ?_)
  exact z_iretp hC hv3 hr dX7_balance_9
theorem SShop_balance_k {FU : Nat} {this : Nat} {G : Hp} {r1 : Int} (h1 : FShop_balance FU this G = some r1) : zk G this = some (7, 0) := zgd_k (k := FShop_balance_b FU this G) h1

set_option maxRecDepth 100000 in
theorem SShop_shortMonthsUpTo_L8 {p : Program} {l : Launch} {e : Env} {s : State} {m : MethodId} {args : Array Value} {below : List Frame} {meth : Method} {c : Code} {D : va_G} {aC : Nat → ClassId} {G0 : Hp} (hC : zC p m c meth s args cX7_shortMonthsUpTo 7 RX7 D aC) (hr : meth.sig.returnType = (some .int)) (FU : Nat) : ∀ (n : Nat) (x0 : Nat) (x2 : Int) (x3 : Int) (x4 : Int) (x5 : Int) (hx2 : zInI x2) (hx3 : zInI x3) (hx4 : zInI x4) (hx5 : zInI x5), zS p l e ({ frames := 2, cells := 0, slots := 0, locals := 45 } : Room) s m args below meth c D aC G0 (fun r1 => zfI D aC G0 below args s 0 0 (r1, G0)) 7 0 0 (FShop_shortMonthsUpTo_L8 FU n x0 x2 x3 x4 x5 G0) G0 8 [(0, .ref x0), (2, .int (zi x2)), (3, .int (zi x3)), (4, .int (zi x4)), (5, .int (zi x5))] [] := by
  intro n
  induction n with
  | zero => intros; exact z_none
  | succ n ih =>
    intro x0 x2 x3 x4 x5 hx2 hx3 hx4 hx5
    rw [FShop_shortMonthsUpTo_L8]
    refine z_iload hC 4 rfl dX7_shortMonthsUpTo_8 ?_
    refine z_if_lt (tgt := 56) hC hx5 dX7_shortMonthsUpTo_10 (by decide) (fun _ => ?_) (fun _ => ?_)
    · refine z_iload hC 3 rfl dX7_shortMonthsUpTo_56 ?_
      exact z_iretp hC hx4 hr dX7_shortMonthsUpTo_58
    · refine z_iload_n hC 2 rfl dX7_shortMonthsUpTo_13 rfl ?_
      refine z_bipush hC dX7_shortMonthsUpTo_14 rfl ?_
      refine z_icmp_ge (tgt := 56) hC hx3 (by decide) dX7_shortMonthsUpTo_16 (by decide) (fun _ => ?_) (fun _ => ?_)
      · refine z_aload_n hC 0 rfl dX7_shortMonthsUpTo_19 rfl ?_
        refine z_iload hC 4 rfl dX7_shortMonthsUpTo_20 ?_
        refine z_cAp (z_rV (q := x0) (t := 7) (As := [.int (zi x5)]) hC (fun _ h1 => SShop_monthAt FU x0 x5 hx5 h1) (fun _ h1 => SShop_monthAt_k h1) rfl rfl zM7_59 zMv_FShop_monthAt ⟨by decide, by decide⟩ rfl rfl rfl (rest := []) (Nat.le_of_ble_eq_true rfl) ⟨Nat.le_of_ble_eq_true rfl, Nat.le_of_ble_eq_true rfl⟩ rfl dX7_shortMonthsUpTo_22) (fun v1 => ?_)
        refine z_qstore (lo' := [(6, va_rf v1), (0, .ref x0), (2, .int (zi x2)), (3, .int (zi x3)), (4, .int (zi x4)), (5, .int (zi x5))]) hC dX7_shortMonthsUpTo_25 (by decide) rfl ?_
        refine z_qload hC 0 rfl dX7_shortMonthsUpTo_27 ?_
        refine z_ifnonnull (tgt := 35) hC dX7_shortMonthsUpTo_29 (by decide) (fun h0 => ?_) (fun a2 h0 => ?_)
        · subst h0
          refine z_goto (tgt := 50) hC dX7_shortMonthsUpTo_32 (by decide) ?_
          refine z_iinc (lo' := fun v3 => [(5, .int (zi v3)), (6, .null), (0, .ref x0), (2, .int (zi x2)), (3, .int (zi x3)), (4, .int (zi x4))]) hC 5 dX7_shortMonthsUpTo_50 rfl (by decide) (fun _ => rfl) (fun v3 hv3 => ?_)
          refine z_goto (tgt := 8) hC dX7_shortMonthsUpTo_53 (by decide) ?_
          refine z_sub hC [2, 3, 4, 5, 0] (lo' := [(0, .ref x0), (2, .int (zi x2)), (3, .int (zi x3)), (4, .int (zi x4)), (5, .int (zi v3))]) rfl ?_
          exact ih x0 x2 x3 x4 v3 hx2 hx3 hx4 hv3
        · subst h0
          refine z_iinc (lo' := fun v4 => [(3, .int (zi v4)), (6, .ref a2), (0, .ref x0), (2, .int (zi x2)), (4, .int (zi x4)), (5, .int (zi x5))]) hC 3 dX7_shortMonthsUpTo_35 rfl (by decide) (fun _ => rfl) (fun v4 hv4 => ?_)
          refine z_aload hC 1 rfl dX7_shortMonthsUpTo_38 ?_
          refine z_iload_n hC 3 rfl dX7_shortMonthsUpTo_40 rfl ?_
          refine z_cZp (z_rV (q := a2) (t := 3) (As := [.int (zi x2)]) hC (fun _ h1 => SMonth_fallsShort FU a2 x2 hx2 h1) (fun _ h1 => SMonth_fallsShort_k h1) rfl rfl zM7_63 zMv_FMonth_fallsShort ⟨by decide, by decide⟩ rfl rfl rfl (rest := []) (Nat.le_of_ble_eq_true rfl) ⟨Nat.le_of_ble_eq_true rfl, Nat.le_of_ble_eq_true rfl⟩ rfl dX7_shortMonthsUpTo_41) (fun v5 hv5 => ?_)
          refine z_if_eq (tgt := 50) hC (hv5).i dX7_shortMonthsUpTo_44 (by decide) (fun _ => ?_) (fun _ => ?_)
          · refine z_iinc (lo' := fun v6 => [(5, .int (zi v6)), (3, .int (zi v4)), (6, .ref a2), (0, .ref x0), (2, .int (zi x2)), (4, .int (zi x4))]) hC 5 dX7_shortMonthsUpTo_50 rfl (by decide) (fun _ => rfl) (fun v6 hv6 => ?_)
            refine z_goto (tgt := 8) hC dX7_shortMonthsUpTo_53 (by decide) ?_
            refine z_sub hC [3, 4, 1, 5, 0] (lo' := [(0, .ref x0), (2, .int (zi x2)), (3, .int (zi v4)), (4, .int (zi x4)), (5, .int (zi v6))]) rfl ?_
            exact ih x0 x2 v4 x4 v6 hx2 hv4 hx4 hv6
          · refine z_iinc (lo' := fun v7 => [(4, .int (zi v7)), (3, .int (zi v4)), (6, .ref a2), (0, .ref x0), (2, .int (zi x2)), (5, .int (zi x5))]) hC 4 dX7_shortMonthsUpTo_47 rfl (by decide) (fun _ => rfl) (fun v7 hv7 => ?_)
            refine z_iinc (lo' := fun v8 => [(5, .int (zi v8)), (4, .int (zi v7)), (3, .int (zi v4)), (6, .ref a2), (0, .ref x0), (2, .int (zi x2))]) hC 5 dX7_shortMonthsUpTo_50 rfl (by decide) (fun _ => rfl) (fun v8 hv8 => ?_)
            refine z_goto (tgt := 8) hC dX7_shortMonthsUpTo_53 (by decide) ?_
            refine z_sub hC [4, 5, 2, 1, 0] (lo' := [(0, .ref x0), (2, .int (zi x2)), (3, .int (zi v4)), (4, .int (zi v7)), (5, .int (zi v8))]) rfl ?_
            exact ih x0 x2 v4 v7 v8 hx2 hv4 hv7 hv8
      · refine z_iload hC 3 rfl dX7_shortMonthsUpTo_56 ?_
        exact z_iretp hC hx4 hr dX7_shortMonthsUpTo_58
set_option maxRecDepth 100000 in
theorem SShop_shortMonthsUpTo {l : Launch} {D : va_G} {aC : Nat → ClassId} (FU : Nat) (this : Nat) (p1 : Int) (p2 : Int) (hp1 : zInI p1) (hp2 : zInI p2) {G : Hp} {r1 : Int} (h1 : FShop_shortMonthsUpTo FU this p1 p2 G = some r1) : Met l yX7_shortMonthsUpTo (Cond.code yX7_shortMonthsUpTo cX7_shortMonthsUpTo 7 (some .int) :: zgood) ({ frames := 2, cells := 0, slots := 0, locals := 45 } : Room) (va_Pc [.ref this, .int (zi p1), .int (zi p2)] (zU D aC G)) (zQ D aC G (zInI r1) (some (.int (zi r1))) G) 0 0 (zA G) := by
  refine z_met (y := yX7_shortMonthsUpTo) (b := cX7_shortMonthsUpTo) (maxL := 7) (mc := 0) (ms := 0) (ret := (some .int)) (As := [.ref this, .int (zi p1), .int (zi p2)]) (Q1 := fun r1 => zQ D aC G (zInI r1) (some (.int (zi r1))) G) (X := FShop_shortMonthsUpTo FU this p1 p2 G) (by decide) (Nat.le_of_ble_eq_true rfl) ?_ h1
  intro p e s m below meth c hC hr hi
  have hC : zC p m c meth s ([.ref this, .int (zi p1), .int (zi p2)] : List Value).toArray cX7_shortMonthsUpTo 7 RX7 D aC := hC
  generalize ([.ref this, .int (zi p1), .int (zi p2)] : List Value).toArray = args at hC ⊢
  show zS p l e ({ frames := 2, cells := 0, slots := 0, locals := 45 } : Room) s m args below meth c D aC G (fun r1 => zfI D aC G below args s 0 0 (r1, G)) 7 0 0 (FShop_shortMonthsUpTo FU this p1 p2 G) G 0 [(0, .ref this), (1, .int (zi p1)), (2, .int (zi p2))] []
  unfold FShop_shortMonthsUpTo
  refine z_gd ?_
  unfold FShop_shortMonthsUpTo_b
  refine z_iconst hC dX7_shortMonthsUpTo_0 ?_
  refine z_istore_n (lo' := [(3, .int (zi (0))), (0, .ref this), (1, .int (zi p1)), (2, .int (zi p2))]) hC dX7_shortMonthsUpTo_1 rfl (by decide) rfl ?_
  refine z_iconst hC dX7_shortMonthsUpTo_2 ?_
  refine z_istore (lo' := [(4, .int (zi (0))), (3, .int (zi (0))), (0, .ref this), (1, .int (zi p1)), (2, .int (zi p2))]) hC dX7_shortMonthsUpTo_3 (by decide) rfl ?_
  refine z_iload_n hC 3 rfl dX7_shortMonthsUpTo_5 rfl ?_
  refine z_istore (lo' := [(5, .int (zi p1)), (4, .int (zi (0))), (3, .int (zi (0))), (0, .ref this), (1, .int (zi p1)), (2, .int (zi p2))]) hC dX7_shortMonthsUpTo_6 (by decide) rfl ?_
  refine z_sub hC [3, 5, 2, 1, 0] (lo' := [(0, .ref this), (2, .int (zi p2)), (3, .int (zi (0))), (4, .int (zi (0))), (5, .int (zi p1))]) rfl ?_
  exact SShop_shortMonthsUpTo_L8 hC hr FU FU this p2 (0) (0) p1 hp2 (by decide) (by decide) hp1
theorem SShop_shortMonthsUpTo_k {FU : Nat} {this : Nat} {p1 : Int} {p2 : Int} {G : Hp} {r1 : Int} (h1 : FShop_shortMonthsUpTo FU this p1 p2 G = some r1) : zk G this = some (7, 0) := zgd_k (k := FShop_shortMonthsUpTo_b FU this p1 p2 G) h1

set_option maxRecDepth 100000 in
theorem SShop_giveNotice {l : Launch} {D : va_G} {aC : Nat → ClassId} (FU : Nat) (this : Nat) (p1 : Int) (p2 : Int) (hp1 : zInI p1) (hp2 : zInI p2) {G : Hp} {r1 : (Unit × Hp)} (h1 : FShop_giveNotice FU this p1 p2 G = some r1) : Met l yX7_giveNotice (Cond.code yX7_giveNotice cX7_giveNotice 3 none :: zgood) ({ frames := 1, cells := 0, slots := 0, locals := 24 } : Room) (va_Pc [.ref this, .int (zi p1), .int (zi p2)] (zU D aC G)) (zQ D aC G (True) (none) r1.2) 0 0 (zA G) := by
  refine z_met (y := yX7_giveNotice) (b := cX7_giveNotice) (maxL := 3) (mc := 0) (ms := 0) (ret := none) (As := [.ref this, .int (zi p1), .int (zi p2)]) (Q1 := fun r1 => zQ D aC G (True) (none) r1.2) (X := FShop_giveNotice FU this p1 p2 G) (by decide) (Nat.le_of_ble_eq_true rfl) ?_ h1
  intro p e s m below meth c hC hr hi
  have hC : zC p m c meth s ([.ref this, .int (zi p1), .int (zi p2)] : List Value).toArray cX7_giveNotice 3 RX7 D aC := hC
  generalize ([.ref this, .int (zi p1), .int (zi p2)] : List Value).toArray = args at hC ⊢
  show zS p l e ({ frames := 1, cells := 0, slots := 0, locals := 24 } : Room) s m args below meth c D aC G (zfV D aC G below args s 0 0) 3 0 0 (FShop_giveNotice FU this p1 p2 G) G 0 [(0, .ref this), (1, .int (zi p1)), (2, .int (zi p2))] []
  unfold FShop_giveNotice
  refine z_gd ?_
  unfold FShop_giveNotice_b
  refine z_aload_n hC 0 rfl dX7_giveNotice_0 rfl ?_
  refine z_iload_n hC 1 rfl dX7_giveNotice_1 rfl ?_
  refine z_putI hC hp1 zF7_21 rfl rfl dX7_giveNotice_2 (fun G1 => ?_)
  refine z_aload_n hC 0 rfl dX7_giveNotice_5 rfl ?_
  refine z_iload_n hC 2 rfl dX7_giveNotice_6 rfl ?_
  refine z_putI hC hp2 zF7_67 rfl rfl dX7_giveNotice_7 (fun G2 => ?_)
  refine z_aload_n hC 0 rfl dX7_giveNotice_10 rfl ?_
  refine z_iconst hC dX7_giveNotice_11 ?_
  refine z_putI hC (by decide) zF7_70 rfl rfl dX7_giveNotice_12 (fun G3 => ?_)
  refine z_aload_n hC 0 rfl dX7_giveNotice_15 rfl ?_
  refine z_iconst hC dX7_giveNotice_16 ?_
  refine z_putI hC (by decide) zF7_73 rfl rfl dX7_giveNotice_17 (fun G4 => ?_)
  exact z_vret hC hr dX7_giveNotice_20
theorem SShop_giveNotice_k {FU : Nat} {this : Nat} {p1 : Int} {p2 : Int} {G : Hp} {r1 : (Unit × Hp)} (h1 : FShop_giveNotice FU this p1 p2 G = some r1) : zk G this = some (7, 0) := zgd_k (k := FShop_giveNotice_b FU this p1 p2 G) h1

set_option maxRecDepth 100000 in
theorem SSearch_init {l : Launch} {D : va_G} {aC : Nat → ClassId} (FU : Nat) (this : Nat) (p1 : Nat) (p2 : Nat) (p3 : Nat) {G : Hp} {r1 : (Unit × Hp)} (h1 : FSearch_init FU this p1 p2 p3 G = some r1) : Met l yX8_init (Cond.code yX8_init cX8_init 4 none :: zgood) ({ frames := 1, cells := 4, slots := 56, locals := 24 } : Room) (va_Pc [.ref this, .ref p1, .ref p2, .ref p3] (zU D aC G)) (zQ D aC G (True) (none) r1.2) 4 56 (zA G) := by
  refine z_met (y := yX8_init) (b := cX8_init) (maxL := 4) (mc := 4) (ms := 56) (ret := none) (As := [.ref this, .ref p1, .ref p2, .ref p3]) (Q1 := fun r1 => zQ D aC G (True) (none) r1.2) (X := FSearch_init FU this p1 p2 p3 G) (by decide) (Nat.le_of_ble_eq_true rfl) ?_ h1
  intro p e s m below meth c hC hr hi
  have hC : zC p m c meth s ([.ref this, .ref p1, .ref p2, .ref p3] : List Value).toArray cX8_init 4 RX8 D aC := hC
  generalize ([.ref this, .ref p1, .ref p2, .ref p3] : List Value).toArray = args at hC ⊢
  show zS p l e ({ frames := 1, cells := 4, slots := 56, locals := 24 } : Room) s m args below meth c D aC G (zfV D aC G below args s 4 56) 4 0 0 (FSearch_init FU this p1 p2 p3 G) G 0 [(0, .ref this), (1, .ref p1), (2, .ref p2), (3, .ref p3)] []
  unfold FSearch_init
  refine z_aload_n hC 0 rfl dX8_init_0 rfl ?_
  refine z_objInit hC zO8_3 ⟨by decide, by decide⟩ ⟨by decide, by decide⟩ dX8_init_1 ?_
  refine z_aload_n hC 0 rfl dX8_init_4 rfl ?_
  refine z_bipush hC dX8_init_5 rfl ?_
  refine z_newarr20 hC 10 rfl (by decide) (zgood_in 155 (by decide +kernel) (by decide +kernel)) (by decide) (by decide) dX8_init_7 (fun a1 G2 => ?_)
  refine z_widen (k := 1) (n := 10) (by decide) (by decide) ?_
  refine z_putFR hC (t := 8) (k := 3) rfl (by decide) rfl (zgood_in 214 (by decide +kernel) (by decide +kernel)) rfl rfl hi rfl dX8_init_9 (fun G3 => ?_)
  refine z_aload_n hC 0 rfl dX8_init_12 rfl ?_
  refine z_bipush hC dX8_init_13 rfl ?_
  refine z_newarr20 hC 40 rfl (by decide) (zgood_in 155 (by decide +kernel) (by decide +kernel)) (by decide) (by decide) dX8_init_15 (fun a4 G5 => ?_)
  refine z_widen (k := 2) (n := 50) (by decide) (by decide) ?_
  refine z_putFR hC (t := 8) (k := 4) rfl (by decide) rfl (zgood_in 215 (by decide +kernel) (by decide +kernel)) rfl rfl hi rfl dX8_init_17 (fun G6 => ?_)
  refine z_aload_n hC 0 rfl dX8_init_20 rfl ?_
  refine z_iconst hC dX8_init_21 ?_
  refine z_newarr20 hC 3 rfl (by decide) (zgood_in 155 (by decide +kernel) (by decide +kernel)) (by decide) (by decide) dX8_init_22 (fun a7 G8 => ?_)
  refine z_widen (k := 3) (n := 53) (by decide) (by decide) ?_
  refine z_putFR hC (t := 8) (k := 5) rfl (by decide) rfl (zgood_in 216 (by decide +kernel) (by decide +kernel)) rfl rfl hi rfl dX8_init_24 (fun G9 => ?_)
  refine z_aload_n hC 0 rfl dX8_init_27 rfl ?_
  refine z_iconst hC dX8_init_28 ?_
  refine z_newarr20 hC 3 rfl (by decide) (zgood_in 155 (by decide +kernel) (by decide +kernel)) (by decide) (by decide) dX8_init_29 (fun a10 G11 => ?_)
  refine z_widen (k := 4) (n := 56) (by decide) (by decide) ?_
  refine z_putFR hC (t := 8) (k := 6) rfl (by decide) rfl (zgood_in 217 (by decide +kernel) (by decide +kernel)) rfl rfl hi rfl dX8_init_31 (fun G12 => ?_)
  refine z_aload_n hC 0 rfl dX8_init_34 rfl ?_
  refine z_aload_n hC 1 rfl dX8_init_35 rfl ?_
  refine z_putFR hC (t := 8) (k := 0) rfl (by decide) rfl (zgood_in 211 (by decide +kernel) (by decide +kernel)) rfl rfl hi rfl dX8_init_36 (fun G13 => ?_)
  refine z_aload_n hC 0 rfl dX8_init_39 rfl ?_
  refine z_aload_n hC 2 rfl dX8_init_40 rfl ?_
  refine z_putFR hC (t := 8) (k := 1) rfl (by decide) rfl (zgood_in 212 (by decide +kernel) (by decide +kernel)) rfl rfl hi rfl dX8_init_41 (fun G14 => ?_)
  refine z_aload_n hC 0 rfl dX8_init_44 rfl ?_
  refine z_aload_n hC 3 rfl dX8_init_45 rfl ?_
  refine z_putFR hC (t := 8) (k := 2) rfl (by decide) rfl (zgood_in 213 (by decide +kernel) (by decide +kernel)) rfl rfl hi rfl dX8_init_46 (fun G15 => ?_)
  exact z_vret hC hr dX8_init_49

set_option maxRecDepth 100000 in
theorem SSearch_foundAt {l : Launch} {D : va_G} {aC : Nat → ClassId} (FU : Nat) (this : Nat) (p1 : Int) (hp1 : zInI p1) {G : Hp} {r1 : Int} (h1 : FSearch_foundAt FU this p1 G = some r1) : Met l yX8_foundAt (Cond.code yX8_foundAt cX8_foundAt 2 (some .int) :: zgood) ({ frames := 2, cells := 0, slots := 0, locals := 45 } : Room) (va_Pc [.ref this, .int (zi p1)] (zU D aC G)) (zQ D aC G (zInI r1) (some (.int (zi r1))) G) 0 0 (zA G) := by
  refine z_met (y := yX8_foundAt) (b := cX8_foundAt) (maxL := 2) (mc := 0) (ms := 0) (ret := (some .int)) (As := [.ref this, .int (zi p1)]) (Q1 := fun r1 => zQ D aC G (zInI r1) (some (.int (zi r1))) G) (X := FSearch_foundAt FU this p1 G) (by decide) (Nat.le_of_ble_eq_true rfl) ?_ h1
  intro p e s m below meth c hC hr hi
  have hC : zC p m c meth s ([.ref this, .int (zi p1)] : List Value).toArray cX8_foundAt 2 RX8 D aC := hC
  generalize ([.ref this, .int (zi p1)] : List Value).toArray = args at hC ⊢
  show zS p l e ({ frames := 2, cells := 0, slots := 0, locals := 45 } : Room) s m args below meth c D aC G (fun r1 => zfI D aC G below args s 0 0 (r1, G)) 2 0 0 (FSearch_foundAt FU this p1 G) G 0 [(0, .ref this), (1, .int (zi p1))] []
  unfold FSearch_foundAt
  refine z_gd ?_
  unfold FSearch_foundAt_b
  refine z_iload_n hC 1 rfl dX8_foundAt_0 rfl ?_
  refine z_if_lt (tgt := 23) hC hp1 dX8_foundAt_1 (by decide) (fun _ => ?_) (fun _ => ?_)
  · refine z_iconst hC dX8_foundAt_23 ?_
    exact z_iretp hC (by decide) hr dX8_foundAt_24
  · refine z_iload_n hC 1 rfl dX8_foundAt_4 rfl ?_
    refine z_aload_n hC 0 rfl dX8_foundAt_5 rfl ?_
    refine z_getI hC zF8_36 rfl dX8_foundAt_6 (fun v1 hv1 => ?_)
    refine z_icmp_ge (tgt := 23) hC hp1 hv1 dX8_foundAt_9 (by decide) (fun _ => ?_) (fun _ => ?_)
    · refine z_aload_n hC 0 rfl dX8_foundAt_12 rfl ?_
      refine z_getQ hC zF8_21 rfl dX8_foundAt_13 (fun v2 => ?_)
      refine z_iload_n hC 1 rfl dX8_foundAt_16 rfl ?_
      refine z_cIp (z_rS (As := [.ref v2, .int (zi p1)]) hC (fun _ h1 => SB_at FU v2 p1 hp1 h1) zM8_40 zMs_FB_at ⟨by decide, by decide⟩ rfl rfl rfl (rest := []) (Nat.le_of_ble_eq_true rfl) ⟨Nat.le_of_ble_eq_true rfl, Nat.le_of_ble_eq_true rfl⟩ rfl dX8_foundAt_17) (fun v3 hv3 => ?_)
      refine z_goto (tgt := 24) hC dX8_foundAt_20 (by decide) ?_
      exact z_iretp hC hv3 hr dX8_foundAt_24
    · refine z_iconst hC dX8_foundAt_23 ?_
      exact z_iretp hC (by decide) hr dX8_foundAt_24
theorem SSearch_foundAt_k {FU : Nat} {this : Nat} {p1 : Int} {G : Hp} {r1 : Int} (h1 : FSearch_foundAt FU this p1 G = some r1) : zk G this = some (8, 0) := zgd_k (k := FSearch_foundAt_b FU this p1 G) h1

set_option maxRecDepth 100000 in
theorem SB_ownerIn {l : Launch} {D : va_G} {aC : Nat → ClassId} (FU : Nat) (p1 : Int) (hp1 : zInI p1) {G : Hp} {r1 : Int} (h1 : FB_ownerIn FU p1 G = some r1) : Met l yX11_ownerIn (Cond.code yX11_ownerIn cX11_ownerIn 1 (some .int) :: zgood) ({ frames := 1, cells := 0, slots := 0, locals := 24 } : Room) (va_Pc [.int (zi p1)] (zU D aC G)) (zQ D aC G (zInI r1) (some (.int (zi r1))) G) 0 0 (zA G) := by
  refine z_met (y := yX11_ownerIn) (b := cX11_ownerIn) (maxL := 1) (mc := 0) (ms := 0) (ret := (some .int)) (As := [.int (zi p1)]) (Q1 := fun r1 => zQ D aC G (zInI r1) (some (.int (zi r1))) G) (X := FB_ownerIn FU p1 G) (by decide) (Nat.le_of_ble_eq_true rfl) ?_ h1
  intro p e s m below meth c hC hr hi
  have hC : zC p m c meth s ([.int (zi p1)] : List Value).toArray cX11_ownerIn 1 RX11 D aC := hC
  generalize ([.int (zi p1)] : List Value).toArray = args at hC ⊢
  show zS p l e ({ frames := 1, cells := 0, slots := 0, locals := 24 } : Room) s m args below meth c D aC G (fun r1 => zfI D aC G below args s 0 0 (r1, G)) 1 0 0 (FB_ownerIn FU p1 G) G 0 [(0, .int (zi p1))] []
  unfold FB_ownerIn
  refine z_iload_n hC 0 rfl dX11_ownerIn_0 rfl ?_
  refine z_bipush hC dX11_ownerIn_1 rfl ?_
  refine z_idiv hC hp1 (by decide) dX11_ownerIn_3 (fun v1 hv1 => ?_)
  exact z_iretp hC hv1 hr dX11_ownerIn_4

set_option maxRecDepth 100000 in
theorem SB_likeIn {l : Launch} {D : va_G} {aC : Nat → ClassId} (FU : Nat) (p1 : Int) (hp1 : zInI p1) {G : Hp} {r1 : Int} (h1 : FB_likeIn FU p1 G = some r1) : Met l yX11_likeIn (Cond.code yX11_likeIn cX11_likeIn 1 (some .int) :: zgood) ({ frames := 1, cells := 0, slots := 0, locals := 24 } : Room) (va_Pc [.int (zi p1)] (zU D aC G)) (zQ D aC G (zInI r1) (some (.int (zi r1))) G) 0 0 (zA G) := by
  refine z_met (y := yX11_likeIn) (b := cX11_likeIn) (maxL := 1) (mc := 0) (ms := 0) (ret := (some .int)) (As := [.int (zi p1)]) (Q1 := fun r1 => zQ D aC G (zInI r1) (some (.int (zi r1))) G) (X := FB_likeIn FU p1 G) (by decide) (Nat.le_of_ble_eq_true rfl) ?_ h1
  intro p e s m below meth c hC hr hi
  have hC : zC p m c meth s ([.int (zi p1)] : List Value).toArray cX11_likeIn 1 RX11 D aC := hC
  generalize ([.int (zi p1)] : List Value).toArray = args at hC ⊢
  show zS p l e ({ frames := 1, cells := 0, slots := 0, locals := 24 } : Room) s m args below meth c D aC G (fun r1 => zfI D aC G below args s 0 0 (r1, G)) 1 0 0 (FB_likeIn FU p1 G) G 0 [(0, .int (zi p1))] []
  unfold FB_likeIn
  refine z_iload_n hC 0 rfl dX11_likeIn_0 rfl ?_
  refine z_bipush hC dX11_likeIn_1 rfl ?_
  refine z_irem hC hp1 (by decide) dX11_likeIn_3 (fun v1 hv1 => ?_)
  exact z_iretp hC hv1 hr dX11_likeIn_4

set_option maxRecDepth 100000 in
theorem STown_siteAt {l : Launch} {D : va_G} {aC : Nat → ClassId} (FU : Nat) (this : Nat) (p1 : Int) (hp1 : zInI p1) {G : Hp} {r1 : Int} (h1 : FTown_siteAt FU this p1 G = some r1) : Met l yX10_siteAt (Cond.code yX10_siteAt cX10_siteAt 2 (some .int) :: zgood) ({ frames := 2, cells := 0, slots := 0, locals := 45 } : Room) (va_Pc [.ref this, .int (zi p1)] (zU D aC G)) (zQ D aC G (zInI r1) (some (.int (zi r1))) G) 0 0 (zA G) := by
  refine z_met (y := yX10_siteAt) (b := cX10_siteAt) (maxL := 2) (mc := 0) (ms := 0) (ret := (some .int)) (As := [.ref this, .int (zi p1)]) (Q1 := fun r1 => zQ D aC G (zInI r1) (some (.int (zi r1))) G) (X := FTown_siteAt FU this p1 G) (by decide) (Nat.le_of_ble_eq_true rfl) ?_ h1
  intro p e s m below meth c hC hr hi
  have hC : zC p m c meth s ([.ref this, .int (zi p1)] : List Value).toArray cX10_siteAt 2 RX10 D aC := hC
  generalize ([.ref this, .int (zi p1)] : List Value).toArray = args at hC ⊢
  show zS p l e ({ frames := 2, cells := 0, slots := 0, locals := 45 } : Room) s m args below meth c D aC G (fun r1 => zfI D aC G below args s 0 0 (r1, G)) 2 0 0 (FTown_siteAt FU this p1 G) G 0 [(0, .ref this), (1, .int (zi p1))] []
  unfold FTown_siteAt
  refine z_gd ?_
  unfold FTown_siteAt_b
  refine z_aload_n hC 0 rfl dX10_siteAt_0 rfl ?_
  refine z_getQ hC zF10_23 rfl dX10_siteAt_1 (fun v1 => ?_)
  refine z_iload_n hC 1 rfl dX10_siteAt_4 rfl ?_
  refine z_cIp (z_rS (As := [.ref v1, .int (zi p1)]) hC (fun _ h1 => SB_at FU v1 p1 hp1 h1) zM10_34 zMs_FB_at ⟨by decide, by decide⟩ rfl rfl rfl (rest := []) (Nat.le_of_ble_eq_true rfl) ⟨Nat.le_of_ble_eq_true rfl, Nat.le_of_ble_eq_true rfl⟩ rfl dX10_siteAt_5) (fun v2 hv2 => ?_)
  exact z_iretp hC hv2 hr dX10_siteAt_8
theorem STown_siteAt_k {FU : Nat} {this : Nat} {p1 : Int} {G : Hp} {r1 : Int} (h1 : FTown_siteAt FU this p1 G = some r1) : zk G this = some (10, 0) := zgd_k (k := FTown_siteAt_b FU this p1 G) h1

set_option maxRecDepth 100000 in
theorem SSearch_collectFree_L7 {p : Program} {l : Launch} {e : Env} {s : State} {m : MethodId} {args : Array Value} {below : List Frame} {meth : Method} {c : Code} {D : va_G} {aC : Nat → ClassId} {G0 : Hp} (hC : zC p m c meth s args cX8_collectFree 3 RX8 D aC) (hr : meth.sig.returnType = none) (FU : Nat) : ∀ (n : Nat) (x0 : Nat) (x1 : Int) (G : Hp) (hx1 : zInI x1), zS p l e ({ frames := 5, cells := 0, slots := 0, locals := 118 } : Room) s m args below meth c D aC G0 (zfV D aC G0 below args s 0 0) 3 0 0 (FSearch_collectFree_L7 FU n x0 x1 G) G 7 [(0, .ref x0), (1, .int (zi x1))] [] := by
  intro n
  induction n with
  | zero => intros; exact z_none
  | succ n ih =>
    intro x0 x1 G hx1
    rw [FSearch_collectFree_L7]
    refine z_iload_n hC 1 rfl dX8_collectFree_7 rfl ?_
    refine z_aload_n hC 0 rfl dX8_collectFree_8 rfl ?_
    refine z_getQ hC zF8_24 rfl dX8_collectFree_9 (fun v1 => ?_)
    refine z_getI hC zF8_85 rfl dX8_collectFree_12 (fun v2 hv2 => ?_)
    refine z_icmp_ge (tgt := 84) hC hx1 hv2 dX8_collectFree_15 (by decide) (fun _ => ?_) (fun _ => ?_)
    · refine z_aload_n hC 0 rfl dX8_collectFree_18 rfl ?_
      refine z_getQ hC zF8_24 rfl dX8_collectFree_19 (fun v3 => ?_)
      refine z_iload_n hC 1 rfl dX8_collectFree_22 rfl ?_
      refine z_cIp (z_rV (q := v3) (t := 10) (As := [.int (zi x1)]) hC (fun _ h1 => STown_siteAt FU v3 x1 hx1 h1) (fun _ h1 => STown_siteAt_k h1) rfl rfl zM8_90 zMv_FTown_siteAt ⟨by decide, by decide⟩ rfl rfl rfl (rest := []) (Nat.le_of_ble_eq_true rfl) ⟨Nat.le_of_ble_eq_true rfl, Nat.le_of_ble_eq_true rfl⟩ rfl dX8_collectFree_23) (fun v4 hv4 => ?_)
      refine z_istore_n (lo' := [(2, .int (zi v4)), (0, .ref x0), (1, .int (zi x1))]) hC dX8_collectFree_26 rfl (by decide) rfl ?_
      refine z_aload_n hC 1 rfl dX8_collectFree_27 rfl ?_
      refine z_getQ hC zF8_28 rfl dX8_collectFree_28 (fun v5 => ?_)
      refine z_iload_n hC 0 rfl dX8_collectFree_31 rfl ?_
      refine z_cZp (z_rV (q := v5) (t := 0) (As := [.int (zi v4)]) hC (fun _ h1 => SChain_isTaken FU v5 v4 hv4 h1) (fun _ h1 => SChain_isTaken_k h1) rfl rfl zM8_93 zMv_FChain_isTaken ⟨by decide, by decide⟩ rfl rfl rfl (rest := []) (Nat.le_of_ble_eq_true rfl) ⟨Nat.le_of_ble_eq_true rfl, Nat.le_of_ble_eq_true rfl⟩ rfl dX8_collectFree_32) (fun v6 hv6 => ?_)
      refine z_if_ne (tgt := 78) hC (hv6).i dX8_collectFree_35 (by decide) (fun _ => ?_) (fun _ => ?_)
      · refine z_aload_n hC 1 rfl dX8_collectFree_38 rfl ?_
        refine z_getQ hC zF8_28 rfl dX8_collectFree_39 (fun v7 => ?_)
        refine z_iload_n hC 0 rfl dX8_collectFree_42 rfl ?_
        refine z_aload_n hC 1 rfl dX8_collectFree_43 rfl ?_
        refine z_getI hC zF8_51 rfl dX8_collectFree_44 (fun v8 hv8 => ?_)
        refine z_cZp (z_rV (q := v7) (t := 0) (As := [.int (zi v4), .int (zi v8)]) hC (fun _ h1 => SChain_isBarred FU v7 v4 v8 hv4 hv8 h1) (fun _ h1 => SChain_isBarred_k h1) rfl rfl zM8_99 zMv_FChain_isBarred ⟨by decide, by decide⟩ rfl rfl rfl (rest := []) (Nat.le_of_ble_eq_true rfl) ⟨Nat.le_of_ble_eq_true rfl, Nat.le_of_ble_eq_true rfl⟩ rfl dX8_collectFree_47) (fun v9 hv9 => ?_)
        refine z_if_eq (tgt := 56) hC (hv9).i dX8_collectFree_50 (by decide) (fun _ => ?_) (fun _ => ?_)
        · refine z_aload_n hC 1 rfl dX8_collectFree_56 rfl ?_
          refine z_getQ hC zF8_9 rfl dX8_collectFree_57 (fun v10 => ?_)
          refine z_aload_n hC 1 rfl dX8_collectFree_60 rfl ?_
          refine z_getI hC zF8_82 rfl dX8_collectFree_61 (fun v11 hv11 => ?_)
          refine z_iload_n hC 0 rfl dX8_collectFree_64 rfl ?_
          refine z_cV (z_rS (As := [.ref v10, .int (zi v11), .int (zi v4)]) hC (fun _ h1 => SB_put FU v10 v11 v4 hv11 hv4 h1) zM8_103 zMs_FB_put ⟨by decide, by decide⟩ rfl rfl rfl (rest := []) (Nat.le_of_ble_eq_true rfl) ⟨Nat.le_of_ble_eq_true rfl, Nat.le_of_ble_eq_true rfl⟩ rfl dX8_collectFree_65) (fun G12 => ?_)
          refine z_aload_n hC 1 rfl dX8_collectFree_68 rfl ?_
          refine z_dup hC rfl dX8_collectFree_69 ?_
          refine z_getI hC zF8_82 rfl dX8_collectFree_70 (fun v13 hv13 => ?_)
          refine z_iconst hC dX8_collectFree_73 ?_
          refine z_iadd hC dX8_collectFree_74 (fun v14 hv14 => ?_)
          refine z_putI hC hv14 zF8_82 rfl rfl dX8_collectFree_75 (fun G15 => ?_)
          refine z_iinc (lo' := fun v16 => [(1, .int (zi v16)), (2, .int (zi v4)), (0, .ref x0)]) hC 2 dX8_collectFree_78 rfl (by decide) (fun _ => rfl) (fun v16 hv16 => ?_)
          refine z_goto (tgt := 7) hC dX8_collectFree_81 (by decide) ?_
          refine z_sub hC [2, 0] (lo' := [(0, .ref x0), (1, .int (zi v16))]) rfl ?_
          exact ih x0 v16 G15 hv16
        · refine z_goto (tgt := 78) hC dX8_collectFree_53 (by decide) ?_
          refine z_iinc (lo' := fun v17 => [(1, .int (zi v17)), (2, .int (zi v4)), (0, .ref x0)]) hC 2 dX8_collectFree_78 rfl (by decide) (fun _ => rfl) (fun v17 hv17 => ?_)
          refine z_goto (tgt := 7) hC dX8_collectFree_81 (by decide) ?_
          refine z_sub hC [2, 0] (lo' := [(0, .ref x0), (1, .int (zi v17))]) rfl ?_
          exact ih x0 v17 G hv17
      · refine z_iinc (lo' := fun v18 => [(1, .int (zi v18)), (2, .int (zi v4)), (0, .ref x0)]) hC 2 dX8_collectFree_78 rfl (by decide) (fun _ => rfl) (fun v18 hv18 => ?_)
        refine z_goto (tgt := 7) hC dX8_collectFree_81 (by decide) ?_
        refine z_sub hC [2, 0] (lo' := [(0, .ref x0), (1, .int (zi v18))]) rfl ?_
        exact ih x0 v18 G hv18
    · exact z_vret hC hr dX8_collectFree_84
set_option maxRecDepth 100000 in
theorem SSearch_collectFree {l : Launch} {D : va_G} {aC : Nat → ClassId} (FU : Nat) (this : Nat) {G : Hp} {r1 : (Unit × Hp)} (h1 : FSearch_collectFree FU this G = some r1) : Met l yX8_collectFree (Cond.code yX8_collectFree cX8_collectFree 3 none :: zgood) ({ frames := 5, cells := 0, slots := 0, locals := 118 } : Room) (va_Pc [.ref this] (zU D aC G)) (zQ D aC G (True) (none) r1.2) 0 0 (zA G) := by
  refine z_met (y := yX8_collectFree) (b := cX8_collectFree) (maxL := 3) (mc := 0) (ms := 0) (ret := none) (As := [.ref this]) (Q1 := fun r1 => zQ D aC G (True) (none) r1.2) (X := FSearch_collectFree FU this G) (by decide) (Nat.le_of_ble_eq_true rfl) ?_ h1
  intro p e s m below meth c hC hr hi
  have hC : zC p m c meth s ([.ref this] : List Value).toArray cX8_collectFree 3 RX8 D aC := hC
  generalize ([.ref this] : List Value).toArray = args at hC ⊢
  show zS p l e ({ frames := 5, cells := 0, slots := 0, locals := 118 } : Room) s m args below meth c D aC G (zfV D aC G below args s 0 0) 3 0 0 (FSearch_collectFree FU this G) G 0 [(0, .ref this)] []
  unfold FSearch_collectFree
  refine z_gd ?_
  unfold FSearch_collectFree_b
  refine z_aload_n hC 0 rfl dX8_collectFree_0 rfl ?_
  refine z_iconst hC dX8_collectFree_1 ?_
  refine z_putI hC (by decide) zF8_82 rfl rfl dX8_collectFree_2 (fun G1 => ?_)
  refine z_iconst hC dX8_collectFree_5 ?_
  refine z_istore_n (lo' := [(1, .int (zi (0))), (0, .ref this)]) hC dX8_collectFree_6 rfl (by decide) rfl ?_
  refine z_sub hC [1, 0] (lo' := [(0, .ref this), (1, .int (zi (0)))]) rfl ?_
  exact SSearch_collectFree_L7 hC hr FU FU this (0) G1 (by decide)
theorem SSearch_collectFree_k {FU : Nat} {this : Nat} {G : Hp} {r1 : (Unit × Hp)} (h1 : FSearch_collectFree FU this G = some r1) : zk G this = some (8, 0) := zgd_k (k := FSearch_collectFree_b FU this G) h1

set_option maxRecDepth 100000 in
theorem SB_lossInThousandths {l : Launch} {D : va_G} {aC : Nat → ClassId} (FU : Nat) (p1 : Int) (p2 : Int) (hp1 : zInI p1) (hp2 : zInI p2) {G : Hp} {r1 : Int} (h1 : FB_lossInThousandths FU p1 p2 G = some r1) : Met l yX11_lossInThousandths (Cond.code yX11_lossInThousandths cX11_lossInThousandths 4 (some .int) :: zgood) ({ frames := 1, cells := 0, slots := 0, locals := 24 } : Room) (va_Pc [.int (zi p1), .int (zi p2)] (zU D aC G)) (zQ D aC G (zInI r1) (some (.int (zi r1))) G) 0 0 (zA G) := by
  refine z_met (y := yX11_lossInThousandths) (b := cX11_lossInThousandths) (maxL := 4) (mc := 0) (ms := 0) (ret := (some .int)) (As := [.int (zi p1), .int (zi p2)]) (Q1 := fun r1 => zQ D aC G (zInI r1) (some (.int (zi r1))) G) (X := FB_lossInThousandths FU p1 p2 G) (by decide) (Nat.le_of_ble_eq_true rfl) ?_ h1
  intro p e s m below meth c hC hr hi
  have hC : zC p m c meth s ([.int (zi p1), .int (zi p2)] : List Value).toArray cX11_lossInThousandths 4 RX11 D aC := hC
  generalize ([.int (zi p1), .int (zi p2)] : List Value).toArray = args at hC ⊢
  show zS p l e ({ frames := 1, cells := 0, slots := 0, locals := 24 } : Room) s m args below meth c D aC G (fun r1 => zfI D aC G below args s 0 0 (r1, G)) 4 0 0 (FB_lossInThousandths FU p1 p2 G) G 0 [(0, .int (zi p1)), (1, .int (zi p2))] []
  unfold FB_lossInThousandths
  refine z_iload_n hC 0 rfl dX11_lossInThousandths_0 rfl ?_
  refine z_if_le (tgt := 9) hC hp1 dX11_lossInThousandths_1 (by decide) (fun _ => ?_) (fun _ => ?_)
  · refine z_iconst hC dX11_lossInThousandths_9 ?_
    exact z_iretp hC (by decide) hr dX11_lossInThousandths_10
  · refine z_iload_n hC 1 rfl dX11_lossInThousandths_4 rfl ?_
    refine z_iload_n hC 0 rfl dX11_lossInThousandths_5 rfl ?_
    refine z_icmp_lt (tgt := 11) hC hp2 hp1 dX11_lossInThousandths_6 (by decide) (fun _ => ?_) (fun _ => ?_)
    · refine z_iload_n hC 0 rfl dX11_lossInThousandths_11 rfl ?_
      refine z_iload_n hC 1 rfl dX11_lossInThousandths_12 rfl ?_
      refine z_isub hC dX11_lossInThousandths_13 (fun v1 hv1 => ?_)
      refine z_i2l hC hv1 dX11_lossInThousandths_14 ?_
      refine z_ldc2 (z := 1000) hC dX11_lossInThousandths_15 zc11_322 ?_
      refine z_lmul hC dX11_lossInThousandths_18 (fun v2 hv2 => ?_)
      refine z_lstore_n (lo' := [(2, .long (zl v2)), (0, .int (zi p1)), (1, .int (zi p2))]) hC dX11_lossInThousandths_19 rfl (by decide) rfl ?_
      refine z_lload_n hC 0 rfl dX11_lossInThousandths_20 rfl ?_
      refine z_iload_n hC 1 rfl dX11_lossInThousandths_21 rfl ?_
      refine z_i2l hC hp1 dX11_lossInThousandths_22 ?_
      refine z_ladd hC dX11_lossInThousandths_23 (fun v3 hv3 => ?_)
      refine z_lconst (z := 1) hC dX11_lossInThousandths_24 rfl ?_
      refine z_lsub hC dX11_lossInThousandths_25 (fun v4 hv4 => ?_)
      refine z_iload_n hC 1 rfl dX11_lossInThousandths_26 rfl ?_
      refine z_i2l hC hp1 dX11_lossInThousandths_27 ?_
      refine z_ldiv hC hv4 (zInI.l hp1) dX11_lossInThousandths_28 (fun v5 hv5 => ?_)
      refine z_l2i hC dX11_lossInThousandths_29 (fun v6 hv6 => ?_)
      exact z_iretp hC hv6 hr dX11_lossInThousandths_30
    · refine z_iconst hC dX11_lossInThousandths_9 ?_
      exact z_iretp hC (by decide) hr dX11_lossInThousandths_10

set_option maxRecDepth 100000 in
theorem SSearch_harmsTooMuch_L2 {p : Program} {l : Launch} {e : Env} {s : State} {m : MethodId} {args : Array Value} {below : List Frame} {meth : Method} {c : Code} {D : va_G} {aC : Nat → ClassId} {G0 : Hp} (hC : zC p m c meth s args cX8_harmsTooMuch 3 RX8 D aC) (hr : meth.sig.returnType = (some .boolean)) (FU : Nat) : ∀ (n : Nat) (x0 : Nat) (x1 : Int) (hx1 : zInI x1), zS p l e ({ frames := 4, cells := 0, slots := 0, locals := 93 } : Room) s m args below meth c D aC G0 (fun r1 => zfZ D aC G0 below args s 0 0 (r1, G0)) 3 0 0 (FSearch_harmsTooMuch_L2 FU n x0 x1 G0) G0 2 [(0, .ref x0), (1, .int (zi x1))] [] := by
  intro n
  induction n with
  | zero => intros; exact z_none
  | succ n ih =>
    intro x0 x1 hx1
    rw [FSearch_harmsTooMuch_L2]
    refine z_iload_n hC 1 rfl dX8_harmsTooMuch_2 rfl ?_
    refine z_aload_n hC 0 rfl dX8_harmsTooMuch_3 rfl ?_
    refine z_getQ hC zF8_28 rfl dX8_harmsTooMuch_4 (fun v1 => ?_)
    refine z_getI hC zF8_124 rfl dX8_harmsTooMuch_7 (fun v2 hv2 => ?_)
    refine z_icmp_ge (tgt := 74) hC hx1 hv2 dX8_harmsTooMuch_10 (by decide) (fun _ => ?_) (fun _ => ?_)
    · refine z_aload_n hC 0 rfl dX8_harmsTooMuch_13 rfl ?_
      refine z_getQ hC zF8_28 rfl dX8_harmsTooMuch_14 (fun v3 => ?_)
      refine z_iload_n hC 1 rfl dX8_harmsTooMuch_17 rfl ?_
      refine z_cAp (z_rV (q := v3) (t := 0) (As := [.int (zi x1)]) hC (fun _ h1 => SChain_shopAt FU v3 x1 hx1 h1) (fun _ h1 => SChain_shopAt_k h1) rfl rfl zM8_127 zMv_FChain_shopAt ⟨by decide, by decide⟩ rfl rfl rfl (rest := []) (Nat.le_of_ble_eq_true rfl) ⟨Nat.le_of_ble_eq_true rfl, Nat.le_of_ble_eq_true rfl⟩ rfl dX8_harmsTooMuch_18) (fun v4 => ?_)
      refine z_qstore_n (lo' := [(2, va_rf v4), (0, .ref x0), (1, .int (zi x1))]) hC dX8_harmsTooMuch_21 rfl (by decide) rfl ?_
      refine z_qload_n hC 0 rfl dX8_harmsTooMuch_22 rfl ?_
      refine z_ifnull (tgt := 68) hC dX8_harmsTooMuch_23 (by decide) (fun h0 => ?_) (fun a5 h0 => ?_)
      · subst h0
        refine z_iinc (lo' := fun v6 => [(1, .int (zi v6)), (2, .null), (0, .ref x0)]) hC 2 dX8_harmsTooMuch_68 rfl (by decide) (fun _ => rfl) (fun v6 hv6 => ?_)
        refine z_goto (tgt := 2) hC dX8_harmsTooMuch_71 (by decide) ?_
        refine z_sub hC [2, 0] (lo' := [(0, .ref x0), (1, .int (zi v6))]) rfl ?_
        exact ih x0 v6 hv6
      · subst h0
        refine z_aload_n hC 0 rfl dX8_harmsTooMuch_26 rfl ?_
        refine z_getI hC zF8_131 rfl dX8_harmsTooMuch_27 (fun v7 hv7 => ?_)
        refine z_aload_n hC 1 rfl dX8_harmsTooMuch_30 rfl ?_
        refine z_getI hC zF8_51 rfl dX8_harmsTooMuch_31 (fun v8 hv8 => ?_)
        refine z_icmp_ne (tgt := 40) hC hv7 hv8 dX8_harmsTooMuch_34 (by decide) (fun _ => ?_) (fun _ => ?_)
        · refine z_goto (tgt := 68) hC dX8_harmsTooMuch_37 (by decide) ?_
          refine z_iinc (lo' := fun v9 => [(1, .int (zi v9)), (2, .ref a5), (0, .ref x0)]) hC 2 dX8_harmsTooMuch_68 rfl (by decide) (fun _ => rfl) (fun v9 hv9 => ?_)
          refine z_goto (tgt := 2) hC dX8_harmsTooMuch_71 (by decide) ?_
          refine z_sub hC [2, 0] (lo' := [(0, .ref x0), (1, .int (zi v9))]) rfl ?_
          exact ih x0 v9 hv9
        · refine z_aload_n hC 1 rfl dX8_harmsTooMuch_40 rfl ?_
          refine z_getQ hC zF8_15 rfl dX8_harmsTooMuch_41 (fun v10 => ?_)
          refine z_iload_n hC 2 rfl dX8_harmsTooMuch_44 rfl ?_
          refine z_cIp (z_rS (As := [.ref v10, .int (zi x1)]) hC (fun _ h1 => SB_at FU v10 x1 hx1 h1) zM8_40 zMs_FB_at ⟨by decide, by decide⟩ rfl rfl rfl (rest := []) (Nat.le_of_ble_eq_true rfl) ⟨Nat.le_of_ble_eq_true rfl, Nat.le_of_ble_eq_true rfl⟩ rfl dX8_harmsTooMuch_45) (fun v11 hv11 => ?_)
          refine z_aload_n hC 1 rfl dX8_harmsTooMuch_48 rfl ?_
          refine z_getQ hC zF8_32 rfl dX8_harmsTooMuch_49 (fun v12 => ?_)
          refine z_iload_n hC 2 rfl dX8_harmsTooMuch_52 rfl ?_
          refine z_cIp (z_rV (q := v12) (t := 2) (As := [.int (zi x1)]) hC (fun _ h1 => SMarket_takingsOf FU v12 x1 hx1 h1) (fun _ h1 => SMarket_takingsOf_k h1) rfl rfl zM8_72 zMv_FMarket_takingsOf ⟨by decide, by decide⟩ rfl rfl rfl (rest := [.int (zi v11)]) (Nat.le_of_ble_eq_true rfl) ⟨Nat.le_of_ble_eq_true rfl, Nat.le_of_ble_eq_true rfl⟩ rfl dX8_harmsTooMuch_53) (fun v13 hv13 => ?_)
          refine z_cIp (z_rS (As := [.int (zi v11), .int (zi v13)]) hC (fun _ h1 => SB_lossInThousandths FU v11 v13 hv11 hv13 h1) zM8_134 zMs_FB_lossInThousandths ⟨by decide, by decide⟩ rfl rfl rfl (rest := []) (Nat.le_of_ble_eq_true rfl) ⟨Nat.le_of_ble_eq_true rfl, Nat.le_of_ble_eq_true rfl⟩ rfl dX8_harmsTooMuch_56) (fun v14 hv14 => ?_)
          refine z_aload_n hC 1 rfl dX8_harmsTooMuch_59 rfl ?_
          refine z_getI hC zF8_60 rfl dX8_harmsTooMuch_60 (fun v15 hv15 => ?_)
          refine z_icmp_le (tgt := 68) hC hv14 hv15 dX8_harmsTooMuch_63 (by decide) (fun _ => ?_) (fun _ => ?_)
          · refine z_iinc (lo' := fun v16 => [(1, .int (zi v16)), (2, .ref a5), (0, .ref x0)]) hC 2 dX8_harmsTooMuch_68 rfl (by decide) (fun _ => rfl) (fun v16 hv16 => ?_)
            refine z_goto (tgt := 2) hC dX8_harmsTooMuch_71 (by decide) ?_
            refine z_sub hC [2, 0] (lo' := [(0, .ref x0), (1, .int (zi v16))]) rfl ?_
            exact ih x0 v16 hv16
          · refine z_iconst hC dX8_harmsTooMuch_66 ?_
            exact z_zretp hC hr dX8_harmsTooMuch_67
    · refine z_iconst hC dX8_harmsTooMuch_74 ?_
      exact z_zretp hC hr dX8_harmsTooMuch_75
set_option maxRecDepth 100000 in
theorem SSearch_harmsTooMuch {l : Launch} {D : va_G} {aC : Nat → ClassId} (FU : Nat) (this : Nat) {G : Hp} {r1 : Int} (h1 : FSearch_harmsTooMuch FU this G = some r1) : Met l yX8_harmsTooMuch (Cond.code yX8_harmsTooMuch cX8_harmsTooMuch 3 (some .boolean) :: zgood) ({ frames := 4, cells := 0, slots := 0, locals := 93 } : Room) (va_Pc [.ref this] (zU D aC G)) (zQ D aC G (zIn01 r1) (some (.int (zi r1))) G) 0 0 (zA G) := by
  refine z_met (y := yX8_harmsTooMuch) (b := cX8_harmsTooMuch) (maxL := 3) (mc := 0) (ms := 0) (ret := (some .boolean)) (As := [.ref this]) (Q1 := fun r1 => zQ D aC G (zIn01 r1) (some (.int (zi r1))) G) (X := FSearch_harmsTooMuch FU this G) (by decide) (Nat.le_of_ble_eq_true rfl) ?_ h1
  intro p e s m below meth c hC hr hi
  have hC : zC p m c meth s ([.ref this] : List Value).toArray cX8_harmsTooMuch 3 RX8 D aC := hC
  generalize ([.ref this] : List Value).toArray = args at hC ⊢
  show zS p l e ({ frames := 4, cells := 0, slots := 0, locals := 93 } : Room) s m args below meth c D aC G (fun r1 => zfZ D aC G below args s 0 0 (r1, G)) 3 0 0 (FSearch_harmsTooMuch FU this G) G 0 [(0, .ref this)] []
  unfold FSearch_harmsTooMuch
  refine z_gd ?_
  unfold FSearch_harmsTooMuch_b
  refine z_iconst hC dX8_harmsTooMuch_0 ?_
  refine z_istore_n (lo' := [(1, .int (zi (0))), (0, .ref this)]) hC dX8_harmsTooMuch_1 rfl (by decide) rfl ?_
  refine z_sub hC [1, 0] (lo' := [(0, .ref this), (1, .int (zi (0)))]) rfl ?_
  exact SSearch_harmsTooMuch_L2 hC hr FU FU this (0) (by decide)
theorem SSearch_harmsTooMuch_k {FU : Nat} {this : Nat} {G : Hp} {r1 : Int} (h1 : FSearch_harmsTooMuch FU this G = some r1) : zk G this = some (8, 0) := zgd_k (k := FSearch_harmsTooMuch_b FU this G) h1

set_option maxRecDepth 100000 in
theorem SSearch_weigh_L44 {p : Program} {l : Launch} {e : Env} {s : State} {m : MethodId} {args : Array Value} {below : List Frame} {meth : Method} {c : Code} {D : va_G} {aC : Nat → ClassId} {G0 : Hp} (hC : zC p m c meth s args cX8_weigh 3 RX8 D aC) (hr : meth.sig.returnType = none) (FU : Nat) : ∀ (n : Nat) (x0 : Nat) (x2 : Int) (G : Hp) (hx2 : zInI x2), zS p l e ({ frames := 5, cells := 0, slots := 0, locals := 116 } : Room) s m args below meth c D aC G0 (zfV D aC G0 below args s 0 0) 3 0 0 (FSearch_weigh_L44 FU n x0 x2 G) G 44 [(0, .ref x0), (2, .int (zi x2))] [] := by
  intro n
  induction n with
  | zero => intros; exact z_none
  | succ n ih =>
    intro x0 x2 G hx2
    rw [FSearch_weigh_L44]
    refine z_iload_n hC 1 rfl dX8_weigh_44 rfl ?_
    refine z_aload_n hC 0 rfl dX8_weigh_45 rfl ?_
    refine z_getI hC zF8_44 rfl dX8_weigh_46 (fun v1 hv1 => ?_)
    refine z_icmp_ge (tgt := 74) hC hx2 hv1 dX8_weigh_49 (by decide) (fun _ => ?_) (fun _ => ?_)
    · refine z_aload_n hC 0 rfl dX8_weigh_52 rfl ?_
      refine z_getQ hC zF8_21 rfl dX8_weigh_53 (fun v2 => ?_)
      refine z_iload_n hC 1 rfl dX8_weigh_56 rfl ?_
      refine z_aload_n hC 0 rfl dX8_weigh_57 rfl ?_
      refine z_getQ hC zF8_18 rfl dX8_weigh_58 (fun v3 => ?_)
      refine z_iload_n hC 1 rfl dX8_weigh_61 rfl ?_
      refine z_cIp (z_rS (As := [.ref v3, .int (zi x2)]) hC (fun _ h1 => SB_at FU v3 x2 hx2 h1) zM8_40 zMs_FB_at ⟨by decide, by decide⟩ rfl rfl rfl (rest := [.int (zi x2), .ref v2]) (Nat.le_of_ble_eq_true rfl) ⟨Nat.le_of_ble_eq_true rfl, Nat.le_of_ble_eq_true rfl⟩ rfl dX8_weigh_62) (fun v4 hv4 => ?_)
      refine z_cV (z_rS (As := [.ref v2, .int (zi x2), .int (zi v4)]) hC (fun _ h1 => SB_put FU v2 x2 v4 hx2 hv4 h1) zM8_103 zMs_FB_put ⟨by decide, by decide⟩ rfl rfl rfl (rest := []) (Nat.le_of_ble_eq_true rfl) ⟨Nat.le_of_ble_eq_true rfl, Nat.le_of_ble_eq_true rfl⟩ rfl dX8_weigh_65) (fun G5 => ?_)
      refine z_iinc (lo' := fun v6 => [(2, .int (zi v6)), (0, .ref x0)]) hC 1 dX8_weigh_68 rfl (by decide) (fun _ => rfl) (fun v6 hv6 => ?_)
      refine z_goto (tgt := 44) hC dX8_weigh_71 (by decide) ?_
      refine z_sub hC [1, 0] (lo' := [(0, .ref x0), (2, .int (zi v6))]) rfl ?_
      exact ih x0 v6 G5 hv6
    · exact z_vret hC hr dX8_weigh_74
set_option maxRecDepth 100000 in
theorem SSearch_weigh {l : Launch} {D : va_G} {aC : Nat → ClassId} (FU : Nat) (this : Nat) {G : Hp} {r1 : (Unit × Hp)} (h1 : FSearch_weigh FU this G = some r1) : Met l yX8_weigh (Cond.code yX8_weigh cX8_weigh 3 none :: zgood) ({ frames := 5, cells := 0, slots := 0, locals := 116 } : Room) (va_Pc [.ref this] (zU D aC G)) (zQ D aC G (True) (none) r1.2) 0 0 (zA G) := by
  refine z_met (y := yX8_weigh) (b := cX8_weigh) (maxL := 3) (mc := 0) (ms := 0) (ret := none) (As := [.ref this]) (Q1 := fun r1 => zQ D aC G (True) (none) r1.2) (X := FSearch_weigh FU this G) (by decide) (Nat.le_of_ble_eq_true rfl) ?_ h1
  intro p e s m below meth c hC hr hi
  have hC : zC p m c meth s ([.ref this] : List Value).toArray cX8_weigh 3 RX8 D aC := hC
  generalize ([.ref this] : List Value).toArray = args at hC ⊢
  show zS p l e ({ frames := 5, cells := 0, slots := 0, locals := 116 } : Room) s m args below meth c D aC G (zfV D aC G below args s 0 0) 3 0 0 (FSearch_weigh FU this G) G 0 [(0, .ref this)] []
  unfold FSearch_weigh
  refine z_gd ?_
  unfold FSearch_weigh_b
  refine z_aload_n hC 0 rfl dX8_weigh_0 rfl ?_
  refine z_cZp (z_rV (q := this) (t := 8) (As := []) hC (fun _ h1 => SSearch_harmsTooMuch FU this h1) (fun _ h1 => SSearch_harmsTooMuch_k h1) rfl rfl zM8_117 zMv_FSearch_harmsTooMuch ⟨by decide, by decide⟩ rfl rfl rfl (rest := []) (Nat.le_of_ble_eq_true rfl) ⟨Nat.le_of_ble_eq_true rfl, Nat.le_of_ble_eq_true rfl⟩ rfl dX8_weigh_1) (fun v1 hv1 => ?_)
  refine z_if_eq (tgt := 8) hC (hv1).i dX8_weigh_4 (by decide) (fun _ => ?_) (fun _ => ?_)
  · refine z_aload_n hC 0 rfl dX8_weigh_8 rfl ?_
    refine z_getQ hC zF8_32 rfl dX8_weigh_9 (fun v2 => ?_)
    refine z_aload_n hC 0 rfl dX8_weigh_12 rfl ?_
    refine z_getI hC zF8_51 rfl dX8_weigh_13 (fun v3 hv3 => ?_)
    refine z_cIp (z_rV (q := v2) (t := 2) (As := [.int (zi v3)]) hC (fun _ h1 => SMarket_takingsOfOwner FU v2 v3 hv3 h1) (fun _ h1 => SMarket_takingsOfOwner_k h1) rfl rfl zM8_121 zMv_FMarket_takingsOfOwner ⟨by decide, by decide⟩ rfl rfl rfl (rest := []) (Nat.le_of_ble_eq_true rfl) ⟨Nat.le_of_ble_eq_true rfl, Nat.le_of_ble_eq_true rfl⟩ rfl dX8_weigh_16) (fun v4 hv4 => ?_)
    refine z_istore_n (lo' := [(1, .int (zi v4)), (0, .ref this)]) hC dX8_weigh_19 rfl (by decide) rfl ?_
    refine z_iload_n hC 0 rfl dX8_weigh_20 rfl ?_
    refine z_aload_n hC 1 rfl dX8_weigh_21 rfl ?_
    refine z_getI hC zF8_63 rfl dX8_weigh_22 (fun v5 hv5 => ?_)
    refine z_icmp_gt (tgt := 29) hC hv4 hv5 dX8_weigh_25 (by decide) (fun _ => ?_) (fun _ => ?_)
    · exact z_vret hC hr dX8_weigh_28
    · refine z_aload_n hC 1 rfl dX8_weigh_29 rfl ?_
      refine z_iload_n hC 0 rfl dX8_weigh_30 rfl ?_
      refine z_putI hC hv4 zF8_63 rfl rfl dX8_weigh_31 (fun G6 => ?_)
      refine z_aload_n hC 1 rfl dX8_weigh_34 rfl ?_
      refine z_aload_n hC 1 rfl dX8_weigh_35 rfl ?_
      refine z_getI hC zF8_44 rfl dX8_weigh_36 (fun v7 hv7 => ?_)
      refine z_putI hC hv7 zF8_36 rfl rfl dX8_weigh_39 (fun G8 => ?_)
      refine z_iconst hC dX8_weigh_42 ?_
      refine z_istore_n (lo' := [(2, .int (zi (0))), (1, .int (zi v4)), (0, .ref this)]) hC dX8_weigh_43 rfl (by decide) rfl ?_
      refine z_sub hC [2, 0] (lo' := [(0, .ref this), (2, .int (zi (0)))]) rfl ?_
      exact SSearch_weigh_L44 hC hr FU FU this (0) G8 (by decide)
  · exact z_vret hC hr dX8_weigh_7
theorem SSearch_weigh_k {FU : Nat} {this : Nat} {G : Hp} {r1 : (Unit × Hp)} (h1 : FSearch_weigh FU this G = some r1) : zk G this = some (8, 0) := zgd_k (k := FSearch_weigh_b FU this G) h1

set_option maxRecDepth 100000 in
theorem SSearch_choose_L20 {p : Program} {l : Launch} {e : Env} {s : State} {m : MethodId} {args : Array Value} {below : List Frame} {meth : Method} {c : Code} {D : va_G} {aC : Nat → ClassId} {G0 : Hp} (hC : zC p m c meth s args cX8_choose 5 RX8 D aC) (hr : meth.sig.returnType = none) (FU : Nat) (rec : Nat → Int → Int → Hp → Option (Unit × Hp)) (rr : Room) (hrr : rr.cells = 0 ∧ rr.slots = 0) (hrec : ∀ (this : Nat) (p1 : Int) (p2 : Int), zInI p1 → zInI p2 → ∀ (G : Hp) (r1 : (Unit × Hp)), rec this p1 p2 G = some r1 → Met l yX8_choose (Cond.code yX8_choose cX8_choose 5 none :: zgood) rr (va_Pc [.ref this, .int (zi p1), .int (zi p2)] (zU D aC G)) (zQ D aC G (True) (none) r1.2) 0 0 (zA G)) (hreck : ∀ (this : Nat) (p1 : Int) (p2 : Int) (G : Hp) (r1 : (Unit × Hp)), rec this p1 p2 G = some r1 → zk G this = some (8, 0)) : ∀ (n : Nat) (x0 : Nat) (x1 : Int) (x3 : Int) (G : Hp) (hx1 : zInI x1) (hx3 : zInI x3), zS p l e ({ frames := rr.frames + 6, cells := 0, slots := 0, locals := rr.locals + 138 } : Room) s m args below meth c D aC G0 (zfV D aC G0 below args s 0 0) 5 0 0 (FSearch_choose_L20 FU rec n x0 x1 x3 G) G 20 [(0, .ref x0), (1, .int (zi x1)), (3, .int (zi x3))] [] := by
  intro n
  induction n with
  | zero => intros; exact z_none
  | succ n ih =>
    intro x0 x1 x3 G hx1 hx3
    rw [FSearch_choose_L20]
    refine z_iload_n hC 2 rfl dX8_choose_20 rfl ?_
    refine z_aload_n hC 0 rfl dX8_choose_21 rfl ?_
    refine z_getI hC zF8_82 rfl dX8_choose_22 (fun v1 hv1 => ?_)
    refine z_icmp_ge (tgt := 88) hC hx3 hv1 dX8_choose_25 (by decide) (fun _ => ?_) (fun _ => ?_)
    · refine z_aload_n hC 0 rfl dX8_choose_28 rfl ?_
      refine z_getQ hC zF8_9 rfl dX8_choose_29 (fun v2 => ?_)
      refine z_iload_n hC 2 rfl dX8_choose_32 rfl ?_
      refine z_cIp (z_rS (As := [.ref v2, .int (zi x3)]) hC (fun _ h1 => SB_at FU v2 x3 hx3 h1) zM8_40 zMs_FB_at ⟨show 1 + 1 ≤ rr.frames + 6 by omega, show 8 + (2 + 11) + 24 ≤ rr.locals + 138 by omega⟩ rfl rfl rfl (rest := []) (Nat.le_of_ble_eq_true rfl) ⟨Nat.le_of_ble_eq_true rfl, Nat.le_of_ble_eq_true rfl⟩ rfl dX8_choose_33) (fun v3 hv3 => ?_)
      refine z_istore (lo' := [(4, .int (zi v3)), (0, .ref x0), (1, .int (zi x1)), (3, .int (zi x3))]) hC dX8_choose_36 (by decide) rfl ?_
      refine z_aload_n hC 1 rfl dX8_choose_38 rfl ?_
      refine z_getQ hC zF8_18 rfl dX8_choose_39 (fun v4 => ?_)
      refine z_iload_n hC 2 rfl dX8_choose_42 rfl ?_
      refine z_iload hC 0 rfl dX8_choose_43 ?_
      refine z_cV (z_rS (As := [.ref v4, .int (zi x1), .int (zi v3)]) hC (fun _ h1 => SB_put FU v4 x1 v3 hx1 hv3 h1) zM8_103 zMs_FB_put ⟨show 1 + 1 ≤ rr.frames + 6 by omega, show 8 + (3 + 11) + 24 ≤ rr.locals + 138 by omega⟩ rfl rfl rfl (rest := []) (Nat.le_of_ble_eq_true rfl) ⟨Nat.le_of_ble_eq_true rfl, Nat.le_of_ble_eq_true rfl⟩ rfl dX8_choose_45) (fun G5 => ?_)
      refine z_aload_n hC 1 rfl dX8_choose_48 rfl ?_
      refine z_getQ hC zF8_32 rfl dX8_choose_49 (fun v6 => ?_)
      refine z_iload hC 0 rfl dX8_choose_52 ?_
      refine z_aload_n hC 1 rfl dX8_choose_54 rfl ?_
      refine z_getI hC zF8_57 rfl dX8_choose_55 (fun v7 hv7 => ?_)
      refine z_aload_n hC 1 rfl dX8_choose_58 rfl ?_
      refine z_getI hC zF8_51 rfl dX8_choose_59 (fun v8 hv8 => ?_)
      refine z_cV (z_rV (q := v6) (t := 2) (As := [.int (zi v3), .int (zi v7), .int (zi v8)]) hC (fun _ h1 => SMarket_addStall FU v6 v3 v7 v8 hv3 hv7 hv8 h1) (fun _ h1 => SMarket_addStall_k h1) rfl rfl zM8_110 zMv_FMarket_addStall ⟨show 3 + 1 ≤ rr.frames + 6 by omega, show 8 + (6 + 11) + 69 ≤ rr.locals + 138 by omega⟩ rfl rfl rfl (rest := []) (Nat.le_of_ble_eq_true rfl) ⟨Nat.le_of_ble_eq_true rfl, Nat.le_of_ble_eq_true rfl⟩ rfl dX8_choose_62) (fun G9 => ?_)
      refine z_aload_n hC 1 rfl dX8_choose_65 rfl ?_
      refine z_iload_n hC 2 rfl dX8_choose_66 rfl ?_
      refine z_iconst hC dX8_choose_67 ?_
      refine z_iadd hC dX8_choose_68 (fun v10 hv10 => ?_)
      refine z_iload_n hC 3 rfl dX8_choose_69 rfl ?_
      refine z_iconst hC dX8_choose_70 ?_
      refine z_iadd hC dX8_choose_71 (fun v11 hv11 => ?_)
      refine z_cV (z_rV (q := x0) (t := 8) (As := [.int (zi v10), .int (zi v11)]) hC (fun _ h1 => hrec x0 v10 v11 hv10 hv11 G9 _ h1) (fun _ h1 => hreck x0 v10 v11 G9 _ h1) rfl rfl zM8_78 zMv_FSearch_choose ⟨show rr.frames + 1 ≤ rr.frames + 6 by omega, show 8 + (5 + 11) + rr.locals ≤ rr.locals + 138 by omega⟩ hrr.1 hrr.2 rfl (rest := []) (Nat.le_of_ble_eq_true rfl) ⟨Nat.le_of_ble_eq_true rfl, Nat.le_of_ble_eq_true rfl⟩ rfl dX8_choose_72) (fun G12 => ?_)
      refine z_aload_n hC 1 rfl dX8_choose_75 rfl ?_
      refine z_getQ hC zF8_32 rfl dX8_choose_76 (fun v13 => ?_)
      refine z_cV (z_rV (q := v13) (t := 2) (As := []) hC (fun _ h1 => SMarket_dropStall FU v13 h1) (fun _ h1 => SMarket_dropStall_k h1) rfl rfl zM8_114 zMv_FMarket_dropStall ⟨show 1 + 1 ≤ rr.frames + 6 by omega, show 8 + (3 + 11) + 24 ≤ rr.locals + 138 by omega⟩ rfl rfl rfl (rest := []) (Nat.le_of_ble_eq_true rfl) ⟨Nat.le_of_ble_eq_true rfl, Nat.le_of_ble_eq_true rfl⟩ rfl dX8_choose_79) (fun G14 => ?_)
      refine z_iinc (lo' := fun v15 => [(3, .int (zi v15)), (4, .int (zi v3)), (0, .ref x0), (1, .int (zi x1))]) hC 3 dX8_choose_82 rfl (by decide) (fun _ => rfl) (fun v15 hv15 => ?_)
      refine z_goto (tgt := 20) hC dX8_choose_85 (by decide) ?_
      refine z_sub hC [2, 3, 0] (lo' := [(0, .ref x0), (1, .int (zi x1)), (3, .int (zi v15))]) rfl ?_
      exact ih x0 x1 v15 G14 hx1 hv15
    · exact z_vret hC hr dX8_choose_88
set_option maxRecDepth 100000 in
theorem SSearch_choose_B13 {p : Program} {l : Launch} {e : Env} {s : State} {m : MethodId} {args : Array Value} {below : List Frame} {meth : Method} {c : Code} {D : va_G} {aC : Nat → ClassId} {G0 : Hp} (hC : zC p m c meth s args cX8_choose 5 RX8 D aC) (hr : meth.sig.returnType = none) (FU : Nat) (rec : Nat → Int → Int → Hp → Option (Unit × Hp)) (rr : Room) (hrr : rr.cells = 0 ∧ rr.slots = 0) (hrec : ∀ (this : Nat) (p1 : Int) (p2 : Int), zInI p1 → zInI p2 → ∀ (G : Hp) (r1 : (Unit × Hp)), rec this p1 p2 G = some r1 → Met l yX8_choose (Cond.code yX8_choose cX8_choose 5 none :: zgood) rr (va_Pc [.ref this, .int (zi p1), .int (zi p2)] (zU D aC G)) (zQ D aC G (True) (none) r1.2) 0 0 (zA G)) (hreck : ∀ (this : Nat) (p1 : Int) (p2 : Int) (G : Hp) (r1 : (Unit × Hp)), rec this p1 p2 G = some r1 → zk G this = some (8, 0)) (x0 : Nat) (G : Hp) : zS p l e ({ frames := rr.frames + 6, cells := 0, slots := 0, locals := rr.locals + 138 } : Room) s m args below meth c D aC G0 (zfV D aC G0 below args s 0 0) 5 0 0 (FSearch_choose_B13 FU rec x0 G) G 13 [(0, .ref x0)] [] := by
  unfold FSearch_choose_B13
  refine z_aload_n hC 0 rfl dX8_choose_13 rfl ?_
  refine z_cV (z_rV (q := x0) (t := 8) (As := []) hC (fun _ h1 => SSearch_weigh FU x0 h1) (fun _ h1 => SSearch_weigh_k h1) rfl rfl zM8_107 zMv_FSearch_weigh ⟨show 5 + 1 ≤ rr.frames + 6 by omega, show 8 + (3 + 11) + 116 ≤ rr.locals + 138 by omega⟩ rfl rfl rfl (rest := []) (Nat.le_of_ble_eq_true rfl) ⟨Nat.le_of_ble_eq_true rfl, Nat.le_of_ble_eq_true rfl⟩ rfl dX8_choose_14) (fun G1 => ?_)
  exact z_vret hC hr dX8_choose_17
set_option maxRecDepth 100000 in
theorem SSearch_choose {l : Launch} {D : va_G} {aC : Nat → ClassId} (FU : Nat) (rec : Nat → Int → Int → Hp → Option (Unit × Hp)) (rr : Room) (hrr : rr.cells = 0 ∧ rr.slots = 0) (hrec : ∀ (this : Nat) (p1 : Int) (p2 : Int), zInI p1 → zInI p2 → ∀ (G : Hp) (r1 : (Unit × Hp)), rec this p1 p2 G = some r1 → Met l yX8_choose (Cond.code yX8_choose cX8_choose 5 none :: zgood) rr (va_Pc [.ref this, .int (zi p1), .int (zi p2)] (zU D aC G)) (zQ D aC G (True) (none) r1.2) 0 0 (zA G)) (hreck : ∀ (this : Nat) (p1 : Int) (p2 : Int) (G : Hp) (r1 : (Unit × Hp)), rec this p1 p2 G = some r1 → zk G this = some (8, 0)) (this : Nat) (p1 : Int) (p2 : Int) (hp1 : zInI p1) (hp2 : zInI p2) {G : Hp} {r1 : (Unit × Hp)} (h1 : FSearch_choose FU rec this p1 p2 G = some r1) : Met l yX8_choose (Cond.code yX8_choose cX8_choose 5 none :: zgood) ({ frames := rr.frames + 6, cells := 0, slots := 0, locals := rr.locals + 138 } : Room) (va_Pc [.ref this, .int (zi p1), .int (zi p2)] (zU D aC G)) (zQ D aC G (True) (none) r1.2) 0 0 (zA G) := by
  refine z_met (y := yX8_choose) (b := cX8_choose) (maxL := 5) (mc := 0) (ms := 0) (ret := none) (As := [.ref this, .int (zi p1), .int (zi p2)]) (Q1 := fun r1 => zQ D aC G (True) (none) r1.2) (X := FSearch_choose FU rec this p1 p2 G) (by decide) (Nat.le_of_ble_eq_true rfl) ?_ h1
  intro p e s m below meth c hC hr hi
  have hC : zC p m c meth s ([.ref this, .int (zi p1), .int (zi p2)] : List Value).toArray cX8_choose 5 RX8 D aC := hC
  generalize ([.ref this, .int (zi p1), .int (zi p2)] : List Value).toArray = args at hC ⊢
  show zS p l e ({ frames := rr.frames + 6, cells := 0, slots := 0, locals := rr.locals + 138 } : Room) s m args below meth c D aC G (zfV D aC G below args s 0 0) 5 0 0 (FSearch_choose FU rec this p1 p2 G) G 0 [(0, .ref this), (1, .int (zi p1)), (2, .int (zi p2))] []
  unfold FSearch_choose
  refine z_gd ?_
  unfold FSearch_choose_b
  refine z_iload_n hC 1 rfl dX8_choose_0 rfl ?_
  refine z_aload_n hC 0 rfl dX8_choose_1 rfl ?_
  refine z_getI hC zF8_44 rfl dX8_choose_2 (fun v1 hv1 => ?_)
  refine z_icmp_ge (tgt := 13) hC hp1 hv1 dX8_choose_5 (by decide) (fun _ => ?_) (fun _ => ?_)
  · refine z_iload_n hC 1 rfl dX8_choose_8 rfl ?_
    refine z_iconst hC dX8_choose_9 ?_
    refine z_icmp_lt (tgt := 18) hC hp1 (by decide) dX8_choose_10 (by decide) (fun _ => ?_) (fun _ => ?_)
    · refine z_iload_n hC 2 rfl dX8_choose_18 rfl ?_
      refine z_istore_n (lo' := [(3, .int (zi p2)), (0, .ref this), (1, .int (zi p1)), (2, .int (zi p2))]) hC dX8_choose_19 rfl (by decide) rfl ?_
      refine z_sub hC [1, 2, 0] (lo' := [(0, .ref this), (1, .int (zi p1)), (3, .int (zi p2))]) rfl ?_
      exact SSearch_choose_L20 hC hr FU rec rr hrr hrec hreck FU this p1 p2 G hp1 hp2
    · refine z_sub hC [0] (lo' := [(0, .ref this)]) rfl ?_
      exact SSearch_choose_B13 hC hr FU rec rr hrr hrec hreck this G
  · refine z_sub hC [0] (lo' := [(0, .ref this)]) rfl ?_
    exact SSearch_choose_B13 hC hr FU rec rr hrr hrec hreck this G
theorem SSearch_choose_k {FU : Nat} {rec : Nat → Int → Int → Hp → Option (Unit × Hp)} {this : Nat} {p1 : Int} {p2 : Int} {G : Hp} {r1 : (Unit × Hp)} (h1 : FSearch_choose FU rec this p1 p2 G = some r1) : zk G this = some (8, 0) := zgd_k (k := FSearch_choose_b FU rec this p1 p2 G) h1
theorem SSearch_choose_nk {FU d : Nat} {this : Nat} {p1 : Int} {p2 : Int} {G : Hp} {r1 : (Unit × Hp)} (h1 : FSearch_choose_n FU d this p1 p2 G = some r1) : zk G this = some (8, 0) := by
  cases d with
  | zero => cases h1
  | succ d => exact SSearch_choose_k h1
theorem SSearch_choose_n {l : Launch} {D : va_G} {aC : Nat → ClassId} (FU : Nat) : ∀ (d : Nat) (this : Nat) (p1 : Int) (p2 : Int) (hp1 : zInI p1) (hp2 : zInI p2) {G : Hp} {r1 : (Unit × Hp)}, FSearch_choose_n FU d this p1 p2 G = some r1 → Met l yX8_choose (Cond.code yX8_choose cX8_choose 5 none :: zgood) ({ frames := 6 * d, cells := 0, slots := 0, locals := 138 * d } : Room) (va_Pc [.ref this, .int (zi p1), .int (zi p2)] (zU D aC G)) (zQ D aC G (True) (none) r1.2) 0 0 (zA G) := by
  intro d
  induction d with
  | zero => intros; rename_i h; cases h
  | succ d ih =>
    intro this p1 p2 hp1 hp2 G r1 h1
    exact SSearch_choose FU (FSearch_choose_n FU d) ({ frames := 6 * d, cells := 0, slots := 0, locals := 138 * d } : Room) ⟨rfl, rfl⟩ (fun this p1 p2 hp1 hp2 _ _ h => ih this p1 p2 hp1 hp2 h) (fun this p1 p2 _ _ h => SSearch_choose_nk h) this p1 p2 hp1 hp2 h1

set_option maxRecDepth 100000 in
theorem SSearch_findBest_L46 {p : Program} {l : Launch} {e : Env} {s : State} {m : MethodId} {args : Array Value} {below : List Frame} {meth : Method} {c : Code} {D : va_G} {aC : Nat → ClassId} {G0 : Hp} (hC : zC p m c meth s args cX8_findBest 5 RX8 D aC) (hr : meth.sig.returnType = (some .int)) (FU : Nat) : ∀ (n : Nat) (x0 : Nat) (x4 : Int) (G : Hp) (hx4 : zInI x4), zS p l e ({ frames := 49, cells := 0, slots := 0, locals := 1128 } : Room) s m args below meth c D aC G0 (zfI D aC G0 below args s 0 0) 5 0 0 (FSearch_findBest_L46 FU n x0 x4 G) G 46 [(0, .ref x0), (4, .int (zi x4))] [] := by
  intro n
  induction n with
  | zero => intros; exact z_none
  | succ n ih =>
    intro x0 x4 G hx4
    rw [FSearch_findBest_L46]
    refine z_iload hC 1 rfl dX8_findBest_46 ?_
    refine z_aload_n hC 0 rfl dX8_findBest_48 rfl ?_
    refine z_getQ hC zF8_15 rfl dX8_findBest_49 (fun v1 => ?_)
    refine z_alen20 hC dX8_findBest_52 (fun v2 hv2 => ?_)
    refine z_icmp_ge (tgt := 78) hC hx4 hv2 dX8_findBest_53 (by decide) (fun _ => ?_) (fun _ => ?_)
    · refine z_aload_n hC 0 rfl dX8_findBest_56 rfl ?_
      refine z_getQ hC zF8_15 rfl dX8_findBest_57 (fun v3 => ?_)
      refine z_iload hC 1 rfl dX8_findBest_60 ?_
      refine z_aload_n hC 0 rfl dX8_findBest_62 rfl ?_
      refine z_getQ hC zF8_32 rfl dX8_findBest_63 (fun v4 => ?_)
      refine z_iload hC 1 rfl dX8_findBest_66 ?_
      refine z_cIp (z_rV (q := v4) (t := 2) (As := [.int (zi x4)]) hC (fun _ h1 => SMarket_takingsOf FU v4 x4 hx4 h1) (fun _ h1 => SMarket_takingsOf_k h1) rfl rfl zM8_72 zMv_FMarket_takingsOf ⟨by decide, by decide⟩ rfl rfl rfl (rest := [.int (zi x4), .ref v3]) (Nat.le_of_ble_eq_true rfl) ⟨Nat.le_of_ble_eq_true rfl, Nat.le_of_ble_eq_true rfl⟩ rfl dX8_findBest_68) (fun v5 hv5 => ?_)
      refine z_iast hC hx4 hv5 dX8_findBest_71 (fun G6 => ?_)
      refine z_iinc (lo' := fun v7 => [(4, .int (zi v7)), (0, .ref x0)]) hC 1 dX8_findBest_72 rfl (by decide) (fun _ => rfl) (fun v7 hv7 => ?_)
      refine z_goto (tgt := 46) hC dX8_findBest_75 (by decide) ?_
      refine z_sub hC [1, 0] (lo' := [(0, .ref x0), (4, .int (zi v7))]) rfl ?_
      exact ih x0 v7 G6 hv7
    · refine z_aload_n hC 0 rfl dX8_findBest_78 rfl ?_
      refine z_cV (z_rV (q := x0) (t := 8) (As := []) hC (fun _ h1 => SSearch_collectFree FU x0 h1) (fun _ h1 => SSearch_collectFree_k h1) rfl rfl zM8_75 zMv_FSearch_collectFree ⟨by decide, by decide⟩ rfl rfl rfl (rest := []) (Nat.le_of_ble_eq_true rfl) ⟨Nat.le_of_ble_eq_true rfl, Nat.le_of_ble_eq_true rfl⟩ rfl dX8_findBest_79) (fun G8 => ?_)
      refine z_aload_n hC 0 rfl dX8_findBest_82 rfl ?_
      refine z_iconst hC dX8_findBest_83 ?_
      refine z_iconst hC dX8_findBest_84 ?_
      refine z_cV (z_rV (q := x0) (t := 8) (As := [.int (zi (0)), .int (zi (0))]) hC (fun _ h1 => SSearch_choose_n FU 8 x0 (0) (0) (by decide) (by decide) h1) (fun _ h1 => SSearch_choose_nk h1) rfl rfl zM8_78 zMv_FSearch_choose ⟨by decide, by decide⟩ rfl rfl rfl (rest := []) (Nat.le_of_ble_eq_true rfl) ⟨Nat.le_of_ble_eq_true rfl, Nat.le_of_ble_eq_true rfl⟩ rfl dX8_findBest_85) (fun G9 => ?_)
      refine z_aload_n hC 0 rfl dX8_findBest_88 rfl ?_
      refine z_getI hC zF8_63 rfl dX8_findBest_89 (fun v10 hv10 => ?_)
      exact z_iret hC hv10 hr dX8_findBest_92
set_option maxRecDepth 100000 in
theorem SSearch_findBest {l : Launch} {D : va_G} {aC : Nat → ClassId} (FU : Nat) (this : Nat) (p1 : Int) (p2 : Int) (p3 : Int) (hp1 : zInI p1) (hp2 : zInI p2) (hp3 : zInI p3) {G : Hp} {r1 : (Int × Hp)} (h1 : FSearch_findBest FU this p1 p2 p3 G = some r1) : Met l yX8_findBest (Cond.code yX8_findBest cX8_findBest 5 (some .int) :: zgood) ({ frames := 49, cells := 0, slots := 0, locals := 1128 } : Room) (va_Pc [.ref this, .int (zi p1), .int (zi p2), .int (zi p3)] (zU D aC G)) (zQ D aC G (zInI r1.1) (some (.int (zi r1.1))) r1.2) 0 0 (zA G) := by
  refine z_met (y := yX8_findBest) (b := cX8_findBest) (maxL := 5) (mc := 0) (ms := 0) (ret := (some .int)) (As := [.ref this, .int (zi p1), .int (zi p2), .int (zi p3)]) (Q1 := fun r1 => zQ D aC G (zInI r1.1) (some (.int (zi r1.1))) r1.2) (X := FSearch_findBest FU this p1 p2 p3 G) (by decide) (Nat.le_of_ble_eq_true rfl) ?_ h1
  intro p e s m below meth c hC hr hi
  have hC : zC p m c meth s ([.ref this, .int (zi p1), .int (zi p2), .int (zi p3)] : List Value).toArray cX8_findBest 5 RX8 D aC := hC
  generalize ([.ref this, .int (zi p1), .int (zi p2), .int (zi p3)] : List Value).toArray = args at hC ⊢
  show zS p l e ({ frames := 49, cells := 0, slots := 0, locals := 1128 } : Room) s m args below meth c D aC G (zfI D aC G below args s 0 0) 5 0 0 (FSearch_findBest FU this p1 p2 p3 G) G 0 [(0, .ref this), (1, .int (zi p1)), (2, .int (zi p2)), (3, .int (zi p3))] []
  unfold FSearch_findBest
  refine z_gd ?_
  unfold FSearch_findBest_b
  refine z_aload_n hC 0 rfl dX8_findBest_0 rfl ?_
  refine z_iload_n hC 1 rfl dX8_findBest_1 rfl ?_
  refine z_putI hC hp1 zF8_44 rfl rfl dX8_findBest_2 (fun G1 => ?_)
  refine z_aload_n hC 0 rfl dX8_findBest_5 rfl ?_
  refine z_iload_n hC 2 rfl dX8_findBest_6 rfl ?_
  refine z_cIp (z_rS (As := [.int (zi p2)]) hC (fun _ h1 => SB_ownerIn FU p2 hp2 h1) zM8_47 zMs_FB_ownerIn ⟨by decide, by decide⟩ rfl rfl rfl (rest := [.ref this]) (Nat.le_of_ble_eq_true rfl) ⟨Nat.le_of_ble_eq_true rfl, Nat.le_of_ble_eq_true rfl⟩ rfl dX8_findBest_7) (fun v2 hv2 => ?_)
  refine z_putI hC hv2 zF8_51 rfl rfl dX8_findBest_10 (fun G3 => ?_)
  refine z_aload_n hC 0 rfl dX8_findBest_13 rfl ?_
  refine z_iload_n hC 2 rfl dX8_findBest_14 rfl ?_
  refine z_cIp (z_rS (As := [.int (zi p2)]) hC (fun _ h1 => SB_likeIn FU p2 hp2 h1) zM8_54 zMs_FB_likeIn ⟨by decide, by decide⟩ rfl rfl rfl (rest := [.ref this]) (Nat.le_of_ble_eq_true rfl) ⟨Nat.le_of_ble_eq_true rfl, Nat.le_of_ble_eq_true rfl⟩ rfl dX8_findBest_15) (fun v4 hv4 => ?_)
  refine z_putI hC hv4 zF8_57 rfl rfl dX8_findBest_18 (fun G5 => ?_)
  refine z_aload_n hC 0 rfl dX8_findBest_21 rfl ?_
  refine z_iload_n hC 3 rfl dX8_findBest_22 rfl ?_
  refine z_putI hC hp3 zF8_60 rfl rfl dX8_findBest_23 (fun G6 => ?_)
  refine z_aload_n hC 0 rfl dX8_findBest_26 rfl ?_
  refine z_bipush hC dX8_findBest_27 rfl ?_
  refine z_putI hC (by decide) zF8_63 rfl rfl dX8_findBest_29 (fun G7 => ?_)
  refine z_aload_n hC 0 rfl dX8_findBest_32 rfl ?_
  refine z_getQ hC zF8_32 rfl dX8_findBest_33 (fun v8 => ?_)
  refine z_aload_n hC 0 rfl dX8_findBest_36 rfl ?_
  refine z_getQ hC zF8_28 rfl dX8_findBest_37 (fun v9 => ?_)
  refine z_cV (z_rV (q := v8) (t := 2) (As := [.ref v9]) hC (fun _ h1 => SMarket_fillFrom FU v8 v9 h1) (fun _ h1 => SMarket_fillFrom_k h1) rfl rfl zM8_66 zMv_FMarket_fillFrom ⟨by decide, by decide⟩ rfl rfl rfl (rest := []) (Nat.le_of_ble_eq_true rfl) ⟨Nat.le_of_ble_eq_true rfl, Nat.le_of_ble_eq_true rfl⟩ rfl dX8_findBest_40) (fun G10 => ?_)
  refine z_iconst hC dX8_findBest_43 ?_
  refine z_istore (lo' := [(4, .int (zi (0))), (0, .ref this), (1, .int (zi p1)), (2, .int (zi p2)), (3, .int (zi p3))]) hC dX8_findBest_44 (by decide) rfl ?_
  refine z_sub hC [1, 0] (lo' := [(0, .ref this), (4, .int (zi (0)))]) rfl ?_
  exact SSearch_findBest_L46 hC hr FU FU this (0) G10 (by decide)
theorem SSearch_findBest_k {FU : Nat} {this : Nat} {p1 : Int} {p2 : Int} {p3 : Int} {G : Hp} {r1 : (Int × Hp)} (h1 : FSearch_findBest FU this p1 p2 p3 G = some r1) : zk G this = some (8, 0) := zgd_k (k := FSearch_findBest_b FU this p1 p2 p3 G) h1

set_option maxRecDepth 100000 in
theorem STown_init_L64 {p : Program} {l : Launch} {e : Env} {s : State} {m : MethodId} {args : Array Value} {below : List Frame} {meth : Method} {c : Code} {D : va_G} {aC : Nat → ClassId} {G0 : Hp} (hC : zC p m c meth s args cX10_init 4 RX10 D aC) (hr : meth.sig.returnType = none) (hi : meth.name = "<init>") (FU : Nat) (kL46 : Nat → Int → Hp → Option (Unit × Hp)) (hkL46 : ∀ (a0 : Nat) (a1 : Int) (G : Hp), zInI a1 → zS p l e ({ frames := 1, cells := 64, slots := 1900, locals := 24 } : Room) s m args below meth c D aC G0 (zfV D aC G0 below args s 64 1900) 4 64 1900 (kL46 a0 a1 G) G 46 [(0, .ref a0), (1, .int (zi a1))] []) : ∀ (n : Nat) (x0 : Nat) (x1 : Int) (x2 : Nat) (x3 : Int) (G : Hp) (hx1 : zInI x1) (hx3 : zInI x3), zS p l e ({ frames := 1, cells := 64, slots := 1900, locals := 24 } : Room) s m args below meth c D aC G0 (zfV D aC G0 below args s 64 1900) 4 64 1900 (FTown_init_L64 FU kL46 n x0 x1 x2 x3 G) G 64 [(0, .ref x0), (1, .int (zi x1)), (2, .ref x2), (3, .int (zi x3))] [] := by
  intro n
  induction n with
  | zero => intros; exact z_none
  | succ n ih =>
    intro x0 x1 x2 x3 G hx1 hx3
    rw [FTown_init_L64]
    refine z_iload_n hC 3 rfl dX10_init_64 rfl ?_
    refine z_aload_n hC 2 rfl dX10_init_65 rfl ?_
    refine z_alen20 hC dX10_init_66 (fun v1 hv1 => ?_)
    refine z_icmp_ge (tgt := 89) hC hx3 hv1 dX10_init_67 (by decide) (fun _ => ?_) (fun _ => ?_)
    · refine z_aload_n hC 2 rfl dX10_init_70 rfl ?_
      refine z_iload_n hC 3 rfl dX10_init_71 rfl ?_
      refine z_iload_n hC 1 rfl dX10_init_72 rfl ?_
      refine z_iload_n hC 3 rfl dX10_init_73 rfl ?_
      refine z_icmp_ne (tgt := 81) hC hx1 hx3 dX10_init_74 (by decide) (fun _ => ?_) (fun _ => ?_)
      · refine z_iconst hC dX10_init_77 ?_
        refine z_goto (tgt := 82) hC dX10_init_78 (by decide) ?_
        refine z_iast hC hx3 (by decide) dX10_init_82 (fun G2 => ?_)
        refine z_iinc (lo' := fun v3 => [(3, .int (zi v3)), (0, .ref x0), (1, .int (zi x1)), (2, .ref x2)]) hC 3 dX10_init_83 rfl (by decide) (fun _ => rfl) (fun v3 hv3 => ?_)
        refine z_goto (tgt := 64) hC dX10_init_86 (by decide) ?_
        refine z_sub hC [1, 2, 3, 0] (lo' := [(0, .ref x0), (1, .int (zi x1)), (2, .ref x2), (3, .int (zi v3))]) rfl ?_
        exact ih x0 x1 x2 v3 G2 hx1 hv3
      · refine z_iconst hC dX10_init_81 ?_
        refine z_iast hC hx3 (by decide) dX10_init_82 (fun G4 => ?_)
        refine z_iinc (lo' := fun v5 => [(3, .int (zi v5)), (0, .ref x0), (1, .int (zi x1)), (2, .ref x2)]) hC 3 dX10_init_83 rfl (by decide) (fun _ => rfl) (fun v5 hv5 => ?_)
        refine z_goto (tgt := 64) hC dX10_init_86 (by decide) ?_
        refine z_sub hC [1, 2, 3, 0] (lo' := [(0, .ref x0), (1, .int (zi x1)), (2, .ref x2), (3, .int (zi v5))]) rfl ?_
        exact ih x0 x1 x2 v5 G4 hx1 hv5
    · refine z_iinc (lo' := fun v6 => [(1, .int (zi v6)), (0, .ref x0), (2, .ref x2), (3, .int (zi x3))]) hC 1 dX10_init_89 rfl (by decide) (fun _ => rfl) (fun v6 hv6 => ?_)
      refine z_goto (tgt := 46) hC dX10_init_92 (by decide) ?_
      refine z_sub hC [1, 0] (lo' := [(0, .ref x0), (1, .int (zi v6))]) rfl ?_
      exact hkL46 x0 v6 G hv6
set_option maxRecDepth 100000 in
theorem STown_init_L46 {p : Program} {l : Launch} {e : Env} {s : State} {m : MethodId} {args : Array Value} {below : List Frame} {meth : Method} {c : Code} {D : va_G} {aC : Nat → ClassId} {G0 : Hp} (hC : zC p m c meth s args cX10_init 4 RX10 D aC) (hr : meth.sig.returnType = none) (hi : meth.name = "<init>") (FU : Nat) : ∀ (n : Nat) (x0 : Nat) (x1 : Int) (G : Hp) (hx1 : zInI x1), zS p l e ({ frames := 1, cells := 64, slots := 1900, locals := 24 } : Room) s m args below meth c D aC G0 (zfV D aC G0 below args s 64 1900) 4 64 1900 (FTown_init_L46 FU n x0 x1 G) G 46 [(0, .ref x0), (1, .int (zi x1))] [] := by
  intro n
  induction n with
  | zero => intros; exact z_none
  | succ n ih =>
    intro x0 x1 G hx1
    rw [FTown_init_L46]
    refine z_iload_n hC 1 rfl dX10_init_46 rfl ?_
    refine z_aload_n hC 0 rfl dX10_init_47 rfl ?_
    refine z_getQ hC zF10_20 rfl dX10_init_48 (fun v1 => ?_)
    refine z_alen26 hC dX10_init_51 (fun v2 hv2 => ?_)
    refine z_icmp_ge (tgt := 95) hC hx1 hv2 dX10_init_52 (by decide) (fun _ => ?_) (fun _ => ?_)
    · refine z_aload_n hC 0 rfl dX10_init_55 rfl ?_
      refine z_getQ hC zF10_20 rfl dX10_init_56 (fun v3 => ?_)
      refine z_iload_n hC 1 rfl dX10_init_59 rfl ?_
      refine z_aald26 hC hx1 dX10_init_60 (fun v4 => ?_)
      refine z_astore_n (lo' := [(2, .ref v4), (0, .ref x0), (1, .int (zi x1))]) hC dX10_init_61 rfl (by decide) rfl ?_
      refine z_iconst hC dX10_init_62 ?_
      refine z_istore_n (lo' := [(3, .int (zi (0))), (2, .ref v4), (0, .ref x0), (1, .int (zi x1))]) hC dX10_init_63 rfl (by decide) rfl ?_
      refine z_sub hC [2, 3, 1, 0] (lo' := [(0, .ref x0), (1, .int (zi x1)), (2, .ref v4), (3, .int (zi (0)))]) rfl ?_
      exact STown_init_L64 hC hr hi FU (FTown_init_L46 FU n) ih FU x0 x1 v4 (0) G hx1 (by decide)
    · exact z_vret hC hr dX10_init_95
set_option maxRecDepth 100000 in
theorem STown_init {l : Launch} {D : va_G} {aC : Nat → ClassId} (FU : Nat) (this : Nat) {G : Hp} {r1 : (Unit × Hp)} (h1 : FTown_init FU this G = some r1) : Met l yX10_init (Cond.code yX10_init cX10_init 4 none :: zgood) ({ frames := 1, cells := 64, slots := 1900, locals := 24 } : Room) (va_Pc [.ref this] (zU D aC G)) (zQ D aC G (True) (none) r1.2) 64 1900 (zA G) := by
  refine z_met (y := yX10_init) (b := cX10_init) (maxL := 4) (mc := 64) (ms := 1900) (ret := none) (As := [.ref this]) (Q1 := fun r1 => zQ D aC G (True) (none) r1.2) (X := FTown_init FU this G) (by decide) (Nat.le_of_ble_eq_true rfl) ?_ h1
  intro p e s m below meth c hC hr hi
  have hC : zC p m c meth s ([.ref this] : List Value).toArray cX10_init 4 RX10 D aC := hC
  generalize ([.ref this] : List Value).toArray = args at hC ⊢
  show zS p l e ({ frames := 1, cells := 64, slots := 1900, locals := 24 } : Room) s m args below meth c D aC G (zfV D aC G below args s 64 1900) 4 0 0 (FTown_init FU this G) G 0 [(0, .ref this)] []
  unfold FTown_init
  refine z_aload_n hC 0 rfl dX10_init_0 rfl ?_
  refine z_objInit hC zO10_3 ⟨by decide, by decide⟩ ⟨by decide, by decide⟩ dX10_init_1 ?_
  refine z_aload_n hC 0 rfl dX10_init_4 rfl ?_
  refine z_bipush hC dX10_init_5 rfl ?_
  refine z_newarr20 hC 30 rfl (by decide) (zgood_in 155 (by decide +kernel) (by decide +kernel)) (by decide) (by decide) dX10_init_7 (fun a1 G2 => ?_)
  refine z_widen (k := 1) (n := 30) (by decide) (by decide) ?_
  refine z_putFR hC (t := 10) (k := 0) rfl (by decide) rfl (zgood_in 132 (by decide +kernel) (by decide +kernel)) rfl rfl hi rfl dX10_init_9 (fun G3 => ?_)
  refine z_aload_n hC 0 rfl dX10_init_12 rfl ?_
  refine z_bipush hC dX10_init_13 rfl ?_
  refine z_bipush hC dX10_init_15 rfl ?_
  refine z_multi hC 30 30 rfl rfl (by decide) (by decide) (zgood_in 130 (by decide +kernel) (by decide +kernel)) (zgood_in 155 (by decide +kernel) (by decide +kernel)) (by decide) (by decide) dX10_init_17 (fun a4 G5 => ?_)
  refine z_widen (k := 32) (n := 960) (by decide) (by decide) ?_
  refine z_putFR hC (t := 10) (k := 1) rfl (by decide) rfl (zgood_in 133 (by decide +kernel) (by decide +kernel)) rfl rfl hi rfl dX10_init_21 (fun G6 => ?_)
  refine z_aload_n hC 0 rfl dX10_init_24 rfl ?_
  refine z_bipush hC dX10_init_25 rfl ?_
  refine z_bipush hC dX10_init_27 rfl ?_
  refine z_multi hC 30 30 rfl rfl (by decide) (by decide) (zgood_in 130 (by decide +kernel) (by decide +kernel)) (zgood_in 155 (by decide +kernel) (by decide +kernel)) (by decide) (by decide) dX10_init_29 (fun a7 G8 => ?_)
  refine z_widen (k := 63) (n := 1890) (by decide) (by decide) ?_
  refine z_putFR hC (t := 10) (k := 2) rfl (by decide) rfl (zgood_in 134 (by decide +kernel) (by decide +kernel)) rfl rfl hi rfl dX10_init_33 (fun G9 => ?_)
  refine z_aload_n hC 0 rfl dX10_init_36 rfl ?_
  refine z_bipush hC dX10_init_37 rfl ?_
  refine z_newarr20 hC 10 rfl (by decide) (zgood_in 155 (by decide +kernel) (by decide +kernel)) (by decide) (by decide) dX10_init_39 (fun a10 G11 => ?_)
  refine z_widen (k := 64) (n := 1900) (by decide) (by decide) ?_
  refine z_putFR hC (t := 10) (k := 3) rfl (by decide) rfl (zgood_in 135 (by decide +kernel) (by decide +kernel)) rfl rfl hi rfl dX10_init_41 (fun G12 => ?_)
  refine z_iconst hC dX10_init_44 ?_
  refine z_istore_n (lo' := [(1, .int (zi (0))), (0, .ref this)]) hC dX10_init_45 rfl (by decide) rfl ?_
  refine z_sub hC [1, 0] (lo' := [(0, .ref this), (1, .int (zi (0)))]) rfl ?_
  exact STown_init_L46 hC hr hi FU FU this (0) G12 (by decide)

set_option maxRecDepth 100000 in
theorem STown_hasPlace {l : Launch} {D : va_G} {aC : Nat → ClassId} (FU : Nat) (this : Nat) (p1 : Int) (hp1 : zInI p1) {G : Hp} {r1 : Int} (h1 : FTown_hasPlace FU this p1 G = some r1) : Met l yX10_hasPlace (Cond.code yX10_hasPlace cX10_hasPlace 2 (some .boolean) :: zgood) ({ frames := 1, cells := 0, slots := 0, locals := 24 } : Room) (va_Pc [.ref this, .int (zi p1)] (zU D aC G)) (zQ D aC G (zIn01 r1) (some (.int (zi r1))) G) 0 0 (zA G) := by
  refine z_met (y := yX10_hasPlace) (b := cX10_hasPlace) (maxL := 2) (mc := 0) (ms := 0) (ret := (some .boolean)) (As := [.ref this, .int (zi p1)]) (Q1 := fun r1 => zQ D aC G (zIn01 r1) (some (.int (zi r1))) G) (X := FTown_hasPlace FU this p1 G) (by decide) (Nat.le_of_ble_eq_true rfl) ?_ h1
  intro p e s m below meth c hC hr hi
  have hC : zC p m c meth s ([.ref this, .int (zi p1)] : List Value).toArray cX10_hasPlace 2 RX10 D aC := hC
  generalize ([.ref this, .int (zi p1)] : List Value).toArray = args at hC ⊢
  show zS p l e ({ frames := 1, cells := 0, slots := 0, locals := 24 } : Room) s m args below meth c D aC G (fun r1 => zfZ D aC G below args s 0 0 (r1, G)) 2 0 0 (FTown_hasPlace FU this p1 G) G 0 [(0, .ref this), (1, .int (zi p1))] []
  unfold FTown_hasPlace
  refine z_gd ?_
  unfold FTown_hasPlace_b
  refine z_iload_n hC 1 rfl dX10_hasPlace_0 rfl ?_
  refine z_if_lt (tgt := 16) hC hp1 dX10_hasPlace_1 (by decide) (fun _ => ?_) (fun _ => ?_)
  · refine z_iconst hC dX10_hasPlace_16 ?_
    exact z_zretp hC hr dX10_hasPlace_17
  · refine z_iload_n hC 1 rfl dX10_hasPlace_4 rfl ?_
    refine z_aload_n hC 0 rfl dX10_hasPlace_5 rfl ?_
    refine z_getI hC zF10_26 rfl dX10_hasPlace_6 (fun v1 hv1 => ?_)
    refine z_icmp_ge (tgt := 16) hC hp1 hv1 dX10_hasPlace_9 (by decide) (fun _ => ?_) (fun _ => ?_)
    · refine z_iconst hC dX10_hasPlace_12 ?_
      refine z_goto (tgt := 17) hC dX10_hasPlace_13 (by decide) ?_
      exact z_zretp hC hr dX10_hasPlace_17
    · refine z_iconst hC dX10_hasPlace_16 ?_
      exact z_zretp hC hr dX10_hasPlace_17
theorem STown_hasPlace_k {FU : Nat} {this : Nat} {p1 : Int} {G : Hp} {r1 : Int} (h1 : FTown_hasPlace FU this p1 G = some r1) : zk G this = some (10, 0) := zgd_k (k := FTown_hasPlace_b FU this p1 G) h1

set_option maxRecDepth 100000 in
theorem STown_addPlace {l : Launch} {D : va_G} {aC : Nat → ClassId} (FU : Nat) (this : Nat) (p1 : Int) (hp1 : zInI p1) {G : Hp} {r1 : (Int × Hp)} (h1 : FTown_addPlace FU this p1 G = some r1) : Met l yX10_addPlace (Cond.code yX10_addPlace cX10_addPlace 2 (some .int) :: zgood) ({ frames := 2, cells := 0, slots := 0, locals := 46 } : Room) (va_Pc [.ref this, .int (zi p1)] (zU D aC G)) (zQ D aC G (zInI r1.1) (some (.int (zi r1.1))) r1.2) 0 0 (zA G) := by
  refine z_met (y := yX10_addPlace) (b := cX10_addPlace) (maxL := 2) (mc := 0) (ms := 0) (ret := (some .int)) (As := [.ref this, .int (zi p1)]) (Q1 := fun r1 => zQ D aC G (zInI r1.1) (some (.int (zi r1.1))) r1.2) (X := FTown_addPlace FU this p1 G) (by decide) (Nat.le_of_ble_eq_true rfl) ?_ h1
  intro p e s m below meth c hC hr hi
  have hC : zC p m c meth s ([.ref this, .int (zi p1)] : List Value).toArray cX10_addPlace 2 RX10 D aC := hC
  generalize ([.ref this, .int (zi p1)] : List Value).toArray = args at hC ⊢
  show zS p l e ({ frames := 2, cells := 0, slots := 0, locals := 46 } : Room) s m args below meth c D aC G (zfI D aC G below args s 0 0) 2 0 0 (FTown_addPlace FU this p1 G) G 0 [(0, .ref this), (1, .int (zi p1))] []
  unfold FTown_addPlace
  refine z_gd ?_
  unfold FTown_addPlace_b
  refine z_aload_n hC 0 rfl dX10_addPlace_0 rfl ?_
  refine z_getI hC zF10_26 rfl dX10_addPlace_1 (fun v1 hv1 => ?_)
  refine z_bipush hC dX10_addPlace_4 rfl ?_
  refine z_icmp_lt (tgt := 12) hC hv1 (by decide) dX10_addPlace_6 (by decide) (fun _ => ?_) (fun _ => ?_)
  · refine z_aload_n hC 0 rfl dX10_addPlace_12 rfl ?_
    refine z_getQ hC zF10_9 rfl dX10_addPlace_13 (fun v2 => ?_)
    refine z_aload_n hC 0 rfl dX10_addPlace_16 rfl ?_
    refine z_getI hC zF10_26 rfl dX10_addPlace_17 (fun v3 hv3 => ?_)
    refine z_iload_n hC 1 rfl dX10_addPlace_20 rfl ?_
    refine z_cV (z_rS (As := [.ref v2, .int (zi v3), .int (zi p1)]) hC (fun _ h1 => SB_put FU v2 v3 p1 hv3 hp1 h1) zM10_30 zMs_FB_put ⟨by decide, by decide⟩ rfl rfl rfl (rest := []) (Nat.le_of_ble_eq_true rfl) ⟨Nat.le_of_ble_eq_true rfl, Nat.le_of_ble_eq_true rfl⟩ rfl dX10_addPlace_21) (fun G4 => ?_)
    refine z_aload_n hC 0 rfl dX10_addPlace_24 rfl ?_
    refine z_dup hC rfl dX10_addPlace_25 ?_
    refine z_getI hC zF10_26 rfl dX10_addPlace_26 (fun v5 hv5 => ?_)
    refine z_iconst hC dX10_addPlace_29 ?_
    refine z_iadd hC dX10_addPlace_30 (fun v6 hv6 => ?_)
    refine z_putI hC hv6 zF10_26 rfl rfl dX10_addPlace_31 (fun G7 => ?_)
    refine z_aload_n hC 0 rfl dX10_addPlace_34 rfl ?_
    refine z_getI hC zF10_26 rfl dX10_addPlace_35 (fun v8 hv8 => ?_)
    refine z_iconst hC dX10_addPlace_38 ?_
    refine z_isub hC dX10_addPlace_39 (fun v9 hv9 => ?_)
    exact z_iret hC hv9 hr dX10_addPlace_40
  · refine z_bipush hC dX10_addPlace_9 rfl ?_
    exact z_iret hC (by decide) hr dX10_addPlace_11
theorem STown_addPlace_k {FU : Nat} {this : Nat} {p1 : Int} {G : Hp} {r1 : (Int × Hp)} (h1 : FTown_addPlace FU this p1 G = some r1) : zk G this = some (10, 0) := zgd_k (k := FTown_addPlace_b FU this p1 G) h1

