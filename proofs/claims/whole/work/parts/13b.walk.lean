set_option maxRecDepth 100000 in
theorem SFund_giveWholeParts_L11 {p : Program} {l : Launch} {e : Env} {s : State} {m : MethodId} {args : Array Value} {below : List Frame} {meth : Method} {c : Code} {D : va_G} {aC : Nat → ClassId} {G0 : Hp} (hC : zC p m c meth s args cX1_giveWholeParts 9 RX1 D aC) (hr : meth.sig.returnType = (some .int)) (FU : Nat) : ∀ (n : Nat) (x0 : Nat) (x1 : Int) (x2 : Int) (x3 : Int) (x4 : Int) (G : Hp) (hx1 : zInI x1) (hx2 : zInI x2) (hx3 : zInI x3) (hx4 : zInI x4), zS p l e ({ frames := 2, cells := 0, slots := 0, locals := 46 } : Room) s m args below meth c D aC G0 (zfI D aC G0 below args s 0 0) 9 0 0 (FFund_giveWholeParts_L11 FU n x0 x1 x2 x3 x4 G) G 11 [(0, .ref x0), (1, .int (zi x1)), (2, .int (zi x2)), (3, .int (zi x3)), (4, .int (zi x4))] [] := by
  intro n
  induction n with
  | zero => intros; exact z_none
  | succ n ih =>
    intro x0 x1 x2 x3 x4 G hx1 hx2 hx3 hx4
    rw [FFund_giveWholeParts_L11]
    refine z_iload hC 4 rfl dX1_giveWholeParts_11 ?_
    refine z_aload_n hC 0 rfl dX1_giveWholeParts_13 rfl ?_
    refine z_getQ hC zF1_15 rfl dX1_giveWholeParts_14 (fun v1 => ?_)
    refine z_getI hC zF1_34 rfl dX1_giveWholeParts_17 (fun v2 hv2 => ?_)
    refine z_icmp_ge (tgt := 105) hC hx4 hv2 dX1_giveWholeParts_20 (by decide) (fun _ => ?_) (fun _ => ?_)
    · refine z_aload_n hC 0 rfl dX1_giveWholeParts_23 rfl ?_
      refine z_getQ hC zF1_15 rfl dX1_giveWholeParts_24 (fun v3 => ?_)
      refine z_iload hC 4 rfl dX1_giveWholeParts_27 ?_
      refine z_cAp (z_rV (q := v3) (t := 0) (As := [.int (zi x4)]) hC (fun _ h1 => SChain_shopAt FU v3 x4 hx4 h1) (fun _ h1 => SChain_shopAt_k h1) rfl rfl zM1_39 zMv_FChain_shopAt ⟨by decide, by decide⟩ rfl rfl rfl (rest := []) (Nat.le_of_ble_eq_true rfl) ⟨Nat.le_of_ble_eq_true rfl, Nat.le_of_ble_eq_true rfl⟩ rfl dX1_giveWholeParts_29) (fun v4 => ?_)
      refine z_qstore (lo' := [(5, va_rf v4), (0, .ref x0), (1, .int (zi x1)), (2, .int (zi x2)), (3, .int (zi x3)), (4, .int (zi x4))]) hC dX1_giveWholeParts_32 (by decide) rfl ?_
      refine z_qload hC 0 rfl dX1_giveWholeParts_34 ?_
      refine z_ifnonnull (tgt := 42) hC dX1_giveWholeParts_36 (by decide) (fun h0 => ?_) (fun a5 h0 => ?_)
      · subst h0
        refine z_goto (tgt := 99) hC dX1_giveWholeParts_39 (by decide) ?_
        refine z_iinc (lo' := fun v6 => [(4, .int (zi v6)), (5, .null), (0, .ref x0), (1, .int (zi x1)), (2, .int (zi x2)), (3, .int (zi x3))]) hC 5 dX1_giveWholeParts_99 rfl (by decide) (fun _ => rfl) (fun v6 hv6 => ?_)
        refine z_goto (tgt := 11) hC dX1_giveWholeParts_102 (by decide) ?_
        refine z_sub hC [2, 3, 4, 5, 0] (lo' := [(0, .ref x0), (1, .int (zi x1)), (2, .int (zi x2)), (3, .int (zi x3)), (4, .int (zi v6))]) rfl ?_
        exact ih x0 x1 x2 x3 v6 G hx1 hx2 hx3 hv6
      · subst h0
        refine z_iload_n hC 2 rfl dX1_giveWholeParts_42 rfl ?_
        refine z_i2l hC hx1 dX1_giveWholeParts_43 ?_
        refine z_aload hC 0 rfl dX1_giveWholeParts_44 ?_
        refine z_getI hC zF1_43 rfl dX1_giveWholeParts_46 (fun v7 hv7 => ?_)
        refine z_i2l hC hv7 dX1_giveWholeParts_49 ?_
        refine z_lmul hC dX1_giveWholeParts_50 (fun v8 hv8 => ?_)
        refine z_lstore (lo' := [(6, .long (zl v8)), (5, .ref a5), (0, .ref x0), (1, .int (zi x1)), (2, .int (zi x2)), (3, .int (zi x3)), (4, .int (zi x4))]) hC dX1_giveWholeParts_51 (by decide) rfl ?_
        refine z_lload hC 0 rfl dX1_giveWholeParts_53 ?_
        refine z_iload_n hC 4 rfl dX1_giveWholeParts_55 rfl ?_
        refine z_i2l hC hx2 dX1_giveWholeParts_56 ?_
        refine z_ldiv hC hv8 (zInI.l hx2) dX1_giveWholeParts_57 (fun v9 hv9 => ?_)
        refine z_l2i hC dX1_giveWholeParts_58 (fun v10 hv10 => ?_)
        refine z_istore (lo' := [(8, .int (zi v10)), (6, .long (zl v8)), (5, .ref a5), (0, .ref x0), (1, .int (zi x1)), (2, .int (zi x2)), (3, .int (zi x3)), (4, .int (zi x4))]) hC dX1_giveWholeParts_59 (by decide) rfl ?_
        refine z_aload_n hC 3 rfl dX1_giveWholeParts_61 rfl ?_
        refine z_getQ hC zF1_9 rfl dX1_giveWholeParts_62 (fun v11 => ?_)
        refine z_iload hC 7 rfl dX1_giveWholeParts_65 ?_
        refine z_lload hC 1 rfl dX1_giveWholeParts_67 ?_
        refine z_iload_n hC 5 rfl dX1_giveWholeParts_69 rfl ?_
        refine z_i2l hC hx2 dX1_giveWholeParts_70 ?_
        refine z_lrem hC hv8 (zInI.l hx2) dX1_giveWholeParts_71 (fun v12 hv12 => ?_)
        refine z_l2i hC dX1_giveWholeParts_72 (fun v13 hv13 => ?_)
        refine z_cV (z_rS (As := [.ref v11, .int (zi x4), .int (zi v13)]) hC (fun _ h1 => SB_put FU v11 x4 v13 hx4 hv13 h1) zM1_48 zMs_FB_put ⟨by decide, by decide⟩ rfl rfl rfl (rest := []) (Nat.le_of_ble_eq_true rfl) ⟨Nat.le_of_ble_eq_true rfl, Nat.le_of_ble_eq_true rfl⟩ rfl dX1_giveWholeParts_73) (fun G14 => ?_)
        refine z_aload hC 2 rfl dX1_giveWholeParts_76 ?_
        refine z_dup hC rfl dX1_giveWholeParts_78 ?_
        refine z_getI hC zF1_52 rfl dX1_giveWholeParts_79 (fun v15 hv15 => ?_)
        refine z_iload hC 0 rfl dX1_giveWholeParts_82 ?_
        refine z_iadd hC dX1_giveWholeParts_84 (fun v16 hv16 => ?_)
        refine z_putI hC hv16 zF1_52 rfl rfl dX1_giveWholeParts_85 (fun G17 => ?_)
        refine z_aload hC 2 rfl dX1_giveWholeParts_88 ?_
        refine z_iconst hC dX1_giveWholeParts_90 ?_
        refine z_putI hC (by decide) zF1_43 rfl rfl dX1_giveWholeParts_91 (fun G18 => ?_)
        refine z_iload_n hC 6 rfl dX1_giveWholeParts_94 rfl ?_
        refine z_iload hC 0 rfl dX1_giveWholeParts_95 ?_
        refine z_iadd hC dX1_giveWholeParts_97 (fun v19 hv19 => ?_)
        refine z_istore_n (lo' := [(3, .int (zi v19)), (8, .int (zi v10)), (6, .long (zl v8)), (5, .ref a5), (0, .ref x0), (1, .int (zi x1)), (2, .int (zi x2)), (4, .int (zi x4))]) hC dX1_giveWholeParts_98 rfl (by decide) rfl ?_
        refine z_iinc (lo' := fun v20 => [(4, .int (zi v20)), (3, .int (zi v19)), (8, .int (zi v10)), (6, .long (zl v8)), (5, .ref a5), (0, .ref x0), (1, .int (zi x1)), (2, .int (zi x2))]) hC 7 dX1_giveWholeParts_99 rfl (by decide) (fun _ => rfl) (fun v20 hv20 => ?_)
        refine z_goto (tgt := 11) hC dX1_giveWholeParts_102 (by decide) ?_
        refine z_sub hC [5, 6, 7, 1, 0] (lo' := [(0, .ref x0), (1, .int (zi x1)), (2, .int (zi x2)), (3, .int (zi v19)), (4, .int (zi v20))]) rfl ?_
        exact ih x0 x1 x2 v19 v20 G18 hx1 hx2 hv19 hv20
    · refine z_iload_n hC 3 rfl dX1_giveWholeParts_105 rfl ?_
      exact z_iret hC hx3 hr dX1_giveWholeParts_106
set_option maxRecDepth 100000 in
theorem SFund_giveWholeParts {l : Launch} {D : va_G} {aC : Nat → ClassId} (FU : Nat) (this : Nat) (p1 : Int) (p2 : Int) (hp1 : zInI p1) (hp2 : zInI p2) {G : Hp} {r1 : (Int × Hp)} (h1 : FFund_giveWholeParts FU this p1 p2 G = some r1) : Met l yX1_giveWholeParts (Cond.code yX1_giveWholeParts cX1_giveWholeParts 9 (some .int) :: zgood) ({ frames := 2, cells := 0, slots := 0, locals := 46 } : Room) (va_Pc [.ref this, .int (zi p1), .int (zi p2)] (zU D aC G)) (zQ D aC G (zInI r1.1) (some (.int (zi r1.1))) r1.2) 0 0 (zA G) := by
  refine z_met (y := yX1_giveWholeParts) (b := cX1_giveWholeParts) (maxL := 9) (mc := 0) (ms := 0) (ret := (some .int)) (As := [.ref this, .int (zi p1), .int (zi p2)]) (Q1 := fun r1 => zQ D aC G (zInI r1.1) (some (.int (zi r1.1))) r1.2) (X := FFund_giveWholeParts FU this p1 p2 G) (by decide) (Nat.le_of_ble_eq_true rfl) ?_ h1
  intro p e s m below meth c hC hr hi
  have hC : zC p m c meth s ([.ref this, .int (zi p1), .int (zi p2)] : List Value).toArray cX1_giveWholeParts 9 RX1 D aC := hC
  generalize ([.ref this, .int (zi p1), .int (zi p2)] : List Value).toArray = args at hC ⊢
  show zS p l e ({ frames := 2, cells := 0, slots := 0, locals := 46 } : Room) s m args below meth c D aC G (zfI D aC G below args s 0 0) 9 0 0 (FFund_giveWholeParts FU this p1 p2 G) G 0 [(0, .ref this), (1, .int (zi p1)), (2, .int (zi p2))] []
  unfold FFund_giveWholeParts
  refine z_gd ?_
  unfold FFund_giveWholeParts_b
  refine z_iload_n hC 2 rfl dX1_giveWholeParts_0 rfl ?_
  refine z_if_gt (tgt := 6) hC hp2 dX1_giveWholeParts_1 (by decide) (fun _ => ?_) (fun _ => ?_)
  · refine z_iconst hC dX1_giveWholeParts_4 ?_
    exact z_iret hC (by decide) hr dX1_giveWholeParts_5
  · refine z_iconst hC dX1_giveWholeParts_6 ?_
    refine z_istore_n (lo' := [(3, .int (zi (0))), (0, .ref this), (1, .int (zi p1)), (2, .int (zi p2))]) hC dX1_giveWholeParts_7 rfl (by decide) rfl ?_
    refine z_iconst hC dX1_giveWholeParts_8 ?_
    refine z_istore (lo' := [(4, .int (zi (0))), (3, .int (zi (0))), (0, .ref this), (1, .int (zi p1)), (2, .int (zi p2))]) hC dX1_giveWholeParts_9 (by decide) rfl ?_
    refine z_sub hC [2, 3, 4, 1, 0] (lo' := [(0, .ref this), (1, .int (zi p1)), (2, .int (zi p2)), (3, .int (zi (0))), (4, .int (zi (0)))]) rfl ?_
    exact SFund_giveWholeParts_L11 hC hr FU FU this p1 p2 (0) (0) G hp1 hp2 (by decide) (by decide)
theorem SFund_giveWholeParts_k {FU : Nat} {this : Nat} {p1 : Int} {p2 : Int} {G : Hp} {r1 : (Int × Hp)} (h1 : FFund_giveWholeParts FU this p1 p2 G = some r1) : zk G this = some (1, 0) := zgd_k (k := FFund_giveWholeParts_b FU this p1 p2 G) h1

set_option maxRecDepth 100000 in
theorem SB_at {l : Launch} {D : va_G} {aC : Nat → ClassId} (FU : Nat) (p1 : Nat) (p2 : Int) (hp2 : zInI p2) {G : Hp} {r1 : Int} (h1 : FB_at FU p1 p2 G = some r1) : Met l yX11_at (Cond.code yX11_at cX11_at 2 (some .int) :: zgood) ({ frames := 1, cells := 0, slots := 0, locals := 24 } : Room) (va_Pc [.ref p1, .int (zi p2)] (zU D aC G)) (zQ D aC G (zInI r1) (some (.int (zi r1))) G) 0 0 (zA G) := by
  refine z_met (y := yX11_at) (b := cX11_at) (maxL := 2) (mc := 0) (ms := 0) (ret := (some .int)) (As := [.ref p1, .int (zi p2)]) (Q1 := fun r1 => zQ D aC G (zInI r1) (some (.int (zi r1))) G) (X := FB_at FU p1 p2 G) (by decide) (Nat.le_of_ble_eq_true rfl) ?_ h1
  intro p e s m below meth c hC hr hi
  have hC : zC p m c meth s ([.ref p1, .int (zi p2)] : List Value).toArray cX11_at 2 RX11 D aC := hC
  generalize ([.ref p1, .int (zi p2)] : List Value).toArray = args at hC ⊢
  show zS p l e ({ frames := 1, cells := 0, slots := 0, locals := 24 } : Room) s m args below meth c D aC G (fun r1 => zfI D aC G below args s 0 0 (r1, G)) 2 0 0 (FB_at FU p1 p2 G) G 0 [(0, .ref p1), (1, .int (zi p2))] []
  unfold FB_at
  refine z_iload_n hC 1 rfl dX11_at_0 rfl ?_
  refine z_if_lt (tgt := 16) hC hp2 dX11_at_1 (by decide) (fun _ => ?_) (fun _ => ?_)
  · refine z_iconst hC dX11_at_16 ?_
    exact z_iretp hC (by decide) hr dX11_at_17
  · refine z_iload_n hC 1 rfl dX11_at_4 rfl ?_
    refine z_aload_n hC 0 rfl dX11_at_5 rfl ?_
    refine z_alen20 hC dX11_at_6 (fun v1 hv1 => ?_)
    refine z_icmp_ge (tgt := 16) hC hp2 hv1 dX11_at_7 (by decide) (fun _ => ?_) (fun _ => ?_)
    · refine z_aload_n hC 0 rfl dX11_at_10 rfl ?_
      refine z_iload_n hC 1 rfl dX11_at_11 rfl ?_
      refine z_iald hC hp2 dX11_at_12 (fun v2 hv2 => ?_)
      refine z_goto (tgt := 17) hC dX11_at_13 (by decide) ?_
      exact z_iretp hC hv2 hr dX11_at_17
    · refine z_iconst hC dX11_at_16 ?_
      exact z_iretp hC (by decide) hr dX11_at_17

set_option maxRecDepth 100000 in
theorem SFund_giveToGreatestRest_L4 {p : Program} {l : Launch} {e : Env} {s : State} {m : MethodId} {args : Array Value} {below : List Frame} {meth : Method} {c : Code} {D : va_G} {aC : Nat → ClassId} {G0 : Hp} (hC : zC p m c meth s args cX1_giveToGreatestRest 3 RX1 D aC) (hr : meth.sig.returnType = none) (FU : Nat) : ∀ (n : Nat) (x0 : Nat) (x1 : Int) (x2 : Int) (G : Hp) (hx1 : zInI x1) (hx2 : zInI x2), zS p l e ({ frames := 2, cells := 0, slots := 0, locals := 46 } : Room) s m args below meth c D aC G0 (zfV D aC G0 below args s 0 0) 3 0 0 (FFund_giveToGreatestRest_L4 FU n x0 x1 x2 G) G 4 [(0, .ref x0), (1, .int (zi x1)), (2, .int (zi x2))] [] := by
  intro n
  induction n with
  | zero => intros; exact z_none
  | succ n ih =>
    intro x0 x1 x2 G hx1 hx2
    rw [FFund_giveToGreatestRest_L4]
    refine z_iload_n hC 2 rfl dX1_giveToGreatestRest_4 rfl ?_
    refine z_aload_n hC 0 rfl dX1_giveToGreatestRest_5 rfl ?_
    refine z_getQ hC zF1_15 rfl dX1_giveToGreatestRest_6 (fun v1 => ?_)
    refine z_getI hC zF1_34 rfl dX1_giveToGreatestRest_9 (fun v2 hv2 => ?_)
    refine z_icmp_ge (tgt := 42) hC hx2 hv2 dX1_giveToGreatestRest_12 (by decide) (fun _ => ?_) (fun _ => ?_)
    · refine z_aload_n hC 0 rfl dX1_giveToGreatestRest_15 rfl ?_
      refine z_getQ hC zF1_9 rfl dX1_giveToGreatestRest_16 (fun v3 => ?_)
      refine z_iload_n hC 2 rfl dX1_giveToGreatestRest_19 rfl ?_
      refine z_cIp (z_rS (As := [.ref v3, .int (zi x2)]) hC (fun _ h1 => SB_at FU v3 x2 hx2 h1) zM1_55 zMs_FB_at ⟨by decide, by decide⟩ rfl rfl rfl (rest := []) (Nat.le_of_ble_eq_true rfl) ⟨Nat.le_of_ble_eq_true rfl, Nat.le_of_ble_eq_true rfl⟩ rfl dX1_giveToGreatestRest_20) (fun v4 hv4 => ?_)
      refine z_aload_n hC 0 rfl dX1_giveToGreatestRest_23 rfl ?_
      refine z_getQ hC zF1_9 rfl dX1_giveToGreatestRest_24 (fun v5 => ?_)
      refine z_iload_n hC 1 rfl dX1_giveToGreatestRest_27 rfl ?_
      refine z_cIp (z_rS (As := [.ref v5, .int (zi x1)]) hC (fun _ h1 => SB_at FU v5 x1 hx1 h1) zM1_55 zMs_FB_at ⟨by decide, by decide⟩ rfl rfl rfl (rest := [.int (zi v4)]) (Nat.le_of_ble_eq_true rfl) ⟨Nat.le_of_ble_eq_true rfl, Nat.le_of_ble_eq_true rfl⟩ rfl dX1_giveToGreatestRest_28) (fun v6 hv6 => ?_)
      refine z_icmp_le (tgt := 36) hC hv4 hv6 dX1_giveToGreatestRest_31 (by decide) (fun _ => ?_) (fun _ => ?_)
      · refine z_iinc (lo' := fun v7 => [(2, .int (zi v7)), (0, .ref x0), (1, .int (zi x1))]) hC 2 dX1_giveToGreatestRest_36 rfl (by decide) (fun _ => rfl) (fun v7 hv7 => ?_)
        refine z_goto (tgt := 4) hC dX1_giveToGreatestRest_39 (by decide) ?_
        refine z_sub hC [1, 2, 0] (lo' := [(0, .ref x0), (1, .int (zi x1)), (2, .int (zi v7))]) rfl ?_
        exact ih x0 x1 v7 G hx1 hv7
      · refine z_iload_n hC 2 rfl dX1_giveToGreatestRest_34 rfl ?_
        refine z_istore_n (lo' := [(1, .int (zi x2)), (0, .ref x0), (2, .int (zi x2))]) hC dX1_giveToGreatestRest_35 rfl (by decide) rfl ?_
        refine z_iinc (lo' := fun v8 => [(2, .int (zi v8)), (1, .int (zi x2)), (0, .ref x0)]) hC 2 dX1_giveToGreatestRest_36 rfl (by decide) (fun _ => rfl) (fun v8 hv8 => ?_)
        refine z_goto (tgt := 4) hC dX1_giveToGreatestRest_39 (by decide) ?_
        refine z_sub hC [2, 1, 0] (lo' := [(0, .ref x0), (1, .int (zi x2)), (2, .int (zi v8))]) rfl ?_
        exact ih x0 x2 v8 G hx2 hv8
    · refine z_aload_n hC 0 rfl dX1_giveToGreatestRest_42 rfl ?_
      refine z_getQ hC zF1_15 rfl dX1_giveToGreatestRest_43 (fun v9 => ?_)
      refine z_iload_n hC 1 rfl dX1_giveToGreatestRest_46 rfl ?_
      refine z_cAp (z_rV (q := v9) (t := 0) (As := [.int (zi x1)]) hC (fun _ h1 => SChain_shopAt FU v9 x1 hx1 h1) (fun _ h1 => SChain_shopAt_k h1) rfl rfl zM1_39 zMv_FChain_shopAt ⟨by decide, by decide⟩ rfl rfl rfl (rest := []) (Nat.le_of_ble_eq_true rfl) ⟨Nat.le_of_ble_eq_true rfl, Nat.le_of_ble_eq_true rfl⟩ rfl dX1_giveToGreatestRest_47) (fun v10 => ?_)
      refine z_qstore_n (lo' := [(2, va_rf v10), (0, .ref x0), (1, .int (zi x1))]) hC dX1_giveToGreatestRest_50 rfl (by decide) rfl ?_
      refine z_qload_n hC 0 rfl dX1_giveToGreatestRest_51 rfl ?_
      refine z_ifnonnull (tgt := 56) hC dX1_giveToGreatestRest_52 (by decide) (fun h0 => ?_) (fun a11 h0 => ?_)
      · subst h0
        exact z_vret hC hr dX1_giveToGreatestRest_55
      · subst h0
        refine z_aload_n hC 0 rfl dX1_giveToGreatestRest_56 rfl ?_
        refine z_dup hC rfl dX1_giveToGreatestRest_57 ?_
        refine z_getI hC zF1_52 rfl dX1_giveToGreatestRest_58 (fun v12 hv12 => ?_)
        refine z_iconst hC dX1_giveToGreatestRest_61 ?_
        refine z_iadd hC dX1_giveToGreatestRest_62 (fun v13 hv13 => ?_)
        refine z_putI hC hv13 zF1_52 rfl rfl dX1_giveToGreatestRest_63 (fun G14 => ?_)
        refine z_aload_n hC 1 rfl dX1_giveToGreatestRest_66 rfl ?_
        refine z_getQ hC zF1_9 rfl dX1_giveToGreatestRest_67 (fun v15 => ?_)
        refine z_iload_n hC 2 rfl dX1_giveToGreatestRest_70 rfl ?_
        refine z_iconst hC dX1_giveToGreatestRest_71 ?_
        refine z_cV (z_rS (As := [.ref v15, .int (zi x1), .int (zi (0))]) hC (fun _ h1 => SB_put FU v15 x1 (0) hx1 (by decide) h1) zM1_48 zMs_FB_put ⟨by decide, by decide⟩ rfl rfl rfl (rest := []) (Nat.le_of_ble_eq_true rfl) ⟨Nat.le_of_ble_eq_true rfl, Nat.le_of_ble_eq_true rfl⟩ rfl dX1_giveToGreatestRest_72) (fun G16 => ?_)
        exact z_vret hC hr dX1_giveToGreatestRest_75
set_option maxRecDepth 100000 in
theorem SFund_giveToGreatestRest {l : Launch} {D : va_G} {aC : Nat → ClassId} (FU : Nat) (this : Nat) {G : Hp} {r1 : (Unit × Hp)} (h1 : FFund_giveToGreatestRest FU this G = some r1) : Met l yX1_giveToGreatestRest (Cond.code yX1_giveToGreatestRest cX1_giveToGreatestRest 3 none :: zgood) ({ frames := 2, cells := 0, slots := 0, locals := 46 } : Room) (va_Pc [.ref this] (zU D aC G)) (zQ D aC G (True) (none) r1.2) 0 0 (zA G) := by
  refine z_met (y := yX1_giveToGreatestRest) (b := cX1_giveToGreatestRest) (maxL := 3) (mc := 0) (ms := 0) (ret := none) (As := [.ref this]) (Q1 := fun r1 => zQ D aC G (True) (none) r1.2) (X := FFund_giveToGreatestRest FU this G) (by decide) (Nat.le_of_ble_eq_true rfl) ?_ h1
  intro p e s m below meth c hC hr hi
  have hC : zC p m c meth s ([.ref this] : List Value).toArray cX1_giveToGreatestRest 3 RX1 D aC := hC
  generalize ([.ref this] : List Value).toArray = args at hC ⊢
  show zS p l e ({ frames := 2, cells := 0, slots := 0, locals := 46 } : Room) s m args below meth c D aC G (zfV D aC G below args s 0 0) 3 0 0 (FFund_giveToGreatestRest FU this G) G 0 [(0, .ref this)] []
  unfold FFund_giveToGreatestRest
  refine z_gd ?_
  unfold FFund_giveToGreatestRest_b
  refine z_iconst hC dX1_giveToGreatestRest_0 ?_
  refine z_istore_n (lo' := [(1, .int (zi (0))), (0, .ref this)]) hC dX1_giveToGreatestRest_1 rfl (by decide) rfl ?_
  refine z_iconst hC dX1_giveToGreatestRest_2 ?_
  refine z_istore_n (lo' := [(2, .int (zi (1))), (1, .int (zi (0))), (0, .ref this)]) hC dX1_giveToGreatestRest_3 rfl (by decide) rfl ?_
  refine z_sub hC [2, 1, 0] (lo' := [(0, .ref this), (1, .int (zi (0))), (2, .int (zi (1)))]) rfl ?_
  exact SFund_giveToGreatestRest_L4 hC hr FU FU this (0) (1) G (by decide) (by decide)
theorem SFund_giveToGreatestRest_k {FU : Nat} {this : Nat} {G : Hp} {r1 : (Unit × Hp)} (h1 : FFund_giveToGreatestRest FU this G = some r1) : zk G this = some (1, 0) := zgd_k (k := FFund_giveToGreatestRest_b FU this G) h1

set_option maxRecDepth 100000 in
theorem SFund_partOut_B56 {p : Program} {l : Launch} {e : Env} {s : State} {m : MethodId} {args : Array Value} {below : List Frame} {meth : Method} {c : Code} {D : va_G} {aC : Nat → ClassId} {G0 : Hp} (hC : zC p m c meth s args cX1_partOut 5 RX1 D aC) (hr : meth.sig.returnType = (some .int)) (FU : Nat) (x0 : Nat) (x1 : Int) (G : Hp) (hx1 : zInI x1) : zS p l e ({ frames := 3, cells := 0, slots := 0, locals := 74 } : Room) s m args below meth c D aC G0 (zfI D aC G0 below args s 0 0) 5 0 0 (FFund_partOut_B56 FU x0 x1 G) G 56 [(0, .ref x0), (1, .int (zi x1))] [] := by
  unfold FFund_partOut_B56
  refine z_aload_n hC 0 rfl dX1_partOut_56 rfl ?_
  refine z_dup hC rfl dX1_partOut_57 ?_
  refine z_getI hC zF1_23 rfl dX1_partOut_58 (fun v1 hv1 => ?_)
  refine z_iload_n hC 1 rfl dX1_partOut_61 rfl ?_
  refine z_isub hC dX1_partOut_62 (fun v2 hv2 => ?_)
  refine z_putI hC hv2 zF1_23 rfl rfl dX1_partOut_63 (fun G3 => ?_)
  refine z_aload_n hC 0 rfl dX1_partOut_66 rfl ?_
  refine z_getI hC zF1_23 rfl dX1_partOut_67 (fun v4 hv4 => ?_)
  exact z_iret hC hv4 hr dX1_partOut_70
set_option maxRecDepth 100000 in
theorem SFund_partOut_L32 {p : Program} {l : Launch} {e : Env} {s : State} {m : MethodId} {args : Array Value} {below : List Frame} {meth : Method} {c : Code} {D : va_G} {aC : Nat → ClassId} {G0 : Hp} (hC : zC p m c meth s args cX1_partOut 5 RX1 D aC) (hr : meth.sig.returnType = (some .int)) (FU : Nat) : ∀ (n : Nat) (x0 : Nat) (x1 : Int) (x3 : Int) (x4 : Int) (G : Hp) (hx1 : zInI x1) (hx3 : zInI x3) (hx4 : zInI x4), zS p l e ({ frames := 3, cells := 0, slots := 0, locals := 74 } : Room) s m args below meth c D aC G0 (zfI D aC G0 below args s 0 0) 5 0 0 (FFund_partOut_L32 FU n x0 x1 x3 x4 G) G 32 [(0, .ref x0), (1, .int (zi x1)), (3, .int (zi x3)), (4, .int (zi x4))] [] := by
  intro n
  induction n with
  | zero => intros; exact z_none
  | succ n ih =>
    intro x0 x1 x3 x4 G hx1 hx3 hx4
    rw [FFund_partOut_L32]
    refine z_iload hC 3 rfl dX1_partOut_32 ?_
    refine z_bipush hC dX1_partOut_34 rfl ?_
    refine z_icmp_ge (tgt := 56) hC hx4 (by decide) dX1_partOut_36 (by decide) (fun _ => ?_) (fun _ => ?_)
    · refine z_iload_n hC 2 rfl dX1_partOut_39 rfl ?_
      refine z_if_le (tgt := 56) hC hx3 dX1_partOut_40 (by decide) (fun _ => ?_) (fun _ => ?_)
      · refine z_sub hC [0, 1] (lo' := [(0, .ref x0), (1, .int (zi x1))]) rfl ?_
        exact SFund_partOut_B56 hC hr FU x0 x1 G hx1
      · refine z_aload_n hC 0 rfl dX1_partOut_43 rfl ?_
        refine z_cV (z_rV (q := x0) (t := 1) (As := []) hC (fun _ h1 => SFund_giveToGreatestRest FU x0 h1) (fun _ h1 => SFund_giveToGreatestRest_k h1) rfl rfl zM1_31 zMv_FFund_giveToGreatestRest ⟨by decide, by decide⟩ rfl rfl rfl (rest := []) (Nat.le_of_ble_eq_true rfl) ⟨Nat.le_of_ble_eq_true rfl, Nat.le_of_ble_eq_true rfl⟩ rfl dX1_partOut_44) (fun G1 => ?_)
        refine z_iinc (lo' := fun v2 => [(3, .int (zi v2)), (0, .ref x0), (1, .int (zi x1)), (4, .int (zi x4))]) hC 2 dX1_partOut_47 rfl (by decide) (fun _ => rfl) (fun v2 hv2 => ?_)
        refine z_iinc (lo' := fun v3 => [(4, .int (zi v3)), (3, .int (zi v2)), (0, .ref x0), (1, .int (zi x1))]) hC 3 dX1_partOut_50 rfl (by decide) (fun _ => rfl) (fun v3 hv3 => ?_)
        refine z_goto (tgt := 32) hC dX1_partOut_53 (by decide) ?_
        refine z_sub hC [2, 3, 1, 0] (lo' := [(0, .ref x0), (1, .int (zi x1)), (3, .int (zi v2)), (4, .int (zi v3))]) rfl ?_
        exact ih x0 x1 v2 v3 G1 hx1 hv2 hv3
    · refine z_sub hC [0, 1] (lo' := [(0, .ref x0), (1, .int (zi x1))]) rfl ?_
      exact SFund_partOut_B56 hC hr FU x0 x1 G hx1
set_option maxRecDepth 100000 in
theorem SFund_partOut {l : Launch} {D : va_G} {aC : Nat → ClassId} (FU : Nat) (this : Nat) (p1 : Int) (hp1 : zInI p1) {G : Hp} {r1 : (Int × Hp)} (h1 : FFund_partOut FU this p1 G = some r1) : Met l yX1_partOut (Cond.code yX1_partOut cX1_partOut 5 (some .int) :: zgood) ({ frames := 3, cells := 0, slots := 0, locals := 74 } : Room) (va_Pc [.ref this, .int (zi p1)] (zU D aC G)) (zQ D aC G (zInI r1.1) (some (.int (zi r1.1))) r1.2) 0 0 (zA G) := by
  refine z_met (y := yX1_partOut) (b := cX1_partOut) (maxL := 5) (mc := 0) (ms := 0) (ret := (some .int)) (As := [.ref this, .int (zi p1)]) (Q1 := fun r1 => zQ D aC G (zInI r1.1) (some (.int (zi r1.1))) r1.2) (X := FFund_partOut FU this p1 G) (by decide) (Nat.le_of_ble_eq_true rfl) ?_ h1
  intro p e s m below meth c hC hr hi
  have hC : zC p m c meth s ([.ref this, .int (zi p1)] : List Value).toArray cX1_partOut 5 RX1 D aC := hC
  generalize ([.ref this, .int (zi p1)] : List Value).toArray = args at hC ⊢
  show zS p l e ({ frames := 3, cells := 0, slots := 0, locals := 74 } : Room) s m args below meth c D aC G (zfI D aC G below args s 0 0) 5 0 0 (FFund_partOut FU this p1 G) G 0 [(0, .ref this), (1, .int (zi p1))] []
  unfold FFund_partOut
  refine z_gd ?_
  unfold FFund_partOut_b
  refine z_aload_n hC 0 rfl dX1_partOut_0 rfl ?_
  refine z_cIp (z_rV (q := this) (t := 1) (As := []) hC (fun _ h1 => SFund_allGains FU this h1) (fun _ h1 => SFund_allGains_k h1) rfl rfl zM1_19 zMv_FFund_allGains ⟨by decide, by decide⟩ rfl rfl rfl (rest := []) (Nat.le_of_ble_eq_true rfl) ⟨Nat.le_of_ble_eq_true rfl, Nat.le_of_ble_eq_true rfl⟩ rfl dX1_partOut_1) (fun v1 hv1 => ?_)
  refine z_istore_n (lo' := [(2, .int (zi v1)), (0, .ref this), (1, .int (zi p1))]) hC dX1_partOut_4 rfl (by decide) rfl ?_
  refine z_iload_n hC 2 rfl dX1_partOut_5 rfl ?_
  refine z_aload_n hC 1 rfl dX1_partOut_6 rfl ?_
  refine z_getI hC zF1_23 rfl dX1_partOut_7 (fun v2 hv2 => ?_)
  refine z_icmp_gt (tgt := 17) hC hp1 hv2 dX1_partOut_10 (by decide) (fun _ => ?_) (fun _ => ?_)
  · refine z_iload_n hC 0 rfl dX1_partOut_13 rfl ?_
    refine z_if_gt (tgt := 20) hC hv1 dX1_partOut_14 (by decide) (fun _ => ?_) (fun _ => ?_)
    · refine z_bipush hC dX1_partOut_17 rfl ?_
      exact z_iret hC (by decide) hr dX1_partOut_19
    · refine z_iload_n hC 2 rfl dX1_partOut_20 rfl ?_
      refine z_aload_n hC 1 rfl dX1_partOut_21 rfl ?_
      refine z_iload_n hC 2 rfl dX1_partOut_22 rfl ?_
      refine z_iload_n hC 0 rfl dX1_partOut_23 rfl ?_
      refine z_cI (z_rV (q := this) (t := 1) (As := [.int (zi p1), .int (zi v1)]) hC (fun _ h1 => SFund_giveWholeParts FU this p1 v1 hp1 hv1 h1) (fun _ h1 => SFund_giveWholeParts_k h1) rfl rfl zM1_27 zMv_FFund_giveWholeParts ⟨by decide, by decide⟩ rfl rfl rfl (rest := [.int (zi p1)]) (Nat.le_of_ble_eq_true rfl) ⟨Nat.le_of_ble_eq_true rfl, Nat.le_of_ble_eq_true rfl⟩ rfl dX1_partOut_24) (fun v4 G3 hv4 => ?_)
      refine z_isub hC dX1_partOut_27 (fun v5 hv5 => ?_)
      refine z_istore_n (lo' := [(3, .int (zi v5)), (2, .int (zi v1)), (0, .ref this), (1, .int (zi p1))]) hC dX1_partOut_28 rfl (by decide) rfl ?_
      refine z_iconst hC dX1_partOut_29 ?_
      refine z_istore (lo' := [(4, .int (zi (0))), (3, .int (zi v5)), (2, .int (zi v1)), (0, .ref this), (1, .int (zi p1))]) hC dX1_partOut_30 (by decide) rfl ?_
      refine z_sub hC [3, 4, 1, 0] (lo' := [(0, .ref this), (1, .int (zi p1)), (3, .int (zi v5)), (4, .int (zi (0)))]) rfl ?_
      exact SFund_partOut_L32 hC hr FU FU this p1 v5 (0) G3 hp1 hv5 (by decide)
  · refine z_bipush hC dX1_partOut_17 rfl ?_
    exact z_iret hC (by decide) hr dX1_partOut_19
theorem SFund_partOut_k {FU : Nat} {this : Nat} {p1 : Int} {G : Hp} {r1 : (Int × Hp)} (h1 : FFund_partOut FU this p1 G = some r1) : zk G this = some (1, 0) := zgd_k (k := FFund_partOut_b FU this p1 G) h1

set_option maxRecDepth 100000 in
theorem SMarket_init {l : Launch} {D : va_G} {aC : Nat → ClassId} (FU : Nat) (this : Nat) (p1 : Nat) {G : Hp} {r1 : (Unit × Hp)} (h1 : FMarket_init FU this p1 G = some r1) : Met l yX2_init (Cond.code yX2_init cX2_init 2 none :: zgood) ({ frames := 1, cells := 46, slots := 1406, locals := 24 } : Room) (va_Pc [.ref this, .ref p1] (zU D aC G)) (zQ D aC G (True) (none) r1.2) 46 1406 (zA G) := by
  refine z_met (y := yX2_init) (b := cX2_init) (maxL := 2) (mc := 46) (ms := 1406) (ret := none) (As := [.ref this, .ref p1]) (Q1 := fun r1 => zQ D aC G (True) (none) r1.2) (X := FMarket_init FU this p1 G) (by decide) (Nat.le_of_ble_eq_true rfl) ?_ h1
  intro p e s m below meth c hC hr hi
  have hC : zC p m c meth s ([.ref this, .ref p1] : List Value).toArray cX2_init 2 RX2 D aC := hC
  generalize ([.ref this, .ref p1] : List Value).toArray = args at hC ⊢
  show zS p l e ({ frames := 1, cells := 46, slots := 1406, locals := 24 } : Room) s m args below meth c D aC G (zfV D aC G below args s 46 1406) 2 0 0 (FMarket_init FU this p1 G) G 0 [(0, .ref this), (1, .ref p1)] []
  unfold FMarket_init
  refine z_aload_n hC 0 rfl dX2_init_0 rfl ?_
  refine z_objInit hC zO2_3 ⟨by decide, by decide⟩ ⟨by decide, by decide⟩ dX2_init_1 ?_
  refine z_aload_n hC 0 rfl dX2_init_4 rfl ?_
  refine z_bipush hC dX2_init_5 rfl ?_
  refine z_bipush hC dX2_init_7 rfl ?_
  refine z_multi hC 43 30 rfl rfl (by decide) (by decide) (zgood_in 184 (by decide +kernel) (by decide +kernel)) (zgood_in 155 (by decide +kernel) (by decide +kernel)) (by decide) (by decide) dX2_init_9 (fun a1 G2 => ?_)
  refine z_widen (k := 44) (n := 1333) (by decide) (by decide) ?_
  refine z_putFR hC (t := 2) (k := 1) rfl (by decide) rfl (zgood_in 186 (by decide +kernel) (by decide +kernel)) rfl rfl hi rfl dX2_init_13 (fun G3 => ?_)
  refine z_aload_n hC 0 rfl dX2_init_16 rfl ?_
  refine z_bipush hC dX2_init_17 rfl ?_
  refine z_newarr20 hC 43 rfl (by decide) (zgood_in 155 (by decide +kernel) (by decide +kernel)) (by decide) (by decide) dX2_init_19 (fun a4 G5 => ?_)
  refine z_widen (k := 45) (n := 1376) (by decide) (by decide) ?_
  refine z_putFR hC (t := 2) (k := 2) rfl (by decide) rfl (zgood_in 187 (by decide +kernel) (by decide +kernel)) rfl rfl hi rfl dX2_init_21 (fun G6 => ?_)
  refine z_aload_n hC 0 rfl dX2_init_24 rfl ?_
  refine z_bipush hC dX2_init_25 rfl ?_
  refine z_newarr20 hC 30 rfl (by decide) (zgood_in 155 (by decide +kernel) (by decide +kernel)) (by decide) (by decide) dX2_init_27 (fun a7 G8 => ?_)
  refine z_widen (k := 46) (n := 1406) (by decide) (by decide) ?_
  refine z_putFR hC (t := 2) (k := 3) rfl (by decide) rfl (zgood_in 188 (by decide +kernel) (by decide +kernel)) rfl rfl hi rfl dX2_init_29 (fun G9 => ?_)
  refine z_aload_n hC 0 rfl dX2_init_32 rfl ?_
  refine z_bipush hC dX2_init_33 rfl ?_
  refine z_putI hC (by decide) zF2_23 rfl rfl dX2_init_35 (fun G10 => ?_)
  refine z_aload_n hC 0 rfl dX2_init_38 rfl ?_
  refine z_aload_n hC 1 rfl dX2_init_39 rfl ?_
  refine z_putFR hC (t := 2) (k := 0) rfl (by decide) rfl (zgood_in 185 (by decide +kernel) (by decide +kernel)) rfl rfl hi rfl dX2_init_40 (fun G11 => ?_)
  exact z_vret hC hr dX2_init_43

set_option maxRecDepth 100000 in
theorem SMarket_pullOf {l : Launch} {D : va_G} {aC : Nat → ClassId} (FU : Nat) (p1 : Int) (p2 : Int) (hp1 : zInI p1) (hp2 : zInI p2) {G : Hp} {r1 : Int} (h1 : FMarket_pullOf FU p1 p2 G = some r1) : Met l yX2_pullOf (Cond.code yX2_pullOf cX2_pullOf 2 (some .int) :: zgood) ({ frames := 1, cells := 0, slots := 0, locals := 24 } : Room) (va_Pc [.int (zi p1), .int (zi p2)] (zU D aC G)) (zQ D aC G (zInI r1) (some (.int (zi r1))) G) 0 0 (zA G) := by
  refine z_met (y := yX2_pullOf) (b := cX2_pullOf) (maxL := 2) (mc := 0) (ms := 0) (ret := (some .int)) (As := [.int (zi p1), .int (zi p2)]) (Q1 := fun r1 => zQ D aC G (zInI r1) (some (.int (zi r1))) G) (X := FMarket_pullOf FU p1 p2 G) (by decide) (Nat.le_of_ble_eq_true rfl) ?_ h1
  intro p e s m below meth c hC hr hi
  have hC : zC p m c meth s ([.int (zi p1), .int (zi p2)] : List Value).toArray cX2_pullOf 2 RX2 D aC := hC
  generalize ([.int (zi p1), .int (zi p2)] : List Value).toArray = args at hC ⊢
  show zS p l e ({ frames := 1, cells := 0, slots := 0, locals := 24 } : Room) s m args below meth c D aC G (fun r1 => zfI D aC G below args s 0 0 (r1, G)) 2 0 0 (FMarket_pullOf FU p1 p2 G) G 0 [(0, .int (zi p1)), (1, .int (zi p2))] []
  unfold FMarket_pullOf
  refine z_iload_n hC 1 rfl dX2_pullOf_0 rfl ?_
  refine z_if_ge (tgt := 8) hC hp2 dX2_pullOf_1 (by decide) (fun _ => ?_) (fun _ => ?_)
  · refine z_iconst hC dX2_pullOf_4 ?_
    refine z_goto (tgt := 17) hC dX2_pullOf_5 (by decide) ?_
    exact z_iretp hC (by decide) hr dX2_pullOf_17
  · refine z_iload_n hC 0 rfl dX2_pullOf_8 rfl ?_
    refine z_sipush hC dX2_pullOf_9 rfl ?_
    refine z_imul hC dX2_pullOf_12 (fun v1 hv1 => ?_)
    refine z_iconst hC dX2_pullOf_13 ?_
    refine z_iload_n hC 1 rfl dX2_pullOf_14 rfl ?_
    refine z_iadd hC dX2_pullOf_15 (fun v2 hv2 => ?_)
    refine z_idiv hC hv1 hv2 dX2_pullOf_16 (fun v3 hv3 => ?_)
    exact z_iretp hC hv3 hr dX2_pullOf_17

set_option maxRecDepth 100000 in
theorem SMarket_addStall_B92 {p : Program} {l : Launch} {e : Env} {s : State} {m : MethodId} {args : Array Value} {below : List Frame} {meth : Method} {c : Code} {D : va_G} {aC : Nat → ClassId} {G0 : Hp} (hC : zC p m c meth s args cX2_addStall 6 RX2 D aC) (hr : meth.sig.returnType = none) (FU : Nat) (x0 : Nat) (x3 : Int) (G : Hp) (hx3 : zInI x3) : zS p l e ({ frames := 3, cells := 0, slots := 0, locals := 69 } : Room) s m args below meth c D aC G0 (zfV D aC G0 below args s 0 0) 6 0 0 (FMarket_addStall_B92 FU x0 x3 G) G 92 [(0, .ref x0), (3, .int (zi x3))] [] := by
  unfold FMarket_addStall_B92
  refine z_aload_n hC 0 rfl dX2_addStall_92 rfl ?_
  refine z_getQ hC zF2_16 rfl dX2_addStall_93 (fun v1 => ?_)
  refine z_aload_n hC 0 rfl dX2_addStall_96 rfl ?_
  refine z_getI hC zF2_31 rfl dX2_addStall_97 (fun v2 hv2 => ?_)
  refine z_iload_n hC 1 rfl dX2_addStall_100 rfl ?_
  refine z_cV (z_rS (As := [.ref v1, .int (zi v2), .int (zi x3)]) hC (fun _ h1 => SB_put FU v1 v2 x3 hv2 hx3 h1) zM2_71 zMs_FB_put ⟨by decide, by decide⟩ rfl rfl rfl (rest := []) (Nat.le_of_ble_eq_true rfl) ⟨Nat.le_of_ble_eq_true rfl, Nat.le_of_ble_eq_true rfl⟩ rfl dX2_addStall_101) (fun G3 => ?_)
  refine z_aload_n hC 0 rfl dX2_addStall_104 rfl ?_
  refine z_dup hC rfl dX2_addStall_105 ?_
  refine z_getI hC zF2_31 rfl dX2_addStall_106 (fun v4 hv4 => ?_)
  refine z_iconst hC dX2_addStall_109 ?_
  refine z_iadd hC dX2_addStall_110 (fun v5 hv5 => ?_)
  refine z_putI hC hv5 zF2_31 rfl rfl dX2_addStall_111 (fun G6 => ?_)
  exact z_vret hC hr dX2_addStall_114
set_option maxRecDepth 100000 in
theorem SMarket_addStall_L34 {p : Program} {l : Launch} {e : Env} {s : State} {m : MethodId} {args : Array Value} {below : List Frame} {meth : Method} {c : Code} {D : va_G} {aC : Nat → ClassId} {G0 : Hp} (hC : zC p m c meth s args cX2_addStall 6 RX2 D aC) (hr : meth.sig.returnType = none) (FU : Nat) : ∀ (n : Nat) (x0 : Nat) (x1 : Int) (x2 : Int) (x3 : Int) (x4 : Nat) (x5 : Int) (G : Hp) (hx1 : zInI x1) (hx2 : zInI x2) (hx3 : zInI x3) (hx5 : zInI x5), zS p l e ({ frames := 3, cells := 0, slots := 0, locals := 69 } : Room) s m args below meth c D aC G0 (zfV D aC G0 below args s 0 0) 6 0 0 (FMarket_addStall_L34 FU n x0 x1 x2 x3 x4 x5 G) G 34 [(0, .ref x0), (1, .int (zi x1)), (2, .int (zi x2)), (3, .int (zi x3)), (4, .ref x4), (5, .int (zi x5))] [] := by
  intro n
  induction n with
  | zero => intros; exact z_none
  | succ n ih =>
    intro x0 x1 x2 x3 x4 x5 G hx1 hx2 hx3 hx5
    rw [FMarket_addStall_L34]
    refine z_iload hC 5 rfl dX2_addStall_34 ?_
    refine z_aload hC 4 rfl dX2_addStall_36 ?_
    refine z_alen20 hC dX2_addStall_38 (fun v1 hv1 => ?_)
    refine z_icmp_ge (tgt := 92) hC hx5 hv1 dX2_addStall_39 (by decide) (fun _ => ?_) (fun _ => ?_)
    · refine z_iload hC 5 rfl dX2_addStall_42 ?_
      refine z_aload_n hC 0 rfl dX2_addStall_44 rfl ?_
      refine z_getQ hC zF2_20 rfl dX2_addStall_45 (fun v2 => ?_)
      refine z_alen20 hC dX2_addStall_48 (fun v3 hv3 => ?_)
      refine z_icmp_ge (tgt := 92) hC hx5 hv3 dX2_addStall_49 (by decide) (fun _ => ?_) (fun _ => ?_)
      · refine z_aload hC 4 rfl dX2_addStall_52 ?_
        refine z_iload hC 5 rfl dX2_addStall_54 ?_
        refine z_iload_n hC 2 rfl dX2_addStall_56 rfl ?_
        refine z_aload_n hC 0 rfl dX2_addStall_57 rfl ?_
        refine z_getQ hC zF2_27 rfl dX2_addStall_58 (fun v4 => ?_)
        refine z_iload hC 5 rfl dX2_addStall_61 ?_
        refine z_iload_n hC 1 rfl dX2_addStall_63 rfl ?_
        refine z_cIp (z_rV (q := v4) (t := 10) (As := [.int (zi x5), .int (zi x1)]) hC (fun _ h1 => STown_wayBetween FU v4 x5 x1 hx5 hx1 h1) (fun _ h1 => STown_wayBetween_k h1) rfl rfl zM2_62 zMv_FTown_wayBetween ⟨by decide, by decide⟩ rfl rfl rfl (rest := [.int (zi x2), .int (zi x5), .ref x4]) (Nat.le_of_ble_eq_true rfl) ⟨Nat.le_of_ble_eq_true rfl, Nat.le_of_ble_eq_true rfl⟩ rfl dX2_addStall_64) (fun v5 hv5 => ?_)
        refine z_cIp (z_rS (As := [.int (zi x2), .int (zi v5)]) hC (fun _ h1 => SMarket_pullOf FU x2 v5 hx2 hv5 h1) zM2_68 zMs_FMarket_pullOf ⟨by decide, by decide⟩ rfl rfl rfl (rest := [.int (zi x5), .ref x4]) (Nat.le_of_ble_eq_true rfl) ⟨Nat.le_of_ble_eq_true rfl, Nat.le_of_ble_eq_true rfl⟩ rfl dX2_addStall_67) (fun v6 hv6 => ?_)
        refine z_iast hC hx5 hv6 dX2_addStall_70 (fun G7 => ?_)
        refine z_aload_n hC 0 rfl dX2_addStall_71 rfl ?_
        refine z_getQ hC zF2_20 rfl dX2_addStall_72 (fun v8 => ?_)
        refine z_iload hC 5 rfl dX2_addStall_75 ?_
        refine z_dup2 hC rfl rfl dX2_addStall_77 ?_
        refine z_iald hC hx5 dX2_addStall_78 (fun v9 hv9 => ?_)
        refine z_aload hC 4 rfl dX2_addStall_79 ?_
        refine z_iload hC 5 rfl dX2_addStall_81 ?_
        refine z_iald hC hx5 dX2_addStall_83 (fun v10 hv10 => ?_)
        refine z_iadd hC dX2_addStall_84 (fun v11 hv11 => ?_)
        refine z_iast hC hx5 hv11 dX2_addStall_85 (fun G12 => ?_)
        refine z_iinc (lo' := fun v13 => [(5, .int (zi v13)), (0, .ref x0), (1, .int (zi x1)), (2, .int (zi x2)), (3, .int (zi x3)), (4, .ref x4)]) hC 5 dX2_addStall_86 rfl (by decide) (fun _ => rfl) (fun v13 hv13 => ?_)
        refine z_goto (tgt := 34) hC dX2_addStall_89 (by decide) ?_
        refine z_sub hC [1, 2, 3, 4, 5, 0] (lo' := [(0, .ref x0), (1, .int (zi x1)), (2, .int (zi x2)), (3, .int (zi x3)), (4, .ref x4), (5, .int (zi v13))]) rfl ?_
        exact ih x0 x1 x2 x3 x4 v13 G12 hx1 hx2 hx3 hv13
      · refine z_sub hC [0, 3] (lo' := [(0, .ref x0), (3, .int (zi x3))]) rfl ?_
        exact SMarket_addStall_B92 hC hr FU x0 x3 G hx3
    · refine z_sub hC [0, 3] (lo' := [(0, .ref x0), (3, .int (zi x3))]) rfl ?_
      exact SMarket_addStall_B92 hC hr FU x0 x3 G hx3
set_option maxRecDepth 100000 in
theorem SMarket_addStall {l : Launch} {D : va_G} {aC : Nat → ClassId} (FU : Nat) (this : Nat) (p1 : Int) (p2 : Int) (p3 : Int) (hp1 : zInI p1) (hp2 : zInI p2) (hp3 : zInI p3) {G : Hp} {r1 : (Unit × Hp)} (h1 : FMarket_addStall FU this p1 p2 p3 G = some r1) : Met l yX2_addStall (Cond.code yX2_addStall cX2_addStall 6 none :: zgood) ({ frames := 3, cells := 0, slots := 0, locals := 69 } : Room) (va_Pc [.ref this, .int (zi p1), .int (zi p2), .int (zi p3)] (zU D aC G)) (zQ D aC G (True) (none) r1.2) 0 0 (zA G) := by
  refine z_met (y := yX2_addStall) (b := cX2_addStall) (maxL := 6) (mc := 0) (ms := 0) (ret := none) (As := [.ref this, .int (zi p1), .int (zi p2), .int (zi p3)]) (Q1 := fun r1 => zQ D aC G (True) (none) r1.2) (X := FMarket_addStall FU this p1 p2 p3 G) (by decide) (Nat.le_of_ble_eq_true rfl) ?_ h1
  intro p e s m below meth c hC hr hi
  have hC : zC p m c meth s ([.ref this, .int (zi p1), .int (zi p2), .int (zi p3)] : List Value).toArray cX2_addStall 6 RX2 D aC := hC
  generalize ([.ref this, .int (zi p1), .int (zi p2), .int (zi p3)] : List Value).toArray = args at hC ⊢
  show zS p l e ({ frames := 3, cells := 0, slots := 0, locals := 69 } : Room) s m args below meth c D aC G (zfV D aC G below args s 0 0) 6 0 0 (FMarket_addStall FU this p1 p2 p3 G) G 0 [(0, .ref this), (1, .int (zi p1)), (2, .int (zi p2)), (3, .int (zi p3))] []
  unfold FMarket_addStall
  refine z_gd ?_
  unfold FMarket_addStall_b
  refine z_aload_n hC 0 rfl dX2_addStall_0 rfl ?_
  refine z_getI hC zF2_31 rfl dX2_addStall_1 (fun v1 hv1 => ?_)
  refine z_if_lt (tgt := 19) hC hv1 dX2_addStall_4 (by decide) (fun _ => ?_) (fun _ => ?_)
  · exact z_vret hC hr dX2_addStall_19
  · refine z_aload_n hC 0 rfl dX2_addStall_7 rfl ?_
    refine z_getI hC zF2_31 rfl dX2_addStall_8 (fun v2 hv2 => ?_)
    refine z_aload_n hC 0 rfl dX2_addStall_11 rfl ?_
    refine z_getQ hC zF2_11 rfl dX2_addStall_12 (fun v3 => ?_)
    refine z_alen26 hC dX2_addStall_15 (fun v4 hv4 => ?_)
    refine z_icmp_lt (tgt := 20) hC hv2 hv4 dX2_addStall_16 (by decide) (fun _ => ?_) (fun _ => ?_)
    · refine z_aload_n hC 0 rfl dX2_addStall_20 rfl ?_
      refine z_getQ hC zF2_11 rfl dX2_addStall_21 (fun v5 => ?_)
      refine z_aload_n hC 0 rfl dX2_addStall_24 rfl ?_
      refine z_getI hC zF2_31 rfl dX2_addStall_25 (fun v6 hv6 => ?_)
      refine z_aald26 hC hv6 dX2_addStall_28 (fun v7 => ?_)
      refine z_astore (lo' := [(4, .ref v7), (0, .ref this), (1, .int (zi p1)), (2, .int (zi p2)), (3, .int (zi p3))]) hC dX2_addStall_29 (by decide) rfl ?_
      refine z_iconst hC dX2_addStall_31 ?_
      refine z_istore (lo' := [(5, .int (zi (0))), (4, .ref v7), (0, .ref this), (1, .int (zi p1)), (2, .int (zi p2)), (3, .int (zi p3))]) hC dX2_addStall_32 (by decide) rfl ?_
      refine z_sub hC [2, 3, 4, 5, 1, 0] (lo' := [(0, .ref this), (1, .int (zi p1)), (2, .int (zi p2)), (3, .int (zi p3)), (4, .ref v7), (5, .int (zi (0)))]) rfl ?_
      exact SMarket_addStall_L34 hC hr FU FU this p1 p2 p3 v7 (0) G hp1 hp2 hp3 (by decide)
    · exact z_vret hC hr dX2_addStall_19
theorem SMarket_addStall_k {FU : Nat} {this : Nat} {p1 : Int} {p2 : Int} {p3 : Int} {G : Hp} {r1 : (Unit × Hp)} (h1 : FMarket_addStall FU this p1 p2 p3 G = some r1) : zk G this = some (2, 0) := zgd_k (k := FMarket_addStall_b FU this p1 p2 p3 G) h1

set_option maxRecDepth 100000 in
theorem SMarket_fillFrom_B72 {p : Program} {l : Launch} {e : Env} {s : State} {m : MethodId} {args : Array Value} {below : List Frame} {meth : Method} {c : Code} {D : va_G} {aC : Nat → ClassId} {G0 : Hp} (hC : zC p m c meth s args cX2_fillFrom 4 RX2 D aC) (hr : meth.sig.returnType = none) (FU : Nat) (kL31 : Nat → Nat → Int → Hp → Option (Unit × Hp)) (hkL31 : ∀ (a0 : Nat) (a1 : Nat) (a2 : Int) (G : Hp), zInI a2 → zS p l e ({ frames := 4, cells := 0, slots := 0, locals := 94 } : Room) s m args below meth c D aC G0 (zfV D aC G0 below args s 0 0) 4 0 0 (kL31 a0 a1 a2 G) G 31 [(0, .ref a0), (1, .ref a1), (2, .int (zi a2))] []) (x0 : Nat) (x1 : Nat) (x2 : Int) (x3 : Nat) (y0 : Nat) (y1 : Int) (y2 : Int) (G : Hp) (hx2 : zInI x2) (hy1 : zInI y1) (hy2 : zInI y2) : zS p l e ({ frames := 4, cells := 0, slots := 0, locals := 94 } : Room) s m args below meth c D aC G0 (zfV D aC G0 below args s 0 0) 4 0 0 (FMarket_fillFrom_B72 FU kL31 x0 x1 x2 x3 y0 y1 y2 G) G 72 [(0, .ref x0), (1, .ref x1), (2, .int (zi x2)), (3, .ref x3)] [.int (zi y2), .int (zi y1), .ref y0] := by
  unfold FMarket_fillFrom_B72
  refine z_aload_n hC 3 rfl dX2_fillFrom_72 rfl ?_
  refine z_getI hC zF2_55 rfl dX2_fillFrom_73 (fun v1 hv1 => ?_)
  refine z_cV (z_rV (q := y0) (t := 2) (As := [.int (zi y1), .int (zi y2), .int (zi v1)]) hC (fun _ h1 => SMarket_addStall FU y0 y1 y2 v1 hy1 hy2 hv1 h1) (fun _ h1 => SMarket_addStall_k h1) rfl rfl zM2_58 zMv_FMarket_addStall ⟨by decide, by decide⟩ rfl rfl rfl (rest := []) (Nat.le_of_ble_eq_true rfl) ⟨Nat.le_of_ble_eq_true rfl, Nat.le_of_ble_eq_true rfl⟩ rfl dX2_fillFrom_76) (fun G2 => ?_)
  refine z_iinc (lo' := fun v3 => [(2, .int (zi v3)), (0, .ref x0), (1, .ref x1), (3, .ref x3)]) hC 2 dX2_fillFrom_79 rfl (by decide) (fun _ => rfl) (fun v3 hv3 => ?_)
  refine z_goto (tgt := 31) hC dX2_fillFrom_82 (by decide) ?_
  refine z_sub hC [1, 2, 0] (lo' := [(0, .ref x0), (1, .ref x1), (2, .int (zi v3))]) rfl ?_
  exact hkL31 x0 x1 v3 G2 hv3
set_option maxRecDepth 100000 in
theorem SMarket_fillFrom_L31 {p : Program} {l : Launch} {e : Env} {s : State} {m : MethodId} {args : Array Value} {below : List Frame} {meth : Method} {c : Code} {D : va_G} {aC : Nat → ClassId} {G0 : Hp} (hC : zC p m c meth s args cX2_fillFrom 4 RX2 D aC) (hr : meth.sig.returnType = none) (FU : Nat) : ∀ (n : Nat) (x0 : Nat) (x1 : Nat) (x2 : Int) (G : Hp) (hx2 : zInI x2), zS p l e ({ frames := 4, cells := 0, slots := 0, locals := 94 } : Room) s m args below meth c D aC G0 (zfV D aC G0 below args s 0 0) 4 0 0 (FMarket_fillFrom_L31 FU n x0 x1 x2 G) G 31 [(0, .ref x0), (1, .ref x1), (2, .int (zi x2))] [] := by
  intro n
  induction n with
  | zero => intros; exact z_none
  | succ n ih =>
    intro x0 x1 x2 G hx2
    rw [FMarket_fillFrom_L31]
    refine z_iload_n hC 2 rfl dX2_fillFrom_31 rfl ?_
    refine z_aload_n hC 1 rfl dX2_fillFrom_32 rfl ?_
    refine z_getI hC zF2_34 rfl dX2_fillFrom_33 (fun v1 hv1 => ?_)
    refine z_icmp_ge (tgt := 85) hC hx2 hv1 dX2_fillFrom_36 (by decide) (fun _ => ?_) (fun _ => ?_)
    · refine z_aload_n hC 1 rfl dX2_fillFrom_39 rfl ?_
      refine z_iload_n hC 2 rfl dX2_fillFrom_40 rfl ?_
      refine z_cAp (z_rV (q := x1) (t := 0) (As := [.int (zi x2)]) hC (fun _ h1 => SChain_shopAt FU x1 x2 hx2 h1) (fun _ h1 => SChain_shopAt_k h1) rfl rfl zM2_39 zMv_FChain_shopAt ⟨by decide, by decide⟩ rfl rfl rfl (rest := []) (Nat.le_of_ble_eq_true rfl) ⟨Nat.le_of_ble_eq_true rfl, Nat.le_of_ble_eq_true rfl⟩ rfl dX2_fillFrom_41) (fun v2 => ?_)
      refine z_qstore_n (lo' := [(3, va_rf v2), (0, .ref x0), (1, .ref x1), (2, .int (zi x2))]) hC dX2_fillFrom_44 rfl (by decide) rfl ?_
      refine z_qload_n hC 0 rfl dX2_fillFrom_45 rfl ?_
      refine z_ifnonnull (tgt := 52) hC dX2_fillFrom_46 (by decide) (fun h0 => ?_) (fun a3 h0 => ?_)
      · subst h0
        refine z_goto (tgt := 79) hC dX2_fillFrom_49 (by decide) ?_
        refine z_iinc (lo' := fun v4 => [(2, .int (zi v4)), (3, .null), (0, .ref x0), (1, .ref x1)]) hC 3 dX2_fillFrom_79 rfl (by decide) (fun _ => rfl) (fun v4 hv4 => ?_)
        refine z_goto (tgt := 31) hC dX2_fillFrom_82 (by decide) ?_
        refine z_sub hC [2, 3, 0] (lo' := [(0, .ref x0), (1, .ref x1), (2, .int (zi v4))]) rfl ?_
        exact ih x0 x1 v4 G hv4
      · subst h0
        refine z_aload_n hC 1 rfl dX2_fillFrom_52 rfl ?_
        refine z_aload_n hC 0 rfl dX2_fillFrom_53 rfl ?_
        refine z_getI hC zF2_43 rfl dX2_fillFrom_54 (fun v5 hv5 => ?_)
        refine z_aload_n hC 0 rfl dX2_fillFrom_57 rfl ?_
        refine z_cZp (z_rV (q := a3) (t := 7) (As := []) hC (fun _ h1 => SShop_isOpen FU a3 h1) (fun _ h1 => SShop_isOpen_k h1) rfl rfl zM2_48 zMv_FShop_isOpen ⟨by decide, by decide⟩ rfl rfl rfl (rest := [.int (zi v5), .ref x0]) (Nat.le_of_ble_eq_true rfl) ⟨Nat.le_of_ble_eq_true rfl, Nat.le_of_ble_eq_true rfl⟩ rfl dX2_fillFrom_58) (fun v6 hv6 => ?_)
        refine z_if_eq (tgt := 71) hC (hv6).i dX2_fillFrom_61 (by decide) (fun _ => ?_) (fun _ => ?_)
        · refine z_iconst hC dX2_fillFrom_71 ?_
          refine z_sub hC [1, 2, 3, 0] (lo' := [(0, .ref x0), (1, .ref x1), (2, .int (zi x2)), (3, .ref a3)]) rfl ?_
          exact SMarket_fillFrom_B72 hC hr FU (FMarket_fillFrom_L31 FU n) ih x0 x1 x2 a3 x0 v5 (0) G hx2 hv5 (by decide)
        · refine z_aload_n hC 0 rfl dX2_fillFrom_64 rfl ?_
          refine z_getI hC zF2_52 rfl dX2_fillFrom_65 (fun v7 hv7 => ?_)
          refine z_goto (tgt := 72) hC dX2_fillFrom_68 (by decide) ?_
          refine z_sub hC [1, 2, 3, 0] (lo' := [(0, .ref x0), (1, .ref x1), (2, .int (zi x2)), (3, .ref a3)]) rfl ?_
          exact SMarket_fillFrom_B72 hC hr FU (FMarket_fillFrom_L31 FU n) ih x0 x1 x2 a3 x0 v5 v7 G hx2 hv5 hv7
    · exact z_vret hC hr dX2_fillFrom_85
set_option maxRecDepth 100000 in
theorem SMarket_fillFrom_L7 {p : Program} {l : Launch} {e : Env} {s : State} {m : MethodId} {args : Array Value} {below : List Frame} {meth : Method} {c : Code} {D : va_G} {aC : Nat → ClassId} {G0 : Hp} (hC : zC p m c meth s args cX2_fillFrom 4 RX2 D aC) (hr : meth.sig.returnType = none) (FU : Nat) : ∀ (n : Nat) (x0 : Nat) (x1 : Nat) (x2 : Int) (G : Hp) (hx2 : zInI x2), zS p l e ({ frames := 4, cells := 0, slots := 0, locals := 94 } : Room) s m args below meth c D aC G0 (zfV D aC G0 below args s 0 0) 4 0 0 (FMarket_fillFrom_L7 FU n x0 x1 x2 G) G 7 [(0, .ref x0), (1, .ref x1), (2, .int (zi x2))] [] := by
  intro n
  induction n with
  | zero => intros; exact z_none
  | succ n ih =>
    intro x0 x1 x2 G hx2
    rw [FMarket_fillFrom_L7]
    refine z_iload_n hC 2 rfl dX2_fillFrom_7 rfl ?_
    refine z_aload_n hC 0 rfl dX2_fillFrom_8 rfl ?_
    refine z_getQ hC zF2_20 rfl dX2_fillFrom_9 (fun v1 => ?_)
    refine z_alen20 hC dX2_fillFrom_12 (fun v2 hv2 => ?_)
    refine z_icmp_ge (tgt := 29) hC hx2 hv2 dX2_fillFrom_13 (by decide) (fun _ => ?_) (fun _ => ?_)
    · refine z_aload_n hC 0 rfl dX2_fillFrom_16 rfl ?_
      refine z_getQ hC zF2_20 rfl dX2_fillFrom_17 (fun v3 => ?_)
      refine z_iload_n hC 2 rfl dX2_fillFrom_20 rfl ?_
      refine z_iconst hC dX2_fillFrom_21 ?_
      refine z_iast hC hx2 (by decide) dX2_fillFrom_22 (fun G4 => ?_)
      refine z_iinc (lo' := fun v5 => [(2, .int (zi v5)), (0, .ref x0), (1, .ref x1)]) hC 2 dX2_fillFrom_23 rfl (by decide) (fun _ => rfl) (fun v5 hv5 => ?_)
      refine z_goto (tgt := 7) hC dX2_fillFrom_26 (by decide) ?_
      refine z_sub hC [1, 2, 0] (lo' := [(0, .ref x0), (1, .ref x1), (2, .int (zi v5))]) rfl ?_
      exact ih x0 x1 v5 G4 hv5
    · refine z_iconst hC dX2_fillFrom_29 ?_
      refine z_istore_n (lo' := [(2, .int (zi (0))), (0, .ref x0), (1, .ref x1)]) hC dX2_fillFrom_30 rfl (by decide) rfl ?_
      refine z_sub hC [1, 2, 0] (lo' := [(0, .ref x0), (1, .ref x1), (2, .int (zi (0)))]) rfl ?_
      exact SMarket_fillFrom_L31 hC hr FU FU x0 x1 (0) G (by decide)
set_option maxRecDepth 100000 in
theorem SMarket_fillFrom {l : Launch} {D : va_G} {aC : Nat → ClassId} (FU : Nat) (this : Nat) (p1 : Nat) {G : Hp} {r1 : (Unit × Hp)} (h1 : FMarket_fillFrom FU this p1 G = some r1) : Met l yX2_fillFrom (Cond.code yX2_fillFrom cX2_fillFrom 4 none :: zgood) ({ frames := 4, cells := 0, slots := 0, locals := 94 } : Room) (va_Pc [.ref this, .ref p1] (zU D aC G)) (zQ D aC G (True) (none) r1.2) 0 0 (zA G) := by
  refine z_met (y := yX2_fillFrom) (b := cX2_fillFrom) (maxL := 4) (mc := 0) (ms := 0) (ret := none) (As := [.ref this, .ref p1]) (Q1 := fun r1 => zQ D aC G (True) (none) r1.2) (X := FMarket_fillFrom FU this p1 G) (by decide) (Nat.le_of_ble_eq_true rfl) ?_ h1
  intro p e s m below meth c hC hr hi
  have hC : zC p m c meth s ([.ref this, .ref p1] : List Value).toArray cX2_fillFrom 4 RX2 D aC := hC
  generalize ([.ref this, .ref p1] : List Value).toArray = args at hC ⊢
  show zS p l e ({ frames := 4, cells := 0, slots := 0, locals := 94 } : Room) s m args below meth c D aC G (zfV D aC G below args s 0 0) 4 0 0 (FMarket_fillFrom FU this p1 G) G 0 [(0, .ref this), (1, .ref p1)] []
  unfold FMarket_fillFrom
  refine z_gd ?_
  unfold FMarket_fillFrom_b
  refine z_aload_n hC 0 rfl dX2_fillFrom_0 rfl ?_
  refine z_iconst hC dX2_fillFrom_1 ?_
  refine z_putI hC (by decide) zF2_31 rfl rfl dX2_fillFrom_2 (fun G1 => ?_)
  refine z_iconst hC dX2_fillFrom_5 ?_
  refine z_istore_n (lo' := [(2, .int (zi (0))), (0, .ref this), (1, .ref p1)]) hC dX2_fillFrom_6 rfl (by decide) rfl ?_
  refine z_sub hC [1, 2, 0] (lo' := [(0, .ref this), (1, .ref p1), (2, .int (zi (0)))]) rfl ?_
  exact SMarket_fillFrom_L7 hC hr FU FU this p1 (0) G1 (by decide)
theorem SMarket_fillFrom_k {FU : Nat} {this : Nat} {p1 : Nat} {G : Hp} {r1 : (Unit × Hp)} (h1 : FMarket_fillFrom FU this p1 G = some r1) : zk G this = some (2, 0) := zgd_k (k := FMarket_fillFrom_b FU this p1 G) h1

set_option maxRecDepth 100000 in
theorem SMarket_dropStall_L42 {p : Program} {l : Launch} {e : Env} {s : State} {m : MethodId} {args : Array Value} {below : List Frame} {meth : Method} {c : Code} {D : va_G} {aC : Nat → ClassId} {G0 : Hp} (hC : zC p m c meth s args cX2_dropStall 3 RX2 D aC) (hr : meth.sig.returnType = none) (FU : Nat) : ∀ (n : Nat) (x0 : Nat) (x1 : Nat) (x2 : Int) (G : Hp) (hx2 : zInI x2), zS p l e ({ frames := 1, cells := 0, slots := 0, locals := 24 } : Room) s m args below meth c D aC G0 (zfV D aC G0 below args s 0 0) 3 0 0 (FMarket_dropStall_L42 FU n x0 x1 x2 G) G 42 [(0, .ref x0), (1, .ref x1), (2, .int (zi x2))] [] := by
  intro n
  induction n with
  | zero => intros; exact z_none
  | succ n ih =>
    intro x0 x1 x2 G hx2
    rw [FMarket_dropStall_L42]
    refine z_iload_n hC 2 rfl dX2_dropStall_42 rfl ?_
    refine z_aload_n hC 1 rfl dX2_dropStall_43 rfl ?_
    refine z_alen20 hC dX2_dropStall_44 (fun v1 hv1 => ?_)
    refine z_icmp_ge (tgt := 75) hC hx2 hv1 dX2_dropStall_45 (by decide) (fun _ => ?_) (fun _ => ?_)
    · refine z_iload_n hC 2 rfl dX2_dropStall_48 rfl ?_
      refine z_aload_n hC 0 rfl dX2_dropStall_49 rfl ?_
      refine z_getQ hC zF2_20 rfl dX2_dropStall_50 (fun v2 => ?_)
      refine z_alen20 hC dX2_dropStall_53 (fun v3 hv3 => ?_)
      refine z_icmp_ge (tgt := 75) hC hx2 hv3 dX2_dropStall_54 (by decide) (fun _ => ?_) (fun _ => ?_)
      · refine z_aload_n hC 0 rfl dX2_dropStall_57 rfl ?_
        refine z_getQ hC zF2_20 rfl dX2_dropStall_58 (fun v4 => ?_)
        refine z_iload_n hC 2 rfl dX2_dropStall_61 rfl ?_
        refine z_dup2 hC rfl rfl dX2_dropStall_62 ?_
        refine z_iald hC hx2 dX2_dropStall_63 (fun v5 hv5 => ?_)
        refine z_aload_n hC 1 rfl dX2_dropStall_64 rfl ?_
        refine z_iload_n hC 2 rfl dX2_dropStall_65 rfl ?_
        refine z_iald hC hx2 dX2_dropStall_66 (fun v6 hv6 => ?_)
        refine z_isub hC dX2_dropStall_67 (fun v7 hv7 => ?_)
        refine z_iast hC hx2 hv7 dX2_dropStall_68 (fun G8 => ?_)
        refine z_iinc (lo' := fun v9 => [(2, .int (zi v9)), (0, .ref x0), (1, .ref x1)]) hC 2 dX2_dropStall_69 rfl (by decide) (fun _ => rfl) (fun v9 hv9 => ?_)
        refine z_goto (tgt := 42) hC dX2_dropStall_72 (by decide) ?_
        refine z_sub hC [1, 2, 0] (lo' := [(0, .ref x0), (1, .ref x1), (2, .int (zi v9))]) rfl ?_
        exact ih x0 x1 v9 G8 hv9
      · exact z_vret hC hr dX2_dropStall_75
    · exact z_vret hC hr dX2_dropStall_75
set_option maxRecDepth 100000 in
theorem SMarket_dropStall {l : Launch} {D : va_G} {aC : Nat → ClassId} (FU : Nat) (this : Nat) {G : Hp} {r1 : (Unit × Hp)} (h1 : FMarket_dropStall FU this G = some r1) : Met l yX2_dropStall (Cond.code yX2_dropStall cX2_dropStall 3 none :: zgood) ({ frames := 1, cells := 0, slots := 0, locals := 24 } : Room) (va_Pc [.ref this] (zU D aC G)) (zQ D aC G (True) (none) r1.2) 0 0 (zA G) := by
  refine z_met (y := yX2_dropStall) (b := cX2_dropStall) (maxL := 3) (mc := 0) (ms := 0) (ret := none) (As := [.ref this]) (Q1 := fun r1 => zQ D aC G (True) (none) r1.2) (X := FMarket_dropStall FU this G) (by decide) (Nat.le_of_ble_eq_true rfl) ?_ h1
  intro p e s m below meth c hC hr hi
  have hC : zC p m c meth s ([.ref this] : List Value).toArray cX2_dropStall 3 RX2 D aC := hC
  generalize ([.ref this] : List Value).toArray = args at hC ⊢
  show zS p l e ({ frames := 1, cells := 0, slots := 0, locals := 24 } : Room) s m args below meth c D aC G (zfV D aC G below args s 0 0) 3 0 0 (FMarket_dropStall FU this G) G 0 [(0, .ref this)] []
  unfold FMarket_dropStall
  refine z_gd ?_
  unfold FMarket_dropStall_b
  refine z_aload_n hC 0 rfl dX2_dropStall_0 rfl ?_
  refine z_getI hC zF2_31 rfl dX2_dropStall_1 (fun v1 hv1 => ?_)
  refine z_if_le (tgt := 19) hC hv1 dX2_dropStall_4 (by decide) (fun _ => ?_) (fun _ => ?_)
  · exact z_vret hC hr dX2_dropStall_19
  · refine z_aload_n hC 0 rfl dX2_dropStall_7 rfl ?_
    refine z_getI hC zF2_31 rfl dX2_dropStall_8 (fun v2 hv2 => ?_)
    refine z_aload_n hC 0 rfl dX2_dropStall_11 rfl ?_
    refine z_getQ hC zF2_11 rfl dX2_dropStall_12 (fun v3 => ?_)
    refine z_alen26 hC dX2_dropStall_15 (fun v4 hv4 => ?_)
    refine z_icmp_le (tgt := 20) hC hv2 hv4 dX2_dropStall_16 (by decide) (fun _ => ?_) (fun _ => ?_)
    · refine z_aload_n hC 0 rfl dX2_dropStall_20 rfl ?_
      refine z_dup hC rfl dX2_dropStall_21 ?_
      refine z_getI hC zF2_31 rfl dX2_dropStall_22 (fun v5 hv5 => ?_)
      refine z_iconst hC dX2_dropStall_25 ?_
      refine z_isub hC dX2_dropStall_26 (fun v6 hv6 => ?_)
      refine z_putI hC hv6 zF2_31 rfl rfl dX2_dropStall_27 (fun G7 => ?_)
      refine z_aload_n hC 0 rfl dX2_dropStall_30 rfl ?_
      refine z_getQ hC zF2_11 rfl dX2_dropStall_31 (fun v8 => ?_)
      refine z_aload_n hC 0 rfl dX2_dropStall_34 rfl ?_
      refine z_getI hC zF2_31 rfl dX2_dropStall_35 (fun v9 hv9 => ?_)
      refine z_aald26 hC hv9 dX2_dropStall_38 (fun v10 => ?_)
      refine z_astore_n (lo' := [(1, .ref v10), (0, .ref this)]) hC dX2_dropStall_39 rfl (by decide) rfl ?_
      refine z_iconst hC dX2_dropStall_40 ?_
      refine z_istore_n (lo' := [(2, .int (zi (0))), (1, .ref v10), (0, .ref this)]) hC dX2_dropStall_41 rfl (by decide) rfl ?_
      refine z_sub hC [2, 1, 0] (lo' := [(0, .ref this), (1, .ref v10), (2, .int (zi (0)))]) rfl ?_
      exact SMarket_dropStall_L42 hC hr FU FU this v10 (0) G7 (by decide)
    · exact z_vret hC hr dX2_dropStall_19
theorem SMarket_dropStall_k {FU : Nat} {this : Nat} {G : Hp} {r1 : (Unit × Hp)} (h1 : FMarket_dropStall FU this G = some r1) : zk G this = some (2, 0) := zgd_k (k := FMarket_dropStall_b FU this G) h1

set_option maxRecDepth 100000 in
theorem STown_doorsOf {l : Launch} {D : va_G} {aC : Nat → ClassId} (FU : Nat) (this : Nat) (p1 : Int) (hp1 : zInI p1) {G : Hp} {r1 : Int} (h1 : FTown_doorsOf FU this p1 G = some r1) : Met l yX10_doorsOf (Cond.code yX10_doorsOf cX10_doorsOf 2 (some .int) :: zgood) ({ frames := 2, cells := 0, slots := 0, locals := 45 } : Room) (va_Pc [.ref this, .int (zi p1)] (zU D aC G)) (zQ D aC G (zInI r1) (some (.int (zi r1))) G) 0 0 (zA G) := by
  refine z_met (y := yX10_doorsOf) (b := cX10_doorsOf) (maxL := 2) (mc := 0) (ms := 0) (ret := (some .int)) (As := [.ref this, .int (zi p1)]) (Q1 := fun r1 => zQ D aC G (zInI r1) (some (.int (zi r1))) G) (X := FTown_doorsOf FU this p1 G) (by decide) (Nat.le_of_ble_eq_true rfl) ?_ h1
  intro p e s m below meth c hC hr hi
  have hC : zC p m c meth s ([.ref this, .int (zi p1)] : List Value).toArray cX10_doorsOf 2 RX10 D aC := hC
  generalize ([.ref this, .int (zi p1)] : List Value).toArray = args at hC ⊢
  show zS p l e ({ frames := 2, cells := 0, slots := 0, locals := 45 } : Room) s m args below meth c D aC G (fun r1 => zfI D aC G below args s 0 0 (r1, G)) 2 0 0 (FTown_doorsOf FU this p1 G) G 0 [(0, .ref this), (1, .int (zi p1))] []
  unfold FTown_doorsOf
  refine z_gd ?_
  unfold FTown_doorsOf_b
  refine z_aload_n hC 0 rfl dX10_doorsOf_0 rfl ?_
  refine z_getQ hC zF10_9 rfl dX10_doorsOf_1 (fun v1 => ?_)
  refine z_iload_n hC 1 rfl dX10_doorsOf_4 rfl ?_
  refine z_cIp (z_rS (As := [.ref v1, .int (zi p1)]) hC (fun _ h1 => SB_at FU v1 p1 hp1 h1) zM10_34 zMs_FB_at ⟨by decide, by decide⟩ rfl rfl rfl (rest := []) (Nat.le_of_ble_eq_true rfl) ⟨Nat.le_of_ble_eq_true rfl, Nat.le_of_ble_eq_true rfl⟩ rfl dX10_doorsOf_5) (fun v2 hv2 => ?_)
  exact z_iretp hC hv2 hr dX10_doorsOf_8
theorem STown_doorsOf_k {FU : Nat} {this : Nat} {p1 : Int} {G : Hp} {r1 : Int} (h1 : FTown_doorsOf FU this p1 G = some r1) : zk G this = some (10, 0) := zgd_k (k := FTown_doorsOf_b FU this p1 G) h1

set_option maxRecDepth 100000 in
theorem SMarket_takingsOf_L35 {p : Program} {l : Launch} {e : Env} {s : State} {m : MethodId} {args : Array Value} {below : List Frame} {meth : Method} {c : Code} {D : va_G} {aC : Nat → ClassId} {G0 : Hp} (hC : zC p m c meth s args cX2_takingsOf 8 RX2 D aC) (hr : meth.sig.returnType = (some .int)) (FU : Nat) : ∀ (n : Nat) (x0 : Nat) (x2 : Nat) (x3 : Int) (x4 : Int) (hx3 : zInI x3) (hx4 : zInI x4), zS p l e ({ frames := 3, cells := 0, slots := 0, locals := 66 } : Room) s m args below meth c D aC G0 (fun r1 => zfI D aC G0 below args s 0 0 (r1, G0)) 8 0 0 (FMarket_takingsOf_L35 FU n x0 x2 x3 x4 G0) G0 35 [(0, .ref x0), (2, .ref x2), (3, .int (zi x3)), (4, .int (zi x4))] [] := by
  intro n
  induction n with
  | zero => intros; exact z_none
  | succ n ih =>
    intro x0 x2 x3 x4 hx3 hx4
    rw [FMarket_takingsOf_L35]
    refine z_iload hC 3 rfl dX2_takingsOf_35 ?_
    refine z_aload_n hC 1 rfl dX2_takingsOf_37 rfl ?_
    refine z_alen20 hC dX2_takingsOf_38 (fun v1 hv1 => ?_)
    refine z_icmp_ge (tgt := 116) hC hx4 hv1 dX2_takingsOf_39 (by decide) (fun _ => ?_) (fun _ => ?_)
    · refine z_iload hC 3 rfl dX2_takingsOf_42 ?_
      refine z_aload_n hC 0 rfl dX2_takingsOf_44 rfl ?_
      refine z_getQ hC zF2_20 rfl dX2_takingsOf_45 (fun v2 => ?_)
      refine z_alen20 hC dX2_takingsOf_48 (fun v3 hv3 => ?_)
      refine z_icmp_ge (tgt := 116) hC hx4 hv3 dX2_takingsOf_49 (by decide) (fun _ => ?_) (fun _ => ?_)
      · refine z_aload_n hC 0 rfl dX2_takingsOf_52 rfl ?_
        refine z_getQ hC zF2_20 rfl dX2_takingsOf_53 (fun v4 => ?_)
        refine z_iload hC 3 rfl dX2_takingsOf_56 ?_
        refine z_iald hC hx4 dX2_takingsOf_58 (fun v5 hv5 => ?_)
        refine z_istore (lo' := [(5, .int (zi v5)), (0, .ref x0), (2, .ref x2), (3, .int (zi x3)), (4, .int (zi x4))]) hC dX2_takingsOf_59 (by decide) rfl ?_
        refine z_aload_n hC 2 rfl dX2_takingsOf_61 rfl ?_
        refine z_iload hC 4 rfl dX2_takingsOf_62 ?_
        refine z_iald hC hx4 dX2_takingsOf_64 (fun v6 hv6 => ?_)
        refine z_if_eq (tgt := 110) hC hv6 dX2_takingsOf_65 (by decide) (fun _ => ?_) (fun _ => ?_)
        · refine z_iinc (lo' := fun v7 => [(4, .int (zi v7)), (5, .int (zi v5)), (0, .ref x0), (2, .ref x2), (3, .int (zi x3))]) hC 4 dX2_takingsOf_110 rfl (by decide) (fun _ => rfl) (fun v7 hv7 => ?_)
          refine z_goto (tgt := 35) hC dX2_takingsOf_113 (by decide) ?_
          refine z_sub hC [2, 3, 4, 0] (lo' := [(0, .ref x0), (2, .ref x2), (3, .int (zi x3)), (4, .int (zi v7))]) rfl ?_
          exact ih x0 x2 x3 v7 hx3 hv7
        · refine z_iload hC 0 rfl dX2_takingsOf_68 ?_
          refine z_if_gt (tgt := 76) hC hv5 dX2_takingsOf_70 (by decide) (fun _ => ?_) (fun _ => ?_)
          · refine z_goto (tgt := 110) hC dX2_takingsOf_73 (by decide) ?_
            refine z_iinc (lo' := fun v8 => [(4, .int (zi v8)), (5, .int (zi v5)), (0, .ref x0), (2, .ref x2), (3, .int (zi x3))]) hC 4 dX2_takingsOf_110 rfl (by decide) (fun _ => rfl) (fun v8 hv8 => ?_)
            refine z_goto (tgt := 35) hC dX2_takingsOf_113 (by decide) ?_
            refine z_sub hC [2, 3, 4, 0] (lo' := [(0, .ref x0), (2, .ref x2), (3, .int (zi x3)), (4, .int (zi v8))]) rfl ?_
            exact ih x0 x2 x3 v8 hx3 hv8
          · refine z_aload_n hC 1 rfl dX2_takingsOf_76 rfl ?_
            refine z_getQ hC zF2_27 rfl dX2_takingsOf_77 (fun v9 => ?_)
            refine z_iload hC 4 rfl dX2_takingsOf_80 ?_
            refine z_cIp (z_rV (q := v9) (t := 10) (As := [.int (zi x4)]) hC (fun _ h1 => STown_doorsOf FU v9 x4 hx4 h1) (fun _ h1 => STown_doorsOf_k h1) rfl rfl zM2_75 zMv_FTown_doorsOf ⟨by decide, by decide⟩ rfl rfl rfl (rest := []) (Nat.le_of_ble_eq_true rfl) ⟨Nat.le_of_ble_eq_true rfl, Nat.le_of_ble_eq_true rfl⟩ rfl dX2_takingsOf_82) (fun v10 hv10 => ?_)
            refine z_i2l hC hv10 dX2_takingsOf_85 ?_
            refine z_aload_n hC 1 rfl dX2_takingsOf_86 rfl ?_
            refine z_getI hC zF2_23 rfl dX2_takingsOf_87 (fun v11 hv11 => ?_)
            refine z_i2l hC hv11 dX2_takingsOf_90 ?_
            refine z_lmul hC dX2_takingsOf_91 (fun v12 hv12 => ?_)
            refine z_lstore (lo' := [(6, .long (zl v12)), (5, .int (zi v5)), (0, .ref x0), (2, .ref x2), (3, .int (zi x3)), (4, .int (zi x4))]) hC dX2_takingsOf_92 (by decide) rfl ?_
            refine z_iload_n hC 4 rfl dX2_takingsOf_94 rfl ?_
            refine z_lload hC 0 rfl dX2_takingsOf_95 ?_
            refine z_aload_n hC 3 rfl dX2_takingsOf_97 rfl ?_
            refine z_iload hC 5 rfl dX2_takingsOf_98 ?_
            refine z_iald hC hx4 dX2_takingsOf_100 (fun v13 hv13 => ?_)
            refine z_i2l hC hv13 dX2_takingsOf_101 ?_
            refine z_lmul hC dX2_takingsOf_102 (fun v14 hv14 => ?_)
            refine z_iload hC 1 rfl dX2_takingsOf_103 ?_
            refine z_i2l hC hv5 dX2_takingsOf_105 ?_
            refine z_ldiv hC hv14 (zInI.l hv5) dX2_takingsOf_106 (fun v15 hv15 => ?_)
            refine z_l2i hC dX2_takingsOf_107 (fun v16 hv16 => ?_)
            refine z_iadd hC dX2_takingsOf_108 (fun v17 hv17 => ?_)
            refine z_istore_n (lo' := [(3, .int (zi v17)), (6, .long (zl v12)), (5, .int (zi v5)), (0, .ref x0), (2, .ref x2), (4, .int (zi x4))]) hC dX2_takingsOf_109 rfl (by decide) rfl ?_
            refine z_iinc (lo' := fun v18 => [(4, .int (zi v18)), (3, .int (zi v17)), (6, .long (zl v12)), (5, .int (zi v5)), (0, .ref x0), (2, .ref x2)]) hC 5 dX2_takingsOf_110 rfl (by decide) (fun _ => rfl) (fun v18 hv18 => ?_)
            refine z_goto (tgt := 35) hC dX2_takingsOf_113 (by decide) ?_
            refine z_sub hC [4, 5, 1, 0] (lo' := [(0, .ref x0), (2, .ref x2), (3, .int (zi v17)), (4, .int (zi v18))]) rfl ?_
            exact ih x0 x2 v17 v18 hv17 hv18
      · refine z_iload_n hC 2 rfl dX2_takingsOf_116 rfl ?_
        exact z_iretp hC hx3 hr dX2_takingsOf_117
    · refine z_iload_n hC 2 rfl dX2_takingsOf_116 rfl ?_
      exact z_iretp hC hx3 hr dX2_takingsOf_117
set_option maxRecDepth 100000 in
theorem SMarket_takingsOf {l : Launch} {D : va_G} {aC : Nat → ClassId} (FU : Nat) (this : Nat) (p1 : Int) (hp1 : zInI p1) {G : Hp} {r1 : Int} (h1 : FMarket_takingsOf FU this p1 G = some r1) : Met l yX2_takingsOf (Cond.code yX2_takingsOf cX2_takingsOf 8 (some .int) :: zgood) ({ frames := 3, cells := 0, slots := 0, locals := 66 } : Room) (va_Pc [.ref this, .int (zi p1)] (zU D aC G)) (zQ D aC G (zInI r1) (some (.int (zi r1))) G) 0 0 (zA G) := by
  refine z_met (y := yX2_takingsOf) (b := cX2_takingsOf) (maxL := 8) (mc := 0) (ms := 0) (ret := (some .int)) (As := [.ref this, .int (zi p1)]) (Q1 := fun r1 => zQ D aC G (zInI r1) (some (.int (zi r1))) G) (X := FMarket_takingsOf FU this p1 G) (by decide) (Nat.le_of_ble_eq_true rfl) ?_ h1
  intro p e s m below meth c hC hr hi
  have hC : zC p m c meth s ([.ref this, .int (zi p1)] : List Value).toArray cX2_takingsOf 8 RX2 D aC := hC
  generalize ([.ref this, .int (zi p1)] : List Value).toArray = args at hC ⊢
  show zS p l e ({ frames := 3, cells := 0, slots := 0, locals := 66 } : Room) s m args below meth c D aC G (fun r1 => zfI D aC G below args s 0 0 (r1, G)) 8 0 0 (FMarket_takingsOf FU this p1 G) G 0 [(0, .ref this), (1, .int (zi p1))] []
  unfold FMarket_takingsOf
  refine z_gd ?_
  unfold FMarket_takingsOf_b
  refine z_iload_n hC 1 rfl dX2_takingsOf_0 rfl ?_
  refine z_if_lt (tgt := 21) hC hp1 dX2_takingsOf_1 (by decide) (fun _ => ?_) (fun _ => ?_)
  · refine z_iconst hC dX2_takingsOf_21 ?_
    exact z_iretp hC (by decide) hr dX2_takingsOf_22
  · refine z_iload_n hC 1 rfl dX2_takingsOf_4 rfl ?_
    refine z_aload_n hC 0 rfl dX2_takingsOf_5 rfl ?_
    refine z_getI hC zF2_31 rfl dX2_takingsOf_6 (fun v1 hv1 => ?_)
    refine z_icmp_ge (tgt := 21) hC hp1 hv1 dX2_takingsOf_9 (by decide) (fun _ => ?_) (fun _ => ?_)
    · refine z_iload_n hC 1 rfl dX2_takingsOf_12 rfl ?_
      refine z_aload_n hC 0 rfl dX2_takingsOf_13 rfl ?_
      refine z_getQ hC zF2_11 rfl dX2_takingsOf_14 (fun v2 => ?_)
      refine z_alen26 hC dX2_takingsOf_17 (fun v3 hv3 => ?_)
      refine z_icmp_lt (tgt := 23) hC hp1 hv3 dX2_takingsOf_18 (by decide) (fun _ => ?_) (fun _ => ?_)
      · refine z_aload_n hC 0 rfl dX2_takingsOf_23 rfl ?_
        refine z_getQ hC zF2_11 rfl dX2_takingsOf_24 (fun v4 => ?_)
        refine z_iload_n hC 1 rfl dX2_takingsOf_27 rfl ?_
        refine z_aald26 hC hp1 dX2_takingsOf_28 (fun v5 => ?_)
        refine z_astore_n (lo' := [(2, .ref v5), (0, .ref this), (1, .int (zi p1))]) hC dX2_takingsOf_29 rfl (by decide) rfl ?_
        refine z_iconst hC dX2_takingsOf_30 ?_
        refine z_istore_n (lo' := [(3, .int (zi (0))), (2, .ref v5), (0, .ref this), (1, .int (zi p1))]) hC dX2_takingsOf_31 rfl (by decide) rfl ?_
        refine z_iconst hC dX2_takingsOf_32 ?_
        refine z_istore (lo' := [(4, .int (zi (0))), (3, .int (zi (0))), (2, .ref v5), (0, .ref this), (1, .int (zi p1))]) hC dX2_takingsOf_33 (by decide) rfl ?_
        refine z_sub hC [3, 2, 1, 0] (lo' := [(0, .ref this), (2, .ref v5), (3, .int (zi (0))), (4, .int (zi (0)))]) rfl ?_
        exact SMarket_takingsOf_L35 hC hr FU FU this v5 (0) (0) (by decide) (by decide)
      · refine z_iconst hC dX2_takingsOf_21 ?_
        exact z_iretp hC (by decide) hr dX2_takingsOf_22
    · refine z_iconst hC dX2_takingsOf_21 ?_
      exact z_iretp hC (by decide) hr dX2_takingsOf_22
theorem SMarket_takingsOf_k {FU : Nat} {this : Nat} {p1 : Int} {G : Hp} {r1 : Int} (h1 : FMarket_takingsOf FU this p1 G = some r1) : zk G this = some (2, 0) := zgd_k (k := FMarket_takingsOf_b FU this p1 G) h1

set_option maxRecDepth 100000 in
theorem SMarket_takingsOfOwner_L4 {p : Program} {l : Launch} {e : Env} {s : State} {m : MethodId} {args : Array Value} {below : List Frame} {meth : Method} {c : Code} {D : va_G} {aC : Nat → ClassId} {G0 : Hp} (hC : zC p m c meth s args cX2_takingsOfOwner 4 RX2 D aC) (hr : meth.sig.returnType = (some .int)) (FU : Nat) : ∀ (n : Nat) (x0 : Nat) (x1 : Int) (x2 : Int) (x3 : Int) (hx1 : zInI x1) (hx2 : zInI x2) (hx3 : zInI x3), zS p l e ({ frames := 4, cells := 0, slots := 0, locals := 93 } : Room) s m args below meth c D aC G0 (fun r1 => zfI D aC G0 below args s 0 0 (r1, G0)) 4 0 0 (FMarket_takingsOfOwner_L4 FU n x0 x1 x2 x3 G0) G0 4 [(0, .ref x0), (1, .int (zi x1)), (2, .int (zi x2)), (3, .int (zi x3))] [] := by
  intro n
  induction n with
  | zero => intros; exact z_none
  | succ n ih =>
    intro x0 x1 x2 x3 hx1 hx2 hx3
    rw [FMarket_takingsOfOwner_L4]
    refine z_iload_n hC 3 rfl dX2_takingsOfOwner_4 rfl ?_
    refine z_aload_n hC 0 rfl dX2_takingsOfOwner_5 rfl ?_
    refine z_getI hC zF2_31 rfl dX2_takingsOfOwner_6 (fun v1 hv1 => ?_)
    refine z_icmp_ge (tgt := 38) hC hx3 hv1 dX2_takingsOfOwner_9 (by decide) (fun _ => ?_) (fun _ => ?_)
    · refine z_aload_n hC 0 rfl dX2_takingsOfOwner_12 rfl ?_
      refine z_getQ hC zF2_16 rfl dX2_takingsOfOwner_13 (fun v2 => ?_)
      refine z_iload_n hC 3 rfl dX2_takingsOfOwner_16 rfl ?_
      refine z_cIp (z_rS (As := [.ref v2, .int (zi x3)]) hC (fun _ h1 => SB_at FU v2 x3 hx3 h1) zM2_79 zMs_FB_at ⟨by decide, by decide⟩ rfl rfl rfl (rest := []) (Nat.le_of_ble_eq_true rfl) ⟨Nat.le_of_ble_eq_true rfl, Nat.le_of_ble_eq_true rfl⟩ rfl dX2_takingsOfOwner_17) (fun v3 hv3 => ?_)
      refine z_iload_n hC 1 rfl dX2_takingsOfOwner_20 rfl ?_
      refine z_icmp_ne (tgt := 32) hC hv3 hx1 dX2_takingsOfOwner_21 (by decide) (fun _ => ?_) (fun _ => ?_)
      · refine z_iload_n hC 2 rfl dX2_takingsOfOwner_24 rfl ?_
        refine z_aload_n hC 0 rfl dX2_takingsOfOwner_25 rfl ?_
        refine z_iload_n hC 3 rfl dX2_takingsOfOwner_26 rfl ?_
        refine z_cIp (z_rV (q := x0) (t := 2) (As := [.int (zi x3)]) hC (fun _ h1 => SMarket_takingsOf FU x0 x3 hx3 h1) (fun _ h1 => SMarket_takingsOf_k h1) rfl rfl zM2_83 zMv_FMarket_takingsOf ⟨by decide, by decide⟩ rfl rfl rfl (rest := [.int (zi x2)]) (Nat.le_of_ble_eq_true rfl) ⟨Nat.le_of_ble_eq_true rfl, Nat.le_of_ble_eq_true rfl⟩ rfl dX2_takingsOfOwner_27) (fun v4 hv4 => ?_)
        refine z_iadd hC dX2_takingsOfOwner_30 (fun v5 hv5 => ?_)
        refine z_istore_n (lo' := [(2, .int (zi v5)), (0, .ref x0), (1, .int (zi x1)), (3, .int (zi x3))]) hC dX2_takingsOfOwner_31 rfl (by decide) rfl ?_
        refine z_iinc (lo' := fun v6 => [(3, .int (zi v6)), (2, .int (zi v5)), (0, .ref x0), (1, .int (zi x1))]) hC 3 dX2_takingsOfOwner_32 rfl (by decide) (fun _ => rfl) (fun v6 hv6 => ?_)
        refine z_goto (tgt := 4) hC dX2_takingsOfOwner_35 (by decide) ?_
        refine z_sub hC [2, 3, 1, 0] (lo' := [(0, .ref x0), (1, .int (zi x1)), (2, .int (zi v5)), (3, .int (zi v6))]) rfl ?_
        exact ih x0 x1 v5 v6 hx1 hv5 hv6
      · refine z_iinc (lo' := fun v7 => [(3, .int (zi v7)), (0, .ref x0), (1, .int (zi x1)), (2, .int (zi x2))]) hC 3 dX2_takingsOfOwner_32 rfl (by decide) (fun _ => rfl) (fun v7 hv7 => ?_)
        refine z_goto (tgt := 4) hC dX2_takingsOfOwner_35 (by decide) ?_
        refine z_sub hC [1, 2, 3, 0] (lo' := [(0, .ref x0), (1, .int (zi x1)), (2, .int (zi x2)), (3, .int (zi v7))]) rfl ?_
        exact ih x0 x1 x2 v7 hx1 hx2 hv7
    · refine z_iload_n hC 2 rfl dX2_takingsOfOwner_38 rfl ?_
      exact z_iretp hC hx2 hr dX2_takingsOfOwner_39
set_option maxRecDepth 100000 in
theorem SMarket_takingsOfOwner {l : Launch} {D : va_G} {aC : Nat → ClassId} (FU : Nat) (this : Nat) (p1 : Int) (hp1 : zInI p1) {G : Hp} {r1 : Int} (h1 : FMarket_takingsOfOwner FU this p1 G = some r1) : Met l yX2_takingsOfOwner (Cond.code yX2_takingsOfOwner cX2_takingsOfOwner 4 (some .int) :: zgood) ({ frames := 4, cells := 0, slots := 0, locals := 93 } : Room) (va_Pc [.ref this, .int (zi p1)] (zU D aC G)) (zQ D aC G (zInI r1) (some (.int (zi r1))) G) 0 0 (zA G) := by
  refine z_met (y := yX2_takingsOfOwner) (b := cX2_takingsOfOwner) (maxL := 4) (mc := 0) (ms := 0) (ret := (some .int)) (As := [.ref this, .int (zi p1)]) (Q1 := fun r1 => zQ D aC G (zInI r1) (some (.int (zi r1))) G) (X := FMarket_takingsOfOwner FU this p1 G) (by decide) (Nat.le_of_ble_eq_true rfl) ?_ h1
  intro p e s m below meth c hC hr hi
  have hC : zC p m c meth s ([.ref this, .int (zi p1)] : List Value).toArray cX2_takingsOfOwner 4 RX2 D aC := hC
  generalize ([.ref this, .int (zi p1)] : List Value).toArray = args at hC ⊢
  show zS p l e ({ frames := 4, cells := 0, slots := 0, locals := 93 } : Room) s m args below meth c D aC G (fun r1 => zfI D aC G below args s 0 0 (r1, G)) 4 0 0 (FMarket_takingsOfOwner FU this p1 G) G 0 [(0, .ref this), (1, .int (zi p1))] []
  unfold FMarket_takingsOfOwner
  refine z_gd ?_
  unfold FMarket_takingsOfOwner_b
  refine z_iconst hC dX2_takingsOfOwner_0 ?_
  refine z_istore_n (lo' := [(2, .int (zi (0))), (0, .ref this), (1, .int (zi p1))]) hC dX2_takingsOfOwner_1 rfl (by decide) rfl ?_
  refine z_iconst hC dX2_takingsOfOwner_2 ?_
  refine z_istore_n (lo' := [(3, .int (zi (0))), (2, .int (zi (0))), (0, .ref this), (1, .int (zi p1))]) hC dX2_takingsOfOwner_3 rfl (by decide) rfl ?_
  refine z_sub hC [2, 3, 1, 0] (lo' := [(0, .ref this), (1, .int (zi p1)), (2, .int (zi (0))), (3, .int (zi (0)))]) rfl ?_
  exact SMarket_takingsOfOwner_L4 hC hr FU FU this p1 (0) (0) hp1 (by decide) (by decide)
theorem SMarket_takingsOfOwner_k {FU : Nat} {this : Nat} {p1 : Int} {G : Hp} {r1 : Int} (h1 : FMarket_takingsOfOwner FU this p1 G = some r1) : zk G this = some (2, 0) := zgd_k (k := FMarket_takingsOfOwner_b FU this p1 G) h1

set_option maxRecDepth 100000 in
theorem SMonth_init {l : Launch} {D : va_G} {aC : Nat → ClassId} (FU : Nat) (this : Nat) (p1 : Int) (p2 : Int) (p3 : Int) (hp1 : zInI p1) (hp2 : zInI p2) (hp3 : zInI p3) {G : Hp} {r1 : (Unit × Hp)} (h1 : FMonth_init FU this p1 p2 p3 G = some r1) : Met l yX3_init (Cond.code yX3_init cX3_init 4 none :: zgood) ({ frames := 1, cells := 0, slots := 0, locals := 24 } : Room) (va_Pc [.ref this, .int (zi p1), .int (zi p2), .int (zi p3)] (zU D aC G)) (zQ D aC G (True) (none) r1.2) 0 0 (zA G) := by
  refine z_met (y := yX3_init) (b := cX3_init) (maxL := 4) (mc := 0) (ms := 0) (ret := none) (As := [.ref this, .int (zi p1), .int (zi p2), .int (zi p3)]) (Q1 := fun r1 => zQ D aC G (True) (none) r1.2) (X := FMonth_init FU this p1 p2 p3 G) (by decide) (Nat.le_of_ble_eq_true rfl) ?_ h1
  intro p e s m below meth c hC hr hi
  have hC : zC p m c meth s ([.ref this, .int (zi p1), .int (zi p2), .int (zi p3)] : List Value).toArray cX3_init 4 RX3 D aC := hC
  generalize ([.ref this, .int (zi p1), .int (zi p2), .int (zi p3)] : List Value).toArray = args at hC ⊢
  show zS p l e ({ frames := 1, cells := 0, slots := 0, locals := 24 } : Room) s m args below meth c D aC G (zfV D aC G below args s 0 0) 4 0 0 (FMonth_init FU this p1 p2 p3 G) G 0 [(0, .ref this), (1, .int (zi p1)), (2, .int (zi p2)), (3, .int (zi p3))] []
  unfold FMonth_init
  refine z_aload_n hC 0 rfl dX3_init_0 rfl ?_
  refine z_objInit hC zO3_1 ⟨by decide, by decide⟩ ⟨by decide, by decide⟩ dX3_init_1 ?_
  refine z_aload_n hC 0 rfl dX3_init_4 rfl ?_
  refine z_iload_n hC 1 rfl dX3_init_5 rfl ?_
  refine z_putFI hC hp1 (t := 3) (k := 0) rfl (by decide) rfl (zgood_in 869 (by decide +kernel) (by decide +kernel)) rfl rfl hi rfl dX3_init_6 (fun G1 => ?_)
  refine z_aload_n hC 0 rfl dX3_init_9 rfl ?_
  refine z_iload_n hC 2 rfl dX3_init_10 rfl ?_
  refine z_putFI hC hp2 (t := 3) (k := 1) rfl (by decide) rfl (zgood_in 871 (by decide +kernel) (by decide +kernel)) rfl rfl hi rfl dX3_init_11 (fun G2 => ?_)
  refine z_aload_n hC 0 rfl dX3_init_14 rfl ?_
  refine z_iload_n hC 3 rfl dX3_init_15 rfl ?_
  refine z_putFI hC hp3 (t := 3) (k := 2) rfl (by decide) rfl (zgood_in 873 (by decide +kernel) (by decide +kernel)) rfl rfl hi rfl dX3_init_16 (fun G3 => ?_)
  exact z_vret hC hr dX3_init_19

set_option maxRecDepth 100000 in
theorem SMonth_fallsShort {l : Launch} {D : va_G} {aC : Nat → ClassId} (FU : Nat) (this : Nat) (p1 : Int) (hp1 : zInI p1) {G : Hp} {r1 : Int} (h1 : FMonth_fallsShort FU this p1 G = some r1) : Met l yX3_fallsShort (Cond.code yX3_fallsShort cX3_fallsShort 2 (some .boolean) :: zgood) ({ frames := 1, cells := 0, slots := 0, locals := 24 } : Room) (va_Pc [.ref this, .int (zi p1)] (zU D aC G)) (zQ D aC G (zIn01 r1) (some (.int (zi r1))) G) 0 0 (zA G) := by
  refine z_met (y := yX3_fallsShort) (b := cX3_fallsShort) (maxL := 2) (mc := 0) (ms := 0) (ret := (some .boolean)) (As := [.ref this, .int (zi p1)]) (Q1 := fun r1 => zQ D aC G (zIn01 r1) (some (.int (zi r1))) G) (X := FMonth_fallsShort FU this p1 G) (by decide) (Nat.le_of_ble_eq_true rfl) ?_ h1
  intro p e s m below meth c hC hr hi
  have hC : zC p m c meth s ([.ref this, .int (zi p1)] : List Value).toArray cX3_fallsShort 2 RX3 D aC := hC
  generalize ([.ref this, .int (zi p1)] : List Value).toArray = args at hC ⊢
  show zS p l e ({ frames := 1, cells := 0, slots := 0, locals := 24 } : Room) s m args below meth c D aC G (fun r1 => zfZ D aC G below args s 0 0 (r1, G)) 2 0 0 (FMonth_fallsShort FU this p1 G) G 0 [(0, .ref this), (1, .int (zi p1))] []
  unfold FMonth_fallsShort
  refine z_gd ?_
  unfold FMonth_fallsShort_b
  refine z_aload_n hC 0 rfl dX3_fallsShort_0 rfl ?_
  refine z_getI hC zF3_7 rfl dX3_fallsShort_1 (fun v1 hv1 => ?_)
  refine z_aload_n hC 0 rfl dX3_fallsShort_4 rfl ?_
  refine z_getI hC zF3_13 rfl dX3_fallsShort_5 (fun v2 hv2 => ?_)
  refine z_iload_n hC 1 rfl dX3_fallsShort_8 rfl ?_
  refine z_imul hC dX3_fallsShort_9 (fun v3 hv3 => ?_)
  refine z_icmp_lt (tgt := 24) hC hv1 hv3 dX3_fallsShort_10 (by decide) (fun _ => ?_) (fun _ => ?_)
  · refine z_iconst hC dX3_fallsShort_24 ?_
    refine z_goto (tgt := 29) hC dX3_fallsShort_25 (by decide) ?_
    exact z_zretp hC hr dX3_fallsShort_29
  · refine z_aload_n hC 0 rfl dX3_fallsShort_13 rfl ?_
    refine z_getI hC zF3_7 rfl dX3_fallsShort_14 (fun v4 hv4 => ?_)
    refine z_aload_n hC 0 rfl dX3_fallsShort_17 rfl ?_
    refine z_getI hC zF3_16 rfl dX3_fallsShort_18 (fun v5 hv5 => ?_)
    refine z_icmp_ge (tgt := 28) hC hv4 hv5 dX3_fallsShort_21 (by decide) (fun _ => ?_) (fun _ => ?_)
    · refine z_iconst hC dX3_fallsShort_24 ?_
      refine z_goto (tgt := 29) hC dX3_fallsShort_25 (by decide) ?_
      exact z_zretp hC hr dX3_fallsShort_29
    · refine z_iconst hC dX3_fallsShort_28 ?_
      exact z_zretp hC hr dX3_fallsShort_29
theorem SMonth_fallsShort_k {FU : Nat} {this : Nat} {p1 : Int} {G : Hp} {r1 : Int} (h1 : FMonth_fallsShort FU this p1 G = some r1) : zk G this = some (3, 0) := zgd_k (k := FMonth_fallsShort_b FU this p1 G) h1

set_option maxRecDepth 100000 in
theorem SMonth_payRoyalty {l : Launch} {D : va_G} {aC : Nat → ClassId} (FU : Nat) (this : Nat) (p1 : Int) (hp1 : zInI p1) {G : Hp} {r1 : (Int × Hp)} (h1 : FMonth_payRoyalty FU this p1 G = some r1) : Met l yX3_payRoyalty (Cond.code yX3_payRoyalty cX3_payRoyalty 3 (some .int) :: zgood) ({ frames := 1, cells := 0, slots := 0, locals := 24 } : Room) (va_Pc [.ref this, .int (zi p1)] (zU D aC G)) (zQ D aC G (zInI r1.1) (some (.int (zi r1.1))) r1.2) 0 0 (zA G) := by
  refine z_met (y := yX3_payRoyalty) (b := cX3_payRoyalty) (maxL := 3) (mc := 0) (ms := 0) (ret := (some .int)) (As := [.ref this, .int (zi p1)]) (Q1 := fun r1 => zQ D aC G (zInI r1.1) (some (.int (zi r1.1))) r1.2) (X := FMonth_payRoyalty FU this p1 G) (by decide) (Nat.le_of_ble_eq_true rfl) ?_ h1
  intro p e s m below meth c hC hr hi
  have hC : zC p m c meth s ([.ref this, .int (zi p1)] : List Value).toArray cX3_payRoyalty 3 RX3 D aC := hC
  generalize ([.ref this, .int (zi p1)] : List Value).toArray = args at hC ⊢
  show zS p l e ({ frames := 1, cells := 0, slots := 0, locals := 24 } : Room) s m args below meth c D aC G (zfI D aC G below args s 0 0) 3 0 0 (FMonth_payRoyalty FU this p1 G) G 0 [(0, .ref this), (1, .int (zi p1))] []
  unfold FMonth_payRoyalty
  refine z_gd ?_
  unfold FMonth_payRoyalty_b
  refine z_iload_n hC 1 rfl dX3_payRoyalty_0 rfl ?_
  refine z_aload_n hC 0 rfl dX3_payRoyalty_1 rfl ?_
  refine z_getI hC zF3_19 rfl dX3_payRoyalty_2 (fun v1 hv1 => ?_)
  refine z_aload_n hC 0 rfl dX3_payRoyalty_5 rfl ?_
  refine z_getI hC zF3_22 rfl dX3_payRoyalty_6 (fun v2 hv2 => ?_)
  refine z_isub hC dX3_payRoyalty_9 (fun v3 hv3 => ?_)
  refine z_mmin hC hp1 hv3 zJ3_25.1 zJ3_25.2.1 zJ3_25.2.2.1 zJ3_25.2.2.2 (by decide) (by decide) ⟨Nat.le_of_ble_eq_true rfl, Nat.le_of_ble_eq_true rfl⟩ dX3_payRoyalty_10 (fun v4 hv4 => ?_)
  refine z_istore_n (lo' := [(2, .int (zi v4)), (0, .ref this), (1, .int (zi p1))]) hC dX3_payRoyalty_13 rfl (by decide) rfl ?_
  refine z_aload_n hC 1 rfl dX3_payRoyalty_14 rfl ?_
  refine z_dup hC rfl dX3_payRoyalty_15 ?_
  refine z_getI hC zF3_22 rfl dX3_payRoyalty_16 (fun v5 hv5 => ?_)
  refine z_iload_n hC 0 rfl dX3_payRoyalty_19 rfl ?_
  refine z_iadd hC dX3_payRoyalty_20 (fun v6 hv6 => ?_)
  refine z_putI hC hv6 zF3_22 rfl rfl dX3_payRoyalty_21 (fun G7 => ?_)
  refine z_iload_n hC 0 rfl dX3_payRoyalty_24 rfl ?_
  exact z_iret hC hv4 hr dX3_payRoyalty_25
theorem SMonth_payRoyalty_k {FU : Nat} {this : Nat} {p1 : Int} {G : Hp} {r1 : (Int × Hp)} (h1 : FMonth_payRoyalty FU this p1 G = some r1) : zk G this = some (3, 0) := zgd_k (k := FMonth_payRoyalty_b FU this p1 G) h1

set_option maxRecDepth 100000 in
theorem SMonth_payFund {l : Launch} {D : va_G} {aC : Nat → ClassId} (FU : Nat) (this : Nat) (p1 : Int) (hp1 : zInI p1) {G : Hp} {r1 : (Int × Hp)} (h1 : FMonth_payFund FU this p1 G = some r1) : Met l yX3_payFund (Cond.code yX3_payFund cX3_payFund 3 (some .int) :: zgood) ({ frames := 1, cells := 0, slots := 0, locals := 24 } : Room) (va_Pc [.ref this, .int (zi p1)] (zU D aC G)) (zQ D aC G (zInI r1.1) (some (.int (zi r1.1))) r1.2) 0 0 (zA G) := by
  refine z_met (y := yX3_payFund) (b := cX3_payFund) (maxL := 3) (mc := 0) (ms := 0) (ret := (some .int)) (As := [.ref this, .int (zi p1)]) (Q1 := fun r1 => zQ D aC G (zInI r1.1) (some (.int (zi r1.1))) r1.2) (X := FMonth_payFund FU this p1 G) (by decide) (Nat.le_of_ble_eq_true rfl) ?_ h1
  intro p e s m below meth c hC hr hi
  have hC : zC p m c meth s ([.ref this, .int (zi p1)] : List Value).toArray cX3_payFund 3 RX3 D aC := hC
  generalize ([.ref this, .int (zi p1)] : List Value).toArray = args at hC ⊢
  show zS p l e ({ frames := 1, cells := 0, slots := 0, locals := 24 } : Room) s m args below meth c D aC G (zfI D aC G below args s 0 0) 3 0 0 (FMonth_payFund FU this p1 G) G 0 [(0, .ref this), (1, .int (zi p1))] []
  unfold FMonth_payFund
  refine z_gd ?_
  unfold FMonth_payFund_b
  refine z_iload_n hC 1 rfl dX3_payFund_0 rfl ?_
  refine z_aload_n hC 0 rfl dX3_payFund_1 rfl ?_
  refine z_getI hC zF3_31 rfl dX3_payFund_2 (fun v1 hv1 => ?_)
  refine z_aload_n hC 0 rfl dX3_payFund_5 rfl ?_
  refine z_getI hC zF3_34 rfl dX3_payFund_6 (fun v2 hv2 => ?_)
  refine z_isub hC dX3_payFund_9 (fun v3 hv3 => ?_)
  refine z_mmin hC hp1 hv3 zJ3_25.1 zJ3_25.2.1 zJ3_25.2.2.1 zJ3_25.2.2.2 (by decide) (by decide) ⟨Nat.le_of_ble_eq_true rfl, Nat.le_of_ble_eq_true rfl⟩ dX3_payFund_10 (fun v4 hv4 => ?_)
  refine z_istore_n (lo' := [(2, .int (zi v4)), (0, .ref this), (1, .int (zi p1))]) hC dX3_payFund_13 rfl (by decide) rfl ?_
  refine z_aload_n hC 1 rfl dX3_payFund_14 rfl ?_
  refine z_dup hC rfl dX3_payFund_15 ?_
  refine z_getI hC zF3_34 rfl dX3_payFund_16 (fun v5 hv5 => ?_)
  refine z_iload_n hC 0 rfl dX3_payFund_19 rfl ?_
  refine z_iadd hC dX3_payFund_20 (fun v6 hv6 => ?_)
  refine z_putI hC hv6 zF3_34 rfl rfl dX3_payFund_21 (fun G7 => ?_)
  refine z_iload_n hC 0 rfl dX3_payFund_24 rfl ?_
  exact z_iret hC hv4 hr dX3_payFund_25
theorem SMonth_payFund_k {FU : Nat} {this : Nat} {p1 : Int} {G : Hp} {r1 : (Int × Hp)} (h1 : FMonth_payFund FU this p1 G = some r1) : zk G this = some (3, 0) := zgd_k (k := FMonth_payFund_b FU this p1 G) h1

set_option maxRecDepth 100000 in
theorem SPacker_init {l : Launch} {D : va_G} {aC : Nat → ClassId} (FU : Nat) (this : Nat) {G : Hp} {r1 : (Unit × Hp)} (h1 : FPacker_init FU this G = some r1) : Met l yX4_init (Cond.code yX4_init cX4_init 1 none :: zgood) ({ frames := 1, cells := 6, slots := 60, locals := 24 } : Room) (va_Pc [.ref this] (zU D aC G)) (zQ D aC G (True) (none) r1.2) 6 60 (zA G) := by
  refine z_met (y := yX4_init) (b := cX4_init) (maxL := 1) (mc := 6) (ms := 60) (ret := none) (As := [.ref this]) (Q1 := fun r1 => zQ D aC G (True) (none) r1.2) (X := FPacker_init FU this G) (by decide) (Nat.le_of_ble_eq_true rfl) ?_ h1
  intro p e s m below meth c hC hr hi
  have hC : zC p m c meth s ([.ref this] : List Value).toArray cX4_init 1 RX4 D aC := hC
  generalize ([.ref this] : List Value).toArray = args at hC ⊢
  show zS p l e ({ frames := 1, cells := 6, slots := 60, locals := 24 } : Room) s m args below meth c D aC G (zfV D aC G below args s 6 60) 1 0 0 (FPacker_init FU this G) G 0 [(0, .ref this)] []
  unfold FPacker_init
  refine z_aload_n hC 0 rfl dX4_init_0 rfl ?_
  refine z_objInit hC zO4_3 ⟨by decide, by decide⟩ ⟨by decide, by decide⟩ dX4_init_1 ?_
  refine z_aload_n hC 0 rfl dX4_init_4 rfl ?_
  refine z_bipush hC dX4_init_5 rfl ?_
  refine z_newarr20 hC 10 rfl (by decide) (zgood_in 155 (by decide +kernel) (by decide +kernel)) (by decide) (by decide) dX4_init_7 (fun a1 G2 => ?_)
  refine z_widen (k := 1) (n := 10) (by decide) (by decide) ?_
  refine z_putFR hC (t := 4) (k := 0) rfl (by decide) rfl (zgood_in 347 (by decide +kernel) (by decide +kernel)) rfl rfl hi rfl dX4_init_9 (fun G3 => ?_)
  refine z_aload_n hC 0 rfl dX4_init_12 rfl ?_
  refine z_bipush hC dX4_init_13 rfl ?_
  refine z_newarr20 hC 10 rfl (by decide) (zgood_in 155 (by decide +kernel) (by decide +kernel)) (by decide) (by decide) dX4_init_15 (fun a4 G5 => ?_)
  refine z_widen (k := 2) (n := 20) (by decide) (by decide) ?_
  refine z_putFR hC (t := 4) (k := 1) rfl (by decide) rfl (zgood_in 348 (by decide +kernel) (by decide +kernel)) rfl rfl hi rfl dX4_init_17 (fun G6 => ?_)
  refine z_aload_n hC 0 rfl dX4_init_20 rfl ?_
  refine z_bipush hC dX4_init_21 rfl ?_
  refine z_newarr20 hC 10 rfl (by decide) (zgood_in 155 (by decide +kernel) (by decide +kernel)) (by decide) (by decide) dX4_init_23 (fun a7 G8 => ?_)
  refine z_widen (k := 3) (n := 30) (by decide) (by decide) ?_
  refine z_putFR hC (t := 4) (k := 2) rfl (by decide) rfl (zgood_in 349 (by decide +kernel) (by decide +kernel)) rfl rfl hi rfl dX4_init_25 (fun G9 => ?_)
  refine z_aload_n hC 0 rfl dX4_init_28 rfl ?_
  refine z_bipush hC dX4_init_29 rfl ?_
  refine z_newarr20 hC 10 rfl (by decide) (zgood_in 155 (by decide +kernel) (by decide +kernel)) (by decide) (by decide) dX4_init_31 (fun a10 G11 => ?_)
  refine z_widen (k := 4) (n := 40) (by decide) (by decide) ?_
  refine z_putFR hC (t := 4) (k := 3) rfl (by decide) rfl (zgood_in 350 (by decide +kernel) (by decide +kernel)) rfl rfl hi rfl dX4_init_33 (fun G12 => ?_)
  refine z_aload_n hC 0 rfl dX4_init_36 rfl ?_
  refine z_bipush hC dX4_init_37 rfl ?_
  refine z_newarr20 hC 10 rfl (by decide) (zgood_in 155 (by decide +kernel) (by decide +kernel)) (by decide) (by decide) dX4_init_39 (fun a13 G14 => ?_)
  refine z_widen (k := 5) (n := 50) (by decide) (by decide) ?_
  refine z_putFR hC (t := 4) (k := 4) rfl (by decide) rfl (zgood_in 351 (by decide +kernel) (by decide +kernel)) rfl rfl hi rfl dX4_init_41 (fun G15 => ?_)
  refine z_aload_n hC 0 rfl dX4_init_44 rfl ?_
  refine z_bipush hC dX4_init_45 rfl ?_
  refine z_newarr20 hC 10 rfl (by decide) (zgood_in 155 (by decide +kernel) (by decide +kernel)) (by decide) (by decide) dX4_init_47 (fun a16 G17 => ?_)
  refine z_widen (k := 6) (n := 60) (by decide) (by decide) ?_
  refine z_putFR hC (t := 4) (k := 5) rfl (by decide) rfl (zgood_in 352 (by decide +kernel) (by decide +kernel)) rfl rfl hi rfl dX4_init_49 (fun G18 => ?_)
  exact z_vret hC hr dX4_init_52

