set_option maxRecDepth 100000 in
theorem SM_band_B153 {p : Program} {l : Launch} {e : Env} {s : State} {m : MethodId} {args : Array Value} {below : List Frame} {meth : Method} {c : Code} {D : va_G} {aC : Nat → ClassId} {G0 : Hp} (hC : zC p m c meth s args cX12_band 6 RX12 D aC) (hr : meth.sig.returnType = (some .int)) (FU : Nat) (x0 : Nat) (x4 : Int) (y0 : Int) (G : Hp) (hx4 : zInI x4) (hy0 : zInI y0) : zS p l e ({ frames := 49, cells := 0, slots := 0, locals := 1115 } : Room) s m args below meth c D aC G0 (zfI D aC G0 below args s 0 0) 6 0 0 (FM_band_B153 FU x0 x4 y0 G) G 153 [(0, .ref x0), (4, .int (zi x4))] [.int (zi y0)] := by
  unfold FM_band_B153
  refine z_istore (lo' := [(5, .int (zi y0)), (0, .ref x0), (4, .int (zi x4))]) hC dX12_band_153 (by decide) rfl ?_
  refine z_aload_n hC 1 rfl dX12_band_155 rfl ?_
  refine z_iload hC 2 rfl dX12_band_156 ?_
  refine z_putZ hC zF12_271 rfl rfl dX12_band_158 (fun G1 => ?_)
  refine z_iload hC 0 rfl dX12_band_161 ?_
  exact z_iret hC hy0 hr dX12_band_163
set_option maxRecDepth 100000 in
theorem SM_band_B128 {p : Program} {l : Launch} {e : Env} {s : State} {m : MethodId} {args : Array Value} {below : List Frame} {meth : Method} {c : Code} {D : va_G} {aC : Nat → ClassId} {G0 : Hp} (hC : zC p m c meth s args cX12_band 6 RX12 D aC) (hr : meth.sig.returnType = (some .int)) (FU : Nat) (x0 : Nat) (x4 : Int) (G : Hp) (hx4 : zInI x4) : zS p l e ({ frames := 49, cells := 0, slots := 0, locals := 1115 } : Room) s m args below meth c D aC G0 (zfI D aC G0 below args s 0 0) 6 0 0 (FM_band_B128 FU x0 x4 G) G 128 [(0, .ref x0), (4, .int (zi x4))] [] := by
  unfold FM_band_B128
  refine z_aload_n hC 0 rfl dX12_band_128 rfl ?_
  refine z_dup hC rfl dX12_band_129 ?_
  refine z_getI hC zF12_240 rfl dX12_band_130 (fun v1 hv1 => ?_)
  refine z_iconst hC dX12_band_133 ?_
  refine z_iadd hC dX12_band_134 (fun v2 hv2 => ?_)
  refine z_putI hC hv2 zF12_240 rfl rfl dX12_band_135 (fun G3 => ?_)
  refine z_aload_n hC 0 rfl dX12_band_138 rfl ?_
  refine z_getI hC zF12_249 rfl dX12_band_139 (fun v4 hv4 => ?_)
  refine z_if_ge (tgt := 152) hC hv4 dX12_band_142 (by decide) (fun _ => ?_) (fun _ => ?_)
  · refine z_aload_n hC 0 rfl dX12_band_145 rfl ?_
    refine z_cI (z_rV (q := x0) (t := 12) (As := []) hC (fun _ h1 => SM_sum_n FU 12 x0 h1) (fun _ h1 => SM_sum_nk h1) rfl rfl zM12_268 zMv_FM_sum ⟨by decide, by decide⟩ rfl rfl rfl (rest := []) (Nat.le_of_ble_eq_true rfl) ⟨Nat.le_of_ble_eq_true rfl, Nat.le_of_ble_eq_true rfl⟩ rfl dX12_band_146) (fun v6 G5 hv6 => ?_)
    refine z_goto (tgt := 153) hC dX12_band_149 (by decide) ?_
    refine z_sub hC [0, 1] (lo' := [(0, .ref x0), (4, .int (zi x4))]) rfl ?_
    exact SM_band_B153 hC hr FU x0 x4 v6 G5 hx4 hv6
  · refine z_iconst hC dX12_band_152 ?_
    refine z_sub hC [0, 1] (lo' := [(0, .ref x0), (4, .int (zi x4))]) rfl ?_
    exact SM_band_B153 hC hr FU x0 x4 (0) G3 hx4 (by decide)
set_option maxRecDepth 100000 in
theorem SM_band_B105 {p : Program} {l : Launch} {e : Env} {s : State} {m : MethodId} {args : Array Value} {below : List Frame} {meth : Method} {c : Code} {D : va_G} {aC : Nat → ClassId} {G0 : Hp} (hC : zC p m c meth s args cX12_band 6 RX12 D aC) (hr : meth.sig.returnType = (some .int)) (FU : Nat) (x0 : Nat) (y0 : Int) (G : Hp) (hy0 : zInI y0) : zS p l e ({ frames := 49, cells := 0, slots := 0, locals := 1115 } : Room) s m args below meth c D aC G0 (zfI D aC G0 below args s 0 0) 6 0 0 (FM_band_B105 FU x0 y0 G) G 105 [(0, .ref x0)] [.int (zi y0)] := by
  unfold FM_band_B105
  refine z_istore (lo' := [(4, .int (zi y0)), (0, .ref x0)]) hC dX12_band_105 (by decide) rfl ?_
  refine z_aload_n hC 1 rfl dX12_band_107 rfl ?_
  refine z_getI hC zF12_249 rfl dX12_band_108 (fun v1 hv1 => ?_)
  refine z_if_ge (tgt := 128) hC hv1 dX12_band_111 (by decide) (fun _ => ?_) (fun _ => ?_)
  · refine z_aload_n hC 1 rfl dX12_band_114 rfl ?_
    refine z_cIp (z_rV (q := x0) (t := 12) (As := []) hC (fun _ h1 => SM_byteAt FU x0 h1) (fun _ h1 => SM_byteAt_k h1) rfl rfl zM12_256 zMv_FM_byteAt ⟨by decide, by decide⟩ rfl rfl rfl (rest := []) (Nat.le_of_ble_eq_true rfl) ⟨Nat.le_of_ble_eq_true rfl, Nat.le_of_ble_eq_true rfl⟩ rfl dX12_band_115) (fun v2 hv2 => ?_)
    refine z_bipush hC dX12_band_118 rfl ?_
    refine z_icmp_eq (tgt := 128) hC hv2 (by decide) dX12_band_120 (by decide) (fun _ => ?_) (fun _ => ?_)
    · refine z_sub hC [1, 0] (lo' := [(0, .ref x0), (4, .int (zi y0))]) rfl ?_
      exact SM_band_B128 hC hr FU x0 y0 G hy0
    · refine z_aload_n hC 1 rfl dX12_band_123 rfl ?_
      refine z_cI (z_rV (q := x0) (t := 12) (As := []) hC (fun _ h1 => SM_wrong FU x0 h1) (fun _ h1 => SM_wrong_k h1) rfl rfl zM12_265 zMv_FM_wrong ⟨by decide, by decide⟩ rfl rfl rfl (rest := []) (Nat.le_of_ble_eq_true rfl) ⟨Nat.le_of_ble_eq_true rfl, Nat.le_of_ble_eq_true rfl⟩ rfl dX12_band_124) (fun v4 G3 hv4 => ?_)
      exact z_iret hC hv4 hr dX12_band_127
  · refine z_sub hC [1, 0] (lo' := [(0, .ref x0), (4, .int (zi y0))]) rfl ?_
    exact SM_band_B128 hC hr FU x0 y0 G hy0
set_option maxRecDepth 100000 in
theorem SM_band_B42 {p : Program} {l : Launch} {e : Env} {s : State} {m : MethodId} {args : Array Value} {below : List Frame} {meth : Method} {c : Code} {D : va_G} {aC : Nat → ClassId} {G0 : Hp} (hC : zC p m c meth s args cX12_band 6 RX12 D aC) (hr : meth.sig.returnType = (some .int)) (FU : Nat) (x0 : Nat) (x1 : Int) (x2 : Int) (G : Hp) (hx1 : zInI x1) (hx2 : zInI x2) : zS p l e ({ frames := 49, cells := 0, slots := 0, locals := 1115 } : Room) s m args below meth c D aC G0 (zfI D aC G0 below args s 0 0) 6 0 0 (FM_band_B42 FU x0 x1 x2 G) G 42 [(0, .ref x0), (1, .int (zi x1)), (2, .int (zi x2))] [] := by
  unfold FM_band_B42
  refine z_aload_n hC 0 rfl dX12_band_42 rfl ?_
  refine z_dup hC rfl dX12_band_43 ?_
  refine z_getI hC zF12_240 rfl dX12_band_44 (fun v1 hv1 => ?_)
  refine z_iconst hC dX12_band_47 ?_
  refine z_iadd hC dX12_band_48 (fun v2 hv2 => ?_)
  refine z_putI hC hv2 zF12_240 rfl rfl dX12_band_49 (fun G3 => ?_)
  refine z_aload_n hC 0 rfl dX12_band_52 rfl ?_
  refine z_cI (z_rV (q := x0) (t := 12) (As := []) hC (fun _ h1 => SM_sum_n FU 12 x0 h1) (fun _ h1 => SM_sum_nk h1) rfl rfl zM12_268 zMv_FM_sum ⟨by decide, by decide⟩ rfl rfl rfl (rest := []) (Nat.le_of_ble_eq_true rfl) ⟨Nat.le_of_ble_eq_true rfl, Nat.le_of_ble_eq_true rfl⟩ rfl dX12_band_53) (fun v5 G4 hv5 => ?_)
  refine z_istore_n (lo' := [(3, .int (zi v5)), (0, .ref x0), (1, .int (zi x1)), (2, .int (zi x2))]) hC dX12_band_56 rfl (by decide) rfl ?_
  refine z_iload_n hC 3 rfl dX12_band_57 rfl ?_
  refine z_bipush hC dX12_band_58 rfl ?_
  refine z_icmp_ne (tgt := 76) hC hx2 (by decide) dX12_band_60 (by decide) (fun _ => ?_) (fun _ => ?_)
  · refine z_iload_n hC 2 rfl dX12_band_63 rfl ?_
    refine z_iload_n hC 0 rfl dX12_band_64 rfl ?_
    refine z_icmp_ge (tgt := 72) hC hx1 hv5 dX12_band_65 (by decide) (fun _ => ?_) (fun _ => ?_)
    · refine z_iconst hC dX12_band_68 ?_
      refine z_goto (tgt := 105) hC dX12_band_69 (by decide) ?_
      refine z_sub hC [1] (lo' := [(0, .ref x0)]) rfl ?_
      exact SM_band_B105 hC hr FU x0 (1) G4 (by decide)
    · refine z_iconst hC dX12_band_72 ?_
      refine z_goto (tgt := 105) hC dX12_band_73 (by decide) ?_
      refine z_sub hC [1] (lo' := [(0, .ref x0)]) rfl ?_
      exact SM_band_B105 hC hr FU x0 (0) G4 (by decide)
  · refine z_iload_n hC 3 rfl dX12_band_76 rfl ?_
    refine z_bipush hC dX12_band_77 rfl ?_
    refine z_icmp_ne (tgt := 95) hC hx2 (by decide) dX12_band_79 (by decide) (fun _ => ?_) (fun _ => ?_)
    · refine z_iload_n hC 2 rfl dX12_band_82 rfl ?_
      refine z_iload_n hC 0 rfl dX12_band_83 rfl ?_
      refine z_icmp_ne (tgt := 91) hC hx1 hv5 dX12_band_84 (by decide) (fun _ => ?_) (fun _ => ?_)
      · refine z_iconst hC dX12_band_87 ?_
        refine z_goto (tgt := 105) hC dX12_band_88 (by decide) ?_
        refine z_sub hC [1] (lo' := [(0, .ref x0)]) rfl ?_
        exact SM_band_B105 hC hr FU x0 (1) G4 (by decide)
      · refine z_iconst hC dX12_band_91 ?_
        refine z_goto (tgt := 105) hC dX12_band_92 (by decide) ?_
        refine z_sub hC [1] (lo' := [(0, .ref x0)]) rfl ?_
        exact SM_band_B105 hC hr FU x0 (0) G4 (by decide)
    · refine z_iload_n hC 2 rfl dX12_band_95 rfl ?_
      refine z_iload_n hC 0 rfl dX12_band_96 rfl ?_
      refine z_icmp_le (tgt := 104) hC hx1 hv5 dX12_band_97 (by decide) (fun _ => ?_) (fun _ => ?_)
      · refine z_iconst hC dX12_band_104 ?_
        refine z_sub hC [1] (lo' := [(0, .ref x0)]) rfl ?_
        exact SM_band_B105 hC hr FU x0 (0) G4 (by decide)
      · refine z_iconst hC dX12_band_100 ?_
        refine z_goto (tgt := 105) hC dX12_band_101 (by decide) ?_
        refine z_sub hC [1] (lo' := [(0, .ref x0)]) rfl ?_
        exact SM_band_B105 hC hr FU x0 (1) G4 (by decide)
set_option maxRecDepth 100000 in
theorem SM_band {l : Launch} {D : va_G} {aC : Nat → ClassId} (FU : Nat) (this : Nat) {G : Hp} {r1 : (Int × Hp)} (h1 : FM_band FU this G = some r1) : Met l yX12_band (Cond.code yX12_band cX12_band 6 (some .int) :: zgood) ({ frames := 49, cells := 0, slots := 0, locals := 1115 } : Room) (va_Pc [.ref this] (zU D aC G)) (zQ D aC G (zInI r1.1) (some (.int (zi r1.1))) r1.2) 0 0 (zA G) := by
  refine z_met (y := yX12_band) (b := cX12_band) (maxL := 6) (mc := 0) (ms := 0) (ret := (some .int)) (As := [.ref this]) (Q1 := fun r1 => zQ D aC G (zInI r1.1) (some (.int (zi r1.1))) r1.2) (X := FM_band FU this G) (by decide) (Nat.le_of_ble_eq_true rfl) ?_ h1
  intro p e s m below meth c hC hr hi
  have hC : zC p m c meth s ([.ref this] : List Value).toArray cX12_band 6 RX12 D aC := hC
  generalize ([.ref this] : List Value).toArray = args at hC ⊢
  show zS p l e ({ frames := 49, cells := 0, slots := 0, locals := 1115 } : Room) s m args below meth c D aC G (zfI D aC G below args s 0 0) 6 0 0 (FM_band FU this G) G 0 [(0, .ref this)] []
  unfold FM_band
  refine z_gd ?_
  unfold FM_band_b
  refine z_aload_n hC 0 rfl dX12_band_0 rfl ?_
  refine z_cI (z_rV (q := this) (t := 12) (As := []) hC (fun _ h1 => SM_sum_n FU 12 this h1) (fun _ h1 => SM_sum_nk h1) rfl rfl zM12_268 zMv_FM_sum ⟨by decide, by decide⟩ rfl rfl rfl (rest := []) (Nat.le_of_ble_eq_true rfl) ⟨Nat.le_of_ble_eq_true rfl, Nat.le_of_ble_eq_true rfl⟩ rfl dX12_band_1) (fun v2 G1 hv2 => ?_)
  refine z_istore_n (lo' := [(1, .int (zi v2)), (0, .ref this)]) hC dX12_band_4 rfl (by decide) rfl ?_
  refine z_aload_n hC 1 rfl dX12_band_5 rfl ?_
  refine z_cIp (z_rV (q := this) (t := 12) (As := []) hC (fun _ h1 => SM_byteAt FU this h1) (fun _ h1 => SM_byteAt_k h1) rfl rfl zM12_256 zMv_FM_byteAt ⟨by decide, by decide⟩ rfl rfl rfl (rest := []) (Nat.le_of_ble_eq_true rfl) ⟨Nat.le_of_ble_eq_true rfl, Nat.le_of_ble_eq_true rfl⟩ rfl dX12_band_6) (fun v3 hv3 => ?_)
  refine z_istore_n (lo' := [(2, .int (zi v3)), (1, .int (zi v2)), (0, .ref this)]) hC dX12_band_9 rfl (by decide) rfl ?_
  refine z_aload_n hC 2 rfl dX12_band_10 rfl ?_
  refine z_iconst hC dX12_band_11 ?_
  refine z_putZ hC zF12_271 rfl rfl dX12_band_12 (fun G4 => ?_)
  refine z_aload_n hC 2 rfl dX12_band_15 rfl ?_
  refine z_getI hC zF12_249 rfl dX12_band_16 (fun v5 hv5 => ?_)
  refine z_if_ge (tgt := 40) hC hv5 dX12_band_19 (by decide) (fun _ => ?_) (fun _ => ?_)
  · refine z_iload_n hC 0 rfl dX12_band_22 rfl ?_
    refine z_bipush hC dX12_band_23 rfl ?_
    refine z_icmp_eq (tgt := 42) hC hv3 (by decide) dX12_band_25 (by decide) (fun _ => ?_) (fun _ => ?_)
    · refine z_sub hC [2, 1, 0] (lo' := [(0, .ref this), (1, .int (zi v2)), (2, .int (zi v3))]) rfl ?_
      exact SM_band_B42 hC hr FU this v2 v3 G4 hv2 hv3
    · refine z_iload_n hC 0 rfl dX12_band_28 rfl ?_
      refine z_bipush hC dX12_band_29 rfl ?_
      refine z_icmp_eq (tgt := 42) hC hv3 (by decide) dX12_band_31 (by decide) (fun _ => ?_) (fun _ => ?_)
      · refine z_sub hC [2, 1, 0] (lo' := [(0, .ref this), (1, .int (zi v2)), (2, .int (zi v3))]) rfl ?_
        exact SM_band_B42 hC hr FU this v2 v3 G4 hv2 hv3
      · refine z_iload_n hC 0 rfl dX12_band_34 rfl ?_
        refine z_bipush hC dX12_band_35 rfl ?_
        refine z_icmp_eq (tgt := 42) hC hv3 (by decide) dX12_band_37 (by decide) (fun _ => ?_) (fun _ => ?_)
        · refine z_sub hC [2, 1, 0] (lo' := [(0, .ref this), (1, .int (zi v2)), (2, .int (zi v3))]) rfl ?_
          exact SM_band_B42 hC hr FU this v2 v3 G4 hv2 hv3
        · refine z_iload_n hC 1 rfl dX12_band_40 rfl ?_
          exact z_iret hC hv2 hr dX12_band_41
  · refine z_iload_n hC 1 rfl dX12_band_40 rfl ?_
    exact z_iret hC hv2 hr dX12_band_41
theorem SM_band_k {FU : Nat} {this : Nat} {G : Hp} {r1 : (Int × Hp)} (h1 : FM_band FU this G = some r1) : zk G this = some (12, 0) := zgd_k (k := FM_band_b FU this G) h1

set_option maxRecDepth 100000 in
theorem SM_workOut_B101 {p : Program} {l : Launch} {e : Env} {s : State} {m : MethodId} {args : Array Value} {below : List Frame} {meth : Method} {c : Code} {D : va_G} {aC : Nat → ClassId} {G0 : Hp} (hC : zC p m c meth s args cX12_workOut 7 RX12 D aC) (hr : meth.sig.returnType = (some .int)) (FU : Nat) (kL33 : Nat → Int → Int → Int → Hp → Option (Int × Hp)) (hkL33 : ∀ (a0 : Nat) (a1 : Int) (a2 : Int) (a3 : Int) (G : Hp), zInI a1 → zInI a2 → zInI a3 → zS p l e ({ frames := 50, cells := 0, slots := 0, locals := 1140 } : Room) s m args below meth c D aC G0 (zfI D aC G0 below args s 0 0) 7 0 0 (kL33 a0 a1 a2 a3 G) G 33 [(0, .ref a0), (3, .int (zi a1)), (4, .int (zi a2)), (5, .int (zi a3))] []) (x0 : Nat) (x3 : Int) (x4 : Int) (y0 : Int) (G : Hp) (hx3 : zInI x3) (hx4 : zInI x4) (hy0 : zInI y0) : zS p l e ({ frames := 50, cells := 0, slots := 0, locals := 1140 } : Room) s m args below meth c D aC G0 (zfI D aC G0 below args s 0 0) 7 0 0 (FM_workOut_B101 FU kL33 x0 x3 x4 y0 G) G 101 [(0, .ref x0), (3, .int (zi x3)), (4, .int (zi x4))] [.int (zi y0)] := by
  unfold FM_workOut_B101
  refine z_istore (lo' := [(5, .int (zi y0)), (0, .ref x0), (3, .int (zi x3)), (4, .int (zi x4))]) hC dX12_workOut_101 (by decide) rfl ?_
  refine z_aload_n hC 1 rfl dX12_workOut_103 rfl ?_
  refine z_dup hC rfl dX12_workOut_104 ?_
  refine z_getI hC zF12_240 rfl dX12_workOut_105 (fun v1 hv1 => ?_)
  refine z_iload hC 0 rfl dX12_workOut_108 ?_
  refine z_if_eq (tgt := 117) hC hy0 dX12_workOut_110 (by decide) (fun _ => ?_) (fun _ => ?_)
  · refine z_iconst hC dX12_workOut_117 ?_
    refine z_iadd hC dX12_workOut_118 (fun v2 hv2 => ?_)
    refine z_putI hC hv2 zF12_240 rfl rfl dX12_workOut_119 (fun G3 => ?_)
    refine z_goto (tgt := 33) hC dX12_workOut_122 (by decide) ?_
    refine z_sub hC [1, 2, 3, 0] (lo' := [(0, .ref x0), (3, .int (zi x3)), (4, .int (zi x4)), (5, .int (zi y0))]) rfl ?_
    exact hkL33 x0 x3 x4 y0 G3 hx3 hx4 hy0
  · refine z_iconst hC dX12_workOut_113 ?_
    refine z_goto (tgt := 118) hC dX12_workOut_114 (by decide) ?_
    refine z_iadd hC dX12_workOut_118 (fun v4 hv4 => ?_)
    refine z_putI hC hv4 zF12_240 rfl rfl dX12_workOut_119 (fun G5 => ?_)
    refine z_goto (tgt := 33) hC dX12_workOut_122 (by decide) ?_
    refine z_sub hC [1, 2, 3, 0] (lo' := [(0, .ref x0), (3, .int (zi x3)), (4, .int (zi x4)), (5, .int (zi y0))]) rfl ?_
    exact hkL33 x0 x3 x4 y0 G5 hx3 hx4 hy0
set_option maxRecDepth 100000 in
theorem SM_workOut_B100 {p : Program} {l : Launch} {e : Env} {s : State} {m : MethodId} {args : Array Value} {below : List Frame} {meth : Method} {c : Code} {D : va_G} {aC : Nat → ClassId} {G0 : Hp} (hC : zC p m c meth s args cX12_workOut 7 RX12 D aC) (hr : meth.sig.returnType = (some .int)) (FU : Nat) (kL33 : Nat → Int → Int → Int → Hp → Option (Int × Hp)) (hkL33 : ∀ (a0 : Nat) (a1 : Int) (a2 : Int) (a3 : Int) (G : Hp), zInI a1 → zInI a2 → zInI a3 → zS p l e ({ frames := 50, cells := 0, slots := 0, locals := 1140 } : Room) s m args below meth c D aC G0 (zfI D aC G0 below args s 0 0) 7 0 0 (kL33 a0 a1 a2 a3 G) G 33 [(0, .ref a0), (3, .int (zi a1)), (4, .int (zi a2)), (5, .int (zi a3))] []) (x0 : Nat) (x3 : Int) (x4 : Int) (G : Hp) (hx3 : zInI x3) (hx4 : zInI x4) : zS p l e ({ frames := 50, cells := 0, slots := 0, locals := 1140 } : Room) s m args below meth c D aC G0 (zfI D aC G0 below args s 0 0) 7 0 0 (FM_workOut_B100 FU kL33 x0 x3 x4 G) G 100 [(0, .ref x0), (3, .int (zi x3)), (4, .int (zi x4))] [] := by
  unfold FM_workOut_B100
  refine z_iconst hC dX12_workOut_100 ?_
  refine z_sub hC [0, 1, 2] (lo' := [(0, .ref x0), (3, .int (zi x3)), (4, .int (zi x4))]) rfl ?_
  exact SM_workOut_B101 hC hr FU kL33 hkL33 x0 x3 x4 (0) G hx3 hx4 (by decide)
set_option maxRecDepth 100000 in
theorem SM_workOut_B69 {p : Program} {l : Launch} {e : Env} {s : State} {m : MethodId} {args : Array Value} {below : List Frame} {meth : Method} {c : Code} {D : va_G} {aC : Nat → ClassId} {G0 : Hp} (hC : zC p m c meth s args cX12_workOut 7 RX12 D aC) (hr : meth.sig.returnType = (some .int)) (FU : Nat) (kL33 : Nat → Int → Int → Int → Hp → Option (Int × Hp)) (hkL33 : ∀ (a0 : Nat) (a1 : Int) (a2 : Int) (a3 : Int) (G : Hp), zInI a1 → zInI a2 → zInI a3 → zS p l e ({ frames := 50, cells := 0, slots := 0, locals := 1140 } : Room) s m args below meth c D aC G0 (zfI D aC G0 below args s 0 0) 7 0 0 (kL33 a0 a1 a2 a3 G) G 33 [(0, .ref a0), (3, .int (zi a1)), (4, .int (zi a2)), (5, .int (zi a3))] []) (x0 : Nat) (x3 : Int) (x4 : Int) (G : Hp) (hx3 : zInI x3) (hx4 : zInI x4) : zS p l e ({ frames := 50, cells := 0, slots := 0, locals := 1140 } : Room) s m args below meth c D aC G0 (zfI D aC G0 below args s 0 0) 7 0 0 (FM_workOut_B69 FU kL33 x0 x3 x4 G) G 69 [(0, .ref x0), (3, .int (zi x3)), (4, .int (zi x4))] [] := by
  unfold FM_workOut_B69
  refine z_aload_n hC 0 rfl dX12_workOut_69 rfl ?_
  refine z_getI hC zF12_249 rfl dX12_workOut_70 (fun v1 hv1 => ?_)
  refine z_if_ge (tgt := 100) hC hv1 dX12_workOut_73 (by decide) (fun _ => ?_) (fun _ => ?_)
  · refine z_aload_n hC 0 rfl dX12_workOut_76 rfl ?_
    refine z_cIp (z_rV (q := x0) (t := 12) (As := []) hC (fun _ h1 => SM_byteAt FU x0 h1) (fun _ h1 => SM_byteAt_k h1) rfl rfl zM12_256 zMv_FM_byteAt ⟨by decide, by decide⟩ rfl rfl rfl (rest := []) (Nat.le_of_ble_eq_true rfl) ⟨Nat.le_of_ble_eq_true rfl, Nat.le_of_ble_eq_true rfl⟩ rfl dX12_workOut_77) (fun v2 hv2 => ?_)
    refine z_bipush hC dX12_workOut_80 rfl ?_
    refine z_icmp_ne (tgt := 100) hC hv2 (by decide) dX12_workOut_82 (by decide) (fun _ => ?_) (fun _ => ?_)
    · refine z_aload_n hC 0 rfl dX12_workOut_85 rfl ?_
      refine z_getI hC zF12_240 rfl dX12_workOut_86 (fun v3 hv3 => ?_)
      refine z_aload_n hC 0 rfl dX12_workOut_89 rfl ?_
      refine z_getI hC zF12_243 rfl dX12_workOut_90 (fun v4 hv4 => ?_)
      refine z_icmp_ge (tgt := 100) hC hv3 hv4 dX12_workOut_93 (by decide) (fun _ => ?_) (fun _ => ?_)
      · refine z_iconst hC dX12_workOut_96 ?_
        refine z_goto (tgt := 101) hC dX12_workOut_97 (by decide) ?_
        refine z_sub hC [0, 1, 2] (lo' := [(0, .ref x0), (3, .int (zi x3)), (4, .int (zi x4))]) rfl ?_
        exact SM_workOut_B101 hC hr FU kL33 hkL33 x0 x3 x4 (1) G hx3 hx4 (by decide)
      · refine z_sub hC [0, 1, 2] (lo' := [(0, .ref x0), (3, .int (zi x3)), (4, .int (zi x4))]) rfl ?_
        exact SM_workOut_B100 hC hr FU kL33 hkL33 x0 x3 x4 G hx3 hx4
    · refine z_sub hC [0, 1, 2] (lo' := [(0, .ref x0), (3, .int (zi x3)), (4, .int (zi x4))]) rfl ?_
      exact SM_workOut_B100 hC hr FU kL33 hkL33 x0 x3 x4 G hx3 hx4
  · refine z_sub hC [0, 1, 2] (lo' := [(0, .ref x0), (3, .int (zi x3)), (4, .int (zi x4))]) rfl ?_
    exact SM_workOut_B100 hC hr FU kL33 hkL33 x0 x3 x4 G hx3 hx4
set_option maxRecDepth 100000 in
theorem SM_workOut_L33 {p : Program} {l : Launch} {e : Env} {s : State} {m : MethodId} {args : Array Value} {below : List Frame} {meth : Method} {c : Code} {D : va_G} {aC : Nat → ClassId} {G0 : Hp} (hC : zC p m c meth s args cX12_workOut 7 RX12 D aC) (hr : meth.sig.returnType = (some .int)) (FU : Nat) : ∀ (n : Nat) (x0 : Nat) (x3 : Int) (x4 : Int) (x5 : Int) (G : Hp) (hx3 : zInI x3) (hx4 : zInI x4) (hx5 : zInI x5), zS p l e ({ frames := 50, cells := 0, slots := 0, locals := 1140 } : Room) s m args below meth c D aC G0 (zfI D aC G0 below args s 0 0) 7 0 0 (FM_workOut_L33 FU n x0 x3 x4 x5 G) G 33 [(0, .ref x0), (3, .int (zi x3)), (4, .int (zi x4)), (5, .int (zi x5))] [] := by
  intro n
  induction n with
  | zero => intros; exact z_none
  | succ n ih =>
    intro x0 x3 x4 x5 G hx3 hx4 hx5
    rw [FM_workOut_L33]
    refine z_iload hC 3 rfl dX12_workOut_33 ?_
    refine z_if_eq (tgt := 125) hC hx5 dX12_workOut_35 (by decide) (fun _ => ?_) (fun _ => ?_)
    · refine z_aload_n hC 0 rfl dX12_workOut_125 rfl ?_
      refine z_getI hC zF12_249 rfl dX12_workOut_126 (fun v1 hv1 => ?_)
      refine z_if_ge (tgt := 148) hC hv1 dX12_workOut_129 (by decide) (fun _ => ?_) (fun _ => ?_)
      · refine z_aload_n hC 0 rfl dX12_workOut_132 rfl ?_
        refine z_getI hC zF12_240 rfl dX12_workOut_133 (fun v2 hv2 => ?_)
        refine z_aload_n hC 0 rfl dX12_workOut_136 rfl ?_
        refine z_getI hC zF12_243 rfl dX12_workOut_137 (fun v3 hv3 => ?_)
        refine z_icmp_ge (tgt := 148) hC hv2 hv3 dX12_workOut_140 (by decide) (fun _ => ?_) (fun _ => ?_)
        · refine z_aload_n hC 0 rfl dX12_workOut_143 rfl ?_
          refine z_cI (z_rV (q := x0) (t := 12) (As := []) hC (fun _ h1 => SM_wrong FU x0 h1) (fun _ h1 => SM_wrong_k h1) rfl rfl zM12_265 zMv_FM_wrong ⟨by decide, by decide⟩ rfl rfl rfl (rest := []) (Nat.le_of_ble_eq_true rfl) ⟨Nat.le_of_ble_eq_true rfl, Nat.le_of_ble_eq_true rfl⟩ rfl dX12_workOut_144) (fun v5 G4 hv5 => ?_)
          exact z_iret hC hv5 hr dX12_workOut_147
        · refine z_iload_n hC 1 rfl dX12_workOut_148 rfl ?_
          exact z_iret hC hx3 hr dX12_workOut_149
      · refine z_iload_n hC 1 rfl dX12_workOut_148 rfl ?_
        exact z_iret hC hx3 hr dX12_workOut_149
    · refine z_aload_n hC 0 rfl dX12_workOut_38 rfl ?_
      refine z_cI (z_rV (q := x0) (t := 12) (As := []) hC (fun _ h1 => SM_band FU x0 h1) (fun _ h1 => SM_band_k h1) rfl rfl zM12_274 zMv_FM_band ⟨by decide, by decide⟩ rfl rfl rfl (rest := []) (Nat.le_of_ble_eq_true rfl) ⟨Nat.le_of_ble_eq_true rfl, Nat.le_of_ble_eq_true rfl⟩ rfl dX12_workOut_39) (fun v7 G6 hv7 => ?_)
      refine z_istore (lo' := [(6, .int (zi v7)), (0, .ref x0), (3, .int (zi x3)), (4, .int (zi x4)), (5, .int (zi x5))]) hC dX12_workOut_42 (by decide) rfl ?_
      refine z_aload_n hC 1 rfl dX12_workOut_44 rfl ?_
      refine z_getI hC zF12_249 rfl dX12_workOut_45 (fun v8 hv8 => ?_)
      refine z_if_ge (tgt := 69) hC hv8 dX12_workOut_48 (by decide) (fun _ => ?_) (fun _ => ?_)
      · refine z_aload_n hC 1 rfl dX12_workOut_51 rfl ?_
        refine z_getZ hC zF12_271 rfl dX12_workOut_52 (fun v9 hv9 => ?_)
        refine z_if_eq (tgt := 69) hC (hv9).i dX12_workOut_55 (by decide) (fun _ => ?_) (fun _ => ?_)
        · refine z_sub hC [1, 2, 3] (lo' := [(0, .ref x0), (3, .int (zi x3)), (4, .int (zi x4))]) rfl ?_
          exact SM_workOut_B69 hC hr FU (FM_workOut_L33 FU n) ih x0 x3 x4 G6 hx3 hx4
        · refine z_iload hC 3 rfl dX12_workOut_58 ?_
          refine z_if_ne (tgt := 69) hC hx4 dX12_workOut_60 (by decide) (fun _ => ?_) (fun _ => ?_)
          · refine z_iload hC 0 rfl dX12_workOut_63 ?_
            refine z_istore_n (lo' := [(3, .int (zi v7)), (6, .int (zi v7)), (0, .ref x0), (4, .int (zi x4)), (5, .int (zi x5))]) hC dX12_workOut_65 rfl (by decide) rfl ?_
            refine z_iconst hC dX12_workOut_66 ?_
            refine z_istore (lo' := [(4, .int (zi (1))), (3, .int (zi v7)), (6, .int (zi v7)), (0, .ref x0), (5, .int (zi x5))]) hC dX12_workOut_67 (by decide) rfl ?_
            refine z_sub hC [3, 1, 0] (lo' := [(0, .ref x0), (3, .int (zi v7)), (4, .int (zi (1)))]) rfl ?_
            exact SM_workOut_B69 hC hr FU (FM_workOut_L33 FU n) ih x0 v7 (1) G6 hv7 (by decide)
          · refine z_sub hC [1, 2, 3] (lo' := [(0, .ref x0), (3, .int (zi x3)), (4, .int (zi x4))]) rfl ?_
            exact SM_workOut_B69 hC hr FU (FM_workOut_L33 FU n) ih x0 x3 x4 G6 hx3 hx4
      · refine z_sub hC [1, 2, 3] (lo' := [(0, .ref x0), (3, .int (zi x3)), (4, .int (zi x4))]) rfl ?_
        exact SM_workOut_B69 hC hr FU (FM_workOut_L33 FU n) ih x0 x3 x4 G6 hx3 hx4
set_option maxRecDepth 100000 in
theorem SM_workOut {l : Launch} {D : va_G} {aC : Nat → ClassId} (FU : Nat) (this : Nat) (p1 : Int) (p2 : Int) (hp1 : zInI p1) (hp2 : zInI p2) {G : Hp} {r1 : (Int × Hp)} (h1 : FM_workOut FU this p1 p2 G = some r1) : Met l yX12_workOut (Cond.code yX12_workOut cX12_workOut 7 (some .int) :: zgood) ({ frames := 50, cells := 0, slots := 0, locals := 1140 } : Room) (va_Pc [.ref this, .int (zi p1), .int (zi p2)] (zU D aC G)) (zQ D aC G (zInI r1.1) (some (.int (zi r1.1))) r1.2) 0 0 (zA G) := by
  refine z_met (y := yX12_workOut) (b := cX12_workOut) (maxL := 7) (mc := 0) (ms := 0) (ret := (some .int)) (As := [.ref this, .int (zi p1), .int (zi p2)]) (Q1 := fun r1 => zQ D aC G (zInI r1.1) (some (.int (zi r1.1))) r1.2) (X := FM_workOut FU this p1 p2 G) (by decide) (Nat.le_of_ble_eq_true rfl) ?_ h1
  intro p e s m below meth c hC hr hi
  have hC : zC p m c meth s ([.ref this, .int (zi p1), .int (zi p2)] : List Value).toArray cX12_workOut 7 RX12 D aC := hC
  generalize ([.ref this, .int (zi p1), .int (zi p2)] : List Value).toArray = args at hC ⊢
  show zS p l e ({ frames := 50, cells := 0, slots := 0, locals := 1140 } : Room) s m args below meth c D aC G (zfI D aC G below args s 0 0) 7 0 0 (FM_workOut FU this p1 p2 G) G 0 [(0, .ref this), (1, .int (zi p1)), (2, .int (zi p2))] []
  unfold FM_workOut
  refine z_gd ?_
  unfold FM_workOut_b
  refine z_aload_n hC 0 rfl dX12_workOut_0 rfl ?_
  refine z_iload_n hC 1 rfl dX12_workOut_1 rfl ?_
  refine z_putI hC hp1 zF12_246 rfl rfl dX12_workOut_2 (fun G1 => ?_)
  refine z_aload_n hC 0 rfl dX12_workOut_5 rfl ?_
  refine z_iconst hC dX12_workOut_6 ?_
  refine z_putI hC (by decide) zF12_240 rfl rfl dX12_workOut_7 (fun G2 => ?_)
  refine z_aload_n hC 0 rfl dX12_workOut_10 rfl ?_
  refine z_iload_n hC 2 rfl dX12_workOut_11 rfl ?_
  refine z_putI hC hp2 zF12_243 rfl rfl dX12_workOut_12 (fun G3 => ?_)
  refine z_aload_n hC 0 rfl dX12_workOut_15 rfl ?_
  refine z_iconst hC dX12_workOut_16 ?_
  refine z_putI hC (by decide) zF12_249 rfl rfl dX12_workOut_17 (fun G4 => ?_)
  refine z_aload_n hC 0 rfl dX12_workOut_20 rfl ?_
  refine z_iconst hC dX12_workOut_21 ?_
  refine z_putI hC (by decide) zF12_262 rfl rfl dX12_workOut_22 (fun G5 => ?_)
  refine z_iconst hC dX12_workOut_25 ?_
  refine z_istore_n (lo' := [(3, .int (zi (0))), (0, .ref this), (1, .int (zi p1)), (2, .int (zi p2))]) hC dX12_workOut_26 rfl (by decide) rfl ?_
  refine z_iconst hC dX12_workOut_27 ?_
  refine z_istore (lo' := [(4, .int (zi (0))), (3, .int (zi (0))), (0, .ref this), (1, .int (zi p1)), (2, .int (zi p2))]) hC dX12_workOut_28 (by decide) rfl ?_
  refine z_iconst hC dX12_workOut_30 ?_
  refine z_istore (lo' := [(5, .int (zi (1))), (4, .int (zi (0))), (3, .int (zi (0))), (0, .ref this), (1, .int (zi p1)), (2, .int (zi p2))]) hC dX12_workOut_31 (by decide) rfl ?_
  refine z_sub hC [3, 2, 1, 0] (lo' := [(0, .ref this), (3, .int (zi (0))), (4, .int (zi (0))), (5, .int (zi (1)))]) rfl ?_
  exact SM_workOut_L33 hC hr FU FU this (0) (0) (1) G5 (by decide) (by decide) (by decide)
theorem SM_workOut_k {FU : Nat} {this : Nat} {p1 : Int} {p2 : Int} {G : Hp} {r1 : (Int × Hp)} (h1 : FM_workOut FU this p1 p2 G = some r1) : zk G this = some (12, 0) := zgd_k (k := FM_workOut_b FU this p1 p2 G) h1

set_option maxRecDepth 100000 in
theorem SM_terms_L69 {p : Program} {l : Launch} {e : Env} {s : State} {m : MethodId} {args : Array Value} {below : List Frame} {meth : Method} {c : Code} {D : va_G} {aC : Nat → ClassId} {G0 : Hp} (hC : zC p m c meth s args cX12_terms 6 RX12 D aC) (hr : meth.sig.returnType = (some .int)) (FU : Nat) : ∀ (n : Nat) (x0 : Nat) (x1 : Int) (x2 : Int) (x4 : Int) (x5 : Int) (G : Hp) (hx1 : zInI x1) (hx2 : zInI x2) (hx4 : zInI x4) (hx5 : zInI x5), zS p l e ({ frames := 51, cells := 0, slots := 0, locals := 1166 } : Room) s m args below meth c D aC G0 (zfI D aC G0 below args s 0 0) 6 0 0 (FM_terms_L69 FU n x0 x1 x2 x4 x5 G) G 69 [(0, .ref x0), (1, .int (zi x1)), (2, .int (zi x2)), (4, .int (zi x4)), (5, .int (zi x5))] [] := by
  intro n
  induction n with
  | zero => intros; exact z_none
  | succ n ih =>
    intro x0 x1 x2 x4 x5 G hx1 hx2 hx4 hx5
    rw [FM_terms_L69]
    refine z_iload hC 4 rfl dX12_terms_69 ?_
    refine z_iload hC 3 rfl dX12_terms_71 ?_
    refine z_icmp_ge (tgt := 104) hC hx5 hx4 dX12_terms_73 (by decide) (fun _ => ?_) (fun _ => ?_)
    · refine z_aload_n hC 0 rfl dX12_terms_76 rfl ?_
      refine z_getQ hC zF12_63 rfl dX12_terms_77 (fun v1 => ?_)
      refine z_bipush hC dX12_terms_80 rfl ?_
      refine z_aload_n hC 0 rfl dX12_terms_82 rfl ?_
      refine z_getI hC zF12_280 rfl dX12_terms_83 (fun v2 hv2 => ?_)
      refine z_imul hC dX12_terms_86 (fun v3 hv3 => ?_)
      refine z_iload hC 4 rfl dX12_terms_87 ?_
      refine z_iadd hC dX12_terms_89 (fun v4 hv4 => ?_)
      refine z_aload_n hC 0 rfl dX12_terms_90 rfl ?_
      refine z_getQ hC zF12_60 rfl dX12_terms_91 (fun v5 => ?_)
      refine z_iload hC 4 rfl dX12_terms_94 ?_
      refine z_iald hC hx5 dX12_terms_96 (fun v6 hv6 => ?_)
      refine z_iast hC hv4 hv6 dX12_terms_97 (fun G7 => ?_)
      refine z_iinc (lo' := fun v8 => [(5, .int (zi v8)), (0, .ref x0), (1, .int (zi x1)), (2, .int (zi x2)), (4, .int (zi x4))]) hC 4 dX12_terms_98 rfl (by decide) (fun _ => rfl) (fun v8 hv8 => ?_)
      refine z_goto (tgt := 69) hC dX12_terms_101 (by decide) ?_
      refine z_sub hC [1, 2, 3, 4, 0] (lo' := [(0, .ref x0), (1, .int (zi x1)), (2, .int (zi x2)), (4, .int (zi x4)), (5, .int (zi v8))]) rfl ?_
      exact ih x0 x1 x2 x4 v8 G7 hx1 hx2 hx4 hv8
    · refine z_aload_n hC 0 rfl dX12_terms_104 rfl ?_
      refine z_getQ hC zF12_66 rfl dX12_terms_105 (fun v9 => ?_)
      refine z_aload_n hC 0 rfl dX12_terms_108 rfl ?_
      refine z_getI hC zF12_280 rfl dX12_terms_109 (fun v10 hv10 => ?_)
      refine z_iload hC 3 rfl dX12_terms_112 ?_
      refine z_iast hC hv10 hx4 dX12_terms_114 (fun G11 => ?_)
      refine z_aload_n hC 0 rfl dX12_terms_115 rfl ?_
      refine z_getQ hC zF12_69 rfl dX12_terms_116 (fun v12 => ?_)
      refine z_aload_n hC 0 rfl dX12_terms_119 rfl ?_
      refine z_getI hC zF12_280 rfl dX12_terms_120 (fun v13 hv13 => ?_)
      refine z_iload_n hC 1 rfl dX12_terms_123 rfl ?_
      refine z_iast hC hv13 hx1 dX12_terms_124 (fun G14 => ?_)
      refine z_aload_n hC 0 rfl dX12_terms_125 rfl ?_
      refine z_getQ hC zF12_72 rfl dX12_terms_126 (fun v15 => ?_)
      refine z_aload_n hC 0 rfl dX12_terms_129 rfl ?_
      refine z_getI hC zF12_280 rfl dX12_terms_130 (fun v16 hv16 => ?_)
      refine z_iload_n hC 2 rfl dX12_terms_133 rfl ?_
      refine z_iast hC hv16 hx2 dX12_terms_134 (fun G17 => ?_)
      refine z_aload_n hC 0 rfl dX12_terms_135 rfl ?_
      refine z_getQ hC zF12_75 rfl dX12_terms_136 (fun v18 => ?_)
      refine z_aload_n hC 0 rfl dX12_terms_139 rfl ?_
      refine z_getI hC zF12_280 rfl dX12_terms_140 (fun v19 hv19 => ?_)
      refine z_aload_n hC 0 rfl dX12_terms_143 rfl ?_
      refine z_getI hC zF12_162 rfl dX12_terms_144 (fun v20 hv20 => ?_)
      refine z_iast hC hv19 hv20 dX12_terms_147 (fun G21 => ?_)
      refine z_aload_n hC 0 rfl dX12_terms_148 rfl ?_
      refine z_dup hC rfl dX12_terms_149 ?_
      refine z_getI hC zF12_280 rfl dX12_terms_150 (fun v22 hv22 => ?_)
      refine z_iconst hC dX12_terms_153 ?_
      refine z_iadd hC dX12_terms_154 (fun v23 hv23 => ?_)
      refine z_putI hC hv23 zF12_280 rfl rfl dX12_terms_155 (fun G24 => ?_)
      refine z_aload_n hC 0 rfl dX12_terms_158 rfl ?_
      refine z_getI hC zF12_280 rfl dX12_terms_159 (fun v25 hv25 => ?_)
      refine z_iconst hC dX12_terms_162 ?_
      refine z_isub hC dX12_terms_163 (fun v26 hv26 => ?_)
      exact z_iret hC hv26 hr dX12_terms_164
set_option maxRecDepth 100000 in
theorem SM_terms {l : Launch} {D : va_G} {aC : Nat → ClassId} (FU : Nat) (this : Nat) (p1 : Int) (p2 : Int) (hp1 : zInI p1) (hp2 : zInI p2) {G : Hp} {r1 : (Int × Hp)} (h1 : FM_terms FU this p1 p2 G = some r1) : Met l yX12_terms (Cond.code yX12_terms cX12_terms 6 (some .int) :: zgood) ({ frames := 51, cells := 0, slots := 0, locals := 1166 } : Room) (va_Pc [.ref this, .int (zi p1), .int (zi p2)] (zU D aC G)) (zQ D aC G (zInI r1.1) (some (.int (zi r1.1))) r1.2) 0 0 (zA G) := by
  refine z_met (y := yX12_terms) (b := cX12_terms) (maxL := 6) (mc := 0) (ms := 0) (ret := (some .int)) (As := [.ref this, .int (zi p1), .int (zi p2)]) (Q1 := fun r1 => zQ D aC G (zInI r1.1) (some (.int (zi r1.1))) r1.2) (X := FM_terms FU this p1 p2 G) (by decide) (Nat.le_of_ble_eq_true rfl) ?_ h1
  intro p e s m below meth c hC hr hi
  have hC : zC p m c meth s ([.ref this, .int (zi p1), .int (zi p2)] : List Value).toArray cX12_terms 6 RX12 D aC := hC
  generalize ([.ref this, .int (zi p1), .int (zi p2)] : List Value).toArray = args at hC ⊢
  show zS p l e ({ frames := 51, cells := 0, slots := 0, locals := 1166 } : Room) s m args below meth c D aC G (zfI D aC G below args s 0 0) 6 0 0 (FM_terms FU this p1 p2 G) G 0 [(0, .ref this), (1, .int (zi p1)), (2, .int (zi p2))] []
  unfold FM_terms
  refine z_gd ?_
  unfold FM_terms_b
  refine z_iload_n hC 1 rfl dX12_terms_0 rfl ?_
  refine z_iconst hC dX12_terms_1 ?_
  refine z_iconst hC dX12_terms_2 ?_
  refine z_cZp (z_rS (As := [.int (zi p1), .int (zi (0)), .int (zi (2))]) hC (fun _ h1 => SM_within FU p1 (0) (2) hp1 (by decide) (by decide) h1) zM12_142 zMs_FM_within ⟨by decide, by decide⟩ rfl rfl rfl (rest := []) (Nat.le_of_ble_eq_true rfl) ⟨Nat.le_of_ble_eq_true rfl, Nat.le_of_ble_eq_true rfl⟩ rfl dX12_terms_3) (fun v1 hv1 => ?_)
  refine z_if_eq (tgt := 16) hC (hv1).i dX12_terms_6 (by decide) (fun _ => ?_) (fun _ => ?_)
  · refine z_iconst hC dX12_terms_16 ?_
    exact z_iret hC (by decide) hr dX12_terms_17
  · refine z_iload_n hC 2 rfl dX12_terms_9 rfl ?_
    refine z_cZp (z_rS (As := [.int (zi p2)]) hC (fun _ h1 => SM_isDay FU p2 hp2 h1) zM12_277 zMs_FM_isDay ⟨by decide, by decide⟩ rfl rfl rfl (rest := []) (Nat.le_of_ble_eq_true rfl) ⟨Nat.le_of_ble_eq_true rfl, Nat.le_of_ble_eq_true rfl⟩ rfl dX12_terms_10) (fun v2 hv2 => ?_)
    refine z_if_ne (tgt := 18) hC (hv2).i dX12_terms_13 (by decide) (fun _ => ?_) (fun _ => ?_)
    · refine z_iconst hC dX12_terms_16 ?_
      exact z_iret hC (by decide) hr dX12_terms_17
    · refine z_aload_n hC 0 rfl dX12_terms_18 rfl ?_
      refine z_getI hC zF12_280 rfl dX12_terms_19 (fun v3 hv3 => ?_)
      refine z_bipush hC dX12_terms_22 rfl ?_
      refine z_icmp_ne (tgt := 30) hC hv3 (by decide) dX12_terms_24 (by decide) (fun _ => ?_) (fun _ => ?_)
      · refine z_bipush hC dX12_terms_27 rfl ?_
        exact z_iret hC (by decide) hr dX12_terms_29
      · refine z_aload_n hC 0 rfl dX12_terms_30 rfl ?_
        refine z_iconst hC dX12_terms_31 ?_
        refine z_aload_n hC 0 rfl dX12_terms_32 rfl ?_
        refine z_getI hC zF12_237 rfl dX12_terms_33 (fun v4 hv4 => ?_)
        refine z_cI (z_rV (q := this) (t := 12) (As := [.int (zi (-1)), .int (zi v4)]) hC (fun _ h1 => SM_workOut FU this (-1) v4 (by decide) hv4 h1) (fun _ h1 => SM_workOut_k h1) rfl rfl zM12_283 zMv_FM_workOut ⟨by decide, by decide⟩ rfl rfl rfl (rest := []) (Nat.le_of_ble_eq_true rfl) ⟨Nat.le_of_ble_eq_true rfl, Nat.le_of_ble_eq_true rfl⟩ rfl dX12_terms_36) (fun v6 G5 hv6 => ?_)
        refine z_istore_n (lo' := [(3, .int (zi v6)), (0, .ref this), (1, .int (zi p1)), (2, .int (zi p2))]) hC dX12_terms_39 rfl (by decide) rfl ?_
        refine z_aload_n hC 1 rfl dX12_terms_40 rfl ?_
        refine z_getI hC zF12_237 rfl dX12_terms_41 (fun v7 hv7 => ?_)
        refine z_istore (lo' := [(4, .int (zi v7)), (3, .int (zi v6)), (0, .ref this), (1, .int (zi p1)), (2, .int (zi p2))]) hC dX12_terms_44 (by decide) rfl ?_
        refine z_aload_n hC 2 rfl dX12_terms_46 rfl ?_
        refine z_iconst hC dX12_terms_47 ?_
        refine z_putI hC (by decide) zF12_237 rfl rfl dX12_terms_48 (fun G8 => ?_)
        refine z_aload_n hC 2 rfl dX12_terms_51 rfl ?_
        refine z_getI hC zF12_249 rfl dX12_terms_52 (fun v9 hv9 => ?_)
        refine z_if_lt (tgt := 66) hC hv9 dX12_terms_55 (by decide) (fun _ => ?_) (fun _ => ?_)
        · refine z_iconst hC dX12_terms_66 ?_
          refine z_istore (lo' := [(5, .int (zi (0))), (4, .int (zi v7)), (3, .int (zi v6)), (0, .ref this), (1, .int (zi p1)), (2, .int (zi p2))]) hC dX12_terms_67 (by decide) rfl ?_
          refine z_sub hC [3, 4, 5, 1, 0] (lo' := [(0, .ref this), (1, .int (zi p1)), (2, .int (zi p2)), (4, .int (zi v7)), (5, .int (zi (0)))]) rfl ?_
          exact SM_terms_L69 hC hr FU FU this p1 p2 v7 (0) G8 hp1 hp2 hv7 (by decide)
        · refine z_bipush hC dX12_terms_58 rfl ?_
          refine z_aload_n hC 2 rfl dX12_terms_60 rfl ?_
          refine z_getI hC zF12_249 rfl dX12_terms_61 (fun v10 hv10 => ?_)
          refine z_isub hC dX12_terms_64 (fun v11 hv11 => ?_)
          exact z_iret hC hv11 hr dX12_terms_65
theorem SM_terms_k {FU : Nat} {this : Nat} {p1 : Int} {p2 : Int} {G : Hp} {r1 : (Int × Hp)} (h1 : FM_terms FU this p1 p2 G = some r1) : zk G this = some (12, 0) := zgd_k (k := FM_terms_b FU this p1 p2 G) h1

set_option maxRecDepth 100000 in
theorem SM_force_L6 {p : Program} {l : Launch} {e : Env} {s : State} {m : MethodId} {args : Array Value} {below : List Frame} {meth : Method} {c : Code} {D : va_G} {aC : Nat → ClassId} {G0 : Hp} (hC : zC p m c meth s args cX12_force 6 RX12 D aC) (hr : meth.sig.returnType = (some .int)) (FU : Nat) : ∀ (n : Nat) (x0 : Nat) (x1 : Int) (x2 : Int) (x3 : Int) (x4 : Int) (x5 : Int) (hx1 : zInI x1) (hx2 : zInI x2) (hx3 : zInI x3) (hx4 : zInI x4) (hx5 : zInI x5), zS p l e ({ frames := 1, cells := 0, slots := 0, locals := 24 } : Room) s m args below meth c D aC G0 (fun r1 => zfI D aC G0 below args s 0 0 (r1, G0)) 6 0 0 (FM_force_L6 FU n x0 x1 x2 x3 x4 x5 G0) G0 6 [(0, .ref x0), (1, .int (zi x1)), (2, .int (zi x2)), (3, .int (zi x3)), (4, .int (zi x4)), (5, .int (zi x5))] [] := by
  intro n
  induction n with
  | zero => intros; exact z_none
  | succ n ih =>
    intro x0 x1 x2 x3 x4 x5 hx1 hx2 hx3 hx4 hx5
    rw [FM_force_L6]
    refine z_iload hC 5 rfl dX12_force_6 ?_
    refine z_aload_n hC 0 rfl dX12_force_8 rfl ?_
    refine z_getI hC zF12_280 rfl dX12_force_9 (fun v1 hv1 => ?_)
    refine z_icmp_ge (tgt := 63) hC hx5 hv1 dX12_force_12 (by decide) (fun _ => ?_) (fun _ => ?_)
    · refine z_aload_n hC 0 rfl dX12_force_15 rfl ?_
      refine z_getQ hC zF12_69 rfl dX12_force_16 (fun v2 => ?_)
      refine z_iload hC 5 rfl dX12_force_19 ?_
      refine z_iald hC hx5 dX12_force_21 (fun v3 hv3 => ?_)
      refine z_iload_n hC 1 rfl dX12_force_22 rfl ?_
      refine z_icmp_ne (tgt := 53) hC hv3 hx1 dX12_force_23 (by decide) (fun _ => ?_) (fun _ => ?_)
      · refine z_aload_n hC 0 rfl dX12_force_26 rfl ?_
        refine z_getQ hC zF12_75 rfl dX12_force_27 (fun v4 => ?_)
        refine z_iload hC 5 rfl dX12_force_30 ?_
        refine z_iald hC hx5 dX12_force_32 (fun v5 hv5 => ?_)
        refine z_iload_n hC 3 rfl dX12_force_33 rfl ?_
        refine z_icmp_gt (tgt := 53) hC hv5 hx3 dX12_force_34 (by decide) (fun _ => ?_) (fun _ => ?_)
        · refine z_aload_n hC 0 rfl dX12_force_37 rfl ?_
          refine z_getQ hC zF12_72 rfl dX12_force_38 (fun v6 => ?_)
          refine z_iload hC 5 rfl dX12_force_41 ?_
          refine z_iald hC hx5 dX12_force_43 (fun v7 hv7 => ?_)
          refine z_iload_n hC 2 rfl dX12_force_44 rfl ?_
          refine z_icmp_gt (tgt := 53) hC hv7 hx2 dX12_force_45 (by decide) (fun _ => ?_) (fun _ => ?_)
          · refine z_iload hC 5 rfl dX12_force_48 ?_
            refine z_goto (tgt := 55) hC dX12_force_50 (by decide) ?_
            refine z_istore (lo' := [(4, .int (zi x5)), (0, .ref x0), (1, .int (zi x1)), (2, .int (zi x2)), (3, .int (zi x3)), (5, .int (zi x5))]) hC dX12_force_55 (by decide) rfl ?_
            refine z_iinc (lo' := fun v8 => [(5, .int (zi v8)), (4, .int (zi x5)), (0, .ref x0), (1, .int (zi x1)), (2, .int (zi x2)), (3, .int (zi x3))]) hC 5 dX12_force_57 rfl (by decide) (fun _ => rfl) (fun v8 hv8 => ?_)
            refine z_goto (tgt := 6) hC dX12_force_60 (by decide) ?_
            refine z_sub hC [2, 3, 4, 5, 1, 0] (lo' := [(0, .ref x0), (1, .int (zi x1)), (2, .int (zi x2)), (3, .int (zi x3)), (4, .int (zi x5)), (5, .int (zi v8))]) rfl ?_
            exact ih x0 x1 x2 x3 x5 v8 hx1 hx2 hx3 hx5 hv8
          · refine z_iload hC 4 rfl dX12_force_53 ?_
            refine z_istore (lo' := [(4, .int (zi x4)), (0, .ref x0), (1, .int (zi x1)), (2, .int (zi x2)), (3, .int (zi x3)), (5, .int (zi x5))]) hC dX12_force_55 (by decide) rfl ?_
            refine z_iinc (lo' := fun v9 => [(5, .int (zi v9)), (4, .int (zi x4)), (0, .ref x0), (1, .int (zi x1)), (2, .int (zi x2)), (3, .int (zi x3))]) hC 5 dX12_force_57 rfl (by decide) (fun _ => rfl) (fun v9 hv9 => ?_)
            refine z_goto (tgt := 6) hC dX12_force_60 (by decide) ?_
            refine z_sub hC [2, 3, 4, 5, 1, 0] (lo' := [(0, .ref x0), (1, .int (zi x1)), (2, .int (zi x2)), (3, .int (zi x3)), (4, .int (zi x4)), (5, .int (zi v9))]) rfl ?_
            exact ih x0 x1 x2 x3 x4 v9 hx1 hx2 hx3 hx4 hv9
        · refine z_iload hC 4 rfl dX12_force_53 ?_
          refine z_istore (lo' := [(4, .int (zi x4)), (0, .ref x0), (1, .int (zi x1)), (2, .int (zi x2)), (3, .int (zi x3)), (5, .int (zi x5))]) hC dX12_force_55 (by decide) rfl ?_
          refine z_iinc (lo' := fun v10 => [(5, .int (zi v10)), (4, .int (zi x4)), (0, .ref x0), (1, .int (zi x1)), (2, .int (zi x2)), (3, .int (zi x3))]) hC 5 dX12_force_57 rfl (by decide) (fun _ => rfl) (fun v10 hv10 => ?_)
          refine z_goto (tgt := 6) hC dX12_force_60 (by decide) ?_
          refine z_sub hC [2, 3, 4, 5, 1, 0] (lo' := [(0, .ref x0), (1, .int (zi x1)), (2, .int (zi x2)), (3, .int (zi x3)), (4, .int (zi x4)), (5, .int (zi v10))]) rfl ?_
          exact ih x0 x1 x2 x3 x4 v10 hx1 hx2 hx3 hx4 hv10
      · refine z_iload hC 4 rfl dX12_force_53 ?_
        refine z_istore (lo' := [(4, .int (zi x4)), (0, .ref x0), (1, .int (zi x1)), (2, .int (zi x2)), (3, .int (zi x3)), (5, .int (zi x5))]) hC dX12_force_55 (by decide) rfl ?_
        refine z_iinc (lo' := fun v11 => [(5, .int (zi v11)), (4, .int (zi x4)), (0, .ref x0), (1, .int (zi x1)), (2, .int (zi x2)), (3, .int (zi x3))]) hC 5 dX12_force_57 rfl (by decide) (fun _ => rfl) (fun v11 hv11 => ?_)
        refine z_goto (tgt := 6) hC dX12_force_60 (by decide) ?_
        refine z_sub hC [2, 3, 4, 5, 1, 0] (lo' := [(0, .ref x0), (1, .int (zi x1)), (2, .int (zi x2)), (3, .int (zi x3)), (4, .int (zi x4)), (5, .int (zi v11))]) rfl ?_
        exact ih x0 x1 x2 x3 x4 v11 hx1 hx2 hx3 hx4 hv11
    · refine z_iload hC 4 rfl dX12_force_63 ?_
      exact z_iretp hC hx4 hr dX12_force_65
set_option maxRecDepth 100000 in
theorem SM_force {l : Launch} {D : va_G} {aC : Nat → ClassId} (FU : Nat) (this : Nat) (p1 : Int) (p2 : Int) (p3 : Int) (hp1 : zInI p1) (hp2 : zInI p2) (hp3 : zInI p3) {G : Hp} {r1 : Int} (h1 : FM_force FU this p1 p2 p3 G = some r1) : Met l yX12_force (Cond.code yX12_force cX12_force 6 (some .int) :: zgood) ({ frames := 1, cells := 0, slots := 0, locals := 24 } : Room) (va_Pc [.ref this, .int (zi p1), .int (zi p2), .int (zi p3)] (zU D aC G)) (zQ D aC G (zInI r1) (some (.int (zi r1))) G) 0 0 (zA G) := by
  refine z_met (y := yX12_force) (b := cX12_force) (maxL := 6) (mc := 0) (ms := 0) (ret := (some .int)) (As := [.ref this, .int (zi p1), .int (zi p2), .int (zi p3)]) (Q1 := fun r1 => zQ D aC G (zInI r1) (some (.int (zi r1))) G) (X := FM_force FU this p1 p2 p3 G) (by decide) (Nat.le_of_ble_eq_true rfl) ?_ h1
  intro p e s m below meth c hC hr hi
  have hC : zC p m c meth s ([.ref this, .int (zi p1), .int (zi p2), .int (zi p3)] : List Value).toArray cX12_force 6 RX12 D aC := hC
  generalize ([.ref this, .int (zi p1), .int (zi p2), .int (zi p3)] : List Value).toArray = args at hC ⊢
  show zS p l e ({ frames := 1, cells := 0, slots := 0, locals := 24 } : Room) s m args below meth c D aC G (fun r1 => zfI D aC G below args s 0 0 (r1, G)) 6 0 0 (FM_force FU this p1 p2 p3 G) G 0 [(0, .ref this), (1, .int (zi p1)), (2, .int (zi p2)), (3, .int (zi p3))] []
  unfold FM_force
  refine z_gd ?_
  unfold FM_force_b
  refine z_iconst hC dX12_force_0 ?_
  refine z_istore (lo' := [(4, .int (zi (-1))), (0, .ref this), (1, .int (zi p1)), (2, .int (zi p2)), (3, .int (zi p3))]) hC dX12_force_1 (by decide) rfl ?_
  refine z_iconst hC dX12_force_3 ?_
  refine z_istore (lo' := [(5, .int (zi (0))), (4, .int (zi (-1))), (0, .ref this), (1, .int (zi p1)), (2, .int (zi p2)), (3, .int (zi p3))]) hC dX12_force_4 (by decide) rfl ?_
  refine z_sub hC [2, 3, 4, 5, 1, 0] (lo' := [(0, .ref this), (1, .int (zi p1)), (2, .int (zi p2)), (3, .int (zi p3)), (4, .int (zi (-1))), (5, .int (zi (0)))]) rfl ?_
  exact SM_force_L6 hC hr FU FU this p1 p2 p3 (-1) (0) hp1 hp2 hp3 (by decide) (by decide)
theorem SM_force_k {FU : Nat} {this : Nat} {p1 : Int} {p2 : Int} {p3 : Int} {G : Hp} {r1 : Int} (h1 : FM_force FU this p1 p2 p3 G = some r1) : zk G this = some (12, 0) := zgd_k (k := FM_force_b FU this p1 p2 p3 G) h1

set_option maxRecDepth 100000 in
theorem SM_inForce {l : Launch} {D : va_G} {aC : Nat → ClassId} (FU : Nat) (this : Nat) (p1 : Int) (p2 : Int) (p3 : Int) (hp1 : zInI p1) (hp2 : zInI p2) (hp3 : zInI p3) {G : Hp} {r1 : Int} (h1 : FM_inForce FU this p1 p2 p3 G = some r1) : Met l yX12_inForce (Cond.code yX12_inForce cX12_inForce 5 (some .int) :: zgood) ({ frames := 3, cells := 0, slots := 0, locals := 66 } : Room) (va_Pc [.ref this, .int (zi p1), .int (zi p2), .int (zi p3)] (zU D aC G)) (zQ D aC G (zInI r1) (some (.int (zi r1))) G) 0 0 (zA G) := by
  refine z_met (y := yX12_inForce) (b := cX12_inForce) (maxL := 5) (mc := 0) (ms := 0) (ret := (some .int)) (As := [.ref this, .int (zi p1), .int (zi p2), .int (zi p3)]) (Q1 := fun r1 => zQ D aC G (zInI r1) (some (.int (zi r1))) G) (X := FM_inForce FU this p1 p2 p3 G) (by decide) (Nat.le_of_ble_eq_true rfl) ?_ h1
  intro p e s m below meth c hC hr hi
  have hC : zC p m c meth s ([.ref this, .int (zi p1), .int (zi p2), .int (zi p3)] : List Value).toArray cX12_inForce 5 RX12 D aC := hC
  generalize ([.ref this, .int (zi p1), .int (zi p2), .int (zi p3)] : List Value).toArray = args at hC ⊢
  show zS p l e ({ frames := 3, cells := 0, slots := 0, locals := 66 } : Room) s m args below meth c D aC G (fun r1 => zfI D aC G below args s 0 0 (r1, G)) 5 0 0 (FM_inForce FU this p1 p2 p3 G) G 0 [(0, .ref this), (1, .int (zi p1)), (2, .int (zi p2)), (3, .int (zi p3))] []
  unfold FM_inForce
  refine z_gd ?_
  unfold FM_inForce_b
  refine z_iload_n hC 1 rfl dX12_inForce_0 rfl ?_
  refine z_iconst hC dX12_inForce_1 ?_
  refine z_iconst hC dX12_inForce_2 ?_
  refine z_cZp (z_rS (As := [.int (zi p1), .int (zi (0)), .int (zi (2))]) hC (fun _ h1 => SM_within FU p1 (0) (2) hp1 (by decide) (by decide) h1) zM12_142 zMs_FM_within ⟨by decide, by decide⟩ rfl rfl rfl (rest := []) (Nat.le_of_ble_eq_true rfl) ⟨Nat.le_of_ble_eq_true rfl, Nat.le_of_ble_eq_true rfl⟩ rfl dX12_inForce_3) (fun v1 hv1 => ?_)
  refine z_if_eq (tgt := 23) hC (hv1).i dX12_inForce_6 (by decide) (fun _ => ?_) (fun _ => ?_)
  · refine z_iconst hC dX12_inForce_23 ?_
    exact z_iretp hC (by decide) hr dX12_inForce_24
  · refine z_iload_n hC 2 rfl dX12_inForce_9 rfl ?_
    refine z_cZp (z_rS (As := [.int (zi p2)]) hC (fun _ h1 => SM_isDay FU p2 hp2 h1) zM12_277 zMs_FM_isDay ⟨by decide, by decide⟩ rfl rfl rfl (rest := []) (Nat.le_of_ble_eq_true rfl) ⟨Nat.le_of_ble_eq_true rfl, Nat.le_of_ble_eq_true rfl⟩ rfl dX12_inForce_10) (fun v2 hv2 => ?_)
    refine z_if_eq (tgt := 23) hC (hv2).i dX12_inForce_13 (by decide) (fun _ => ?_) (fun _ => ?_)
    · refine z_iconst hC dX12_inForce_23 ?_
      exact z_iretp hC (by decide) hr dX12_inForce_24
    · refine z_iload_n hC 3 rfl dX12_inForce_16 rfl ?_
      refine z_cZp (z_rS (As := [.int (zi p3)]) hC (fun _ h1 => SM_isDay FU p3 hp3 h1) zM12_277 zMs_FM_isDay ⟨by decide, by decide⟩ rfl rfl rfl (rest := []) (Nat.le_of_ble_eq_true rfl) ⟨Nat.le_of_ble_eq_true rfl, Nat.le_of_ble_eq_true rfl⟩ rfl dX12_inForce_17) (fun v3 hv3 => ?_)
      refine z_if_ne (tgt := 25) hC (hv3).i dX12_inForce_20 (by decide) (fun _ => ?_) (fun _ => ?_)
      · refine z_iconst hC dX12_inForce_23 ?_
        exact z_iretp hC (by decide) hr dX12_inForce_24
      · refine z_aload_n hC 0 rfl dX12_inForce_25 rfl ?_
        refine z_iload_n hC 1 rfl dX12_inForce_26 rfl ?_
        refine z_iload_n hC 2 rfl dX12_inForce_27 rfl ?_
        refine z_iload_n hC 3 rfl dX12_inForce_28 rfl ?_
        refine z_cIp (z_rV (q := this) (t := 12) (As := [.int (zi p1), .int (zi p2), .int (zi p3)]) hC (fun _ h1 => SM_force FU this p1 p2 p3 hp1 hp2 hp3 h1) (fun _ h1 => SM_force_k h1) rfl rfl zM12_286 zMv_FM_force ⟨by decide, by decide⟩ rfl rfl rfl (rest := []) (Nat.le_of_ble_eq_true rfl) ⟨Nat.le_of_ble_eq_true rfl, Nat.le_of_ble_eq_true rfl⟩ rfl dX12_inForce_29) (fun v4 hv4 => ?_)
        refine z_istore (lo' := [(4, .int (zi v4)), (0, .ref this), (1, .int (zi p1)), (2, .int (zi p2)), (3, .int (zi p3))]) hC dX12_inForce_32 (by decide) rfl ?_
        refine z_iload hC 0 rfl dX12_inForce_34 ?_
        refine z_if_ge (tgt := 44) hC hv4 dX12_inForce_36 (by decide) (fun _ => ?_) (fun _ => ?_)
        · refine z_bipush hC dX12_inForce_39 rfl ?_
          refine z_goto (tgt := 46) hC dX12_inForce_41 (by decide) ?_
          exact z_iretp hC (by decide) hr dX12_inForce_46
        · refine z_iload hC 0 rfl dX12_inForce_44 ?_
          exact z_iretp hC hv4 hr dX12_inForce_46
theorem SM_inForce_k {FU : Nat} {this : Nat} {p1 : Int} {p2 : Int} {p3 : Int} {G : Hp} {r1 : Int} (h1 : FM_inForce FU this p1 p2 p3 G = some r1) : zk G this = some (12, 0) := zgd_k (k := FM_inForce_b FU this p1 p2 p3 G) h1

set_option maxRecDepth 100000 in
theorem SM_wasOpen {l : Launch} {D : va_G} {aC : Nat → ClassId} (FU : Nat) (this : Nat) (p1 : Int) (p2 : Int) (hp1 : zInI p1) (hp2 : zInI p2) {G : Hp} {r1 : Int} (h1 : FM_wasOpen FU this p1 p2 G = some r1) : Met l yX12_wasOpen (Cond.code yX12_wasOpen cX12_wasOpen 3 (some .boolean) :: zgood) ({ frames := 1, cells := 0, slots := 0, locals := 24 } : Room) (va_Pc [.ref this, .int (zi p1), .int (zi p2)] (zU D aC G)) (zQ D aC G (zIn01 r1) (some (.int (zi r1))) G) 0 0 (zA G) := by
  refine z_met (y := yX12_wasOpen) (b := cX12_wasOpen) (maxL := 3) (mc := 0) (ms := 0) (ret := (some .boolean)) (As := [.ref this, .int (zi p1), .int (zi p2)]) (Q1 := fun r1 => zQ D aC G (zIn01 r1) (some (.int (zi r1))) G) (X := FM_wasOpen FU this p1 p2 G) (by decide) (Nat.le_of_ble_eq_true rfl) ?_ h1
  intro p e s m below meth c hC hr hi
  have hC : zC p m c meth s ([.ref this, .int (zi p1), .int (zi p2)] : List Value).toArray cX12_wasOpen 3 RX12 D aC := hC
  generalize ([.ref this, .int (zi p1), .int (zi p2)] : List Value).toArray = args at hC ⊢
  show zS p l e ({ frames := 1, cells := 0, slots := 0, locals := 24 } : Room) s m args below meth c D aC G (fun r1 => zfZ D aC G below args s 0 0 (r1, G)) 3 0 0 (FM_wasOpen FU this p1 p2 G) G 0 [(0, .ref this), (1, .int (zi p1)), (2, .int (zi p2))] []
  unfold FM_wasOpen
  refine z_gd ?_
  unfold FM_wasOpen_b
  refine z_aload_n hC 0 rfl dX12_wasOpen_0 rfl ?_
  refine z_getQ hC zF12_35 rfl dX12_wasOpen_1 (fun v1 => ?_)
  refine z_iload_n hC 1 rfl dX12_wasOpen_4 rfl ?_
  refine z_iald hC hp1 dX12_wasOpen_5 (fun v2 hv2 => ?_)
  refine z_iload_n hC 2 rfl dX12_wasOpen_6 rfl ?_
  refine z_icmp_gt (tgt := 33) hC hv2 hp2 dX12_wasOpen_7 (by decide) (fun _ => ?_) (fun _ => ?_)
  · refine z_aload_n hC 0 rfl dX12_wasOpen_10 rfl ?_
    refine z_getQ hC zF12_38 rfl dX12_wasOpen_11 (fun v3 => ?_)
    refine z_iload_n hC 1 rfl dX12_wasOpen_14 rfl ?_
    refine z_iald hC hp1 dX12_wasOpen_15 (fun v4 hv4 => ?_)
    refine z_if_lt (tgt := 29) hC hv4 dX12_wasOpen_16 (by decide) (fun _ => ?_) (fun _ => ?_)
    · refine z_iconst hC dX12_wasOpen_29 ?_
      refine z_goto (tgt := 34) hC dX12_wasOpen_30 (by decide) ?_
      exact z_zretp hC hr dX12_wasOpen_34
    · refine z_aload_n hC 0 rfl dX12_wasOpen_19 rfl ?_
      refine z_getQ hC zF12_38 rfl dX12_wasOpen_20 (fun v5 => ?_)
      refine z_iload_n hC 1 rfl dX12_wasOpen_23 rfl ?_
      refine z_iald hC hp1 dX12_wasOpen_24 (fun v6 hv6 => ?_)
      refine z_iload_n hC 2 rfl dX12_wasOpen_25 rfl ?_
      refine z_icmp_le (tgt := 33) hC hv6 hp2 dX12_wasOpen_26 (by decide) (fun _ => ?_) (fun _ => ?_)
      · refine z_iconst hC dX12_wasOpen_33 ?_
        exact z_zretp hC hr dX12_wasOpen_34
      · refine z_iconst hC dX12_wasOpen_29 ?_
        refine z_goto (tgt := 34) hC dX12_wasOpen_30 (by decide) ?_
        exact z_zretp hC hr dX12_wasOpen_34
  · refine z_iconst hC dX12_wasOpen_33 ?_
    exact z_zretp hC hr dX12_wasOpen_34
theorem SM_wasOpen_k {FU : Nat} {this : Nat} {p1 : Int} {p2 : Int} {G : Hp} {r1 : Int} (h1 : FM_wasOpen FU this p1 p2 G = some r1) : zk G this = some (12, 0) := zgd_k (k := FM_wasOpen_b FU this p1 p2 G) h1

set_option maxRecDepth 100000 in
theorem SM_given_L134 {p : Program} {l : Launch} {e : Env} {s : State} {m : MethodId} {args : Array Value} {below : List Frame} {meth : Method} {c : Code} {D : va_G} {aC : Nat → ClassId} {G0 : Hp} (hC : zC p m c meth s args cX12_given 7 RX12 D aC) (hr : meth.sig.returnType = (some .int)) (FU : Nat) : ∀ (n : Nat) (x0 : Nat) (x1 : Int) (x2 : Int) (x4 : Int) (x6 : Int) (G : Hp) (hx1 : zInI x1) (hx2 : zInI x2) (hx4 : zInI x4) (hx6 : zInI x6), zS p l e ({ frames := 51, cells := 0, slots := 0, locals := 1166 } : Room) s m args below meth c D aC G0 (zfI D aC G0 below args s 0 0) 7 0 0 (FM_given_L134 FU n x0 x1 x2 x4 x6 G) G 134 [(0, .ref x0), (1, .int (zi x1)), (2, .int (zi x2)), (4, .int (zi x4)), (6, .int (zi x6))] [] := by
  intro n
  induction n with
  | zero => intros; exact z_none
  | succ n ih =>
    intro x0 x1 x2 x4 x6 G hx1 hx2 hx4 hx6
    rw [FM_given_L134]
    refine z_iload hC 4 rfl dX12_given_134 ?_
    refine z_aload_n hC 0 rfl dX12_given_136 rfl ?_
    refine z_getI hC zF12_139 rfl dX12_given_137 (fun v1 hv1 => ?_)
    refine z_icmp_ge (tgt := 190) hC hx6 hv1 dX12_given_140 (by decide) (fun _ => ?_) (fun _ => ?_)
    · refine z_aload_n hC 0 rfl dX12_given_143 rfl ?_
      refine z_getQ hC zF12_78 rfl dX12_given_144 (fun v2 => ?_)
      refine z_iconst hC dX12_given_147 ?_
      refine z_dup2 hC rfl rfl dX12_given_148 ?_
      refine z_iald hC (by decide) dX12_given_149 (fun v3 hv3 => ?_)
      refine z_aload_n hC 0 rfl dX12_given_150 rfl ?_
      refine z_getQ hC zF12_29 rfl dX12_given_151 (fun v4 => ?_)
      refine z_iload hC 4 rfl dX12_given_154 ?_
      refine z_iald hC hx6 dX12_given_156 (fun v5 hv5 => ?_)
      refine z_aload_n hC 0 rfl dX12_given_157 rfl ?_
      refine z_getQ hC zF12_29 rfl dX12_given_158 (fun v6 => ?_)
      refine z_iload_n hC 2 rfl dX12_given_161 rfl ?_
      refine z_iald hC hx2 dX12_given_162 (fun v7 hv7 => ?_)
      refine z_icmp_ne (tgt := 181) hC hv5 hv7 dX12_given_163 (by decide) (fun _ => ?_) (fun _ => ?_)
      · refine z_aload_n hC 0 rfl dX12_given_166 rfl ?_
        refine z_iload hC 4 rfl dX12_given_167 ?_
        refine z_iload hC 3 rfl dX12_given_169 ?_
        refine z_cZp (z_rV (q := x0) (t := 12) (As := [.int (zi x6), .int (zi x4)]) hC (fun _ h1 => SM_wasOpen FU x0 x6 x4 hx6 hx4 h1) (fun _ h1 => SM_wasOpen_k h1) rfl rfl zM12_290 zMv_FM_wasOpen ⟨by decide, by decide⟩ rfl rfl rfl (rest := [.int (zi v3), .int (zi (4)), .ref v2]) (Nat.le_of_ble_eq_true rfl) ⟨Nat.le_of_ble_eq_true rfl, Nat.le_of_ble_eq_true rfl⟩ rfl dX12_given_171) (fun v8 hv8 => ?_)
        refine z_if_eq (tgt := 181) hC (hv8).i dX12_given_174 (by decide) (fun _ => ?_) (fun _ => ?_)
        · refine z_iconst hC dX12_given_181 ?_
          refine z_iadd hC dX12_given_182 (fun v9 hv9 => ?_)
          refine z_iast hC (by decide) hv9 dX12_given_183 (fun G10 => ?_)
          refine z_iinc (lo' := fun v11 => [(6, .int (zi v11)), (0, .ref x0), (1, .int (zi x1)), (2, .int (zi x2)), (4, .int (zi x4))]) hC 4 dX12_given_184 rfl (by decide) (fun _ => rfl) (fun v11 hv11 => ?_)
          refine z_goto (tgt := 134) hC dX12_given_187 (by decide) ?_
          refine z_sub hC [1, 2, 3, 4, 0] (lo' := [(0, .ref x0), (1, .int (zi x1)), (2, .int (zi x2)), (4, .int (zi x4)), (6, .int (zi v11))]) rfl ?_
          exact ih x0 x1 x2 x4 v11 G10 hx1 hx2 hx4 hv11
        · refine z_iconst hC dX12_given_177 ?_
          refine z_goto (tgt := 182) hC dX12_given_178 (by decide) ?_
          refine z_iadd hC dX12_given_182 (fun v12 hv12 => ?_)
          refine z_iast hC (by decide) hv12 dX12_given_183 (fun G13 => ?_)
          refine z_iinc (lo' := fun v14 => [(6, .int (zi v14)), (0, .ref x0), (1, .int (zi x1)), (2, .int (zi x2)), (4, .int (zi x4))]) hC 4 dX12_given_184 rfl (by decide) (fun _ => rfl) (fun v14 hv14 => ?_)
          refine z_goto (tgt := 134) hC dX12_given_187 (by decide) ?_
          refine z_sub hC [1, 2, 3, 4, 0] (lo' := [(0, .ref x0), (1, .int (zi x1)), (2, .int (zi x2)), (4, .int (zi x4)), (6, .int (zi v14))]) rfl ?_
          exact ih x0 x1 x2 x4 v14 G13 hx1 hx2 hx4 hv14
      · refine z_iconst hC dX12_given_181 ?_
        refine z_iadd hC dX12_given_182 (fun v15 hv15 => ?_)
        refine z_iast hC (by decide) hv15 dX12_given_183 (fun G16 => ?_)
        refine z_iinc (lo' := fun v17 => [(6, .int (zi v17)), (0, .ref x0), (1, .int (zi x1)), (2, .int (zi x2)), (4, .int (zi x4))]) hC 4 dX12_given_184 rfl (by decide) (fun _ => rfl) (fun v17 hv17 => ?_)
        refine z_goto (tgt := 134) hC dX12_given_187 (by decide) ?_
        refine z_sub hC [1, 2, 3, 4, 0] (lo' := [(0, .ref x0), (1, .int (zi x1)), (2, .int (zi x2)), (4, .int (zi x4)), (6, .int (zi v17))]) rfl ?_
        exact ih x0 x1 x2 x4 v17 G16 hx1 hx2 hx4 hv17
    · refine z_aload_n hC 0 rfl dX12_given_190 rfl ?_
      refine z_bipush hC dX12_given_191 rfl ?_
      refine z_iload_n hC 1 rfl dX12_given_193 rfl ?_
      refine z_imul hC dX12_given_194 (fun v18 hv18 => ?_)
      refine z_aload_n hC 0 rfl dX12_given_195 rfl ?_
      refine z_getQ hC zF12_66 rfl dX12_given_196 (fun v19 => ?_)
      refine z_iload_n hC 1 rfl dX12_given_199 rfl ?_
      refine z_iald hC hx1 dX12_given_200 (fun v20 hv20 => ?_)
      refine z_cI (z_rV (q := x0) (t := 12) (As := [.int (zi v18), .int (zi v20)]) hC (fun _ h1 => SM_workOut FU x0 v18 v20 hv18 hv20 h1) (fun _ h1 => SM_workOut_k h1) rfl rfl zM12_283 zMv_FM_workOut ⟨by decide, by decide⟩ rfl rfl rfl (rest := []) (Nat.le_of_ble_eq_true rfl) ⟨Nat.le_of_ble_eq_true rfl, Nat.le_of_ble_eq_true rfl⟩ rfl dX12_given_201) (fun v22 G21 hv22 => ?_)
      refine z_istore (lo' := [(6, .int (zi v22)), (0, .ref x0), (1, .int (zi x1)), (2, .int (zi x2)), (4, .int (zi x4))]) hC dX12_given_204 (by decide) rfl ?_
      refine z_iload hC 0 rfl dX12_given_206 ?_
      refine z_if_ge (tgt := 215) hC hv22 dX12_given_208 (by decide) (fun _ => ?_) (fun _ => ?_)
      · refine z_iconst hC dX12_given_211 ?_
        refine z_goto (tgt := 229) hC dX12_given_212 (by decide) ?_
        exact z_iret hC (by decide) hr dX12_given_229
      · refine z_iload hC 0 rfl dX12_given_215 ?_
        refine z_ldc (z := 1000000) hC dX12_given_217 zc12_154 ?_
        refine z_icmp_le (tgt := 227) hC hv22 (by decide) dX12_given_219 (by decide) (fun _ => ?_) (fun _ => ?_)
        · refine z_iload hC 0 rfl dX12_given_227 ?_
          exact z_iret hC hv22 hr dX12_given_229
        · refine z_ldc (z := 1000000) hC dX12_given_222 zc12_154 ?_
          refine z_goto (tgt := 229) hC dX12_given_224 (by decide) ?_
          exact z_iret hC (by decide) hr dX12_given_229
set_option maxRecDepth 100000 in
theorem SM_given_B123 {p : Program} {l : Launch} {e : Env} {s : State} {m : MethodId} {args : Array Value} {below : List Frame} {meth : Method} {c : Code} {D : va_G} {aC : Nat → ClassId} {G0 : Hp} (hC : zC p m c meth s args cX12_given 7 RX12 D aC) (hr : meth.sig.returnType = (some .int)) (FU : Nat) (x0 : Nat) (x1 : Int) (x2 : Int) (x4 : Int) (y0 : Nat) (y1 : Int) (y2 : Int) (G : Hp) (hx1 : zInI x1) (hx2 : zInI x2) (hx4 : zInI x4) (hy1 : zInI y1) (hy2 : zInI y2) : zS p l e ({ frames := 51, cells := 0, slots := 0, locals := 1166 } : Room) s m args below meth c D aC G0 (zfI D aC G0 below args s 0 0) 7 0 0 (FM_given_B123 FU x0 x1 x2 x4 y0 y1 y2 G) G 123 [(0, .ref x0), (1, .int (zi x1)), (2, .int (zi x2)), (4, .int (zi x4))] [.int (zi y2), .int (zi y1), .ref y0] := by
  unfold FM_given_B123
  refine z_iast hC hy1 hy2 dX12_given_123 (fun G1 => ?_)
  refine z_aload_n hC 0 rfl dX12_given_124 rfl ?_
  refine z_getQ hC zF12_78 rfl dX12_given_125 (fun v2 => ?_)
  refine z_iconst hC dX12_given_128 ?_
  refine z_iconst hC dX12_given_129 ?_
  refine z_iast hC (by decide) (by decide) dX12_given_130 (fun G3 => ?_)
  refine z_iconst hC dX12_given_131 ?_
  refine z_istore (lo' := [(6, .int (zi (0))), (0, .ref x0), (1, .int (zi x1)), (2, .int (zi x2)), (4, .int (zi x4))]) hC dX12_given_132 (by decide) rfl ?_
  refine z_sub hC [1, 2, 3, 4, 0] (lo' := [(0, .ref x0), (1, .int (zi x1)), (2, .int (zi x2)), (4, .int (zi x4)), (6, .int (zi (0)))]) rfl ?_
  exact SM_given_L134 hC hr FU FU x0 x1 x2 x4 (0) G3 hx1 hx2 hx4 (by decide)
set_option maxRecDepth 100000 in
theorem SM_given_B82 {p : Program} {l : Launch} {e : Env} {s : State} {m : MethodId} {args : Array Value} {below : List Frame} {meth : Method} {c : Code} {D : va_G} {aC : Nat → ClassId} {G0 : Hp} (hC : zC p m c meth s args cX12_given 7 RX12 D aC) (hr : meth.sig.returnType = (some .int)) (FU : Nat) (x0 : Nat) (x1 : Int) (x2 : Int) (x3 : Int) (x4 : Int) (y0 : Nat) (y1 : Int) (y2 : Int) (G : Hp) (hx1 : zInI x1) (hx2 : zInI x2) (hx3 : zInI x3) (hx4 : zInI x4) (hy1 : zInI y1) (hy2 : zInI y2) : zS p l e ({ frames := 51, cells := 0, slots := 0, locals := 1166 } : Room) s m args below meth c D aC G0 (zfI D aC G0 below args s 0 0) 7 0 0 (FM_given_B82 FU x0 x1 x2 x3 x4 y0 y1 y2 G) G 82 [(0, .ref x0), (1, .int (zi x1)), (2, .int (zi x2)), (3, .int (zi x3)), (4, .int (zi x4))] [.int (zi y2), .int (zi y1), .ref y0] := by
  unfold FM_given_B82
  refine z_iast hC hy1 hy2 dX12_given_82 (fun G1 => ?_)
  refine z_aload_n hC 0 rfl dX12_given_83 rfl ?_
  refine z_getQ hC zF12_78 rfl dX12_given_84 (fun v2 => ?_)
  refine z_iconst hC dX12_given_87 ?_
  refine z_iload_n hC 3 rfl dX12_given_88 rfl ?_
  refine z_iast hC (by decide) hx3 dX12_given_89 (fun G3 => ?_)
  refine z_aload_n hC 0 rfl dX12_given_90 rfl ?_
  refine z_getQ hC zF12_78 rfl dX12_given_91 (fun v4 => ?_)
  refine z_iconst hC dX12_given_94 ?_
  refine z_iload hC 4 rfl dX12_given_95 ?_
  refine z_aload_n hC 0 rfl dX12_given_97 rfl ?_
  refine z_getQ hC zF12_35 rfl dX12_given_98 (fun v5 => ?_)
  refine z_iload_n hC 2 rfl dX12_given_101 rfl ?_
  refine z_iald hC hx2 dX12_given_102 (fun v6 hv6 => ?_)
  refine z_icmp_le (tgt := 122) hC hx4 hv6 dX12_given_103 (by decide) (fun _ => ?_) (fun _ => ?_)
  · refine z_iconst hC dX12_given_122 ?_
    refine z_sub hC [0, 1, 2, 4] (lo' := [(0, .ref x0), (1, .int (zi x1)), (2, .int (zi x2)), (4, .int (zi x4))]) rfl ?_
    exact SM_given_B123 hC hr FU x0 x1 x2 x4 v4 (3) (0) G3 hx1 hx2 hx4 (by decide) (by decide)
  · refine z_iload hC 4 rfl dX12_given_106 ?_
    refine z_aload_n hC 0 rfl dX12_given_108 rfl ?_
    refine z_getQ hC zF12_35 rfl dX12_given_109 (fun v7 => ?_)
    refine z_iload_n hC 2 rfl dX12_given_112 rfl ?_
    refine z_iald hC hx2 dX12_given_113 (fun v8 hv8 => ?_)
    refine z_isub hC dX12_given_114 (fun v9 hv9 => ?_)
    refine z_sipush hC dX12_given_115 rfl ?_
    refine z_idiv hC hv9 (by decide) dX12_given_118 (fun v10 hv10 => ?_)
    refine z_goto (tgt := 123) hC dX12_given_119 (by decide) ?_
    refine z_sub hC [0, 1, 2, 4] (lo' := [(0, .ref x0), (1, .int (zi x1)), (2, .int (zi x2)), (4, .int (zi x4))]) rfl ?_
    exact SM_given_B123 hC hr FU x0 x1 x2 x4 v4 (3) v10 G3 hx1 hx2 hx4 (by decide) hv10
set_option maxRecDepth 100000 in
theorem SM_given_B55 {p : Program} {l : Launch} {e : Env} {s : State} {m : MethodId} {args : Array Value} {below : List Frame} {meth : Method} {c : Code} {D : va_G} {aC : Nat → ClassId} {G0 : Hp} (hC : zC p m c meth s args cX12_given 7 RX12 D aC) (hr : meth.sig.returnType = (some .int)) (FU : Nat) (x0 : Nat) (x1 : Int) (x2 : Int) (x3 : Int) (x4 : Int) (x5 : Int) (y0 : Nat) (y1 : Int) (y2 : Int) (G : Hp) (hx1 : zInI x1) (hx2 : zInI x2) (hx3 : zInI x3) (hx4 : zInI x4) (hx5 : zInI x5) (hy1 : zInI y1) (hy2 : zInI y2) : zS p l e ({ frames := 51, cells := 0, slots := 0, locals := 1166 } : Room) s m args below meth c D aC G0 (zfI D aC G0 below args s 0 0) 7 0 0 (FM_given_B55 FU x0 x1 x2 x3 x4 x5 y0 y1 y2 G) G 55 [(0, .ref x0), (1, .int (zi x1)), (2, .int (zi x2)), (3, .int (zi x3)), (4, .int (zi x4)), (5, .int (zi x5))] [.int (zi y2), .int (zi y1), .ref y0] := by
  unfold FM_given_B55
  refine z_iast hC hy1 hy2 dX12_given_55 (fun G1 => ?_)
  refine z_aload_n hC 0 rfl dX12_given_56 rfl ?_
  refine z_getQ hC zF12_78 rfl dX12_given_57 (fun v2 => ?_)
  refine z_iconst hC dX12_given_60 ?_
  refine z_iload hC 5 rfl dX12_given_61 ?_
  refine z_if_eq (tgt := 81) hC hx5 dX12_given_63 (by decide) (fun _ => ?_) (fun _ => ?_)
  · refine z_iconst hC dX12_given_81 ?_
    refine z_sub hC [0, 1, 2, 3, 4] (lo' := [(0, .ref x0), (1, .int (zi x1)), (2, .int (zi x2)), (3, .int (zi x3)), (4, .int (zi x4))]) rfl ?_
    exact SM_given_B82 hC hr FU x0 x1 x2 x3 x4 v2 (1) (0) G1 hx1 hx2 hx3 hx4 (by decide) (by decide)
  · refine z_aload_n hC 0 rfl dX12_given_66 rfl ?_
    refine z_getQ hC zF12_88 rfl dX12_given_67 (fun v3 => ?_)
    refine z_sipush hC dX12_given_70 rfl ?_
    refine z_iload_n hC 2 rfl dX12_given_73 rfl ?_
    refine z_imul hC dX12_given_74 (fun v4 hv4 => ?_)
    refine z_iload_n hC 3 rfl dX12_given_75 rfl ?_
    refine z_iadd hC dX12_given_76 (fun v5 hv5 => ?_)
    refine z_iald hC hv5 dX12_given_77 (fun v6 hv6 => ?_)
    refine z_goto (tgt := 82) hC dX12_given_78 (by decide) ?_
    refine z_sub hC [0, 1, 2, 3, 4] (lo' := [(0, .ref x0), (1, .int (zi x1)), (2, .int (zi x2)), (3, .int (zi x3)), (4, .int (zi x4))]) rfl ?_
    exact SM_given_B82 hC hr FU x0 x1 x2 x3 x4 v2 (1) v6 G1 hx1 hx2 hx3 hx4 (by decide) hv6
set_option maxRecDepth 100000 in
theorem SM_given_B27 {p : Program} {l : Launch} {e : Env} {s : State} {m : MethodId} {args : Array Value} {below : List Frame} {meth : Method} {c : Code} {D : va_G} {aC : Nat → ClassId} {G0 : Hp} (hC : zC p m c meth s args cX12_given 7 RX12 D aC) (hr : meth.sig.returnType = (some .int)) (FU : Nat) (x0 : Nat) (x1 : Int) (x2 : Int) (x3 : Int) (x4 : Int) (y0 : Int) (G : Hp) (hx1 : zInI x1) (hx2 : zInI x2) (hx3 : zInI x3) (hx4 : zInI x4) (hy0 : zInI y0) : zS p l e ({ frames := 51, cells := 0, slots := 0, locals := 1166 } : Room) s m args below meth c D aC G0 (zfI D aC G0 below args s 0 0) 7 0 0 (FM_given_B27 FU x0 x1 x2 x3 x4 y0 G) G 27 [(0, .ref x0), (1, .int (zi x1)), (2, .int (zi x2)), (3, .int (zi x3)), (4, .int (zi x4))] [.int (zi y0)] := by
  unfold FM_given_B27
  refine z_istore (lo' := [(5, .int (zi y0)), (0, .ref x0), (1, .int (zi x1)), (2, .int (zi x2)), (3, .int (zi x3)), (4, .int (zi x4))]) hC dX12_given_27 (by decide) rfl ?_
  refine z_aload_n hC 1 rfl dX12_given_29 rfl ?_
  refine z_getQ hC zF12_78 rfl dX12_given_30 (fun v1 => ?_)
  refine z_iconst hC dX12_given_33 ?_
  refine z_iload hC 0 rfl dX12_given_34 ?_
  refine z_if_eq (tgt := 54) hC hy0 dX12_given_36 (by decide) (fun _ => ?_) (fun _ => ?_)
  · refine z_iconst hC dX12_given_54 ?_
    refine z_sub hC [1, 2, 3, 4, 5, 0] (lo' := [(0, .ref x0), (1, .int (zi x1)), (2, .int (zi x2)), (3, .int (zi x3)), (4, .int (zi x4)), (5, .int (zi y0))]) rfl ?_
    exact SM_given_B55 hC hr FU x0 x1 x2 x3 x4 y0 v1 (0) (0) G hx1 hx2 hx3 hx4 hy0 (by decide) (by decide)
  · refine z_aload_n hC 1 rfl dX12_given_39 rfl ?_
    refine z_getQ hC zF12_85 rfl dX12_given_40 (fun v2 => ?_)
    refine z_sipush hC dX12_given_43 rfl ?_
    refine z_iload_n hC 3 rfl dX12_given_46 rfl ?_
    refine z_imul hC dX12_given_47 (fun v3 hv3 => ?_)
    refine z_iload_n hC 4 rfl dX12_given_48 rfl ?_
    refine z_iadd hC dX12_given_49 (fun v4 hv4 => ?_)
    refine z_iald hC hv4 dX12_given_50 (fun v5 hv5 => ?_)
    refine z_goto (tgt := 55) hC dX12_given_51 (by decide) ?_
    refine z_sub hC [1, 2, 3, 4, 5, 0] (lo' := [(0, .ref x0), (1, .int (zi x1)), (2, .int (zi x2)), (3, .int (zi x3)), (4, .int (zi x4)), (5, .int (zi y0))]) rfl ?_
    exact SM_given_B55 hC hr FU x0 x1 x2 x3 x4 y0 v1 (0) v5 G hx1 hx2 hx3 hx4 hy0 (by decide) hv5
set_option maxRecDepth 100000 in
theorem SM_given_B26 {p : Program} {l : Launch} {e : Env} {s : State} {m : MethodId} {args : Array Value} {below : List Frame} {meth : Method} {c : Code} {D : va_G} {aC : Nat → ClassId} {G0 : Hp} (hC : zC p m c meth s args cX12_given 7 RX12 D aC) (hr : meth.sig.returnType = (some .int)) (FU : Nat) (x0 : Nat) (x1 : Int) (x2 : Int) (x3 : Int) (x4 : Int) (G : Hp) (hx1 : zInI x1) (hx2 : zInI x2) (hx3 : zInI x3) (hx4 : zInI x4) : zS p l e ({ frames := 51, cells := 0, slots := 0, locals := 1166 } : Room) s m args below meth c D aC G0 (zfI D aC G0 below args s 0 0) 7 0 0 (FM_given_B26 FU x0 x1 x2 x3 x4 G) G 26 [(0, .ref x0), (1, .int (zi x1)), (2, .int (zi x2)), (3, .int (zi x3)), (4, .int (zi x4))] [] := by
  unfold FM_given_B26
  refine z_iconst hC dX12_given_26 ?_
  refine z_sub hC [0, 1, 2, 3, 4] (lo' := [(0, .ref x0), (1, .int (zi x1)), (2, .int (zi x2)), (3, .int (zi x3)), (4, .int (zi x4))]) rfl ?_
  exact SM_given_B27 hC hr FU x0 x1 x2 x3 x4 (0) G hx1 hx2 hx3 hx4 (by decide)
set_option maxRecDepth 100000 in
theorem SM_given {l : Launch} {D : va_G} {aC : Nat → ClassId} (FU : Nat) (this : Nat) (p1 : Int) (p2 : Int) (p3 : Int) (p4 : Int) (hp1 : zInI p1) (hp2 : zInI p2) (hp3 : zInI p3) (hp4 : zInI p4) {G : Hp} {r1 : (Int × Hp)} (h1 : FM_given FU this p1 p2 p3 p4 G = some r1) : Met l yX12_given (Cond.code yX12_given cX12_given 7 (some .int) :: zgood) ({ frames := 51, cells := 0, slots := 0, locals := 1166 } : Room) (va_Pc [.ref this, .int (zi p1), .int (zi p2), .int (zi p3), .int (zi p4)] (zU D aC G)) (zQ D aC G (zInI r1.1) (some (.int (zi r1.1))) r1.2) 0 0 (zA G) := by
  refine z_met (y := yX12_given) (b := cX12_given) (maxL := 7) (mc := 0) (ms := 0) (ret := (some .int)) (As := [.ref this, .int (zi p1), .int (zi p2), .int (zi p3), .int (zi p4)]) (Q1 := fun r1 => zQ D aC G (zInI r1.1) (some (.int (zi r1.1))) r1.2) (X := FM_given FU this p1 p2 p3 p4 G) (by decide) (Nat.le_of_ble_eq_true rfl) ?_ h1
  intro p e s m below meth c hC hr hi
  have hC : zC p m c meth s ([.ref this, .int (zi p1), .int (zi p2), .int (zi p3), .int (zi p4)] : List Value).toArray cX12_given 7 RX12 D aC := hC
  generalize ([.ref this, .int (zi p1), .int (zi p2), .int (zi p3), .int (zi p4)] : List Value).toArray = args at hC ⊢
  show zS p l e ({ frames := 51, cells := 0, slots := 0, locals := 1166 } : Room) s m args below meth c D aC G (zfI D aC G below args s 0 0) 7 0 0 (FM_given FU this p1 p2 p3 p4 G) G 0 [(0, .ref this), (1, .int (zi p1)), (2, .int (zi p2)), (3, .int (zi p3)), (4, .int (zi p4))] []
  unfold FM_given
  refine z_gd ?_
  unfold FM_given_b
  refine z_iload_n hC 3 rfl dX12_given_0 rfl ?_
  refine z_sipush hC dX12_given_1 rfl ?_
  refine z_icmp_ge (tgt := 26) hC hp3 (by decide) dX12_given_4 (by decide) (fun _ => ?_) (fun _ => ?_)
  · refine z_aload_n hC 0 rfl dX12_given_7 rfl ?_
    refine z_getQ hC zF12_81 rfl dX12_given_8 (fun v1 => ?_)
    refine z_sipush hC dX12_given_11 rfl ?_
    refine z_iload_n hC 2 rfl dX12_given_14 rfl ?_
    refine z_imul hC dX12_given_15 (fun v2 hv2 => ?_)
    refine z_iload_n hC 3 rfl dX12_given_16 rfl ?_
    refine z_iadd hC dX12_given_17 (fun v3 hv3 => ?_)
    refine z_zald hC hv3 dX12_given_18 (fun v4 hv4 => ?_)
    refine z_if_eq (tgt := 26) hC (hv4).i dX12_given_19 (by decide) (fun _ => ?_) (fun _ => ?_)
    · refine z_sub hC [0, 1, 2, 3, 4] (lo' := [(0, .ref this), (1, .int (zi p1)), (2, .int (zi p2)), (3, .int (zi p3)), (4, .int (zi p4))]) rfl ?_
      exact SM_given_B26 hC hr FU this p1 p2 p3 p4 G hp1 hp2 hp3 hp4
    · refine z_iconst hC dX12_given_22 ?_
      refine z_goto (tgt := 27) hC dX12_given_23 (by decide) ?_
      refine z_sub hC [0, 1, 2, 3, 4] (lo' := [(0, .ref this), (1, .int (zi p1)), (2, .int (zi p2)), (3, .int (zi p3)), (4, .int (zi p4))]) rfl ?_
      exact SM_given_B27 hC hr FU this p1 p2 p3 p4 (1) G hp1 hp2 hp3 hp4 (by decide)
  · refine z_sub hC [0, 1, 2, 3, 4] (lo' := [(0, .ref this), (1, .int (zi p1)), (2, .int (zi p2)), (3, .int (zi p3)), (4, .int (zi p4))]) rfl ?_
    exact SM_given_B26 hC hr FU this p1 p2 p3 p4 G hp1 hp2 hp3 hp4
theorem SM_given_k {FU : Nat} {this : Nat} {p1 : Int} {p2 : Int} {p3 : Int} {p4 : Int} {G : Hp} {r1 : (Int × Hp)} (h1 : FM_given FU this p1 p2 p3 p4 G = some r1) : zk G this = some (12, 0) := zgd_k (k := FM_given_b FU this p1 p2 p3 p4 G) h1

set_option maxRecDepth 100000 in
theorem SM_lastOf {l : Launch} {D : va_G} {aC : Nat → ClassId} (FU : Nat) (p1 : Int) (hp1 : zInI p1) {G : Hp} {r1 : Int} (h1 : FM_lastOf FU p1 G = some r1) : Met l yX12_lastOf (Cond.code yX12_lastOf cX12_lastOf 1 (some .int) :: zgood) ({ frames := 1, cells := 0, slots := 0, locals := 24 } : Room) (va_Pc [.int (zi p1)] (zU D aC G)) (zQ D aC G (zInI r1) (some (.int (zi r1))) G) 0 0 (zA G) := by
  refine z_met (y := yX12_lastOf) (b := cX12_lastOf) (maxL := 1) (mc := 0) (ms := 0) (ret := (some .int)) (As := [.int (zi p1)]) (Q1 := fun r1 => zQ D aC G (zInI r1) (some (.int (zi r1))) G) (X := FM_lastOf FU p1 G) (by decide) (Nat.le_of_ble_eq_true rfl) ?_ h1
  intro p e s m below meth c hC hr hi
  have hC : zC p m c meth s ([.int (zi p1)] : List Value).toArray cX12_lastOf 1 RX12 D aC := hC
  generalize ([.int (zi p1)] : List Value).toArray = args at hC ⊢
  show zS p l e ({ frames := 1, cells := 0, slots := 0, locals := 24 } : Room) s m args below meth c D aC G (fun r1 => zfI D aC G below args s 0 0 (r1, G)) 1 0 0 (FM_lastOf FU p1 G) G 0 [(0, .int (zi p1))] []
  unfold FM_lastOf
  refine z_bipush hC dX12_lastOf_0 rfl ?_
  refine z_iload_n hC 0 rfl dX12_lastOf_2 rfl ?_
  refine z_imul hC dX12_lastOf_3 (fun v1 hv1 => ?_)
  refine z_bipush hC dX12_lastOf_4 rfl ?_
  refine z_iadd hC dX12_lastOf_6 (fun v2 hv2 => ?_)
  refine z_iconst hC dX12_lastOf_7 ?_
  refine z_isub hC dX12_lastOf_8 (fun v3 hv3 => ?_)
  exact z_iretp hC hv3 hr dX12_lastOf_9

set_option maxRecDepth 100000 in
theorem SM_gives {l : Launch} {D : va_G} {aC : Nat → ClassId} (FU : Nat) (this : Nat) (p1 : Int) (p2 : Int) (p3 : Int) (hp1 : zInI p1) (hp2 : zInI p2) (hp3 : zInI p3) {G : Hp} {r1 : (Int × Hp)} (h1 : FM_gives FU this p1 p2 p3 G = some r1) : Met l yX12_gives (Cond.code yX12_gives cX12_gives 4 (some .int) :: zgood) ({ frames := 52, cells := 0, slots := 0, locals := 1192 } : Room) (va_Pc [.ref this, .int (zi p1), .int (zi p2), .int (zi p3)] (zU D aC G)) (zQ D aC G (zInI r1.1) (some (.int (zi r1.1))) r1.2) 0 0 (zA G) := by
  refine z_met (y := yX12_gives) (b := cX12_gives) (maxL := 4) (mc := 0) (ms := 0) (ret := (some .int)) (As := [.ref this, .int (zi p1), .int (zi p2), .int (zi p3)]) (Q1 := fun r1 => zQ D aC G (zInI r1.1) (some (.int (zi r1.1))) r1.2) (X := FM_gives FU this p1 p2 p3 G) (by decide) (Nat.le_of_ble_eq_true rfl) ?_ h1
  intro p e s m below meth c hC hr hi
  have hC : zC p m c meth s ([.ref this, .int (zi p1), .int (zi p2), .int (zi p3)] : List Value).toArray cX12_gives 4 RX12 D aC := hC
  generalize ([.ref this, .int (zi p1), .int (zi p2), .int (zi p3)] : List Value).toArray = args at hC ⊢
  show zS p l e ({ frames := 52, cells := 0, slots := 0, locals := 1192 } : Room) s m args below meth c D aC G (zfI D aC G below args s 0 0) 4 0 0 (FM_gives FU this p1 p2 p3 G) G 0 [(0, .ref this), (1, .int (zi p1)), (2, .int (zi p2)), (3, .int (zi p3))] []
  unfold FM_gives
  refine z_gd ?_
  unfold FM_gives_b
  refine z_iload_n hC 1 rfl dX12_gives_0 rfl ?_
  refine z_if_lt (tgt := 41) hC hp1 dX12_gives_1 (by decide) (fun _ => ?_) (fun _ => ?_)
  · refine z_iconst hC dX12_gives_41 ?_
    exact z_iret hC (by decide) hr dX12_gives_42
  · refine z_iload_n hC 1 rfl dX12_gives_4 rfl ?_
    refine z_aload_n hC 0 rfl dX12_gives_5 rfl ?_
    refine z_getI hC zF12_280 rfl dX12_gives_6 (fun v1 hv1 => ?_)
    refine z_icmp_ge (tgt := 41) hC hp1 hv1 dX12_gives_9 (by decide) (fun _ => ?_) (fun _ => ?_)
    · refine z_aload_n hC 0 rfl dX12_gives_12 rfl ?_
      refine z_iload_n hC 2 rfl dX12_gives_13 rfl ?_
      refine z_cZp (z_rV (q := this) (t := 12) (As := [.int (zi p2)]) hC (fun _ h1 => SM_isShop FU this p2 hp2 h1) (fun _ h1 => SM_isShop_k h1) rfl rfl zM12_192 zMv_FM_isShop ⟨by decide, by decide⟩ rfl rfl rfl (rest := []) (Nat.le_of_ble_eq_true rfl) ⟨Nat.le_of_ble_eq_true rfl, Nat.le_of_ble_eq_true rfl⟩ rfl dX12_gives_14) (fun v2 hv2 => ?_)
      refine z_if_eq (tgt := 41) hC (hv2).i dX12_gives_17 (by decide) (fun _ => ?_) (fun _ => ?_)
      · refine z_iconst hC dX12_gives_41 ?_
        exact z_iret hC (by decide) hr dX12_gives_42
      · refine z_iload_n hC 3 rfl dX12_gives_20 rfl ?_
        refine z_cZp (z_rS (As := [.int (zi p3)]) hC (fun _ h1 => SM_isMonth FU p3 hp3 h1) zM12_293 zMs_FM_isMonth ⟨by decide, by decide⟩ rfl rfl rfl (rest := []) (Nat.le_of_ble_eq_true rfl) ⟨Nat.le_of_ble_eq_true rfl, Nat.le_of_ble_eq_true rfl⟩ rfl dX12_gives_21) (fun v3 hv3 => ?_)
        refine z_if_eq (tgt := 41) hC (hv3).i dX12_gives_24 (by decide) (fun _ => ?_) (fun _ => ?_)
        · refine z_iconst hC dX12_gives_41 ?_
          exact z_iret hC (by decide) hr dX12_gives_42
        · refine z_aload_n hC 0 rfl dX12_gives_27 rfl ?_
          refine z_iload_n hC 1 rfl dX12_gives_28 rfl ?_
          refine z_iload_n hC 2 rfl dX12_gives_29 rfl ?_
          refine z_iload_n hC 3 rfl dX12_gives_30 rfl ?_
          refine z_iload_n hC 3 rfl dX12_gives_31 rfl ?_
          refine z_cIp (z_rS (As := [.int (zi p3)]) hC (fun _ h1 => SM_lastOf FU p3 hp3 h1) zM12_296 zMs_FM_lastOf ⟨by decide, by decide⟩ rfl rfl rfl (rest := [.int (zi p3), .int (zi p2), .int (zi p1), .ref this]) (Nat.le_of_ble_eq_true rfl) ⟨Nat.le_of_ble_eq_true rfl, Nat.le_of_ble_eq_true rfl⟩ rfl dX12_gives_32) (fun v4 hv4 => ?_)
          refine z_cI (z_rV (q := this) (t := 12) (As := [.int (zi p1), .int (zi p2), .int (zi p3), .int (zi v4)]) hC (fun _ h1 => SM_given FU this p1 p2 p3 v4 hp1 hp2 hp3 hv4 h1) (fun _ h1 => SM_given_k h1) rfl rfl zM12_299 zMv_FM_given ⟨by decide, by decide⟩ rfl rfl rfl (rest := []) (Nat.le_of_ble_eq_true rfl) ⟨Nat.le_of_ble_eq_true rfl, Nat.le_of_ble_eq_true rfl⟩ rfl dX12_gives_35) (fun v6 G5 hv6 => ?_)
          refine z_goto (tgt := 42) hC dX12_gives_38 (by decide) ?_
          exact z_iret hC hv6 hr dX12_gives_42
    · refine z_iconst hC dX12_gives_41 ?_
      exact z_iret hC (by decide) hr dX12_gives_42
theorem SM_gives_k {FU : Nat} {this : Nat} {p1 : Int} {p2 : Int} {p3 : Int} {G : Hp} {r1 : (Int × Hp)} (h1 : FM_gives FU this p1 p2 p3 G = some r1) : zk G this = some (12, 0) := zgd_k (k := FM_gives_b FU this p1 p2 p3 G) h1

set_option maxRecDepth 100000 in
theorem SM_due {l : Launch} {D : va_G} {aC : Nat → ClassId} (FU : Nat) (this : Nat) (p1 : Int) (p2 : Int) (p3 : Int) (hp1 : zInI p1) (hp2 : zInI p2) (hp3 : zInI p3) {G : Hp} {r1 : (Int × Hp)} (h1 : FM_due FU this p1 p2 p3 G = some r1) : Met l yX12_due (Cond.code yX12_due cX12_due 5 (some .int) :: zgood) ({ frames := 52, cells := 0, slots := 0, locals := 1192 } : Room) (va_Pc [.ref this, .int (zi p1), .int (zi p2), .int (zi p3)] (zU D aC G)) (zQ D aC G (zInI r1.1) (some (.int (zi r1.1))) r1.2) 0 0 (zA G) := by
  refine z_met (y := yX12_due) (b := cX12_due) (maxL := 5) (mc := 0) (ms := 0) (ret := (some .int)) (As := [.ref this, .int (zi p1), .int (zi p2), .int (zi p3)]) (Q1 := fun r1 => zQ D aC G (zInI r1.1) (some (.int (zi r1.1))) r1.2) (X := FM_due FU this p1 p2 p3 G) (by decide) (Nat.le_of_ble_eq_true rfl) ?_ h1
  intro p e s m below meth c hC hr hi
  have hC : zC p m c meth s ([.ref this, .int (zi p1), .int (zi p2), .int (zi p3)] : List Value).toArray cX12_due 5 RX12 D aC := hC
  generalize ([.ref this, .int (zi p1), .int (zi p2), .int (zi p3)] : List Value).toArray = args at hC ⊢
  show zS p l e ({ frames := 52, cells := 0, slots := 0, locals := 1192 } : Room) s m args below meth c D aC G (zfI D aC G below args s 0 0) 5 0 0 (FM_due FU this p1 p2 p3 G) G 0 [(0, .ref this), (1, .int (zi p1)), (2, .int (zi p2)), (3, .int (zi p3))] []
  unfold FM_due
  refine z_gd ?_
  unfold FM_due_b
  refine z_aload_n hC 0 rfl dX12_due_0 rfl ?_
  refine z_iload_n hC 1 rfl dX12_due_1 rfl ?_
  refine z_iload_n hC 3 rfl dX12_due_2 rfl ?_
  refine z_cIp (z_rS (As := [.int (zi p3)]) hC (fun _ h1 => SM_lastOf FU p3 hp3 h1) zM12_296 zMs_FM_lastOf ⟨by decide, by decide⟩ rfl rfl rfl (rest := [.int (zi p1), .ref this]) (Nat.le_of_ble_eq_true rfl) ⟨Nat.le_of_ble_eq_true rfl, Nat.le_of_ble_eq_true rfl⟩ rfl dX12_due_3) (fun v1 hv1 => ?_)
  refine z_aload_n hC 0 rfl dX12_due_6 rfl ?_
  refine z_getI hC zF12_162 rfl dX12_due_7 (fun v2 hv2 => ?_)
  refine z_cIp (z_rV (q := this) (t := 12) (As := [.int (zi p1), .int (zi v1), .int (zi v2)]) hC (fun _ h1 => SM_force FU this p1 v1 v2 hp1 hv1 hv2 h1) (fun _ h1 => SM_force_k h1) rfl rfl zM12_286 zMv_FM_force ⟨by decide, by decide⟩ rfl rfl rfl (rest := []) (Nat.le_of_ble_eq_true rfl) ⟨Nat.le_of_ble_eq_true rfl, Nat.le_of_ble_eq_true rfl⟩ rfl dX12_due_10) (fun v3 hv3 => ?_)
  refine z_istore (lo' := [(4, .int (zi v3)), (0, .ref this), (1, .int (zi p1)), (2, .int (zi p2)), (3, .int (zi p3))]) hC dX12_due_13 (by decide) rfl ?_
  refine z_iload hC 0 rfl dX12_due_15 ?_
  refine z_if_ge (tgt := 24) hC hv3 dX12_due_17 (by decide) (fun _ => ?_) (fun _ => ?_)
  · refine z_iconst hC dX12_due_20 ?_
    refine z_goto (tgt := 36) hC dX12_due_21 (by decide) ?_
    exact z_iret hC (by decide) hr dX12_due_36
  · refine z_aload_n hC 1 rfl dX12_due_24 rfl ?_
    refine z_iload hC 0 rfl dX12_due_25 ?_
    refine z_iload_n hC 3 rfl dX12_due_27 rfl ?_
    refine z_iload_n hC 4 rfl dX12_due_28 rfl ?_
    refine z_iload_n hC 4 rfl dX12_due_29 rfl ?_
    refine z_cIp (z_rS (As := [.int (zi p3)]) hC (fun _ h1 => SM_lastOf FU p3 hp3 h1) zM12_296 zMs_FM_lastOf ⟨by decide, by decide⟩ rfl rfl rfl (rest := [.int (zi p3), .int (zi p2), .int (zi v3), .ref this]) (Nat.le_of_ble_eq_true rfl) ⟨Nat.le_of_ble_eq_true rfl, Nat.le_of_ble_eq_true rfl⟩ rfl dX12_due_30) (fun v4 hv4 => ?_)
    refine z_cI (z_rV (q := this) (t := 12) (As := [.int (zi v3), .int (zi p2), .int (zi p3), .int (zi v4)]) hC (fun _ h1 => SM_given FU this v3 p2 p3 v4 hv3 hp2 hp3 hv4 h1) (fun _ h1 => SM_given_k h1) rfl rfl zM12_299 zMv_FM_given ⟨by decide, by decide⟩ rfl rfl rfl (rest := []) (Nat.le_of_ble_eq_true rfl) ⟨Nat.le_of_ble_eq_true rfl, Nat.le_of_ble_eq_true rfl⟩ rfl dX12_due_33) (fun v6 G5 hv6 => ?_)
    exact z_iret hC hv6 hr dX12_due_36
theorem SM_due_k {FU : Nat} {this : Nat} {p1 : Int} {p2 : Int} {p3 : Int} {G : Hp} {r1 : (Int × Hp)} (h1 : FM_due FU this p1 p2 p3 G = some r1) : zk G this = some (12, 0) := zgd_k (k := FM_due_b FU this p1 p2 p3 G) h1

