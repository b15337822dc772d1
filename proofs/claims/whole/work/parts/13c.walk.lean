set_option maxRecDepth 100000 in
theorem SPacker_isListed_L2 {p : Program} {l : Launch} {e : Env} {s : State} {m : MethodId} {args : Array Value} {below : List Frame} {meth : Method} {c : Code} {D : va_G} {aC : Nat → ClassId} {G0 : Hp} (hC : zC p m c meth s args cX4_isListed 3 RX4 D aC) (hr : meth.sig.returnType = (some .boolean)) (FU : Nat) : ∀ (n : Nat) (x0 : Nat) (x1 : Int) (x2 : Int) (hx1 : zInI x1) (hx2 : zInI x2), zS p l e ({ frames := 2, cells := 0, slots := 0, locals := 45 } : Room) s m args below meth c D aC G0 (fun r1 => zfZ D aC G0 below args s 0 0 (r1, G0)) 3 0 0 (FPacker_isListed_L2 FU n x0 x1 x2 G0) G0 2 [(0, .ref x0), (1, .int (zi x1)), (2, .int (zi x2))] [] := by
  intro n
  induction n with
  | zero => intros; exact z_none
  | succ n ih =>
    intro x0 x1 x2 hx1 hx2
    rw [FPacker_isListed_L2]
    refine z_iload_n hC 2 rfl dX4_isListed_2 rfl ?_
    refine z_aload_n hC 0 rfl dX4_isListed_3 rfl ?_
    refine z_getI hC zF4_30 rfl dX4_isListed_4 (fun v1 hv1 => ?_)
    refine z_icmp_ge (tgt := 30) hC hx2 hv1 dX4_isListed_7 (by decide) (fun _ => ?_) (fun _ => ?_)
    · refine z_aload_n hC 0 rfl dX4_isListed_10 rfl ?_
      refine z_getQ hC zF4_9 rfl dX4_isListed_11 (fun v2 => ?_)
      refine z_iload_n hC 2 rfl dX4_isListed_14 rfl ?_
      refine z_cIp (z_rS (As := [.ref v2, .int (zi x2)]) hC (fun _ h1 => SB_at FU v2 x2 hx2 h1) zM4_34 zMs_FB_at ⟨by decide, by decide⟩ rfl rfl rfl (rest := []) (Nat.le_of_ble_eq_true rfl) ⟨Nat.le_of_ble_eq_true rfl, Nat.le_of_ble_eq_true rfl⟩ rfl dX4_isListed_15) (fun v3 hv3 => ?_)
      refine z_iload_n hC 1 rfl dX4_isListed_18 rfl ?_
      refine z_icmp_ne (tgt := 24) hC hv3 hx1 dX4_isListed_19 (by decide) (fun _ => ?_) (fun _ => ?_)
      · refine z_iconst hC dX4_isListed_22 ?_
        exact z_zretp hC hr dX4_isListed_23
      · refine z_iinc (lo' := fun v4 => [(2, .int (zi v4)), (0, .ref x0), (1, .int (zi x1))]) hC 2 dX4_isListed_24 rfl (by decide) (fun _ => rfl) (fun v4 hv4 => ?_)
        refine z_goto (tgt := 2) hC dX4_isListed_27 (by decide) ?_
        refine z_sub hC [1, 2, 0] (lo' := [(0, .ref x0), (1, .int (zi x1)), (2, .int (zi v4))]) rfl ?_
        exact ih x0 x1 v4 hx1 hv4
    · refine z_iconst hC dX4_isListed_30 ?_
      exact z_zretp hC hr dX4_isListed_31
set_option maxRecDepth 100000 in
theorem SPacker_isListed {l : Launch} {D : va_G} {aC : Nat → ClassId} (FU : Nat) (this : Nat) (p1 : Int) (hp1 : zInI p1) {G : Hp} {r1 : Int} (h1 : FPacker_isListed FU this p1 G = some r1) : Met l yX4_isListed (Cond.code yX4_isListed cX4_isListed 3 (some .boolean) :: zgood) ({ frames := 2, cells := 0, slots := 0, locals := 45 } : Room) (va_Pc [.ref this, .int (zi p1)] (zU D aC G)) (zQ D aC G (zIn01 r1) (some (.int (zi r1))) G) 0 0 (zA G) := by
  refine z_met (y := yX4_isListed) (b := cX4_isListed) (maxL := 3) (mc := 0) (ms := 0) (ret := (some .boolean)) (As := [.ref this, .int (zi p1)]) (Q1 := fun r1 => zQ D aC G (zIn01 r1) (some (.int (zi r1))) G) (X := FPacker_isListed FU this p1 G) (by decide) (Nat.le_of_ble_eq_true rfl) ?_ h1
  intro p e s m below meth c hC hr hi
  have hC : zC p m c meth s ([.ref this, .int (zi p1)] : List Value).toArray cX4_isListed 3 RX4 D aC := hC
  generalize ([.ref this, .int (zi p1)] : List Value).toArray = args at hC ⊢
  show zS p l e ({ frames := 2, cells := 0, slots := 0, locals := 45 } : Room) s m args below meth c D aC G (fun r1 => zfZ D aC G below args s 0 0 (r1, G)) 3 0 0 (FPacker_isListed FU this p1 G) G 0 [(0, .ref this), (1, .int (zi p1))] []
  unfold FPacker_isListed
  refine z_gd ?_
  unfold FPacker_isListed_b
  refine z_iconst hC dX4_isListed_0 ?_
  refine z_istore_n (lo' := [(2, .int (zi (0))), (0, .ref this), (1, .int (zi p1))]) hC dX4_isListed_1 rfl (by decide) rfl ?_
  refine z_sub hC [1, 2, 0] (lo' := [(0, .ref this), (1, .int (zi p1)), (2, .int (zi (0)))]) rfl ?_
  exact SPacker_isListed_L2 hC hr FU FU this p1 (0) hp1 (by decide)
theorem SPacker_isListed_k {FU : Nat} {this : Nat} {p1 : Int} {G : Hp} {r1 : Int} (h1 : FPacker_isListed FU this p1 G = some r1) : zk G this = some (4, 0) := zgd_k (k := FPacker_isListed_b FU this p1 G) h1

set_option maxRecDepth 100000 in
theorem SPacker_addLoad_B77 {p : Program} {l : Launch} {e : Env} {s : State} {m : MethodId} {args : Array Value} {below : List Frame} {meth : Method} {c : Code} {D : va_G} {aC : Nat → ClassId} {G0 : Hp} (hC : zC p m c meth s args cX4_addLoad 4 RX4 D aC) (hr : meth.sig.returnType = (some .int)) (FU : Nat) (x0 : Nat) (x1 : Int) (x2 : Int) (x3 : Int) (G : Hp) (hx1 : zInI x1) (hx2 : zInI x2) (hx3 : zInI x3) : zS p l e ({ frames := 2, cells := 0, slots := 0, locals := 46 } : Room) s m args below meth c D aC G0 (zfI D aC G0 below args s 0 0) 4 0 0 (FPacker_addLoad_B77 FU x0 x1 x2 x3 G) G 77 [(0, .ref x0), (1, .int (zi x1)), (2, .int (zi x2)), (3, .int (zi x3))] [] := by
  unfold FPacker_addLoad_B77
  refine z_aload_n hC 0 rfl dX4_addLoad_77 rfl ?_
  refine z_getQ hC zF4_9 rfl dX4_addLoad_78 (fun v1 => ?_)
  refine z_iload_n hC 3 rfl dX4_addLoad_81 rfl ?_
  refine z_iload_n hC 1 rfl dX4_addLoad_82 rfl ?_
  refine z_cV (z_rS (As := [.ref v1, .int (zi x3), .int (zi x1)]) hC (fun _ h1 => SB_put FU v1 x3 x1 hx3 hx1 h1) zM4_38 zMs_FB_put ⟨by decide, by decide⟩ rfl rfl rfl (rest := []) (Nat.le_of_ble_eq_true rfl) ⟨Nat.le_of_ble_eq_true rfl, Nat.le_of_ble_eq_true rfl⟩ rfl dX4_addLoad_83) (fun G2 => ?_)
  refine z_aload_n hC 0 rfl dX4_addLoad_86 rfl ?_
  refine z_getQ hC zF4_15 rfl dX4_addLoad_87 (fun v3 => ?_)
  refine z_iload_n hC 3 rfl dX4_addLoad_90 rfl ?_
  refine z_iload_n hC 2 rfl dX4_addLoad_91 rfl ?_
  refine z_cV (z_rS (As := [.ref v3, .int (zi x3), .int (zi x2)]) hC (fun _ h1 => SB_put FU v3 x3 x2 hx3 hx2 h1) zM4_38 zMs_FB_put ⟨by decide, by decide⟩ rfl rfl rfl (rest := []) (Nat.le_of_ble_eq_true rfl) ⟨Nat.le_of_ble_eq_true rfl, Nat.le_of_ble_eq_true rfl⟩ rfl dX4_addLoad_92) (fun G4 => ?_)
  refine z_aload_n hC 0 rfl dX4_addLoad_95 rfl ?_
  refine z_dup hC rfl dX4_addLoad_96 ?_
  refine z_getI hC zF4_30 rfl dX4_addLoad_97 (fun v5 hv5 => ?_)
  refine z_iconst hC dX4_addLoad_100 ?_
  refine z_iadd hC dX4_addLoad_101 (fun v6 hv6 => ?_)
  refine z_putI hC hv6 zF4_30 rfl rfl dX4_addLoad_102 (fun G7 => ?_)
  refine z_aload_n hC 0 rfl dX4_addLoad_105 rfl ?_
  refine z_getI hC zF4_30 rfl dX4_addLoad_106 (fun v8 hv8 => ?_)
  exact z_iret hC hv8 hr dX4_addLoad_109
set_option maxRecDepth 100000 in
theorem SPacker_addLoad_L17 {p : Program} {l : Launch} {e : Env} {s : State} {m : MethodId} {args : Array Value} {below : List Frame} {meth : Method} {c : Code} {D : va_G} {aC : Nat → ClassId} {G0 : Hp} (hC : zC p m c meth s args cX4_addLoad 4 RX4 D aC) (hr : meth.sig.returnType = (some .int)) (FU : Nat) : ∀ (n : Nat) (x0 : Nat) (x1 : Int) (x2 : Int) (x3 : Int) (G : Hp) (hx1 : zInI x1) (hx2 : zInI x2) (hx3 : zInI x3), zS p l e ({ frames := 2, cells := 0, slots := 0, locals := 46 } : Room) s m args below meth c D aC G0 (zfI D aC G0 below args s 0 0) 4 0 0 (FPacker_addLoad_L17 FU n x0 x1 x2 x3 G) G 17 [(0, .ref x0), (1, .int (zi x1)), (2, .int (zi x2)), (3, .int (zi x3))] [] := by
  intro n
  induction n with
  | zero => intros; exact z_none
  | succ n ih =>
    intro x0 x1 x2 x3 G hx1 hx2 hx3
    rw [FPacker_addLoad_L17]
    refine z_iload_n hC 3 rfl dX4_addLoad_17 rfl ?_
    refine z_if_le (tgt := 77) hC hx3 dX4_addLoad_18 (by decide) (fun _ => ?_) (fun _ => ?_)
    · refine z_sub hC [0, 1, 2, 3] (lo' := [(0, .ref x0), (1, .int (zi x1)), (2, .int (zi x2)), (3, .int (zi x3))]) rfl ?_
      exact SPacker_addLoad_B77 hC hr FU x0 x1 x2 x3 G hx1 hx2 hx3
    · refine z_aload_n hC 0 rfl dX4_addLoad_21 rfl ?_
      refine z_getQ hC zF4_9 rfl dX4_addLoad_22 (fun v1 => ?_)
      refine z_iload_n hC 3 rfl dX4_addLoad_25 rfl ?_
      refine z_iconst hC dX4_addLoad_26 ?_
      refine z_isub hC dX4_addLoad_27 (fun v2 hv2 => ?_)
      refine z_cIp (z_rS (As := [.ref v1, .int (zi v2)]) hC (fun _ h1 => SB_at FU v1 v2 hv2 h1) zM4_34 zMs_FB_at ⟨by decide, by decide⟩ rfl rfl rfl (rest := []) (Nat.le_of_ble_eq_true rfl) ⟨Nat.le_of_ble_eq_true rfl, Nat.le_of_ble_eq_true rfl⟩ rfl dX4_addLoad_28) (fun v3 hv3 => ?_)
      refine z_iload_n hC 1 rfl dX4_addLoad_31 rfl ?_
      refine z_icmp_le (tgt := 77) hC hv3 hx1 dX4_addLoad_32 (by decide) (fun _ => ?_) (fun _ => ?_)
      · refine z_sub hC [0, 1, 2, 3] (lo' := [(0, .ref x0), (1, .int (zi x1)), (2, .int (zi x2)), (3, .int (zi x3))]) rfl ?_
        exact SPacker_addLoad_B77 hC hr FU x0 x1 x2 x3 G hx1 hx2 hx3
      · refine z_aload_n hC 0 rfl dX4_addLoad_35 rfl ?_
        refine z_getQ hC zF4_9 rfl dX4_addLoad_36 (fun v4 => ?_)
        refine z_iload_n hC 3 rfl dX4_addLoad_39 rfl ?_
        refine z_aload_n hC 0 rfl dX4_addLoad_40 rfl ?_
        refine z_getQ hC zF4_9 rfl dX4_addLoad_41 (fun v5 => ?_)
        refine z_iload_n hC 3 rfl dX4_addLoad_44 rfl ?_
        refine z_iconst hC dX4_addLoad_45 ?_
        refine z_isub hC dX4_addLoad_46 (fun v6 hv6 => ?_)
        refine z_cIp (z_rS (As := [.ref v5, .int (zi v6)]) hC (fun _ h1 => SB_at FU v5 v6 hv6 h1) zM4_34 zMs_FB_at ⟨by decide, by decide⟩ rfl rfl rfl (rest := [.int (zi x3), .ref v4]) (Nat.le_of_ble_eq_true rfl) ⟨Nat.le_of_ble_eq_true rfl, Nat.le_of_ble_eq_true rfl⟩ rfl dX4_addLoad_47) (fun v7 hv7 => ?_)
        refine z_cV (z_rS (As := [.ref v4, .int (zi x3), .int (zi v7)]) hC (fun _ h1 => SB_put FU v4 x3 v7 hx3 hv7 h1) zM4_38 zMs_FB_put ⟨by decide, by decide⟩ rfl rfl rfl (rest := []) (Nat.le_of_ble_eq_true rfl) ⟨Nat.le_of_ble_eq_true rfl, Nat.le_of_ble_eq_true rfl⟩ rfl dX4_addLoad_50) (fun G8 => ?_)
        refine z_aload_n hC 0 rfl dX4_addLoad_53 rfl ?_
        refine z_getQ hC zF4_15 rfl dX4_addLoad_54 (fun v9 => ?_)
        refine z_iload_n hC 3 rfl dX4_addLoad_57 rfl ?_
        refine z_aload_n hC 0 rfl dX4_addLoad_58 rfl ?_
        refine z_getQ hC zF4_15 rfl dX4_addLoad_59 (fun v10 => ?_)
        refine z_iload_n hC 3 rfl dX4_addLoad_62 rfl ?_
        refine z_iconst hC dX4_addLoad_63 ?_
        refine z_isub hC dX4_addLoad_64 (fun v11 hv11 => ?_)
        refine z_cIp (z_rS (As := [.ref v10, .int (zi v11)]) hC (fun _ h1 => SB_at FU v10 v11 hv11 h1) zM4_34 zMs_FB_at ⟨by decide, by decide⟩ rfl rfl rfl (rest := [.int (zi x3), .ref v9]) (Nat.le_of_ble_eq_true rfl) ⟨Nat.le_of_ble_eq_true rfl, Nat.le_of_ble_eq_true rfl⟩ rfl dX4_addLoad_65) (fun v12 hv12 => ?_)
        refine z_cV (z_rS (As := [.ref v9, .int (zi x3), .int (zi v12)]) hC (fun _ h1 => SB_put FU v9 x3 v12 hx3 hv12 h1) zM4_38 zMs_FB_put ⟨by decide, by decide⟩ rfl rfl rfl (rest := []) (Nat.le_of_ble_eq_true rfl) ⟨Nat.le_of_ble_eq_true rfl, Nat.le_of_ble_eq_true rfl⟩ rfl dX4_addLoad_68) (fun G13 => ?_)
        refine z_iinc (lo' := fun v14 => [(3, .int (zi v14)), (0, .ref x0), (1, .int (zi x1)), (2, .int (zi x2))]) hC 3 dX4_addLoad_71 rfl (by decide) (fun _ => rfl) (fun v14 hv14 => ?_)
        refine z_goto (tgt := 17) hC dX4_addLoad_74 (by decide) ?_
        refine z_sub hC [1, 2, 3, 0] (lo' := [(0, .ref x0), (1, .int (zi x1)), (2, .int (zi x2)), (3, .int (zi v14))]) rfl ?_
        exact ih x0 x1 x2 v14 G13 hx1 hx2 hv14
set_option maxRecDepth 100000 in
theorem SPacker_addLoad {l : Launch} {D : va_G} {aC : Nat → ClassId} (FU : Nat) (this : Nat) (p1 : Int) (p2 : Int) (hp1 : zInI p1) (hp2 : zInI p2) {G : Hp} {r1 : (Int × Hp)} (h1 : FPacker_addLoad FU this p1 p2 G = some r1) : Met l yX4_addLoad (Cond.code yX4_addLoad cX4_addLoad 4 (some .int) :: zgood) ({ frames := 2, cells := 0, slots := 0, locals := 46 } : Room) (va_Pc [.ref this, .int (zi p1), .int (zi p2)] (zU D aC G)) (zQ D aC G (zInI r1.1) (some (.int (zi r1.1))) r1.2) 0 0 (zA G) := by
  refine z_met (y := yX4_addLoad) (b := cX4_addLoad) (maxL := 4) (mc := 0) (ms := 0) (ret := (some .int)) (As := [.ref this, .int (zi p1), .int (zi p2)]) (Q1 := fun r1 => zQ D aC G (zInI r1.1) (some (.int (zi r1.1))) r1.2) (X := FPacker_addLoad FU this p1 p2 G) (by decide) (Nat.le_of_ble_eq_true rfl) ?_ h1
  intro p e s m below meth c hC hr hi
  have hC : zC p m c meth s ([.ref this, .int (zi p1), .int (zi p2)] : List Value).toArray cX4_addLoad 4 RX4 D aC := hC
  generalize ([.ref this, .int (zi p1), .int (zi p2)] : List Value).toArray = args at hC ⊢
  show zS p l e ({ frames := 2, cells := 0, slots := 0, locals := 46 } : Room) s m args below meth c D aC G (zfI D aC G below args s 0 0) 4 0 0 (FPacker_addLoad FU this p1 p2 G) G 0 [(0, .ref this), (1, .int (zi p1)), (2, .int (zi p2))] []
  unfold FPacker_addLoad
  refine z_gd ?_
  unfold FPacker_addLoad_b
  refine z_aload_n hC 0 rfl dX4_addLoad_0 rfl ?_
  refine z_getI hC zF4_30 rfl dX4_addLoad_1 (fun v1 hv1 => ?_)
  refine z_bipush hC dX4_addLoad_4 rfl ?_
  refine z_icmp_lt (tgt := 12) hC hv1 (by decide) dX4_addLoad_6 (by decide) (fun _ => ?_) (fun _ => ?_)
  · refine z_aload_n hC 0 rfl dX4_addLoad_12 rfl ?_
    refine z_getI hC zF4_30 rfl dX4_addLoad_13 (fun v2 hv2 => ?_)
    refine z_istore_n (lo' := [(3, .int (zi v2)), (0, .ref this), (1, .int (zi p1)), (2, .int (zi p2))]) hC dX4_addLoad_16 rfl (by decide) rfl ?_
    refine z_sub hC [1, 2, 3, 0] (lo' := [(0, .ref this), (1, .int (zi p1)), (2, .int (zi p2)), (3, .int (zi v2))]) rfl ?_
    exact SPacker_addLoad_L17 hC hr FU FU this p1 p2 v2 G hp1 hp2 hv2
  · refine z_bipush hC dX4_addLoad_9 rfl ?_
    exact z_iret hC (by decide) hr dX4_addLoad_11
theorem SPacker_addLoad_k {FU : Nat} {this : Nat} {p1 : Int} {p2 : Int} {G : Hp} {r1 : (Int × Hp)} (h1 : FPacker_addLoad FU this p1 p2 G = some r1) : zk G this = some (4, 0) := zgd_k (k := FPacker_addLoad_b FU this p1 p2 G) h1

set_option maxRecDepth 100000 in
theorem SPacker_canPack_L29 {p : Program} {l : Launch} {e : Env} {s : State} {m : MethodId} {args : Array Value} {below : List Frame} {meth : Method} {c : Code} {D : va_G} {aC : Nat → ClassId} {G0 : Hp} (hC : zC p m c meth s args cX4_canPack 6 RX4 D aC) (hr : meth.sig.returnType = (some .boolean)) (FU : Nat) (rec : Nat → Int → Int → Int → Hp → Option (Int × Hp)) (rr : Room) (hrr : rr.cells = 0 ∧ rr.slots = 0) (hrec : ∀ (this : Nat) (p1 : Int) (p2 : Int) (p3 : Int), zInI p1 → zInI p2 → zInI p3 → ∀ (G : Hp) (r1 : (Int × Hp)), rec this p1 p2 p3 G = some r1 → Met l yX4_canPack (Cond.code yX4_canPack cX4_canPack 6 (some .boolean) :: zgood) rr (va_Pc [.ref this, .int (zi p1), .int (zi p2), .int (zi p3)] (zU D aC G)) (zQ D aC G (zIn01 r1.1) (some (.int (zi r1.1))) r1.2) 0 0 (zA G)) (hreck : ∀ (this : Nat) (p1 : Int) (p2 : Int) (p3 : Int) (G : Hp) (r1 : (Int × Hp)), rec this p1 p2 p3 G = some r1 → zk G this = some (4, 0)) : ∀ (n : Nat) (x0 : Nat) (x1 : Int) (x2 : Int) (x3 : Int) (x4 : Int) (x5 : Int) (G : Hp) (hx1 : zInI x1) (hx2 : zInI x2) (hx3 : zInI x3) (hx4 : zInI x4) (hx5 : zInI x5), zS p l e ({ frames := rr.frames + 2, cells := 0, slots := 0, locals := rr.locals + 46 } : Room) s m args below meth c D aC G0 (zfZ D aC G0 below args s 0 0) 6 0 0 (FPacker_canPack_L29 FU rec n x0 x1 x2 x3 x4 x5 G) G 29 [(0, .ref x0), (1, .int (zi x1)), (2, .int (zi x2)), (3, .int (zi x3)), (4, .int (zi x4)), (5, .int (zi x5))] [] := by
  intro n
  induction n with
  | zero => intros; exact z_none
  | succ n ih =>
    intro x0 x1 x2 x3 x4 x5 G hx1 hx2 hx3 hx4 hx5
    rw [FPacker_canPack_L29]
    refine z_iload hC 5 rfl dX4_canPack_29 ?_
    refine z_iload_n hC 2 rfl dX4_canPack_31 rfl ?_
    refine z_icmp_gt (tgt := 142) hC hx5 hx2 dX4_canPack_32 (by decide) (fun _ => ?_) (fun _ => ?_)
    · refine z_iload hC 5 rfl dX4_canPack_35 ?_
      refine z_iload_n hC 3 rfl dX4_canPack_37 rfl ?_
      refine z_icmp_ge (tgt := 142) hC hx5 hx3 dX4_canPack_38 (by decide) (fun _ => ?_) (fun _ => ?_)
      · refine z_aload_n hC 0 rfl dX4_canPack_41 rfl ?_
        refine z_getQ hC zF4_21 rfl dX4_canPack_42 (fun v1 => ?_)
        refine z_iload hC 5 rfl dX4_canPack_45 ?_
        refine z_cIp (z_rS (As := [.ref v1, .int (zi x5)]) hC (fun _ h1 => SB_at FU v1 x5 hx5 h1) zM4_34 zMs_FB_at ⟨show 1 + 1 ≤ rr.frames + 2 by omega, show 8 + (2 + 11) + 24 ≤ rr.locals + 46 by omega⟩ rfl rfl rfl (rest := []) (Nat.le_of_ble_eq_true rfl) ⟨Nat.le_of_ble_eq_true rfl, Nat.le_of_ble_eq_true rfl⟩ rfl dX4_canPack_47) (fun v2 hv2 => ?_)
        refine z_iload hC 4 rfl dX4_canPack_50 ?_
        refine z_iadd hC dX4_canPack_52 (fun v3 hv3 => ?_)
        refine z_aload_n hC 0 rfl dX4_canPack_53 rfl ?_
        refine z_getI hC zF4_42 rfl dX4_canPack_54 (fun v4 hv4 => ?_)
        refine z_icmp_le (tgt := 63) hC hv3 hv4 dX4_canPack_57 (by decide) (fun _ => ?_) (fun _ => ?_)
        · refine z_aload_n hC 0 rfl dX4_canPack_63 rfl ?_
          refine z_getQ hC zF4_21 rfl dX4_canPack_64 (fun v5 => ?_)
          refine z_iload hC 5 rfl dX4_canPack_67 ?_
          refine z_aload_n hC 0 rfl dX4_canPack_69 rfl ?_
          refine z_getQ hC zF4_21 rfl dX4_canPack_70 (fun v6 => ?_)
          refine z_iload hC 5 rfl dX4_canPack_73 ?_
          refine z_cIp (z_rS (As := [.ref v6, .int (zi x5)]) hC (fun _ h1 => SB_at FU v6 x5 hx5 h1) zM4_34 zMs_FB_at ⟨show 1 + 1 ≤ rr.frames + 2 by omega, show 8 + (2 + 11) + 24 ≤ rr.locals + 46 by omega⟩ rfl rfl rfl (rest := [.int (zi x5), .ref v5]) (Nat.le_of_ble_eq_true rfl) ⟨Nat.le_of_ble_eq_true rfl, Nat.le_of_ble_eq_true rfl⟩ rfl dX4_canPack_75) (fun v7 hv7 => ?_)
          refine z_iload hC 4 rfl dX4_canPack_78 ?_
          refine z_iadd hC dX4_canPack_80 (fun v8 hv8 => ?_)
          refine z_cV (z_rS (As := [.ref v5, .int (zi x5), .int (zi v8)]) hC (fun _ h1 => SB_put FU v5 x5 v8 hx5 hv8 h1) zM4_38 zMs_FB_put ⟨show 1 + 1 ≤ rr.frames + 2 by omega, show 8 + (3 + 11) + 24 ≤ rr.locals + 46 by omega⟩ rfl rfl rfl (rest := []) (Nat.le_of_ble_eq_true rfl) ⟨Nat.le_of_ble_eq_true rfl, Nat.le_of_ble_eq_true rfl⟩ rfl dX4_canPack_81) (fun G9 => ?_)
          refine z_aload_n hC 0 rfl dX4_canPack_84 rfl ?_
          refine z_getQ hC zF4_18 rfl dX4_canPack_85 (fun v10 => ?_)
          refine z_iload_n hC 1 rfl dX4_canPack_88 rfl ?_
          refine z_iload hC 5 rfl dX4_canPack_89 ?_
          refine z_cV (z_rS (As := [.ref v10, .int (zi x1), .int (zi x5)]) hC (fun _ h1 => SB_put FU v10 x1 x5 hx1 hx5 h1) zM4_38 zMs_FB_put ⟨show 1 + 1 ≤ rr.frames + 2 by omega, show 8 + (3 + 11) + 24 ≤ rr.locals + 46 by omega⟩ rfl rfl rfl (rest := []) (Nat.le_of_ble_eq_true rfl) ⟨Nat.le_of_ble_eq_true rfl, Nat.le_of_ble_eq_true rfl⟩ rfl dX4_canPack_91) (fun G11 => ?_)
          refine z_aload_n hC 0 rfl dX4_canPack_94 rfl ?_
          refine z_iload_n hC 1 rfl dX4_canPack_95 rfl ?_
          refine z_iconst hC dX4_canPack_96 ?_
          refine z_iadd hC dX4_canPack_97 (fun v12 hv12 => ?_)
          refine z_iload_n hC 2 rfl dX4_canPack_98 rfl ?_
          refine z_iload hC 5 rfl dX4_canPack_99 ?_
          refine z_iconst hC dX4_canPack_101 ?_
          refine z_iadd hC dX4_canPack_102 (fun v13 hv13 => ?_)
          refine z_mmax hC hx2 hv13 zJ4_56.1 zJ4_56.2.1 zJ4_56.2.2.1 zJ4_56.2.2.2 (show 1 ≤ rr.frames + 2 by omega) (show 15 ≤ rr.locals + 46 by omega) ⟨Nat.le_of_ble_eq_true rfl, Nat.le_of_ble_eq_true rfl⟩ dX4_canPack_103 (fun v14 hv14 => ?_)
          refine z_iload_n hC 3 rfl dX4_canPack_106 rfl ?_
          refine z_cZ (z_rV (q := x0) (t := 4) (As := [.int (zi v12), .int (zi v14), .int (zi x3)]) hC (fun _ h1 => hrec x0 v12 v14 x3 hv12 hv14 hx3 G11 _ h1) (fun _ h1 => hreck x0 v12 v14 x3 G11 _ h1) rfl rfl zM4_52 zMv_FPacker_canPack ⟨show rr.frames + 1 ≤ rr.frames + 2 by omega, show 8 + (6 + 11) + rr.locals ≤ rr.locals + 46 by omega⟩ hrr.1 hrr.2 rfl (rest := []) (Nat.le_of_ble_eq_true rfl) ⟨Nat.le_of_ble_eq_true rfl, Nat.le_of_ble_eq_true rfl⟩ rfl dX4_canPack_107) (fun v16 G15 hv16 => ?_)
          refine z_if_eq (tgt := 115) hC (hv16).i dX4_canPack_110 (by decide) (fun _ => ?_) (fun _ => ?_)
          · refine z_aload_n hC 0 rfl dX4_canPack_115 rfl ?_
            refine z_getQ hC zF4_21 rfl dX4_canPack_116 (fun v17 => ?_)
            refine z_iload hC 5 rfl dX4_canPack_119 ?_
            refine z_aload_n hC 0 rfl dX4_canPack_121 rfl ?_
            refine z_getQ hC zF4_21 rfl dX4_canPack_122 (fun v18 => ?_)
            refine z_iload hC 5 rfl dX4_canPack_125 ?_
            refine z_cIp (z_rS (As := [.ref v18, .int (zi x5)]) hC (fun _ h1 => SB_at FU v18 x5 hx5 h1) zM4_34 zMs_FB_at ⟨show 1 + 1 ≤ rr.frames + 2 by omega, show 8 + (2 + 11) + 24 ≤ rr.locals + 46 by omega⟩ rfl rfl rfl (rest := [.int (zi x5), .ref v17]) (Nat.le_of_ble_eq_true rfl) ⟨Nat.le_of_ble_eq_true rfl, Nat.le_of_ble_eq_true rfl⟩ rfl dX4_canPack_127) (fun v19 hv19 => ?_)
            refine z_iload hC 4 rfl dX4_canPack_130 ?_
            refine z_isub hC dX4_canPack_132 (fun v20 hv20 => ?_)
            refine z_cV (z_rS (As := [.ref v17, .int (zi x5), .int (zi v20)]) hC (fun _ h1 => SB_put FU v17 x5 v20 hx5 hv20 h1) zM4_38 zMs_FB_put ⟨show 1 + 1 ≤ rr.frames + 2 by omega, show 8 + (3 + 11) + 24 ≤ rr.locals + 46 by omega⟩ rfl rfl rfl (rest := []) (Nat.le_of_ble_eq_true rfl) ⟨Nat.le_of_ble_eq_true rfl, Nat.le_of_ble_eq_true rfl⟩ rfl dX4_canPack_133) (fun G21 => ?_)
            refine z_iinc (lo' := fun v22 => [(5, .int (zi v22)), (0, .ref x0), (1, .int (zi x1)), (2, .int (zi x2)), (3, .int (zi x3)), (4, .int (zi x4))]) hC 5 dX4_canPack_136 rfl (by decide) (fun _ => rfl) (fun v22 hv22 => ?_)
            refine z_goto (tgt := 29) hC dX4_canPack_139 (by decide) ?_
            refine z_sub hC [1, 2, 3, 4, 5, 0] (lo' := [(0, .ref x0), (1, .int (zi x1)), (2, .int (zi x2)), (3, .int (zi x3)), (4, .int (zi x4)), (5, .int (zi v22))]) rfl ?_
            exact ih x0 x1 x2 x3 x4 v22 G21 hx1 hx2 hx3 hx4 hv22
          · refine z_iconst hC dX4_canPack_113 ?_
            exact z_zret hC hr dX4_canPack_114
        · refine z_goto (tgt := 136) hC dX4_canPack_60 (by decide) ?_
          refine z_iinc (lo' := fun v23 => [(5, .int (zi v23)), (0, .ref x0), (1, .int (zi x1)), (2, .int (zi x2)), (3, .int (zi x3)), (4, .int (zi x4))]) hC 5 dX4_canPack_136 rfl (by decide) (fun _ => rfl) (fun v23 hv23 => ?_)
          refine z_goto (tgt := 29) hC dX4_canPack_139 (by decide) ?_
          refine z_sub hC [1, 2, 3, 4, 5, 0] (lo' := [(0, .ref x0), (1, .int (zi x1)), (2, .int (zi x2)), (3, .int (zi x3)), (4, .int (zi x4)), (5, .int (zi v23))]) rfl ?_
          exact ih x0 x1 x2 x3 x4 v23 G hx1 hx2 hx3 hx4 hv23
      · refine z_iconst hC dX4_canPack_142 ?_
        exact z_zret hC hr dX4_canPack_143
    · refine z_iconst hC dX4_canPack_142 ?_
      exact z_zret hC hr dX4_canPack_143
set_option maxRecDepth 100000 in
theorem SPacker_canPack {l : Launch} {D : va_G} {aC : Nat → ClassId} (FU : Nat) (rec : Nat → Int → Int → Int → Hp → Option (Int × Hp)) (rr : Room) (hrr : rr.cells = 0 ∧ rr.slots = 0) (hrec : ∀ (this : Nat) (p1 : Int) (p2 : Int) (p3 : Int), zInI p1 → zInI p2 → zInI p3 → ∀ (G : Hp) (r1 : (Int × Hp)), rec this p1 p2 p3 G = some r1 → Met l yX4_canPack (Cond.code yX4_canPack cX4_canPack 6 (some .boolean) :: zgood) rr (va_Pc [.ref this, .int (zi p1), .int (zi p2), .int (zi p3)] (zU D aC G)) (zQ D aC G (zIn01 r1.1) (some (.int (zi r1.1))) r1.2) 0 0 (zA G)) (hreck : ∀ (this : Nat) (p1 : Int) (p2 : Int) (p3 : Int) (G : Hp) (r1 : (Int × Hp)), rec this p1 p2 p3 G = some r1 → zk G this = some (4, 0)) (this : Nat) (p1 : Int) (p2 : Int) (p3 : Int) (hp1 : zInI p1) (hp2 : zInI p2) (hp3 : zInI p3) {G : Hp} {r1 : (Int × Hp)} (h1 : FPacker_canPack FU rec this p1 p2 p3 G = some r1) : Met l yX4_canPack (Cond.code yX4_canPack cX4_canPack 6 (some .boolean) :: zgood) ({ frames := rr.frames + 2, cells := 0, slots := 0, locals := rr.locals + 46 } : Room) (va_Pc [.ref this, .int (zi p1), .int (zi p2), .int (zi p3)] (zU D aC G)) (zQ D aC G (zIn01 r1.1) (some (.int (zi r1.1))) r1.2) 0 0 (zA G) := by
  refine z_met (y := yX4_canPack) (b := cX4_canPack) (maxL := 6) (mc := 0) (ms := 0) (ret := (some .boolean)) (As := [.ref this, .int (zi p1), .int (zi p2), .int (zi p3)]) (Q1 := fun r1 => zQ D aC G (zIn01 r1.1) (some (.int (zi r1.1))) r1.2) (X := FPacker_canPack FU rec this p1 p2 p3 G) (by decide) (Nat.le_of_ble_eq_true rfl) ?_ h1
  intro p e s m below meth c hC hr hi
  have hC : zC p m c meth s ([.ref this, .int (zi p1), .int (zi p2), .int (zi p3)] : List Value).toArray cX4_canPack 6 RX4 D aC := hC
  generalize ([.ref this, .int (zi p1), .int (zi p2), .int (zi p3)] : List Value).toArray = args at hC ⊢
  show zS p l e ({ frames := rr.frames + 2, cells := 0, slots := 0, locals := rr.locals + 46 } : Room) s m args below meth c D aC G (zfZ D aC G below args s 0 0) 6 0 0 (FPacker_canPack FU rec this p1 p2 p3 G) G 0 [(0, .ref this), (1, .int (zi p1)), (2, .int (zi p2)), (3, .int (zi p3))] []
  unfold FPacker_canPack
  refine z_gd ?_
  unfold FPacker_canPack_b
  refine z_iload_n hC 1 rfl dX4_canPack_0 rfl ?_
  refine z_aload_n hC 0 rfl dX4_canPack_1 rfl ?_
  refine z_getI hC zF4_30 rfl dX4_canPack_2 (fun v1 hv1 => ?_)
  refine z_icmp_ge (tgt := 14) hC hp1 hv1 dX4_canPack_5 (by decide) (fun _ => ?_) (fun _ => ?_)
  · refine z_iload_n hC 1 rfl dX4_canPack_8 rfl ?_
    refine z_bipush hC dX4_canPack_9 rfl ?_
    refine z_icmp_lt (tgt := 16) hC hp1 (by decide) dX4_canPack_11 (by decide) (fun _ => ?_) (fun _ => ?_)
    · refine z_aload_n hC 0 rfl dX4_canPack_16 rfl ?_
      refine z_getQ hC zF4_15 rfl dX4_canPack_17 (fun v2 => ?_)
      refine z_iload_n hC 1 rfl dX4_canPack_20 rfl ?_
      refine z_cIp (z_rS (As := [.ref v2, .int (zi p1)]) hC (fun _ h1 => SB_at FU v2 p1 hp1 h1) zM4_34 zMs_FB_at ⟨show 1 + 1 ≤ rr.frames + 2 by omega, show 8 + (2 + 11) + 24 ≤ rr.locals + 46 by omega⟩ rfl rfl rfl (rest := []) (Nat.le_of_ble_eq_true rfl) ⟨Nat.le_of_ble_eq_true rfl, Nat.le_of_ble_eq_true rfl⟩ rfl dX4_canPack_21) (fun v3 hv3 => ?_)
      refine z_istore (lo' := [(4, .int (zi v3)), (0, .ref this), (1, .int (zi p1)), (2, .int (zi p2)), (3, .int (zi p3))]) hC dX4_canPack_24 (by decide) rfl ?_
      refine z_iconst hC dX4_canPack_26 ?_
      refine z_istore (lo' := [(5, .int (zi (0))), (4, .int (zi v3)), (0, .ref this), (1, .int (zi p1)), (2, .int (zi p2)), (3, .int (zi p3))]) hC dX4_canPack_27 (by decide) rfl ?_
      refine z_sub hC [2, 3, 4, 5, 1, 0] (lo' := [(0, .ref this), (1, .int (zi p1)), (2, .int (zi p2)), (3, .int (zi p3)), (4, .int (zi v3)), (5, .int (zi (0)))]) rfl ?_
      exact SPacker_canPack_L29 hC hr FU rec rr hrr hrec hreck FU this p1 p2 p3 v3 (0) G hp1 hp2 hp3 hv3 (by decide)
    · refine z_iconst hC dX4_canPack_14 ?_
      exact z_zret hC hr dX4_canPack_15
  · refine z_iconst hC dX4_canPack_14 ?_
    exact z_zret hC hr dX4_canPack_15
theorem SPacker_canPack_k {FU : Nat} {rec : Nat → Int → Int → Int → Hp → Option (Int × Hp)} {this : Nat} {p1 : Int} {p2 : Int} {p3 : Int} {G : Hp} {r1 : (Int × Hp)} (h1 : FPacker_canPack FU rec this p1 p2 p3 G = some r1) : zk G this = some (4, 0) := zgd_k (k := FPacker_canPack_b FU rec this p1 p2 p3 G) h1
theorem SPacker_canPack_nk {FU d : Nat} {this : Nat} {p1 : Int} {p2 : Int} {p3 : Int} {G : Hp} {r1 : (Int × Hp)} (h1 : FPacker_canPack_n FU d this p1 p2 p3 G = some r1) : zk G this = some (4, 0) := by
  cases d with
  | zero => cases h1
  | succ d => exact SPacker_canPack_k h1
theorem SPacker_canPack_n {l : Launch} {D : va_G} {aC : Nat → ClassId} (FU : Nat) : ∀ (d : Nat) (this : Nat) (p1 : Int) (p2 : Int) (p3 : Int) (hp1 : zInI p1) (hp2 : zInI p2) (hp3 : zInI p3) {G : Hp} {r1 : (Int × Hp)}, FPacker_canPack_n FU d this p1 p2 p3 G = some r1 → Met l yX4_canPack (Cond.code yX4_canPack cX4_canPack 6 (some .boolean) :: zgood) ({ frames := 2 * d, cells := 0, slots := 0, locals := 46 * d } : Room) (va_Pc [.ref this, .int (zi p1), .int (zi p2), .int (zi p3)] (zU D aC G)) (zQ D aC G (zIn01 r1.1) (some (.int (zi r1.1))) r1.2) 0 0 (zA G) := by
  intro d
  induction d with
  | zero => intros; rename_i h; cases h
  | succ d ih =>
    intro this p1 p2 p3 hp1 hp2 hp3 G r1 h1
    exact SPacker_canPack FU (FPacker_canPack_n FU d) ({ frames := 2 * d, cells := 0, slots := 0, locals := 46 * d } : Room) ⟨rfl, rfl⟩ (fun this p1 p2 p3 hp1 hp2 hp3 _ _ h => ih this p1 p2 p3 hp1 hp2 hp3 h) (fun this p1 p2 p3 _ _ h => SPacker_canPack_nk h) this p1 p2 p3 hp1 hp2 hp3 h1

set_option maxRecDepth 100000 in
theorem SPacker_fewestCarts_L12 {p : Program} {l : Launch} {e : Env} {s : State} {m : MethodId} {args : Array Value} {below : List Frame} {meth : Method} {c : Code} {D : va_G} {aC : Nat → ClassId} {G0 : Hp} (hC : zC p m c meth s args cX4_fewestCarts 3 RX4 D aC) (hr : meth.sig.returnType = (some .int)) (FU : Nat) (kL2 : Nat → Int → Hp → Option (Int × Hp)) (hkL2 : ∀ (a0 : Nat) (a1 : Int) (G : Hp), zInI a1 → zS p l e ({ frames := 29, cells := 0, slots := 0, locals := 669 } : Room) s m args below meth c D aC G0 (zfI D aC G0 below args s 0 0) 3 0 0 (kL2 a0 a1 G) G 2 [(0, .ref a0), (1, .int (zi a1))] []) : ∀ (n : Nat) (x0 : Nat) (x1 : Int) (x2 : Int) (G : Hp) (hx1 : zInI x1) (hx2 : zInI x2), zS p l e ({ frames := 29, cells := 0, slots := 0, locals := 669 } : Room) s m args below meth c D aC G0 (zfI D aC G0 below args s 0 0) 3 0 0 (FPacker_fewestCarts_L12 FU kL2 n x0 x1 x2 G) G 12 [(0, .ref x0), (1, .int (zi x1)), (2, .int (zi x2))] [] := by
  intro n
  induction n with
  | zero => intros; exact z_none
  | succ n ih =>
    intro x0 x1 x2 G hx1 hx2
    rw [FPacker_fewestCarts_L12]
    refine z_iload_n hC 2 rfl dX4_fewestCarts_12 rfl ?_
    refine z_aload_n hC 0 rfl dX4_fewestCarts_13 rfl ?_
    refine z_getQ hC zF4_21 rfl dX4_fewestCarts_14 (fun v1 => ?_)
    refine z_alen20 hC dX4_fewestCarts_17 (fun v2 hv2 => ?_)
    refine z_icmp_ge (tgt := 34) hC hx2 hv2 dX4_fewestCarts_18 (by decide) (fun _ => ?_) (fun _ => ?_)
    · refine z_aload_n hC 0 rfl dX4_fewestCarts_21 rfl ?_
      refine z_getQ hC zF4_21 rfl dX4_fewestCarts_22 (fun v3 => ?_)
      refine z_iload_n hC 2 rfl dX4_fewestCarts_25 rfl ?_
      refine z_iconst hC dX4_fewestCarts_26 ?_
      refine z_iast hC hx2 (by decide) dX4_fewestCarts_27 (fun G4 => ?_)
      refine z_iinc (lo' := fun v5 => [(2, .int (zi v5)), (0, .ref x0), (1, .int (zi x1))]) hC 2 dX4_fewestCarts_28 rfl (by decide) (fun _ => rfl) (fun v5 hv5 => ?_)
      refine z_goto (tgt := 12) hC dX4_fewestCarts_31 (by decide) ?_
      refine z_sub hC [1, 2, 0] (lo' := [(0, .ref x0), (1, .int (zi x1)), (2, .int (zi v5))]) rfl ?_
      exact ih x0 x1 v5 G4 hx1 hv5
    · refine z_aload_n hC 0 rfl dX4_fewestCarts_34 rfl ?_
      refine z_iconst hC dX4_fewestCarts_35 ?_
      refine z_iconst hC dX4_fewestCarts_36 ?_
      refine z_iload_n hC 1 rfl dX4_fewestCarts_37 rfl ?_
      refine z_cZ (z_rV (q := x0) (t := 4) (As := [.int (zi (0)), .int (zi (0)), .int (zi x1)]) hC (fun _ h1 => SPacker_canPack_n FU 14 x0 (0) (0) x1 (by decide) (by decide) hx1 h1) (fun _ h1 => SPacker_canPack_nk h1) rfl rfl zM4_52 zMv_FPacker_canPack ⟨by decide, by decide⟩ rfl rfl rfl (rest := []) (Nat.le_of_ble_eq_true rfl) ⟨Nat.le_of_ble_eq_true rfl, Nat.le_of_ble_eq_true rfl⟩ rfl dX4_fewestCarts_38) (fun v7 G6 hv7 => ?_)
      refine z_if_eq (tgt := 46) hC (hv7).i dX4_fewestCarts_41 (by decide) (fun _ => ?_) (fun _ => ?_)
      · refine z_iinc (lo' := fun v8 => [(1, .int (zi v8)), (0, .ref x0), (2, .int (zi x2))]) hC 1 dX4_fewestCarts_46 rfl (by decide) (fun _ => rfl) (fun v8 hv8 => ?_)
        refine z_goto (tgt := 2) hC dX4_fewestCarts_49 (by decide) ?_
        refine z_sub hC [1, 0] (lo' := [(0, .ref x0), (1, .int (zi v8))]) rfl ?_
        exact hkL2 x0 v8 G6 hv8
      · refine z_iload_n hC 1 rfl dX4_fewestCarts_44 rfl ?_
        exact z_iret hC hx1 hr dX4_fewestCarts_45
set_option maxRecDepth 100000 in
theorem SPacker_fewestCarts_L2 {p : Program} {l : Launch} {e : Env} {s : State} {m : MethodId} {args : Array Value} {below : List Frame} {meth : Method} {c : Code} {D : va_G} {aC : Nat → ClassId} {G0 : Hp} (hC : zC p m c meth s args cX4_fewestCarts 3 RX4 D aC) (hr : meth.sig.returnType = (some .int)) (FU : Nat) : ∀ (n : Nat) (x0 : Nat) (x1 : Int) (G : Hp) (hx1 : zInI x1), zS p l e ({ frames := 29, cells := 0, slots := 0, locals := 669 } : Room) s m args below meth c D aC G0 (zfI D aC G0 below args s 0 0) 3 0 0 (FPacker_fewestCarts_L2 FU n x0 x1 G) G 2 [(0, .ref x0), (1, .int (zi x1))] [] := by
  intro n
  induction n with
  | zero => intros; exact z_none
  | succ n ih =>
    intro x0 x1 G hx1
    rw [FPacker_fewestCarts_L2]
    refine z_iload_n hC 1 rfl dX4_fewestCarts_2 rfl ?_
    refine z_aload_n hC 0 rfl dX4_fewestCarts_3 rfl ?_
    refine z_getI hC zF4_30 rfl dX4_fewestCarts_4 (fun v1 hv1 => ?_)
    refine z_icmp_gt (tgt := 52) hC hx1 hv1 dX4_fewestCarts_7 (by decide) (fun _ => ?_) (fun _ => ?_)
    · refine z_iconst hC dX4_fewestCarts_10 ?_
      refine z_istore_n (lo' := [(2, .int (zi (0))), (0, .ref x0), (1, .int (zi x1))]) hC dX4_fewestCarts_11 rfl (by decide) rfl ?_
      refine z_sub hC [1, 2, 0] (lo' := [(0, .ref x0), (1, .int (zi x1)), (2, .int (zi (0)))]) rfl ?_
      exact SPacker_fewestCarts_L12 hC hr FU (FPacker_fewestCarts_L2 FU n) ih FU x0 x1 (0) G hx1 (by decide)
    · refine z_bipush hC dX4_fewestCarts_52 rfl ?_
      exact z_iret hC (by decide) hr dX4_fewestCarts_54
set_option maxRecDepth 100000 in
theorem SPacker_fewestCarts {l : Launch} {D : va_G} {aC : Nat → ClassId} (FU : Nat) (this : Nat) {G : Hp} {r1 : (Int × Hp)} (h1 : FPacker_fewestCarts FU this G = some r1) : Met l yX4_fewestCarts (Cond.code yX4_fewestCarts cX4_fewestCarts 3 (some .int) :: zgood) ({ frames := 29, cells := 0, slots := 0, locals := 669 } : Room) (va_Pc [.ref this] (zU D aC G)) (zQ D aC G (zInI r1.1) (some (.int (zi r1.1))) r1.2) 0 0 (zA G) := by
  refine z_met (y := yX4_fewestCarts) (b := cX4_fewestCarts) (maxL := 3) (mc := 0) (ms := 0) (ret := (some .int)) (As := [.ref this]) (Q1 := fun r1 => zQ D aC G (zInI r1.1) (some (.int (zi r1.1))) r1.2) (X := FPacker_fewestCarts FU this G) (by decide) (Nat.le_of_ble_eq_true rfl) ?_ h1
  intro p e s m below meth c hC hr hi
  have hC : zC p m c meth s ([.ref this] : List Value).toArray cX4_fewestCarts 3 RX4 D aC := hC
  generalize ([.ref this] : List Value).toArray = args at hC ⊢
  show zS p l e ({ frames := 29, cells := 0, slots := 0, locals := 669 } : Room) s m args below meth c D aC G (zfI D aC G below args s 0 0) 3 0 0 (FPacker_fewestCarts FU this G) G 0 [(0, .ref this)] []
  unfold FPacker_fewestCarts
  refine z_gd ?_
  unfold FPacker_fewestCarts_b
  refine z_iconst hC dX4_fewestCarts_0 ?_
  refine z_istore_n (lo' := [(1, .int (zi (1))), (0, .ref this)]) hC dX4_fewestCarts_1 rfl (by decide) rfl ?_
  refine z_sub hC [1, 0] (lo' := [(0, .ref this), (1, .int (zi (1)))]) rfl ?_
  exact SPacker_fewestCarts_L2 hC hr FU FU this (1) G (by decide)
theorem SPacker_fewestCarts_k {FU : Nat} {this : Nat} {G : Hp} {r1 : (Int × Hp)} (h1 : FPacker_fewestCarts FU this G = some r1) : zk G this = some (4, 0) := zgd_k (k := FPacker_fewestCarts_b FU this G) h1

set_option maxRecDepth 100000 in
theorem SPacker_keepPacking_L10 {p : Program} {l : Launch} {e : Env} {s : State} {m : MethodId} {args : Array Value} {below : List Frame} {meth : Method} {c : Code} {D : va_G} {aC : Nat → ClassId} {G0 : Hp} (hC : zC p m c meth s args cX4_keepPacking 2 RX4 D aC) (hr : meth.sig.returnType = none) (FU : Nat) : ∀ (n : Nat) (x0 : Nat) (x1 : Int) (G : Hp) (hx1 : zInI x1), zS p l e ({ frames := 2, cells := 0, slots := 0, locals := 46 } : Room) s m args below meth c D aC G0 (zfV D aC G0 below args s 0 0) 2 0 0 (FPacker_keepPacking_L10 FU n x0 x1 G) G 10 [(0, .ref x0), (1, .int (zi x1))] [] := by
  intro n
  induction n with
  | zero => intros; exact z_none
  | succ n ih =>
    intro x0 x1 G hx1
    rw [FPacker_keepPacking_L10]
    refine z_iload_n hC 1 rfl dX4_keepPacking_10 rfl ?_
    refine z_aload_n hC 0 rfl dX4_keepPacking_11 rfl ?_
    refine z_getI hC zF4_30 rfl dX4_keepPacking_12 (fun v1 hv1 => ?_)
    refine z_icmp_ge (tgt := 56) hC hx1 hv1 dX4_keepPacking_15 (by decide) (fun _ => ?_) (fun _ => ?_)
    · refine z_aload_n hC 0 rfl dX4_keepPacking_18 rfl ?_
      refine z_getQ hC zF4_24 rfl dX4_keepPacking_19 (fun v2 => ?_)
      refine z_iload_n hC 1 rfl dX4_keepPacking_22 rfl ?_
      refine z_aload_n hC 0 rfl dX4_keepPacking_23 rfl ?_
      refine z_getQ hC zF4_9 rfl dX4_keepPacking_24 (fun v3 => ?_)
      refine z_iload_n hC 1 rfl dX4_keepPacking_27 rfl ?_
      refine z_cIp (z_rS (As := [.ref v3, .int (zi x1)]) hC (fun _ h1 => SB_at FU v3 x1 hx1 h1) zM4_34 zMs_FB_at ⟨by decide, by decide⟩ rfl rfl rfl (rest := [.int (zi x1), .ref v2]) (Nat.le_of_ble_eq_true rfl) ⟨Nat.le_of_ble_eq_true rfl, Nat.le_of_ble_eq_true rfl⟩ rfl dX4_keepPacking_28) (fun v4 hv4 => ?_)
      refine z_cV (z_rS (As := [.ref v2, .int (zi x1), .int (zi v4)]) hC (fun _ h1 => SB_put FU v2 x1 v4 hx1 hv4 h1) zM4_38 zMs_FB_put ⟨by decide, by decide⟩ rfl rfl rfl (rest := []) (Nat.le_of_ble_eq_true rfl) ⟨Nat.le_of_ble_eq_true rfl, Nat.le_of_ble_eq_true rfl⟩ rfl dX4_keepPacking_31) (fun G5 => ?_)
      refine z_aload_n hC 0 rfl dX4_keepPacking_34 rfl ?_
      refine z_getQ hC zF4_27 rfl dX4_keepPacking_35 (fun v6 => ?_)
      refine z_iload_n hC 1 rfl dX4_keepPacking_38 rfl ?_
      refine z_aload_n hC 0 rfl dX4_keepPacking_39 rfl ?_
      refine z_getQ hC zF4_18 rfl dX4_keepPacking_40 (fun v7 => ?_)
      refine z_iload_n hC 1 rfl dX4_keepPacking_43 rfl ?_
      refine z_cIp (z_rS (As := [.ref v7, .int (zi x1)]) hC (fun _ h1 => SB_at FU v7 x1 hx1 h1) zM4_34 zMs_FB_at ⟨by decide, by decide⟩ rfl rfl rfl (rest := [.int (zi x1), .ref v6]) (Nat.le_of_ble_eq_true rfl) ⟨Nat.le_of_ble_eq_true rfl, Nat.le_of_ble_eq_true rfl⟩ rfl dX4_keepPacking_44) (fun v8 hv8 => ?_)
      refine z_cV (z_rS (As := [.ref v6, .int (zi x1), .int (zi v8)]) hC (fun _ h1 => SB_put FU v6 x1 v8 hx1 hv8 h1) zM4_38 zMs_FB_put ⟨by decide, by decide⟩ rfl rfl rfl (rest := []) (Nat.le_of_ble_eq_true rfl) ⟨Nat.le_of_ble_eq_true rfl, Nat.le_of_ble_eq_true rfl⟩ rfl dX4_keepPacking_47) (fun G9 => ?_)
      refine z_iinc (lo' := fun v10 => [(1, .int (zi v10)), (0, .ref x0)]) hC 1 dX4_keepPacking_50 rfl (by decide) (fun _ => rfl) (fun v10 hv10 => ?_)
      refine z_goto (tgt := 10) hC dX4_keepPacking_53 (by decide) ?_
      refine z_sub hC [1, 0] (lo' := [(0, .ref x0), (1, .int (zi v10))]) rfl ?_
      exact ih x0 v10 G9 hv10
    · exact z_vret hC hr dX4_keepPacking_56
set_option maxRecDepth 100000 in
theorem SPacker_keepPacking {l : Launch} {D : va_G} {aC : Nat → ClassId} (FU : Nat) (this : Nat) {G : Hp} {r1 : (Unit × Hp)} (h1 : FPacker_keepPacking FU this G = some r1) : Met l yX4_keepPacking (Cond.code yX4_keepPacking cX4_keepPacking 2 none :: zgood) ({ frames := 2, cells := 0, slots := 0, locals := 46 } : Room) (va_Pc [.ref this] (zU D aC G)) (zQ D aC G (True) (none) r1.2) 0 0 (zA G) := by
  refine z_met (y := yX4_keepPacking) (b := cX4_keepPacking) (maxL := 2) (mc := 0) (ms := 0) (ret := none) (As := [.ref this]) (Q1 := fun r1 => zQ D aC G (True) (none) r1.2) (X := FPacker_keepPacking FU this G) (by decide) (Nat.le_of_ble_eq_true rfl) ?_ h1
  intro p e s m below meth c hC hr hi
  have hC : zC p m c meth s ([.ref this] : List Value).toArray cX4_keepPacking 2 RX4 D aC := hC
  generalize ([.ref this] : List Value).toArray = args at hC ⊢
  show zS p l e ({ frames := 2, cells := 0, slots := 0, locals := 46 } : Room) s m args below meth c D aC G (zfV D aC G below args s 0 0) 2 0 0 (FPacker_keepPacking FU this G) G 0 [(0, .ref this)] []
  unfold FPacker_keepPacking
  refine z_gd ?_
  unfold FPacker_keepPacking_b
  refine z_aload_n hC 0 rfl dX4_keepPacking_0 rfl ?_
  refine z_aload_n hC 0 rfl dX4_keepPacking_1 rfl ?_
  refine z_getI hC zF4_30 rfl dX4_keepPacking_2 (fun v1 hv1 => ?_)
  refine z_putI hC hv1 zF4_62 rfl rfl dX4_keepPacking_5 (fun G2 => ?_)
  refine z_iconst hC dX4_keepPacking_8 ?_
  refine z_istore_n (lo' := [(1, .int (zi (0))), (0, .ref this)]) hC dX4_keepPacking_9 rfl (by decide) rfl ?_
  refine z_sub hC [1, 0] (lo' := [(0, .ref this), (1, .int (zi (0)))]) rfl ?_
  exact SPacker_keepPacking_L10 hC hr FU FU this (0) G2 (by decide)
theorem SPacker_keepPacking_k {FU : Nat} {this : Nat} {G : Hp} {r1 : (Unit × Hp)} (h1 : FPacker_keepPacking FU this G = some r1) : zk G this = some (4, 0) := zgd_k (k := FPacker_keepPacking_b FU this G) h1

set_option maxRecDepth 100000 in
theorem SPacker_pack {l : Launch} {D : va_G} {aC : Nat → ClassId} (FU : Nat) (this : Nat) (p1 : Int) (hp1 : zInI p1) {G : Hp} {r1 : (Int × Hp)} (h1 : FPacker_pack FU this p1 G = some r1) : Met l yX4_pack (Cond.code yX4_pack cX4_pack 3 (some .int) :: zgood) ({ frames := 30, cells := 0, slots := 0, locals := 691 } : Room) (va_Pc [.ref this, .int (zi p1)] (zU D aC G)) (zQ D aC G (zInI r1.1) (some (.int (zi r1.1))) r1.2) 0 0 (zA G) := by
  refine z_met (y := yX4_pack) (b := cX4_pack) (maxL := 3) (mc := 0) (ms := 0) (ret := (some .int)) (As := [.ref this, .int (zi p1)]) (Q1 := fun r1 => zQ D aC G (zInI r1.1) (some (.int (zi r1.1))) r1.2) (X := FPacker_pack FU this p1 G) (by decide) (Nat.le_of_ble_eq_true rfl) ?_ h1
  intro p e s m below meth c hC hr hi
  have hC : zC p m c meth s ([.ref this, .int (zi p1)] : List Value).toArray cX4_pack 3 RX4 D aC := hC
  generalize ([.ref this, .int (zi p1)] : List Value).toArray = args at hC ⊢
  show zS p l e ({ frames := 30, cells := 0, slots := 0, locals := 691 } : Room) s m args below meth c D aC G (zfI D aC G below args s 0 0) 3 0 0 (FPacker_pack FU this p1 G) G 0 [(0, .ref this), (1, .int (zi p1))] []
  unfold FPacker_pack
  refine z_gd ?_
  unfold FPacker_pack_b
  refine z_aload_n hC 0 rfl dX4_pack_0 rfl ?_
  refine z_getI hC zF4_30 rfl dX4_pack_1 (fun v1 hv1 => ?_)
  refine z_if_ne (tgt := 10) hC hv1 dX4_pack_4 (by decide) (fun _ => ?_) (fun _ => ?_)
  · refine z_bipush hC dX4_pack_7 rfl ?_
    exact z_iret hC (by decide) hr dX4_pack_9
  · refine z_aload_n hC 0 rfl dX4_pack_10 rfl ?_
    refine z_iload_n hC 1 rfl dX4_pack_11 rfl ?_
    refine z_putI hC hp1 zF4_42 rfl rfl dX4_pack_12 (fun G2 => ?_)
    refine z_aload_n hC 0 rfl dX4_pack_15 rfl ?_
    refine z_cI (z_rV (q := this) (t := 4) (As := []) hC (fun _ h1 => SPacker_fewestCarts FU this h1) (fun _ h1 => SPacker_fewestCarts_k h1) rfl rfl zM4_45 zMv_FPacker_fewestCarts ⟨by decide, by decide⟩ rfl rfl rfl (rest := []) (Nat.le_of_ble_eq_true rfl) ⟨Nat.le_of_ble_eq_true rfl, Nat.le_of_ble_eq_true rfl⟩ rfl dX4_pack_16) (fun v4 G3 hv4 => ?_)
    refine z_istore_n (lo' := [(2, .int (zi v4)), (0, .ref this), (1, .int (zi p1))]) hC dX4_pack_19 rfl (by decide) rfl ?_
    refine z_iload_n hC 0 rfl dX4_pack_20 rfl ?_
    refine z_bipush hC dX4_pack_21 rfl ?_
    refine z_icmp_eq (tgt := 30) hC hv4 (by decide) dX4_pack_23 (by decide) (fun _ => ?_) (fun _ => ?_)
    · refine z_aload_n hC 1 rfl dX4_pack_30 rfl ?_
      refine z_iconst hC dX4_pack_31 ?_
      refine z_putI hC (by decide) zF4_30 rfl rfl dX4_pack_32 (fun G5 => ?_)
      refine z_iload_n hC 0 rfl dX4_pack_35 rfl ?_
      exact z_iret hC hv4 hr dX4_pack_36
    · refine z_aload_n hC 1 rfl dX4_pack_26 rfl ?_
      refine z_cV (z_rV (q := this) (t := 4) (As := []) hC (fun _ h1 => SPacker_keepPacking FU this h1) (fun _ h1 => SPacker_keepPacking_k h1) rfl rfl zM4_49 zMv_FPacker_keepPacking ⟨by decide, by decide⟩ rfl rfl rfl (rest := []) (Nat.le_of_ble_eq_true rfl) ⟨Nat.le_of_ble_eq_true rfl, Nat.le_of_ble_eq_true rfl⟩ rfl dX4_pack_27) (fun G6 => ?_)
      refine z_aload_n hC 1 rfl dX4_pack_30 rfl ?_
      refine z_iconst hC dX4_pack_31 ?_
      refine z_putI hC (by decide) zF4_30 rfl rfl dX4_pack_32 (fun G7 => ?_)
      refine z_iload_n hC 0 rfl dX4_pack_35 rfl ?_
      exact z_iret hC hv4 hr dX4_pack_36
theorem SPacker_pack_k {FU : Nat} {this : Nat} {p1 : Int} {G : Hp} {r1 : (Int × Hp)} (h1 : FPacker_pack FU this p1 G = some r1) : zk G this = some (4, 0) := zgd_k (k := FPacker_pack_b FU this p1 G) h1

set_option maxRecDepth 100000 in
theorem SPacker_cartOf_L2 {p : Program} {l : Launch} {e : Env} {s : State} {m : MethodId} {args : Array Value} {below : List Frame} {meth : Method} {c : Code} {D : va_G} {aC : Nat → ClassId} {G0 : Hp} (hC : zC p m c meth s args cX4_cartOf 3 RX4 D aC) (hr : meth.sig.returnType = (some .int)) (FU : Nat) : ∀ (n : Nat) (x0 : Nat) (x1 : Int) (x2 : Int) (hx1 : zInI x1) (hx2 : zInI x2), zS p l e ({ frames := 2, cells := 0, slots := 0, locals := 45 } : Room) s m args below meth c D aC G0 (fun r1 => zfI D aC G0 below args s 0 0 (r1, G0)) 3 0 0 (FPacker_cartOf_L2 FU n x0 x1 x2 G0) G0 2 [(0, .ref x0), (1, .int (zi x1)), (2, .int (zi x2))] [] := by
  intro n
  induction n with
  | zero => intros; exact z_none
  | succ n ih =>
    intro x0 x1 x2 hx1 hx2
    rw [FPacker_cartOf_L2]
    refine z_iload_n hC 2 rfl dX4_cartOf_2 rfl ?_
    refine z_aload_n hC 0 rfl dX4_cartOf_3 rfl ?_
    refine z_getI hC zF4_62 rfl dX4_cartOf_4 (fun v1 hv1 => ?_)
    refine z_icmp_ge (tgt := 37) hC hx2 hv1 dX4_cartOf_7 (by decide) (fun _ => ?_) (fun _ => ?_)
    · refine z_aload_n hC 0 rfl dX4_cartOf_10 rfl ?_
      refine z_getQ hC zF4_24 rfl dX4_cartOf_11 (fun v2 => ?_)
      refine z_iload_n hC 2 rfl dX4_cartOf_14 rfl ?_
      refine z_cIp (z_rS (As := [.ref v2, .int (zi x2)]) hC (fun _ h1 => SB_at FU v2 x2 hx2 h1) zM4_34 zMs_FB_at ⟨by decide, by decide⟩ rfl rfl rfl (rest := []) (Nat.le_of_ble_eq_true rfl) ⟨Nat.le_of_ble_eq_true rfl, Nat.le_of_ble_eq_true rfl⟩ rfl dX4_cartOf_15) (fun v3 hv3 => ?_)
      refine z_iload_n hC 1 rfl dX4_cartOf_18 rfl ?_
      refine z_icmp_ne (tgt := 31) hC hv3 hx1 dX4_cartOf_19 (by decide) (fun _ => ?_) (fun _ => ?_)
      · refine z_aload_n hC 0 rfl dX4_cartOf_22 rfl ?_
        refine z_getQ hC zF4_27 rfl dX4_cartOf_23 (fun v4 => ?_)
        refine z_iload_n hC 2 rfl dX4_cartOf_26 rfl ?_
        refine z_cIp (z_rS (As := [.ref v4, .int (zi x2)]) hC (fun _ h1 => SB_at FU v4 x2 hx2 h1) zM4_34 zMs_FB_at ⟨by decide, by decide⟩ rfl rfl rfl (rest := []) (Nat.le_of_ble_eq_true rfl) ⟨Nat.le_of_ble_eq_true rfl, Nat.le_of_ble_eq_true rfl⟩ rfl dX4_cartOf_27) (fun v5 hv5 => ?_)
        exact z_iretp hC hv5 hr dX4_cartOf_30
      · refine z_iinc (lo' := fun v6 => [(2, .int (zi v6)), (0, .ref x0), (1, .int (zi x1))]) hC 2 dX4_cartOf_31 rfl (by decide) (fun _ => rfl) (fun v6 hv6 => ?_)
        refine z_goto (tgt := 2) hC dX4_cartOf_34 (by decide) ?_
        refine z_sub hC [1, 2, 0] (lo' := [(0, .ref x0), (1, .int (zi x1)), (2, .int (zi v6))]) rfl ?_
        exact ih x0 x1 v6 hx1 hv6
    · refine z_iconst hC dX4_cartOf_37 ?_
      exact z_iretp hC (by decide) hr dX4_cartOf_38
set_option maxRecDepth 100000 in
theorem SPacker_cartOf {l : Launch} {D : va_G} {aC : Nat → ClassId} (FU : Nat) (this : Nat) (p1 : Int) (hp1 : zInI p1) {G : Hp} {r1 : Int} (h1 : FPacker_cartOf FU this p1 G = some r1) : Met l yX4_cartOf (Cond.code yX4_cartOf cX4_cartOf 3 (some .int) :: zgood) ({ frames := 2, cells := 0, slots := 0, locals := 45 } : Room) (va_Pc [.ref this, .int (zi p1)] (zU D aC G)) (zQ D aC G (zInI r1) (some (.int (zi r1))) G) 0 0 (zA G) := by
  refine z_met (y := yX4_cartOf) (b := cX4_cartOf) (maxL := 3) (mc := 0) (ms := 0) (ret := (some .int)) (As := [.ref this, .int (zi p1)]) (Q1 := fun r1 => zQ D aC G (zInI r1) (some (.int (zi r1))) G) (X := FPacker_cartOf FU this p1 G) (by decide) (Nat.le_of_ble_eq_true rfl) ?_ h1
  intro p e s m below meth c hC hr hi
  have hC : zC p m c meth s ([.ref this, .int (zi p1)] : List Value).toArray cX4_cartOf 3 RX4 D aC := hC
  generalize ([.ref this, .int (zi p1)] : List Value).toArray = args at hC ⊢
  show zS p l e ({ frames := 2, cells := 0, slots := 0, locals := 45 } : Room) s m args below meth c D aC G (fun r1 => zfI D aC G below args s 0 0 (r1, G)) 3 0 0 (FPacker_cartOf FU this p1 G) G 0 [(0, .ref this), (1, .int (zi p1))] []
  unfold FPacker_cartOf
  refine z_gd ?_
  unfold FPacker_cartOf_b
  refine z_iconst hC dX4_cartOf_0 ?_
  refine z_istore_n (lo' := [(2, .int (zi (0))), (0, .ref this), (1, .int (zi p1))]) hC dX4_cartOf_1 rfl (by decide) rfl ?_
  refine z_sub hC [1, 2, 0] (lo' := [(0, .ref this), (1, .int (zi p1)), (2, .int (zi (0)))]) rfl ?_
  exact SPacker_cartOf_L2 hC hr FU FU this p1 (0) hp1 (by decide)
theorem SPacker_cartOf_k {FU : Nat} {this : Nat} {p1 : Int} {G : Hp} {r1 : Int} (h1 : FPacker_cartOf FU this p1 G = some r1) : zk G this = some (4, 0) := zgd_k (k := FPacker_cartOf_b FU this p1 G) h1

set_option maxRecDepth 100000 in
theorem SReader_init {l : Launch} {D : va_G} {aC : Nat → ClassId} (FU : Nat) (this : Nat) {G : Hp} {r1 : (Unit × Hp)} (h1 : FReader_init FU this G = some r1) : Met l yX5_init (Cond.code yX5_init cX5_init 1 none :: zgood) ({ frames := 1, cells := 1, slots := 120, locals := 24 } : Room) (va_Pc [.ref this] (zU D aC G)) (zQ D aC G (True) (none) r1.2) 1 120 (zA G) := by
  refine z_met (y := yX5_init) (b := cX5_init) (maxL := 1) (mc := 1) (ms := 120) (ret := none) (As := [.ref this]) (Q1 := fun r1 => zQ D aC G (True) (none) r1.2) (X := FReader_init FU this G) (by decide) (Nat.le_of_ble_eq_true rfl) ?_ h1
  intro p e s m below meth c hC hr hi
  have hC : zC p m c meth s ([.ref this] : List Value).toArray cX5_init 1 RX5 D aC := hC
  generalize ([.ref this] : List Value).toArray = args at hC ⊢
  show zS p l e ({ frames := 1, cells := 1, slots := 120, locals := 24 } : Room) s m args below meth c D aC G (zfV D aC G below args s 1 120) 1 0 0 (FReader_init FU this G) G 0 [(0, .ref this)] []
  unfold FReader_init
  refine z_aload_n hC 0 rfl dX5_init_0 rfl ?_
  refine z_objInit hC zO5_3 ⟨by decide, by decide⟩ ⟨by decide, by decide⟩ dX5_init_1 ?_
  refine z_aload_n hC 0 rfl dX5_init_4 rfl ?_
  refine z_bipush hC dX5_init_5 rfl ?_
  refine z_newarr20 hC 120 rfl (by decide) (zgood_in 155 (by decide +kernel) (by decide +kernel)) (by decide) (by decide) dX5_init_7 (fun a1 G2 => ?_)
  refine z_widen (k := 1) (n := 120) (by decide) (by decide) ?_
  refine z_putR hC zF5_9 rfl rfl dX5_init_9 (fun G3 => ?_)
  exact z_vret hC hr dX5_init_12

set_option maxRecDepth 100000 in
theorem SReader_next {l : Launch} {D : va_G} {aC : Nat → ClassId} (FU : Nat) (this : Nat) {G : Hp} {r1 : Int} (h1 : FReader_next FU this G = some r1) : Met l yX5_next (Cond.code yX5_next cX5_next 1 (some .int) :: zgood) ({ frames := 1, cells := 0, slots := 0, locals := 24 } : Room) (va_Pc [.ref this] (zU D aC G)) (zQ D aC G (zInI r1) (some (.int (zi r1))) G) 0 0 (zA G) := by
  refine z_met (y := yX5_next) (b := cX5_next) (maxL := 1) (mc := 0) (ms := 0) (ret := (some .int)) (As := [.ref this]) (Q1 := fun r1 => zQ D aC G (zInI r1) (some (.int (zi r1))) G) (X := FReader_next FU this G) (by decide) (Nat.le_of_ble_eq_true rfl) ?_ h1
  intro p e s m below meth c hC hr hi
  have hC : zC p m c meth s ([.ref this] : List Value).toArray cX5_next 1 RX5 D aC := hC
  generalize ([.ref this] : List Value).toArray = args at hC ⊢
  show zS p l e ({ frames := 1, cells := 0, slots := 0, locals := 24 } : Room) s m args below meth c D aC G (fun r1 => zfI D aC G below args s 0 0 (r1, G)) 1 0 0 (FReader_next FU this G) G 0 [(0, .ref this)] []
  unfold FReader_next
  refine z_gd ?_
  unfold FReader_next_b
  refine z_aload_n hC 0 rfl dX5_next_0 rfl ?_
  refine z_getI hC zF5_19 rfl dX5_next_1 (fun v1 hv1 => ?_)
  refine z_if_lt (tgt := 42) hC hv1 dX5_next_4 (by decide) (fun _ => ?_) (fun _ => ?_)
  · refine z_iconst hC dX5_next_42 ?_
    exact z_iretp hC (by decide) hr dX5_next_43
  · refine z_aload_n hC 0 rfl dX5_next_7 rfl ?_
    refine z_getI hC zF5_19 rfl dX5_next_8 (fun v2 hv2 => ?_)
    refine z_aload_n hC 0 rfl dX5_next_11 rfl ?_
    refine z_getI hC zF5_15 rfl dX5_next_12 (fun v3 hv3 => ?_)
    refine z_icmp_ge (tgt := 42) hC hv2 hv3 dX5_next_15 (by decide) (fun _ => ?_) (fun _ => ?_)
    · refine z_aload_n hC 0 rfl dX5_next_18 rfl ?_
      refine z_getI hC zF5_19 rfl dX5_next_19 (fun v4 hv4 => ?_)
      refine z_aload_n hC 0 rfl dX5_next_22 rfl ?_
      refine z_getQ hC zF5_9 rfl dX5_next_23 (fun v5 => ?_)
      refine z_alen20 hC dX5_next_26 (fun v6 hv6 => ?_)
      refine z_icmp_ge (tgt := 42) hC hv4 hv6 dX5_next_27 (by decide) (fun _ => ?_) (fun _ => ?_)
      · refine z_aload_n hC 0 rfl dX5_next_30 rfl ?_
        refine z_getQ hC zF5_9 rfl dX5_next_31 (fun v7 => ?_)
        refine z_aload_n hC 0 rfl dX5_next_34 rfl ?_
        refine z_getI hC zF5_19 rfl dX5_next_35 (fun v8 hv8 => ?_)
        refine z_iald hC hv8 dX5_next_38 (fun v9 hv9 => ?_)
        refine z_goto (tgt := 43) hC dX5_next_39 (by decide) ?_
        exact z_iretp hC hv9 hr dX5_next_43
      · refine z_iconst hC dX5_next_42 ?_
        exact z_iretp hC (by decide) hr dX5_next_43
    · refine z_iconst hC dX5_next_42 ?_
      exact z_iretp hC (by decide) hr dX5_next_43
theorem SReader_next_k {FU : Nat} {this : Nat} {G : Hp} {r1 : Int} (h1 : FReader_next FU this G = some r1) : zk G this = some (5, 0) := zgd_k (k := FReader_next_b FU this G) h1

set_option maxRecDepth 100000 in
theorem SReader_readNumber_L4 {p : Program} {l : Launch} {e : Env} {s : State} {m : MethodId} {args : Array Value} {below : List Frame} {meth : Method} {c : Code} {D : va_G} {aC : Nat → ClassId} {G0 : Hp} (hC : zC p m c meth s args cX5_readNumber 4 RX5 D aC) (hr : meth.sig.returnType = (some .int)) (FU : Nat) : ∀ (n : Nat) (x0 : Nat) (x1 : Int) (x2 : Int) (G : Hp) (hx1 : zInI x1) (hx2 : zInI x2), zS p l e ({ frames := 2, cells := 0, slots := 0, locals := 44 } : Room) s m args below meth c D aC G0 (zfI D aC G0 below args s 0 0) 4 0 0 (FReader_readNumber_L4 FU n x0 x1 x2 G) G 4 [(0, .ref x0), (1, .int (zi x1)), (2, .int (zi x2))] [] := by
  intro n
  induction n with
  | zero => intros; exact z_none
  | succ n ih =>
    intro x0 x1 x2 G hx1 hx2
    rw [FReader_readNumber_L4]
    refine z_iload_n hC 2 rfl dX5_readNumber_4 rfl ?_
    refine z_bipush hC dX5_readNumber_5 rfl ?_
    refine z_icmp_ge (tgt := 56) hC hx2 (by decide) dX5_readNumber_7 (by decide) (fun _ => ?_) (fun _ => ?_)
    · refine z_aload_n hC 0 rfl dX5_readNumber_10 rfl ?_
      refine z_cIp (z_rV (q := x0) (t := 5) (As := []) hC (fun _ h1 => SReader_next FU x0 h1) (fun _ h1 => SReader_next_k h1) rfl rfl zM5_30 zMv_FReader_next ⟨by decide, by decide⟩ rfl rfl rfl (rest := []) (Nat.le_of_ble_eq_true rfl) ⟨Nat.le_of_ble_eq_true rfl, Nat.le_of_ble_eq_true rfl⟩ rfl dX5_readNumber_11) (fun v1 hv1 => ?_)
      refine z_istore_n (lo' := [(3, .int (zi v1)), (0, .ref x0), (1, .int (zi x1)), (2, .int (zi x2))]) hC dX5_readNumber_14 rfl (by decide) rfl ?_
      refine z_iload_n hC 0 rfl dX5_readNumber_15 rfl ?_
      refine z_bipush hC dX5_readNumber_16 rfl ?_
      refine z_icmp_lt (tgt := 56) hC hv1 (by decide) dX5_readNumber_18 (by decide) (fun _ => ?_) (fun _ => ?_)
      · refine z_iload_n hC 2 rfl dX5_readNumber_56 rfl ?_
        exact z_iret hC hx1 hr dX5_readNumber_57
      · refine z_iload_n hC 0 rfl dX5_readNumber_21 rfl ?_
        refine z_bipush hC dX5_readNumber_22 rfl ?_
        refine z_icmp_le (tgt := 30) hC hv1 (by decide) dX5_readNumber_24 (by decide) (fun _ => ?_) (fun _ => ?_)
        · refine z_iload_n hC 2 rfl dX5_readNumber_30 rfl ?_
          refine z_bipush hC dX5_readNumber_31 rfl ?_
          refine z_imulw hC dX5_readNumber_33 (fun v2 hv2 => ?_)
          refine z_iload_n hC 0 rfl dX5_readNumber_34 rfl ?_
          refine z_iaddw hC dX5_readNumber_35 (fun v3 hv3 => ?_)
          refine z_bipush hC dX5_readNumber_36 rfl ?_
          refine z_isubw hC dX5_readNumber_38 (fun v4 hv4 => ?_)
          refine z_istore_n (lo' := [(1, .int (zi v4)), (3, .int (zi v1)), (0, .ref x0), (2, .int (zi x2))]) hC dX5_readNumber_39 rfl (by decide) rfl ?_
          refine z_aload_n hC 2 rfl dX5_readNumber_40 rfl ?_
          refine z_dup hC rfl dX5_readNumber_41 ?_
          refine z_getI hC zF5_19 rfl dX5_readNumber_42 (fun v5 hv5 => ?_)
          refine z_iconst hC dX5_readNumber_45 ?_
          refine z_iadd hC dX5_readNumber_46 (fun v6 hv6 => ?_)
          refine z_putI hC hv6 zF5_19 rfl rfl dX5_readNumber_47 (fun G7 => ?_)
          refine z_iinc (lo' := fun v8 => [(2, .int (zi v8)), (1, .int (zi v4)), (3, .int (zi v1)), (0, .ref x0)]) hC 3 dX5_readNumber_50 rfl (by decide) (fun _ => rfl) (fun v8 hv8 => ?_)
          refine z_goto (tgt := 4) hC dX5_readNumber_53 (by decide) ?_
          refine z_sub hC [3, 1, 0] (lo' := [(0, .ref x0), (1, .int (zi v4)), (2, .int (zi v8))]) rfl ?_
          exact ih x0 v4 v8 G7 hv4 hv8
        · refine z_goto (tgt := 56) hC dX5_readNumber_27 (by decide) ?_
          refine z_iload_n hC 2 rfl dX5_readNumber_56 rfl ?_
          exact z_iret hC hx1 hr dX5_readNumber_57
    · refine z_iload_n hC 1 rfl dX5_readNumber_56 rfl ?_
      exact z_iret hC hx1 hr dX5_readNumber_57
set_option maxRecDepth 100000 in
theorem SReader_readNumber {l : Launch} {D : va_G} {aC : Nat → ClassId} (FU : Nat) (this : Nat) {G : Hp} {r1 : (Int × Hp)} (h1 : FReader_readNumber FU this G = some r1) : Met l yX5_readNumber (Cond.code yX5_readNumber cX5_readNumber 4 (some .int) :: zgood) ({ frames := 2, cells := 0, slots := 0, locals := 44 } : Room) (va_Pc [.ref this] (zU D aC G)) (zQ D aC G (zInI r1.1) (some (.int (zi r1.1))) r1.2) 0 0 (zA G) := by
  refine z_met (y := yX5_readNumber) (b := cX5_readNumber) (maxL := 4) (mc := 0) (ms := 0) (ret := (some .int)) (As := [.ref this]) (Q1 := fun r1 => zQ D aC G (zInI r1.1) (some (.int (zi r1.1))) r1.2) (X := FReader_readNumber FU this G) (by decide) (Nat.le_of_ble_eq_true rfl) ?_ h1
  intro p e s m below meth c hC hr hi
  have hC : zC p m c meth s ([.ref this] : List Value).toArray cX5_readNumber 4 RX5 D aC := hC
  generalize ([.ref this] : List Value).toArray = args at hC ⊢
  show zS p l e ({ frames := 2, cells := 0, slots := 0, locals := 44 } : Room) s m args below meth c D aC G (zfI D aC G below args s 0 0) 4 0 0 (FReader_readNumber FU this G) G 0 [(0, .ref this)] []
  unfold FReader_readNumber
  refine z_gd ?_
  unfold FReader_readNumber_b
  refine z_iconst hC dX5_readNumber_0 ?_
  refine z_istore_n (lo' := [(1, .int (zi (0))), (0, .ref this)]) hC dX5_readNumber_1 rfl (by decide) rfl ?_
  refine z_iconst hC dX5_readNumber_2 ?_
  refine z_istore_n (lo' := [(2, .int (zi (0))), (1, .int (zi (0))), (0, .ref this)]) hC dX5_readNumber_3 rfl (by decide) rfl ?_
  refine z_sub hC [2, 1, 0] (lo' := [(0, .ref this), (1, .int (zi (0))), (2, .int (zi (0)))]) rfl ?_
  exact SReader_readNumber_L4 hC hr FU FU this (0) (0) G (by decide) (by decide)
theorem SReader_readNumber_k {FU : Nat} {this : Nat} {G : Hp} {r1 : (Int × Hp)} (h1 : FReader_readNumber FU this G = some r1) : zk G this = some (5, 0) := zgd_k (k := FReader_readNumber_b FU this G) h1

set_option maxRecDepth 100000 in
theorem SReader_expect {l : Launch} {D : va_G} {aC : Nat → ClassId} (FU : Nat) (this : Nat) (p1 : Int) (hp1 : zInI p1) {G : Hp} {r1 : (Unit × Hp)} (h1 : FReader_expect FU this p1 G = some r1) : Met l yX5_expect (Cond.code yX5_expect cX5_expect 2 none :: zgood) ({ frames := 2, cells := 0, slots := 0, locals := 44 } : Room) (va_Pc [.ref this, .int (zi p1)] (zU D aC G)) (zQ D aC G (True) (none) r1.2) 0 0 (zA G) := by
  refine z_met (y := yX5_expect) (b := cX5_expect) (maxL := 2) (mc := 0) (ms := 0) (ret := none) (As := [.ref this, .int (zi p1)]) (Q1 := fun r1 => zQ D aC G (True) (none) r1.2) (X := FReader_expect FU this p1 G) (by decide) (Nat.le_of_ble_eq_true rfl) ?_ h1
  intro p e s m below meth c hC hr hi
  have hC : zC p m c meth s ([.ref this, .int (zi p1)] : List Value).toArray cX5_expect 2 RX5 D aC := hC
  generalize ([.ref this, .int (zi p1)] : List Value).toArray = args at hC ⊢
  show zS p l e ({ frames := 2, cells := 0, slots := 0, locals := 44 } : Room) s m args below meth c D aC G (zfV D aC G below args s 0 0) 2 0 0 (FReader_expect FU this p1 G) G 0 [(0, .ref this), (1, .int (zi p1))] []
  unfold FReader_expect
  refine z_gd ?_
  unfold FReader_expect_b
  refine z_aload_n hC 0 rfl dX5_expect_0 rfl ?_
  refine z_getZ hC zF5_22 rfl dX5_expect_1 (fun v1 hv1 => ?_)
  refine z_if_eq (tgt := 8) hC (hv1).i dX5_expect_4 (by decide) (fun _ => ?_) (fun _ => ?_)
  · refine z_aload_n hC 0 rfl dX5_expect_8 rfl ?_
    refine z_cIp (z_rV (q := this) (t := 5) (As := []) hC (fun _ h1 => SReader_next FU this h1) (fun _ h1 => SReader_next_k h1) rfl rfl zM5_30 zMv_FReader_next ⟨by decide, by decide⟩ rfl rfl rfl (rest := []) (Nat.le_of_ble_eq_true rfl) ⟨Nat.le_of_ble_eq_true rfl, Nat.le_of_ble_eq_true rfl⟩ rfl dX5_expect_9) (fun v2 hv2 => ?_)
    refine z_iload_n hC 1 rfl dX5_expect_12 rfl ?_
    refine z_icmp_ne (tgt := 29) hC hv2 hp1 dX5_expect_13 (by decide) (fun _ => ?_) (fun _ => ?_)
    · refine z_aload_n hC 0 rfl dX5_expect_16 rfl ?_
      refine z_dup hC rfl dX5_expect_17 ?_
      refine z_getI hC zF5_19 rfl dX5_expect_18 (fun v3 hv3 => ?_)
      refine z_iconst hC dX5_expect_21 ?_
      refine z_iadd hC dX5_expect_22 (fun v4 hv4 => ?_)
      refine z_putI hC hv4 zF5_19 rfl rfl dX5_expect_23 (fun G5 => ?_)
      refine z_goto (tgt := 34) hC dX5_expect_26 (by decide) ?_
      exact z_vret hC hr dX5_expect_34
    · refine z_aload_n hC 0 rfl dX5_expect_29 rfl ?_
      refine z_iconst hC dX5_expect_30 ?_
      refine z_putZ hC zF5_22 rfl rfl dX5_expect_31 (fun G6 => ?_)
      exact z_vret hC hr dX5_expect_34
  · exact z_vret hC hr dX5_expect_7
theorem SReader_expect_k {FU : Nat} {this : Nat} {p1 : Int} {G : Hp} {r1 : (Unit × Hp)} (h1 : FReader_expect FU this p1 G = some r1) : zk G this = some (5, 0) := zgd_k (k := FReader_expect_b FU this p1 G) h1

set_option maxRecDepth 100000 in
theorem SReader_readName {l : Launch} {D : va_G} {aC : Nat → ClassId} (FU : Nat) (this : Nat) (p1 : Int) (hp1 : zInI p1) {G : Hp} {r1 : (Int × Hp)} (h1 : FReader_readName FU this p1 G = some r1) : Met l yX5_readName (Cond.code yX5_readName cX5_readName 2 (some .int) :: zgood) ({ frames := 1, cells := 0, slots := 0, locals := 24 } : Room) (va_Pc [.ref this, .int (zi p1)] (zU D aC G)) (zQ D aC G (zInI r1.1) (some (.int (zi r1.1))) r1.2) 0 0 (zA G) := by
  refine z_met (y := yX5_readName) (b := cX5_readName) (maxL := 2) (mc := 0) (ms := 0) (ret := (some .int)) (As := [.ref this, .int (zi p1)]) (Q1 := fun r1 => zQ D aC G (zInI r1.1) (some (.int (zi r1.1))) r1.2) (X := FReader_readName FU this p1 G) (by decide) (Nat.le_of_ble_eq_true rfl) ?_ h1
  intro p e s m below meth c hC hr hi
  have hC : zC p m c meth s ([.ref this, .int (zi p1)] : List Value).toArray cX5_readName 2 RX5 D aC := hC
  generalize ([.ref this, .int (zi p1)] : List Value).toArray = args at hC ⊢
  show zS p l e ({ frames := 1, cells := 0, slots := 0, locals := 24 } : Room) s m args below meth c D aC G (zfI D aC G below args s 0 0) 2 0 0 (FReader_readName FU this p1 G) G 0 [(0, .ref this), (1, .int (zi p1))] []
  unfold FReader_readName
  refine z_gd ?_
  unfold FReader_readName_b
  refine z_aload_n hC 0 rfl dX5_readName_0 rfl ?_
  refine z_dup hC rfl dX5_readName_1 ?_
  refine z_getI hC zF5_19 rfl dX5_readName_2 (fun v1 hv1 => ?_)
  refine z_iconst hC dX5_readName_5 ?_
  refine z_iadd hC dX5_readName_6 (fun v2 hv2 => ?_)
  refine z_putI hC hv2 zF5_19 rfl rfl dX5_readName_7 (fun G3 => ?_)
  refine z_iload_n hC 1 rfl dX5_readName_10 rfl ?_
  refine z_lookIf (tgt := 65) hC hp1 dX5_readName_11 102 (by decide) rfl (by decide) (fun _ => ?_) (fun hsw102 => ?_)
  · refine z_aload_n hC 0 rfl dX5_readName_65 rfl ?_
    refine z_getI hC zF5_61 rfl dX5_readName_66 (fun v4 hv4 => ?_)
    exact z_iret hC hv4 hr dX5_readName_69
  refine z_lookIf (tgt := 70) hC hp1 dX5_readName_11 109 (by decide) rfl (by decide) (fun _ => ?_) (fun hsw109 => ?_)
  · refine z_aload_n hC 0 rfl dX5_readName_70 rfl ?_
    refine z_getI hC zF5_64 rfl dX5_readName_71 (fun v5 hv5 => ?_)
    exact z_iret hC hv5 hr dX5_readName_74
  refine z_lookIf (tgt := 80) hC hp1 dX5_readName_11 115 (by decide) rfl (by decide) (fun _ => ?_) (fun hsw115 => ?_)
  · refine z_aload_n hC 0 rfl dX5_readName_80 rfl ?_
    refine z_getI hC zF5_70 rfl dX5_readName_81 (fun v6 hv6 => ?_)
    exact z_iret hC hv6 hr dX5_readName_84
  refine z_lookIf (tgt := 60) hC hp1 dX5_readName_11 116 (by decide) rfl (by decide) (fun _ => ?_) (fun hsw116 => ?_)
  · refine z_aload_n hC 0 rfl dX5_readName_60 rfl ?_
    refine z_getI hC zF5_58 rfl dX5_readName_61 (fun v7 hv7 => ?_)
    exact z_iret hC hv7 hr dX5_readName_64
  refine z_lookIf (tgt := 75) hC hp1 dX5_readName_11 121 (by decide) rfl (by decide) (fun _ => ?_) (fun hsw121 => ?_)
  · refine z_aload_n hC 0 rfl dX5_readName_75 rfl ?_
    refine z_getI hC zF5_67 rfl dX5_readName_76 (fun v8 hv8 => ?_)
    exact z_iret hC hv8 hr dX5_readName_79
  refine z_lookDef (tgt := 85) hC hp1 dX5_readName_11 (by decide) (by simp only [Op.lookupswitch.offset, List.find?]; first | rfl | simp [hsw102, Ne.symm hsw102, hsw109, Ne.symm hsw109, hsw115, Ne.symm hsw115, hsw116, Ne.symm hsw116, hsw121, Ne.symm hsw121]) (by decide) ?_
  refine z_aload_n hC 0 rfl dX5_readName_85 rfl ?_
  refine z_dup hC rfl dX5_readName_86 ?_
  refine z_getI hC zF5_19 rfl dX5_readName_87 (fun v9 hv9 => ?_)
  refine z_iconst hC dX5_readName_90 ?_
  refine z_isub hC dX5_readName_91 (fun v10 hv10 => ?_)
  refine z_putI hC hv10 zF5_19 rfl rfl dX5_readName_92 (fun G11 => ?_)
  refine z_aload_n hC 0 rfl dX5_readName_95 rfl ?_
  refine z_iconst hC dX5_readName_96 ?_
  refine z_putZ hC zF5_22 rfl rfl dX5_readName_97 (fun G12 => ?_)
  refine z_iconst hC dX5_readName_100 ?_
  exact z_iret hC (by decide) hr dX5_readName_101
theorem SReader_readName_k {FU : Nat} {this : Nat} {p1 : Int} {G : Hp} {r1 : (Int × Hp)} (h1 : FReader_readName FU this p1 G = some r1) : zk G this = some (5, 0) := zgd_k (k := FReader_readName_b FU this p1 G) h1

set_option maxRecDepth 100000 in
theorem SReader_readOperand_B69 {p : Program} {l : Launch} {e : Env} {s : State} {m : MethodId} {args : Array Value} {below : List Frame} {meth : Method} {c : Code} {D : va_G} {aC : Nat → ClassId} {G0 : Hp} (hC : zC p m c meth s args cX5_readOperand 4 RX5 D aC) (hr : meth.sig.returnType = (some .int)) (FU : Nat) (rec : Nat → Int → Hp → Option (Int × Hp)) (rr : Room) (hrr : rr.cells = 0 ∧ rr.slots = 0) (hrec : ∀ (this : Nat) (p1 : Int), zInI p1 → ∀ (G : Hp) (r1 : (Int × Hp)), rec this p1 G = some r1 → Met l yX5_readSum (Cond.code yX5_readSum cX5_readSum 6 (some .int) :: zgood) rr (va_Pc [.ref this, .int (zi p1)] (zU D aC G)) (zQ D aC G (zInI r1.1) (some (.int (zi r1.1))) r1.2) 0 0 (zA G)) (hreck : ∀ (this : Nat) (p1 : Int) (G : Hp) (r1 : (Int × Hp)), rec this p1 G = some r1 → zk G this = some (5, 0)) (x0 : Nat) (x2 : Int) (G : Hp) (hx2 : zInI x2) : zS p l e ({ frames := rr.frames + 3, cells := 0, slots := 0, locals := rr.locals + 67 } : Room) s m args below meth c D aC G0 (zfI D aC G0 below args s 0 0) 4 0 0 (FReader_readOperand_B69 FU rec x0 x2 G) G 69 [(0, .ref x0), (2, .int (zi x2))] [] := by
  unfold FReader_readOperand_B69
  refine z_aload_n hC 0 rfl dX5_readOperand_69 rfl ?_
  refine z_iload_n hC 1 rfl dX5_readOperand_70 rfl ?_
  refine z_cI (z_rV (q := x0) (t := 5) (As := [.int (zi x2)]) hC (fun _ h1 => SReader_readName FU x0 x2 hx2 h1) (fun _ h1 => SReader_readName_k h1) rfl rfl zM5_55 zMv_FReader_readName ⟨show 1 + 1 ≤ rr.frames + 3 by omega, show 8 + (2 + 11) + 24 ≤ rr.locals + 67 by omega⟩ rfl rfl rfl (rest := []) (Nat.le_of_ble_eq_true rfl) ⟨Nat.le_of_ble_eq_true rfl, Nat.le_of_ble_eq_true rfl⟩ rfl dX5_readOperand_71) (fun v2 G1 hv2 => ?_)
  exact z_iret hC hv2 hr dX5_readOperand_74
set_option maxRecDepth 100000 in
theorem SReader_readOperand_B31 {p : Program} {l : Launch} {e : Env} {s : State} {m : MethodId} {args : Array Value} {below : List Frame} {meth : Method} {c : Code} {D : va_G} {aC : Nat → ClassId} {G0 : Hp} (hC : zC p m c meth s args cX5_readOperand 4 RX5 D aC) (hr : meth.sig.returnType = (some .int)) (FU : Nat) (rec : Nat → Int → Hp → Option (Int × Hp)) (rr : Room) (hrr : rr.cells = 0 ∧ rr.slots = 0) (hrec : ∀ (this : Nat) (p1 : Int), zInI p1 → ∀ (G : Hp) (r1 : (Int × Hp)), rec this p1 G = some r1 → Met l yX5_readSum (Cond.code yX5_readSum cX5_readSum 6 (some .int) :: zgood) rr (va_Pc [.ref this, .int (zi p1)] (zU D aC G)) (zQ D aC G (zInI r1.1) (some (.int (zi r1.1))) r1.2) 0 0 (zA G)) (hreck : ∀ (this : Nat) (p1 : Int) (G : Hp) (r1 : (Int × Hp)), rec this p1 G = some r1 → zk G this = some (5, 0)) (x0 : Nat) (x1 : Int) (x2 : Int) (G : Hp) (hx1 : zInI x1) (hx2 : zInI x2) : zS p l e ({ frames := rr.frames + 3, cells := 0, slots := 0, locals := rr.locals + 67 } : Room) s m args below meth c D aC G0 (zfI D aC G0 below args s 0 0) 4 0 0 (FReader_readOperand_B31 FU rec x0 x1 x2 G) G 31 [(0, .ref x0), (1, .int (zi x1)), (2, .int (zi x2))] [] := by
  unfold FReader_readOperand_B31
  refine z_iload_n hC 2 rfl dX5_readOperand_31 rfl ?_
  refine z_bipush hC dX5_readOperand_32 rfl ?_
  refine z_icmp_ne (tgt := 69) hC hx2 (by decide) dX5_readOperand_34 (by decide) (fun _ => ?_) (fun _ => ?_)
  · refine z_iload_n hC 1 rfl dX5_readOperand_37 rfl ?_
    refine z_bipush hC dX5_readOperand_38 rfl ?_
    refine z_icmp_ge (tgt := 69) hC hx1 (by decide) dX5_readOperand_40 (by decide) (fun _ => ?_) (fun _ => ?_)
    · refine z_aload_n hC 0 rfl dX5_readOperand_43 rfl ?_
      refine z_dup hC rfl dX5_readOperand_44 ?_
      refine z_getI hC zF5_19 rfl dX5_readOperand_45 (fun v1 hv1 => ?_)
      refine z_iconst hC dX5_readOperand_48 ?_
      refine z_iadd hC dX5_readOperand_49 (fun v2 hv2 => ?_)
      refine z_putI hC hv2 zF5_19 rfl rfl dX5_readOperand_50 (fun G3 => ?_)
      refine z_aload_n hC 0 rfl dX5_readOperand_53 rfl ?_
      refine z_iload_n hC 1 rfl dX5_readOperand_54 rfl ?_
      refine z_iconst hC dX5_readOperand_55 ?_
      refine z_iadd hC dX5_readOperand_56 (fun v4 hv4 => ?_)
      refine z_cI (z_rV (q := x0) (t := 5) (As := [.int (zi v4)]) hC (fun _ h1 => hrec x0 v4 hv4 G3 _ h1) (fun _ h1 => hreck x0 v4 G3 _ h1) rfl rfl zM5_26 zMv_FReader_readSum ⟨show rr.frames + 1 ≤ rr.frames + 3 by omega, show 8 + (6 + 11) + rr.locals ≤ rr.locals + 67 by omega⟩ hrr.1 hrr.2 rfl (rest := []) (Nat.le_of_ble_eq_true rfl) ⟨Nat.le_of_ble_eq_true rfl, Nat.le_of_ble_eq_true rfl⟩ rfl dX5_readOperand_57) (fun v6 G5 hv6 => ?_)
      refine z_istore_n (lo' := [(3, .int (zi v6)), (0, .ref x0), (1, .int (zi x1)), (2, .int (zi x2))]) hC dX5_readOperand_60 rfl (by decide) rfl ?_
      refine z_aload_n hC 1 rfl dX5_readOperand_61 rfl ?_
      refine z_bipush hC dX5_readOperand_62 rfl ?_
      refine z_cV (z_rV (q := x0) (t := 5) (As := [.int (zi (41))]) hC (fun _ h1 => SReader_expect FU x0 (41) (by decide) h1) (fun _ h1 => SReader_expect_k h1) rfl rfl zM5_38 zMv_FReader_expect ⟨show 2 + 1 ≤ rr.frames + 3 by omega, show 8 + (2 + 11) + 44 ≤ rr.locals + 67 by omega⟩ rfl rfl rfl (rest := []) (Nat.le_of_ble_eq_true rfl) ⟨Nat.le_of_ble_eq_true rfl, Nat.le_of_ble_eq_true rfl⟩ rfl dX5_readOperand_64) (fun G7 => ?_)
      refine z_iload_n hC 0 rfl dX5_readOperand_67 rfl ?_
      exact z_iret hC hv6 hr dX5_readOperand_68
    · refine z_sub hC [0, 2] (lo' := [(0, .ref x0), (2, .int (zi x2))]) rfl ?_
      exact SReader_readOperand_B69 hC hr FU rec rr hrr hrec hreck x0 x2 G hx2
  · refine z_sub hC [0, 2] (lo' := [(0, .ref x0), (2, .int (zi x2))]) rfl ?_
    exact SReader_readOperand_B69 hC hr FU rec rr hrr hrec hreck x0 x2 G hx2
set_option maxRecDepth 100000 in
theorem SReader_readOperand {l : Launch} {D : va_G} {aC : Nat → ClassId} (FU : Nat) (rec : Nat → Int → Hp → Option (Int × Hp)) (rr : Room) (hrr : rr.cells = 0 ∧ rr.slots = 0) (hrec : ∀ (this : Nat) (p1 : Int), zInI p1 → ∀ (G : Hp) (r1 : (Int × Hp)), rec this p1 G = some r1 → Met l yX5_readSum (Cond.code yX5_readSum cX5_readSum 6 (some .int) :: zgood) rr (va_Pc [.ref this, .int (zi p1)] (zU D aC G)) (zQ D aC G (zInI r1.1) (some (.int (zi r1.1))) r1.2) 0 0 (zA G)) (hreck : ∀ (this : Nat) (p1 : Int) (G : Hp) (r1 : (Int × Hp)), rec this p1 G = some r1 → zk G this = some (5, 0)) (this : Nat) (p1 : Int) (hp1 : zInI p1) {G : Hp} {r1 : (Int × Hp)} (h1 : FReader_readOperand FU rec this p1 G = some r1) : Met l yX5_readOperand (Cond.code yX5_readOperand cX5_readOperand 4 (some .int) :: zgood) ({ frames := rr.frames + 3, cells := 0, slots := 0, locals := rr.locals + 67 } : Room) (va_Pc [.ref this, .int (zi p1)] (zU D aC G)) (zQ D aC G (zInI r1.1) (some (.int (zi r1.1))) r1.2) 0 0 (zA G) := by
  refine z_met (y := yX5_readOperand) (b := cX5_readOperand) (maxL := 4) (mc := 0) (ms := 0) (ret := (some .int)) (As := [.ref this, .int (zi p1)]) (Q1 := fun r1 => zQ D aC G (zInI r1.1) (some (.int (zi r1.1))) r1.2) (X := FReader_readOperand FU rec this p1 G) (by decide) (Nat.le_of_ble_eq_true rfl) ?_ h1
  intro p e s m below meth c hC hr hi
  have hC : zC p m c meth s ([.ref this, .int (zi p1)] : List Value).toArray cX5_readOperand 4 RX5 D aC := hC
  generalize ([.ref this, .int (zi p1)] : List Value).toArray = args at hC ⊢
  show zS p l e ({ frames := rr.frames + 3, cells := 0, slots := 0, locals := rr.locals + 67 } : Room) s m args below meth c D aC G (zfI D aC G below args s 0 0) 4 0 0 (FReader_readOperand FU rec this p1 G) G 0 [(0, .ref this), (1, .int (zi p1))] []
  unfold FReader_readOperand
  refine z_gd ?_
  unfold FReader_readOperand_b
  refine z_aload_n hC 0 rfl dX5_readOperand_0 rfl ?_
  refine z_getZ hC zF5_22 rfl dX5_readOperand_1 (fun v1 hv1 => ?_)
  refine z_if_eq (tgt := 9) hC (hv1).i dX5_readOperand_4 (by decide) (fun _ => ?_) (fun _ => ?_)
  · refine z_aload_n hC 0 rfl dX5_readOperand_9 rfl ?_
    refine z_cIp (z_rV (q := this) (t := 5) (As := []) hC (fun _ h1 => SReader_next FU this h1) (fun _ h1 => SReader_next_k h1) rfl rfl zM5_30 zMv_FReader_next ⟨show 1 + 1 ≤ rr.frames + 3 by omega, show 8 + (1 + 11) + 24 ≤ rr.locals + 67 by omega⟩ rfl rfl rfl (rest := []) (Nat.le_of_ble_eq_true rfl) ⟨Nat.le_of_ble_eq_true rfl, Nat.le_of_ble_eq_true rfl⟩ rfl dX5_readOperand_10) (fun v2 hv2 => ?_)
    refine z_istore_n (lo' := [(2, .int (zi v2)), (0, .ref this), (1, .int (zi p1))]) hC dX5_readOperand_13 rfl (by decide) rfl ?_
    refine z_iload_n hC 0 rfl dX5_readOperand_14 rfl ?_
    refine z_bipush hC dX5_readOperand_15 rfl ?_
    refine z_icmp_lt (tgt := 31) hC hv2 (by decide) dX5_readOperand_17 (by decide) (fun _ => ?_) (fun _ => ?_)
    · refine z_sub hC [1, 2, 0] (lo' := [(0, .ref this), (1, .int (zi p1)), (2, .int (zi v2))]) rfl ?_
      exact SReader_readOperand_B31 hC hr FU rec rr hrr hrec hreck this p1 v2 G hp1 hv2
    · refine z_iload_n hC 0 rfl dX5_readOperand_20 rfl ?_
      refine z_bipush hC dX5_readOperand_21 rfl ?_
      refine z_icmp_gt (tgt := 31) hC hv2 (by decide) dX5_readOperand_23 (by decide) (fun _ => ?_) (fun _ => ?_)
      · refine z_aload_n hC 1 rfl dX5_readOperand_26 rfl ?_
        refine z_cI (z_rV (q := this) (t := 5) (As := []) hC (fun _ h1 => SReader_readNumber FU this h1) (fun _ h1 => SReader_readNumber_k h1) rfl rfl zM5_52 zMv_FReader_readNumber ⟨show 2 + 1 ≤ rr.frames + 3 by omega, show 8 + (4 + 11) + 44 ≤ rr.locals + 67 by omega⟩ rfl rfl rfl (rest := []) (Nat.le_of_ble_eq_true rfl) ⟨Nat.le_of_ble_eq_true rfl, Nat.le_of_ble_eq_true rfl⟩ rfl dX5_readOperand_27) (fun v4 G3 hv4 => ?_)
        exact z_iret hC hv4 hr dX5_readOperand_30
      · refine z_sub hC [1, 2, 0] (lo' := [(0, .ref this), (1, .int (zi p1)), (2, .int (zi v2))]) rfl ?_
        exact SReader_readOperand_B31 hC hr FU rec rr hrr hrec hreck this p1 v2 G hp1 hv2
  · refine z_iconst hC dX5_readOperand_7 ?_
    exact z_iret hC (by decide) hr dX5_readOperand_8
theorem SReader_readOperand_k {FU : Nat} {rec : Nat → Int → Hp → Option (Int × Hp)} {this : Nat} {p1 : Int} {G : Hp} {r1 : (Int × Hp)} (h1 : FReader_readOperand FU rec this p1 G = some r1) : zk G this = some (5, 0) := zgd_k (k := FReader_readOperand_b FU rec this p1 G) h1

set_option maxRecDepth 100000 in
theorem SReader_divide {l : Launch} {D : va_G} {aC : Nat → ClassId} (FU : Nat) (p1 : Int) (p2 : Int) (hp1 : zInI p1) (hp2 : zInI p2) {G : Hp} {r1 : Int} (h1 : FReader_divide FU p1 p2 G = some r1) : Met l yX5_divide (Cond.code yX5_divide cX5_divide 2 (some .int) :: zgood) ({ frames := 1, cells := 0, slots := 0, locals := 24 } : Room) (va_Pc [.int (zi p1), .int (zi p2)] (zU D aC G)) (zQ D aC G (zInI r1) (some (.int (zi r1))) G) 0 0 (zA G) := by
  refine z_met (y := yX5_divide) (b := cX5_divide) (maxL := 2) (mc := 0) (ms := 0) (ret := (some .int)) (As := [.int (zi p1), .int (zi p2)]) (Q1 := fun r1 => zQ D aC G (zInI r1) (some (.int (zi r1))) G) (X := FReader_divide FU p1 p2 G) (by decide) (Nat.le_of_ble_eq_true rfl) ?_ h1
  intro p e s m below meth c hC hr hi
  have hC : zC p m c meth s ([.int (zi p1), .int (zi p2)] : List Value).toArray cX5_divide 2 RX5 D aC := hC
  generalize ([.int (zi p1), .int (zi p2)] : List Value).toArray = args at hC ⊢
  show zS p l e ({ frames := 1, cells := 0, slots := 0, locals := 24 } : Room) s m args below meth c D aC G (fun r1 => zfI D aC G below args s 0 0 (r1, G)) 2 0 0 (FReader_divide FU p1 p2 G) G 0 [(0, .int (zi p1)), (1, .int (zi p2))] []
  unfold FReader_divide
  refine z_iload_n hC 1 rfl dX5_divide_0 rfl ?_
  refine z_if_ne (tgt := 8) hC hp2 dX5_divide_1 (by decide) (fun _ => ?_) (fun _ => ?_)
  · refine z_iconst hC dX5_divide_4 ?_
    refine z_goto (tgt := 11) hC dX5_divide_5 (by decide) ?_
    exact z_iretp hC (by decide) hr dX5_divide_11
  · refine z_iload_n hC 0 rfl dX5_divide_8 rfl ?_
    refine z_iload_n hC 1 rfl dX5_divide_9 rfl ?_
    refine z_idivw hC hp1 hp2 dX5_divide_10 (fun v1 hv1 => ?_)
    exact z_iretp hC hv1 hr dX5_divide_11

set_option maxRecDepth 100000 in
theorem SReader_readProduct_B46 {p : Program} {l : Launch} {e : Env} {s : State} {m : MethodId} {args : Array Value} {below : List Frame} {meth : Method} {c : Code} {D : va_G} {aC : Nat → ClassId} {G0 : Hp} (hC : zC p m c meth s args cX5_readProduct 6 RX5 D aC) (hr : meth.sig.returnType = (some .int)) (FU : Nat) (rec : Nat → Int → Hp → Option (Int × Hp)) (rr : Room) (hrr : rr.cells = 0 ∧ rr.slots = 0) (hrec : ∀ (this : Nat) (p1 : Int), zInI p1 → ∀ (G : Hp) (r1 : (Int × Hp)), rec this p1 G = some r1 → Met l yX5_readSum (Cond.code yX5_readSum cX5_readSum 6 (some .int) :: zgood) rr (va_Pc [.ref this, .int (zi p1)] (zU D aC G)) (zQ D aC G (zInI r1.1) (some (.int (zi r1.1))) r1.2) 0 0 (zA G)) (hreck : ∀ (this : Nat) (p1 : Int) (G : Hp) (r1 : (Int × Hp)), rec this p1 G = some r1 → zk G this = some (5, 0)) (kL8 : Nat → Int → Int → Int → Hp → Option (Int × Hp)) (hkL8 : ∀ (a0 : Nat) (a1 : Int) (a2 : Int) (a3 : Int) (G : Hp), zInI a1 → zInI a2 → zInI a3 → zS p l e ({ frames := rr.frames + 4, cells := 0, slots := 0, locals := rr.locals + 90 } : Room) s m args below meth c D aC G0 (zfI D aC G0 below args s 0 0) 6 0 0 (kL8 a0 a1 a2 a3 G) G 8 [(0, .ref a0), (1, .int (zi a1)), (2, .int (zi a2)), (3, .int (zi a3))] []) (x0 : Nat) (x1 : Int) (x2 : Int) (x3 : Int) (x4 : Int) (G : Hp) (hx1 : zInI x1) (hx2 : zInI x2) (hx3 : zInI x3) (hx4 : zInI x4) : zS p l e ({ frames := rr.frames + 4, cells := 0, slots := 0, locals := rr.locals + 90 } : Room) s m args below meth c D aC G0 (zfI D aC G0 below args s 0 0) 6 0 0 (FReader_readProduct_B46 FU rec kL8 x0 x1 x2 x3 x4 G) G 46 [(0, .ref x0), (1, .int (zi x1)), (2, .int (zi x2)), (3, .int (zi x3)), (4, .int (zi x4))] [] := by
  unfold FReader_readProduct_B46
  refine z_aload_n hC 0 rfl dX5_readProduct_46 rfl ?_
  refine z_dup hC rfl dX5_readProduct_47 ?_
  refine z_getI hC zF5_19 rfl dX5_readProduct_48 (fun v1 hv1 => ?_)
  refine z_iconst hC dX5_readProduct_51 ?_
  refine z_iadd hC dX5_readProduct_52 (fun v2 hv2 => ?_)
  refine z_putI hC hv2 zF5_19 rfl rfl dX5_readProduct_53 (fun G3 => ?_)
  refine z_aload_n hC 0 rfl dX5_readProduct_56 rfl ?_
  refine z_iload_n hC 1 rfl dX5_readProduct_57 rfl ?_
  refine z_cI (z_rV (q := x0) (t := 5) (As := [.int (zi x1)]) hC (fun _ h1 => SReader_readOperand FU rec rr hrr hrec hreck x0 x1 hx1 h1) (fun _ h1 => SReader_readOperand_k h1) rfl rfl zM5_45 zMv_FReader_readOperand ⟨show rr.frames + 3 + 1 ≤ rr.frames + 4 by omega, show 8 + (4 + 11) + (rr.locals + 67) ≤ rr.locals + 90 by omega⟩ rfl rfl rfl (rest := []) (Nat.le_of_ble_eq_true rfl) ⟨Nat.le_of_ble_eq_true rfl, Nat.le_of_ble_eq_true rfl⟩ rfl dX5_readProduct_58) (fun v5 G4 hv5 => ?_)
  refine z_istore (lo' := [(5, .int (zi v5)), (0, .ref x0), (1, .int (zi x1)), (2, .int (zi x2)), (3, .int (zi x3)), (4, .int (zi x4))]) hC dX5_readProduct_61 (by decide) rfl ?_
  refine z_iload hC 5 rfl dX5_readProduct_63 ?_
  refine z_bipush hC dX5_readProduct_65 rfl ?_
  refine z_icmp_ne (tgt := 77) hC hx4 (by decide) dX5_readProduct_67 (by decide) (fun _ => ?_) (fun _ => ?_)
  · refine z_iload_n hC 3 rfl dX5_readProduct_70 rfl ?_
    refine z_iload hC 0 rfl dX5_readProduct_71 ?_
    refine z_imulw hC dX5_readProduct_73 (fun v6 hv6 => ?_)
    refine z_goto (tgt := 83) hC dX5_readProduct_74 (by decide) ?_
    refine z_istore_n (lo' := [(2, .int (zi v6)), (5, .int (zi v5)), (0, .ref x0), (1, .int (zi x1)), (3, .int (zi x3)), (4, .int (zi x4))]) hC dX5_readProduct_83 rfl (by decide) rfl ?_
    refine z_iinc (lo' := fun v7 => [(3, .int (zi v7)), (2, .int (zi v6)), (5, .int (zi v5)), (0, .ref x0), (1, .int (zi x1)), (4, .int (zi x4))]) hC 4 dX5_readProduct_84 rfl (by decide) (fun _ => rfl) (fun v7 hv7 => ?_)
    refine z_goto (tgt := 8) hC dX5_readProduct_87 (by decide) ?_
    refine z_sub hC [3, 4, 1, 0] (lo' := [(0, .ref x0), (1, .int (zi x1)), (2, .int (zi v6)), (3, .int (zi v7))]) rfl ?_
    exact hkL8 x0 x1 v6 v7 G4 hx1 hv6 hv7
  · refine z_iload_n hC 3 rfl dX5_readProduct_77 rfl ?_
    refine z_iload hC 0 rfl dX5_readProduct_78 ?_
    refine z_cIp (z_rS (As := [.int (zi x2), .int (zi v5)]) hC (fun _ h1 => SReader_divide FU x2 v5 hx2 hv5 h1) zM5_48 zMs_FReader_divide ⟨show 1 + 1 ≤ rr.frames + 4 by omega, show 8 + (2 + 11) + 24 ≤ rr.locals + 90 by omega⟩ rfl rfl rfl (rest := []) (Nat.le_of_ble_eq_true rfl) ⟨Nat.le_of_ble_eq_true rfl, Nat.le_of_ble_eq_true rfl⟩ rfl dX5_readProduct_80) (fun v8 hv8 => ?_)
    refine z_istore_n (lo' := [(2, .int (zi v8)), (5, .int (zi v5)), (0, .ref x0), (1, .int (zi x1)), (3, .int (zi x3)), (4, .int (zi x4))]) hC dX5_readProduct_83 rfl (by decide) rfl ?_
    refine z_iinc (lo' := fun v9 => [(3, .int (zi v9)), (2, .int (zi v8)), (5, .int (zi v5)), (0, .ref x0), (1, .int (zi x1)), (4, .int (zi x4))]) hC 4 dX5_readProduct_84 rfl (by decide) (fun _ => rfl) (fun v9 hv9 => ?_)
    refine z_goto (tgt := 8) hC dX5_readProduct_87 (by decide) ?_
    refine z_sub hC [3, 4, 1, 0] (lo' := [(0, .ref x0), (1, .int (zi x1)), (2, .int (zi v8)), (3, .int (zi v9))]) rfl ?_
    exact hkL8 x0 x1 v8 v9 G4 hx1 hv8 hv9
set_option maxRecDepth 100000 in
theorem SReader_readProduct_L8 {p : Program} {l : Launch} {e : Env} {s : State} {m : MethodId} {args : Array Value} {below : List Frame} {meth : Method} {c : Code} {D : va_G} {aC : Nat → ClassId} {G0 : Hp} (hC : zC p m c meth s args cX5_readProduct 6 RX5 D aC) (hr : meth.sig.returnType = (some .int)) (FU : Nat) (rec : Nat → Int → Hp → Option (Int × Hp)) (rr : Room) (hrr : rr.cells = 0 ∧ rr.slots = 0) (hrec : ∀ (this : Nat) (p1 : Int), zInI p1 → ∀ (G : Hp) (r1 : (Int × Hp)), rec this p1 G = some r1 → Met l yX5_readSum (Cond.code yX5_readSum cX5_readSum 6 (some .int) :: zgood) rr (va_Pc [.ref this, .int (zi p1)] (zU D aC G)) (zQ D aC G (zInI r1.1) (some (.int (zi r1.1))) r1.2) 0 0 (zA G)) (hreck : ∀ (this : Nat) (p1 : Int) (G : Hp) (r1 : (Int × Hp)), rec this p1 G = some r1 → zk G this = some (5, 0)) : ∀ (n : Nat) (x0 : Nat) (x1 : Int) (x2 : Int) (x3 : Int) (G : Hp) (hx1 : zInI x1) (hx2 : zInI x2) (hx3 : zInI x3), zS p l e ({ frames := rr.frames + 4, cells := 0, slots := 0, locals := rr.locals + 90 } : Room) s m args below meth c D aC G0 (zfI D aC G0 below args s 0 0) 6 0 0 (FReader_readProduct_L8 FU rec n x0 x1 x2 x3 G) G 8 [(0, .ref x0), (1, .int (zi x1)), (2, .int (zi x2)), (3, .int (zi x3))] [] := by
  intro n
  induction n with
  | zero => intros; exact z_none
  | succ n ih =>
    intro x0 x1 x2 x3 G hx1 hx2 hx3
    rw [FReader_readProduct_L8]
    refine z_iload_n hC 3 rfl dX5_readProduct_8 rfl ?_
    refine z_aload_n hC 0 rfl dX5_readProduct_9 rfl ?_
    refine z_getI hC zF5_15 rfl dX5_readProduct_10 (fun v1 hv1 => ?_)
    refine z_icmp_ge (tgt := 90) hC hx3 hv1 dX5_readProduct_13 (by decide) (fun _ => ?_) (fun _ => ?_)
    · refine z_aload_n hC 0 rfl dX5_readProduct_16 rfl ?_
      refine z_getZ hC zF5_22 rfl dX5_readProduct_17 (fun v2 hv2 => ?_)
      refine z_if_ne (tgt := 90) hC (hv2).i dX5_readProduct_20 (by decide) (fun _ => ?_) (fun _ => ?_)
      · refine z_aload_n hC 0 rfl dX5_readProduct_23 rfl ?_
        refine z_cIp (z_rV (q := x0) (t := 5) (As := []) hC (fun _ h1 => SReader_next FU x0 h1) (fun _ h1 => SReader_next_k h1) rfl rfl zM5_30 zMv_FReader_next ⟨show 1 + 1 ≤ rr.frames + 4 by omega, show 8 + (1 + 11) + 24 ≤ rr.locals + 90 by omega⟩ rfl rfl rfl (rest := []) (Nat.le_of_ble_eq_true rfl) ⟨Nat.le_of_ble_eq_true rfl, Nat.le_of_ble_eq_true rfl⟩ rfl dX5_readProduct_24) (fun v3 hv3 => ?_)
        refine z_istore (lo' := [(4, .int (zi v3)), (0, .ref x0), (1, .int (zi x1)), (2, .int (zi x2)), (3, .int (zi x3))]) hC dX5_readProduct_27 (by decide) rfl ?_
        refine z_iload hC 0 rfl dX5_readProduct_29 ?_
        refine z_bipush hC dX5_readProduct_31 rfl ?_
        refine z_icmp_eq (tgt := 46) hC hv3 (by decide) dX5_readProduct_33 (by decide) (fun _ => ?_) (fun _ => ?_)
        · refine z_sub hC [1, 2, 3, 4, 0] (lo' := [(0, .ref x0), (1, .int (zi x1)), (2, .int (zi x2)), (3, .int (zi x3)), (4, .int (zi v3))]) rfl ?_
          exact SReader_readProduct_B46 hC hr FU rec rr hrr hrec hreck (FReader_readProduct_L8 FU rec n) ih x0 x1 x2 x3 v3 G hx1 hx2 hx3 hv3
        · refine z_iload hC 0 rfl dX5_readProduct_36 ?_
          refine z_bipush hC dX5_readProduct_38 rfl ?_
          refine z_icmp_eq (tgt := 46) hC hv3 (by decide) dX5_readProduct_40 (by decide) (fun _ => ?_) (fun _ => ?_)
          · refine z_sub hC [1, 2, 3, 4, 0] (lo' := [(0, .ref x0), (1, .int (zi x1)), (2, .int (zi x2)), (3, .int (zi x3)), (4, .int (zi v3))]) rfl ?_
            exact SReader_readProduct_B46 hC hr FU rec rr hrr hrec hreck (FReader_readProduct_L8 FU rec n) ih x0 x1 x2 x3 v3 G hx1 hx2 hx3 hv3
          · refine z_goto (tgt := 90) hC dX5_readProduct_43 (by decide) ?_
            refine z_iload_n hC 3 rfl dX5_readProduct_90 rfl ?_
            exact z_iret hC hx2 hr dX5_readProduct_91
      · refine z_iload_n hC 2 rfl dX5_readProduct_90 rfl ?_
        exact z_iret hC hx2 hr dX5_readProduct_91
    · refine z_iload_n hC 2 rfl dX5_readProduct_90 rfl ?_
      exact z_iret hC hx2 hr dX5_readProduct_91
set_option maxRecDepth 100000 in
theorem SReader_readProduct {l : Launch} {D : va_G} {aC : Nat → ClassId} (FU : Nat) (rec : Nat → Int → Hp → Option (Int × Hp)) (rr : Room) (hrr : rr.cells = 0 ∧ rr.slots = 0) (hrec : ∀ (this : Nat) (p1 : Int), zInI p1 → ∀ (G : Hp) (r1 : (Int × Hp)), rec this p1 G = some r1 → Met l yX5_readSum (Cond.code yX5_readSum cX5_readSum 6 (some .int) :: zgood) rr (va_Pc [.ref this, .int (zi p1)] (zU D aC G)) (zQ D aC G (zInI r1.1) (some (.int (zi r1.1))) r1.2) 0 0 (zA G)) (hreck : ∀ (this : Nat) (p1 : Int) (G : Hp) (r1 : (Int × Hp)), rec this p1 G = some r1 → zk G this = some (5, 0)) (this : Nat) (p1 : Int) (hp1 : zInI p1) {G : Hp} {r1 : (Int × Hp)} (h1 : FReader_readProduct FU rec this p1 G = some r1) : Met l yX5_readProduct (Cond.code yX5_readProduct cX5_readProduct 6 (some .int) :: zgood) ({ frames := rr.frames + 4, cells := 0, slots := 0, locals := rr.locals + 90 } : Room) (va_Pc [.ref this, .int (zi p1)] (zU D aC G)) (zQ D aC G (zInI r1.1) (some (.int (zi r1.1))) r1.2) 0 0 (zA G) := by
  refine z_met (y := yX5_readProduct) (b := cX5_readProduct) (maxL := 6) (mc := 0) (ms := 0) (ret := (some .int)) (As := [.ref this, .int (zi p1)]) (Q1 := fun r1 => zQ D aC G (zInI r1.1) (some (.int (zi r1.1))) r1.2) (X := FReader_readProduct FU rec this p1 G) (by decide) (Nat.le_of_ble_eq_true rfl) ?_ h1
  intro p e s m below meth c hC hr hi
  have hC : zC p m c meth s ([.ref this, .int (zi p1)] : List Value).toArray cX5_readProduct 6 RX5 D aC := hC
  generalize ([.ref this, .int (zi p1)] : List Value).toArray = args at hC ⊢
  show zS p l e ({ frames := rr.frames + 4, cells := 0, slots := 0, locals := rr.locals + 90 } : Room) s m args below meth c D aC G (zfI D aC G below args s 0 0) 6 0 0 (FReader_readProduct FU rec this p1 G) G 0 [(0, .ref this), (1, .int (zi p1))] []
  unfold FReader_readProduct
  refine z_gd ?_
  unfold FReader_readProduct_b
  refine z_aload_n hC 0 rfl dX5_readProduct_0 rfl ?_
  refine z_iload_n hC 1 rfl dX5_readProduct_1 rfl ?_
  refine z_cI (z_rV (q := this) (t := 5) (As := [.int (zi p1)]) hC (fun _ h1 => SReader_readOperand FU rec rr hrr hrec hreck this p1 hp1 h1) (fun _ h1 => SReader_readOperand_k h1) rfl rfl zM5_45 zMv_FReader_readOperand ⟨show rr.frames + 3 + 1 ≤ rr.frames + 4 by omega, show 8 + (4 + 11) + (rr.locals + 67) ≤ rr.locals + 90 by omega⟩ rfl rfl rfl (rest := []) (Nat.le_of_ble_eq_true rfl) ⟨Nat.le_of_ble_eq_true rfl, Nat.le_of_ble_eq_true rfl⟩ rfl dX5_readProduct_2) (fun v2 G1 hv2 => ?_)
  refine z_istore_n (lo' := [(2, .int (zi v2)), (0, .ref this), (1, .int (zi p1))]) hC dX5_readProduct_5 rfl (by decide) rfl ?_
  refine z_iconst hC dX5_readProduct_6 ?_
  refine z_istore_n (lo' := [(3, .int (zi (0))), (2, .int (zi v2)), (0, .ref this), (1, .int (zi p1))]) hC dX5_readProduct_7 rfl (by decide) rfl ?_
  refine z_sub hC [2, 3, 1, 0] (lo' := [(0, .ref this), (1, .int (zi p1)), (2, .int (zi v2)), (3, .int (zi (0)))]) rfl ?_
  exact SReader_readProduct_L8 hC hr FU rec rr hrr hrec hreck FU this p1 v2 (0) G1 hp1 hv2 (by decide)
theorem SReader_readProduct_k {FU : Nat} {rec : Nat → Int → Hp → Option (Int × Hp)} {this : Nat} {p1 : Int} {G : Hp} {r1 : (Int × Hp)} (h1 : FReader_readProduct FU rec this p1 G = some r1) : zk G this = some (5, 0) := zgd_k (k := FReader_readProduct_b FU rec this p1 G) h1

