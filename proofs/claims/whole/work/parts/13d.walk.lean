set_option maxRecDepth 100000 in
theorem SReader_readSum_B46 {p : Program} {l : Launch} {e : Env} {s : State} {m : MethodId} {args : Array Value} {below : List Frame} {meth : Method} {c : Code} {D : va_G} {aC : Nat → ClassId} {G0 : Hp} (hC : zC p m c meth s args cX5_readSum 6 RX5 D aC) (hr : meth.sig.returnType = (some .int)) (FU : Nat) (rec : Nat → Int → Hp → Option (Int × Hp)) (rr : Room) (hrr : rr.cells = 0 ∧ rr.slots = 0) (hrec : ∀ (this : Nat) (p1 : Int), zInI p1 → ∀ (G : Hp) (r1 : (Int × Hp)), rec this p1 G = some r1 → Met l yX5_readSum (Cond.code yX5_readSum cX5_readSum 6 (some .int) :: zgood) rr (va_Pc [.ref this, .int (zi p1)] (zU D aC G)) (zQ D aC G (zInI r1.1) (some (.int (zi r1.1))) r1.2) 0 0 (zA G)) (hreck : ∀ (this : Nat) (p1 : Int) (G : Hp) (r1 : (Int × Hp)), rec this p1 G = some r1 → zk G this = some (5, 0)) (kL8 : Nat → Int → Int → Int → Hp → Option (Int × Hp)) (hkL8 : ∀ (a0 : Nat) (a1 : Int) (a2 : Int) (a3 : Int) (G : Hp), zInI a1 → zInI a2 → zInI a3 → zS p l e ({ frames := rr.frames + 5, cells := 0, slots := 0, locals := rr.locals + 115 } : Room) s m args below meth c D aC G0 (zfI D aC G0 below args s 0 0) 6 0 0 (kL8 a0 a1 a2 a3 G) G 8 [(0, .ref a0), (1, .int (zi a1)), (2, .int (zi a2)), (3, .int (zi a3))] []) (x0 : Nat) (x1 : Int) (x2 : Int) (x3 : Int) (x4 : Int) (G : Hp) (hx1 : zInI x1) (hx2 : zInI x2) (hx3 : zInI x3) (hx4 : zInI x4) : zS p l e ({ frames := rr.frames + 5, cells := 0, slots := 0, locals := rr.locals + 115 } : Room) s m args below meth c D aC G0 (zfI D aC G0 below args s 0 0) 6 0 0 (FReader_readSum_B46 FU rec kL8 x0 x1 x2 x3 x4 G) G 46 [(0, .ref x0), (1, .int (zi x1)), (2, .int (zi x2)), (3, .int (zi x3)), (4, .int (zi x4))] [] := by
  unfold FReader_readSum_B46
  refine z_aload_n hC 0 rfl dX5_readSum_46 rfl ?_
  refine z_dup hC rfl dX5_readSum_47 ?_
  refine z_getI hC zF5_19 rfl dX5_readSum_48 (fun v1 hv1 => ?_)
  refine z_iconst hC dX5_readSum_51 ?_
  refine z_iadd hC dX5_readSum_52 (fun v2 hv2 => ?_)
  refine z_putI hC hv2 zF5_19 rfl rfl dX5_readSum_53 (fun G3 => ?_)
  refine z_aload_n hC 0 rfl dX5_readSum_56 rfl ?_
  refine z_iload_n hC 1 rfl dX5_readSum_57 rfl ?_
  refine z_cI (z_rV (q := x0) (t := 5) (As := [.int (zi x1)]) hC (fun _ h1 => SReader_readProduct FU rec rr hrr hrec hreck x0 x1 hx1 h1) (fun _ h1 => SReader_readProduct_k h1) rfl rfl zM5_42 zMv_FReader_readProduct ⟨show rr.frames + 4 + 1 ≤ rr.frames + 5 by omega, show 8 + (6 + 11) + (rr.locals + 90) ≤ rr.locals + 115 by omega⟩ rfl rfl rfl (rest := []) (Nat.le_of_ble_eq_true rfl) ⟨Nat.le_of_ble_eq_true rfl, Nat.le_of_ble_eq_true rfl⟩ rfl dX5_readSum_58) (fun v5 G4 hv5 => ?_)
  refine z_istore (lo' := [(5, .int (zi v5)), (0, .ref x0), (1, .int (zi x1)), (2, .int (zi x2)), (3, .int (zi x3)), (4, .int (zi x4))]) hC dX5_readSum_61 (by decide) rfl ?_
  refine z_iload hC 5 rfl dX5_readSum_63 ?_
  refine z_bipush hC dX5_readSum_65 rfl ?_
  refine z_icmp_ne (tgt := 77) hC hx4 (by decide) dX5_readSum_67 (by decide) (fun _ => ?_) (fun _ => ?_)
  · refine z_iload_n hC 3 rfl dX5_readSum_70 rfl ?_
    refine z_iload hC 0 rfl dX5_readSum_71 ?_
    refine z_iaddw hC dX5_readSum_73 (fun v6 hv6 => ?_)
    refine z_goto (tgt := 81) hC dX5_readSum_74 (by decide) ?_
    refine z_istore_n (lo' := [(2, .int (zi v6)), (5, .int (zi v5)), (0, .ref x0), (1, .int (zi x1)), (3, .int (zi x3)), (4, .int (zi x4))]) hC dX5_readSum_81 rfl (by decide) rfl ?_
    refine z_iinc (lo' := fun v7 => [(3, .int (zi v7)), (2, .int (zi v6)), (5, .int (zi v5)), (0, .ref x0), (1, .int (zi x1)), (4, .int (zi x4))]) hC 4 dX5_readSum_82 rfl (by decide) (fun _ => rfl) (fun v7 hv7 => ?_)
    refine z_goto (tgt := 8) hC dX5_readSum_85 (by decide) ?_
    refine z_sub hC [3, 4, 1, 0] (lo' := [(0, .ref x0), (1, .int (zi x1)), (2, .int (zi v6)), (3, .int (zi v7))]) rfl ?_
    exact hkL8 x0 x1 v6 v7 G4 hx1 hv6 hv7
  · refine z_iload_n hC 3 rfl dX5_readSum_77 rfl ?_
    refine z_iload hC 0 rfl dX5_readSum_78 ?_
    refine z_isubw hC dX5_readSum_80 (fun v8 hv8 => ?_)
    refine z_istore_n (lo' := [(2, .int (zi v8)), (5, .int (zi v5)), (0, .ref x0), (1, .int (zi x1)), (3, .int (zi x3)), (4, .int (zi x4))]) hC dX5_readSum_81 rfl (by decide) rfl ?_
    refine z_iinc (lo' := fun v9 => [(3, .int (zi v9)), (2, .int (zi v8)), (5, .int (zi v5)), (0, .ref x0), (1, .int (zi x1)), (4, .int (zi x4))]) hC 4 dX5_readSum_82 rfl (by decide) (fun _ => rfl) (fun v9 hv9 => ?_)
    refine z_goto (tgt := 8) hC dX5_readSum_85 (by decide) ?_
    refine z_sub hC [3, 4, 1, 0] (lo' := [(0, .ref x0), (1, .int (zi x1)), (2, .int (zi v8)), (3, .int (zi v9))]) rfl ?_
    exact hkL8 x0 x1 v8 v9 G4 hx1 hv8 hv9
set_option maxRecDepth 100000 in
theorem SReader_readSum_L8 {p : Program} {l : Launch} {e : Env} {s : State} {m : MethodId} {args : Array Value} {below : List Frame} {meth : Method} {c : Code} {D : va_G} {aC : Nat → ClassId} {G0 : Hp} (hC : zC p m c meth s args cX5_readSum 6 RX5 D aC) (hr : meth.sig.returnType = (some .int)) (FU : Nat) (rec : Nat → Int → Hp → Option (Int × Hp)) (rr : Room) (hrr : rr.cells = 0 ∧ rr.slots = 0) (hrec : ∀ (this : Nat) (p1 : Int), zInI p1 → ∀ (G : Hp) (r1 : (Int × Hp)), rec this p1 G = some r1 → Met l yX5_readSum (Cond.code yX5_readSum cX5_readSum 6 (some .int) :: zgood) rr (va_Pc [.ref this, .int (zi p1)] (zU D aC G)) (zQ D aC G (zInI r1.1) (some (.int (zi r1.1))) r1.2) 0 0 (zA G)) (hreck : ∀ (this : Nat) (p1 : Int) (G : Hp) (r1 : (Int × Hp)), rec this p1 G = some r1 → zk G this = some (5, 0)) : ∀ (n : Nat) (x0 : Nat) (x1 : Int) (x2 : Int) (x3 : Int) (G : Hp) (hx1 : zInI x1) (hx2 : zInI x2) (hx3 : zInI x3), zS p l e ({ frames := rr.frames + 5, cells := 0, slots := 0, locals := rr.locals + 115 } : Room) s m args below meth c D aC G0 (zfI D aC G0 below args s 0 0) 6 0 0 (FReader_readSum_L8 FU rec n x0 x1 x2 x3 G) G 8 [(0, .ref x0), (1, .int (zi x1)), (2, .int (zi x2)), (3, .int (zi x3))] [] := by
  intro n
  induction n with
  | zero => intros; exact z_none
  | succ n ih =>
    intro x0 x1 x2 x3 G hx1 hx2 hx3
    rw [FReader_readSum_L8]
    refine z_iload_n hC 3 rfl dX5_readSum_8 rfl ?_
    refine z_aload_n hC 0 rfl dX5_readSum_9 rfl ?_
    refine z_getI hC zF5_15 rfl dX5_readSum_10 (fun v1 hv1 => ?_)
    refine z_icmp_ge (tgt := 88) hC hx3 hv1 dX5_readSum_13 (by decide) (fun _ => ?_) (fun _ => ?_)
    · refine z_aload_n hC 0 rfl dX5_readSum_16 rfl ?_
      refine z_getZ hC zF5_22 rfl dX5_readSum_17 (fun v2 hv2 => ?_)
      refine z_if_ne (tgt := 88) hC (hv2).i dX5_readSum_20 (by decide) (fun _ => ?_) (fun _ => ?_)
      · refine z_aload_n hC 0 rfl dX5_readSum_23 rfl ?_
        refine z_cIp (z_rV (q := x0) (t := 5) (As := []) hC (fun _ h1 => SReader_next FU x0 h1) (fun _ h1 => SReader_next_k h1) rfl rfl zM5_30 zMv_FReader_next ⟨show 1 + 1 ≤ rr.frames + 5 by omega, show 8 + (1 + 11) + 24 ≤ rr.locals + 115 by omega⟩ rfl rfl rfl (rest := []) (Nat.le_of_ble_eq_true rfl) ⟨Nat.le_of_ble_eq_true rfl, Nat.le_of_ble_eq_true rfl⟩ rfl dX5_readSum_24) (fun v3 hv3 => ?_)
        refine z_istore (lo' := [(4, .int (zi v3)), (0, .ref x0), (1, .int (zi x1)), (2, .int (zi x2)), (3, .int (zi x3))]) hC dX5_readSum_27 (by decide) rfl ?_
        refine z_iload hC 0 rfl dX5_readSum_29 ?_
        refine z_bipush hC dX5_readSum_31 rfl ?_
        refine z_icmp_eq (tgt := 46) hC hv3 (by decide) dX5_readSum_33 (by decide) (fun _ => ?_) (fun _ => ?_)
        · refine z_sub hC [1, 2, 3, 4, 0] (lo' := [(0, .ref x0), (1, .int (zi x1)), (2, .int (zi x2)), (3, .int (zi x3)), (4, .int (zi v3))]) rfl ?_
          exact SReader_readSum_B46 hC hr FU rec rr hrr hrec hreck (FReader_readSum_L8 FU rec n) ih x0 x1 x2 x3 v3 G hx1 hx2 hx3 hv3
        · refine z_iload hC 0 rfl dX5_readSum_36 ?_
          refine z_bipush hC dX5_readSum_38 rfl ?_
          refine z_icmp_eq (tgt := 46) hC hv3 (by decide) dX5_readSum_40 (by decide) (fun _ => ?_) (fun _ => ?_)
          · refine z_sub hC [1, 2, 3, 4, 0] (lo' := [(0, .ref x0), (1, .int (zi x1)), (2, .int (zi x2)), (3, .int (zi x3)), (4, .int (zi v3))]) rfl ?_
            exact SReader_readSum_B46 hC hr FU rec rr hrr hrec hreck (FReader_readSum_L8 FU rec n) ih x0 x1 x2 x3 v3 G hx1 hx2 hx3 hv3
          · refine z_goto (tgt := 88) hC dX5_readSum_43 (by decide) ?_
            refine z_iload_n hC 3 rfl dX5_readSum_88 rfl ?_
            exact z_iret hC hx2 hr dX5_readSum_89
      · refine z_iload_n hC 2 rfl dX5_readSum_88 rfl ?_
        exact z_iret hC hx2 hr dX5_readSum_89
    · refine z_iload_n hC 2 rfl dX5_readSum_88 rfl ?_
      exact z_iret hC hx2 hr dX5_readSum_89
set_option maxRecDepth 100000 in
theorem SReader_readSum {l : Launch} {D : va_G} {aC : Nat → ClassId} (FU : Nat) (rec : Nat → Int → Hp → Option (Int × Hp)) (rr : Room) (hrr : rr.cells = 0 ∧ rr.slots = 0) (hrec : ∀ (this : Nat) (p1 : Int), zInI p1 → ∀ (G : Hp) (r1 : (Int × Hp)), rec this p1 G = some r1 → Met l yX5_readSum (Cond.code yX5_readSum cX5_readSum 6 (some .int) :: zgood) rr (va_Pc [.ref this, .int (zi p1)] (zU D aC G)) (zQ D aC G (zInI r1.1) (some (.int (zi r1.1))) r1.2) 0 0 (zA G)) (hreck : ∀ (this : Nat) (p1 : Int) (G : Hp) (r1 : (Int × Hp)), rec this p1 G = some r1 → zk G this = some (5, 0)) (this : Nat) (p1 : Int) (hp1 : zInI p1) {G : Hp} {r1 : (Int × Hp)} (h1 : FReader_readSum FU rec this p1 G = some r1) : Met l yX5_readSum (Cond.code yX5_readSum cX5_readSum 6 (some .int) :: zgood) ({ frames := rr.frames + 5, cells := 0, slots := 0, locals := rr.locals + 115 } : Room) (va_Pc [.ref this, .int (zi p1)] (zU D aC G)) (zQ D aC G (zInI r1.1) (some (.int (zi r1.1))) r1.2) 0 0 (zA G) := by
  refine z_met (y := yX5_readSum) (b := cX5_readSum) (maxL := 6) (mc := 0) (ms := 0) (ret := (some .int)) (As := [.ref this, .int (zi p1)]) (Q1 := fun r1 => zQ D aC G (zInI r1.1) (some (.int (zi r1.1))) r1.2) (X := FReader_readSum FU rec this p1 G) (by decide) (Nat.le_of_ble_eq_true rfl) ?_ h1
  intro p e s m below meth c hC hr hi
  have hC : zC p m c meth s ([.ref this, .int (zi p1)] : List Value).toArray cX5_readSum 6 RX5 D aC := hC
  generalize ([.ref this, .int (zi p1)] : List Value).toArray = args at hC ⊢
  show zS p l e ({ frames := rr.frames + 5, cells := 0, slots := 0, locals := rr.locals + 115 } : Room) s m args below meth c D aC G (zfI D aC G below args s 0 0) 6 0 0 (FReader_readSum FU rec this p1 G) G 0 [(0, .ref this), (1, .int (zi p1))] []
  unfold FReader_readSum
  refine z_gd ?_
  unfold FReader_readSum_b
  refine z_aload_n hC 0 rfl dX5_readSum_0 rfl ?_
  refine z_iload_n hC 1 rfl dX5_readSum_1 rfl ?_
  refine z_cI (z_rV (q := this) (t := 5) (As := [.int (zi p1)]) hC (fun _ h1 => SReader_readProduct FU rec rr hrr hrec hreck this p1 hp1 h1) (fun _ h1 => SReader_readProduct_k h1) rfl rfl zM5_42 zMv_FReader_readProduct ⟨show rr.frames + 4 + 1 ≤ rr.frames + 5 by omega, show 8 + (6 + 11) + (rr.locals + 90) ≤ rr.locals + 115 by omega⟩ rfl rfl rfl (rest := []) (Nat.le_of_ble_eq_true rfl) ⟨Nat.le_of_ble_eq_true rfl, Nat.le_of_ble_eq_true rfl⟩ rfl dX5_readSum_2) (fun v2 G1 hv2 => ?_)
  refine z_istore_n (lo' := [(2, .int (zi v2)), (0, .ref this), (1, .int (zi p1))]) hC dX5_readSum_5 rfl (by decide) rfl ?_
  refine z_iconst hC dX5_readSum_6 ?_
  refine z_istore_n (lo' := [(3, .int (zi (0))), (2, .int (zi v2)), (0, .ref this), (1, .int (zi p1))]) hC dX5_readSum_7 rfl (by decide) rfl ?_
  refine z_sub hC [2, 3, 1, 0] (lo' := [(0, .ref this), (1, .int (zi p1)), (2, .int (zi v2)), (3, .int (zi (0)))]) rfl ?_
  exact SReader_readSum_L8 hC hr FU rec rr hrr hrec hreck FU this p1 v2 (0) G1 hp1 hv2 (by decide)
theorem SReader_readSum_k {FU : Nat} {rec : Nat → Int → Hp → Option (Int × Hp)} {this : Nat} {p1 : Int} {G : Hp} {r1 : (Int × Hp)} (h1 : FReader_readSum FU rec this p1 G = some r1) : zk G this = some (5, 0) := zgd_k (k := FReader_readSum_b FU rec this p1 G) h1
theorem SReader_readSum_nk {FU d : Nat} {this : Nat} {p1 : Int} {G : Hp} {r1 : (Int × Hp)} (h1 : FReader_readSum_n FU d this p1 G = some r1) : zk G this = some (5, 0) := by
  cases d with
  | zero => cases h1
  | succ d => exact SReader_readSum_k h1
theorem SReader_readSum_n {l : Launch} {D : va_G} {aC : Nat → ClassId} (FU : Nat) : ∀ (d : Nat) (this : Nat) (p1 : Int) (hp1 : zInI p1) {G : Hp} {r1 : (Int × Hp)}, FReader_readSum_n FU d this p1 G = some r1 → Met l yX5_readSum (Cond.code yX5_readSum cX5_readSum 6 (some .int) :: zgood) ({ frames := 5 * d, cells := 0, slots := 0, locals := 115 * d } : Room) (va_Pc [.ref this, .int (zi p1)] (zU D aC G)) (zQ D aC G (zInI r1.1) (some (.int (zi r1.1))) r1.2) 0 0 (zA G) := by
  intro d
  induction d with
  | zero => intros; rename_i h; cases h
  | succ d ih =>
    intro this p1 hp1 G r1 h1
    exact SReader_readSum FU (FReader_readSum_n FU d) ({ frames := 5 * d, cells := 0, slots := 0, locals := 115 * d } : Room) ⟨rfl, rfl⟩ (fun this p1 hp1 _ _ h => ih this p1 hp1 h) (fun this p1 _ _ h => SReader_readSum_nk h) this p1 hp1 h1

set_option maxRecDepth 100000 in
theorem SReader_compare {l : Launch} {D : va_G} {aC : Nat → ClassId} (FU : Nat) (p1 : Int) (p2 : Int) (p3 : Int) (hp1 : zInI p1) (hp2 : zInI p2) (hp3 : zInI p3) {G : Hp} {r1 : Int} (h1 : FReader_compare FU p1 p2 p3 G = some r1) : Met l yX5_compare (Cond.code yX5_compare cX5_compare 3 (some .boolean) :: zgood) ({ frames := 1, cells := 0, slots := 0, locals := 24 } : Room) (va_Pc [.int (zi p1), .int (zi p2), .int (zi p3)] (zU D aC G)) (zQ D aC G (zIn01 r1) (some (.int (zi r1))) G) 0 0 (zA G) := by
  refine z_met (y := yX5_compare) (b := cX5_compare) (maxL := 3) (mc := 0) (ms := 0) (ret := (some .boolean)) (As := [.int (zi p1), .int (zi p2), .int (zi p3)]) (Q1 := fun r1 => zQ D aC G (zIn01 r1) (some (.int (zi r1))) G) (X := FReader_compare FU p1 p2 p3 G) (by decide) (Nat.le_of_ble_eq_true rfl) ?_ h1
  intro p e s m below meth c hC hr hi
  have hC : zC p m c meth s ([.int (zi p1), .int (zi p2), .int (zi p3)] : List Value).toArray cX5_compare 3 RX5 D aC := hC
  generalize ([.int (zi p1), .int (zi p2), .int (zi p3)] : List Value).toArray = args at hC ⊢
  show zS p l e ({ frames := 1, cells := 0, slots := 0, locals := 24 } : Room) s m args below meth c D aC G (fun r1 => zfZ D aC G below args s 0 0 (r1, G)) 3 0 0 (FReader_compare FU p1 p2 p3 G) G 0 [(0, .int (zi p1)), (1, .int (zi p2)), (2, .int (zi p3))] []
  unfold FReader_compare
  refine z_iload_n hC 1 rfl dX5_compare_0 rfl ?_
  refine z_bipush hC dX5_compare_1 rfl ?_
  refine z_icmp_ne (tgt := 19) hC hp2 (by decide) dX5_compare_3 (by decide) (fun _ => ?_) (fun _ => ?_)
  · refine z_iload_n hC 0 rfl dX5_compare_6 rfl ?_
    refine z_iload_n hC 2 rfl dX5_compare_7 rfl ?_
    refine z_icmp_ge (tgt := 15) hC hp1 hp3 dX5_compare_8 (by decide) (fun _ => ?_) (fun _ => ?_)
    · refine z_iconst hC dX5_compare_11 ?_
      refine z_goto (tgt := 48) hC dX5_compare_12 (by decide) ?_
      exact z_zretp hC hr dX5_compare_48
    · refine z_iconst hC dX5_compare_15 ?_
      refine z_goto (tgt := 48) hC dX5_compare_16 (by decide) ?_
      exact z_zretp hC hr dX5_compare_48
  · refine z_iload_n hC 1 rfl dX5_compare_19 rfl ?_
    refine z_bipush hC dX5_compare_20 rfl ?_
    refine z_icmp_ne (tgt := 38) hC hp2 (by decide) dX5_compare_22 (by decide) (fun _ => ?_) (fun _ => ?_)
    · refine z_iload_n hC 0 rfl dX5_compare_25 rfl ?_
      refine z_iload_n hC 2 rfl dX5_compare_26 rfl ?_
      refine z_icmp_le (tgt := 34) hC hp1 hp3 dX5_compare_27 (by decide) (fun _ => ?_) (fun _ => ?_)
      · refine z_iconst hC dX5_compare_34 ?_
        refine z_goto (tgt := 48) hC dX5_compare_35 (by decide) ?_
        exact z_zretp hC hr dX5_compare_48
      · refine z_iconst hC dX5_compare_30 ?_
        refine z_goto (tgt := 48) hC dX5_compare_31 (by decide) ?_
        exact z_zretp hC hr dX5_compare_48
    · refine z_iload_n hC 0 rfl dX5_compare_38 rfl ?_
      refine z_iload_n hC 2 rfl dX5_compare_39 rfl ?_
      refine z_icmp_ne (tgt := 47) hC hp1 hp3 dX5_compare_40 (by decide) (fun _ => ?_) (fun _ => ?_)
      · refine z_iconst hC dX5_compare_43 ?_
        refine z_goto (tgt := 48) hC dX5_compare_44 (by decide) ?_
        exact z_zretp hC hr dX5_compare_48
      · refine z_iconst hC dX5_compare_47 ?_
        exact z_zretp hC hr dX5_compare_48

set_option maxRecDepth 100000 in
theorem SReader_read_B137 {p : Program} {l : Launch} {e : Env} {s : State} {m : MethodId} {args : Array Value} {below : List Frame} {meth : Method} {c : Code} {D : va_G} {aC : Nat → ClassId} {G0 : Hp} (hC : zC p m c meth s args cX5_read 9 RX5 D aC) (hr : meth.sig.returnType = (some .int)) (FU : Nat) (kL28 : Nat → Int → Int → Int → Int → Hp → Option (Int × Hp)) (hkL28 : ∀ (a0 : Nat) (a1 : Int) (a2 : Int) (a3 : Int) (a4 : Int) (G : Hp), zInI a1 → zInI a2 → zInI a3 → zInI a4 → zS p l e ({ frames := 61, cells := 0, slots := 0, locals := 1405 } : Room) s m args below meth c D aC G0 (zfI D aC G0 below args s 0 0) 9 0 0 (kL28 a0 a1 a2 a3 a4 G) G 28 [(0, .ref a0), (2, .int (zi a1)), (3, .int (zi a2)), (4, .int (zi a3)), (5, .int (zi a4))] []) (x0 : Nat) (x2 : Int) (x3 : Int) (x4 : Int) (x5 : Int) (G : Hp) (hx2 : zInI x2) (hx3 : zInI x3) (hx4 : zInI x4) (hx5 : zInI x5) : zS p l e ({ frames := 61, cells := 0, slots := 0, locals := 1405 } : Room) s m args below meth c D aC G0 (zfI D aC G0 below args s 0 0) 9 0 0 (FReader_read_B137 FU kL28 x0 x2 x3 x4 x5 G) G 137 [(0, .ref x0), (2, .int (zi x2)), (3, .int (zi x3)), (4, .int (zi x4)), (5, .int (zi x5))] [] := by
  unfold FReader_read_B137
  refine z_aload_n hC 0 rfl dX5_read_137 rfl ?_
  refine z_cIp (z_rV (q := x0) (t := 5) (As := []) hC (fun _ h1 => SReader_next FU x0 h1) (fun _ h1 => SReader_next_k h1) rfl rfl zM5_30 zMv_FReader_next ⟨by decide, by decide⟩ rfl rfl rfl (rest := []) (Nat.le_of_ble_eq_true rfl) ⟨Nat.le_of_ble_eq_true rfl, Nat.le_of_ble_eq_true rfl⟩ rfl dX5_read_138) (fun v1 hv1 => ?_)
  refine z_iconst hC dX5_read_141 ?_
  refine z_icmp_ne (tgt := 148) hC hv1 (by decide) dX5_read_142 (by decide) (fun _ => ?_) (fun _ => ?_)
  · refine z_goto (tgt := 160) hC dX5_read_145 (by decide) ?_
    refine z_iload hC 3 rfl dX5_read_160 ?_
    exact z_iret hC hx4 hr dX5_read_162
  · refine z_aload_n hC 0 rfl dX5_read_148 rfl ?_
    refine z_bipush hC dX5_read_149 rfl ?_
    refine z_cV (z_rV (q := x0) (t := 5) (As := [.int (zi (59))]) hC (fun _ h1 => SReader_expect FU x0 (59) (by decide) h1) (fun _ h1 => SReader_expect_k h1) rfl rfl zM5_38 zMv_FReader_expect ⟨by decide, by decide⟩ rfl rfl rfl (rest := []) (Nat.le_of_ble_eq_true rfl) ⟨Nat.le_of_ble_eq_true rfl, Nat.le_of_ble_eq_true rfl⟩ rfl dX5_read_151) (fun G2 => ?_)
    refine z_iinc (lo' := fun v3 => [(5, .int (zi v3)), (0, .ref x0), (2, .int (zi x2)), (3, .int (zi x3)), (4, .int (zi x4))]) hC 4 dX5_read_154 rfl (by decide) (fun _ => rfl) (fun v3 hv3 => ?_)
    refine z_goto (tgt := 28) hC dX5_read_157 (by decide) ?_
    refine z_sub hC [1, 2, 3, 4, 0] (lo' := [(0, .ref x0), (2, .int (zi x2)), (3, .int (zi x3)), (4, .int (zi x4)), (5, .int (zi v3))]) rfl ?_
    exact hkL28 x0 x2 x3 x4 v3 G2 hx2 hx3 hx4 hv3
set_option maxRecDepth 100000 in
theorem SReader_read_B122 {p : Program} {l : Launch} {e : Env} {s : State} {m : MethodId} {args : Array Value} {below : List Frame} {meth : Method} {c : Code} {D : va_G} {aC : Nat → ClassId} {G0 : Hp} (hC : zC p m c meth s args cX5_read 9 RX5 D aC) (hr : meth.sig.returnType = (some .int)) (FU : Nat) (kL28 : Nat → Int → Int → Int → Int → Hp → Option (Int × Hp)) (hkL28 : ∀ (a0 : Nat) (a1 : Int) (a2 : Int) (a3 : Int) (a4 : Int) (G : Hp), zInI a1 → zInI a2 → zInI a3 → zInI a4 → zS p l e ({ frames := 61, cells := 0, slots := 0, locals := 1405 } : Room) s m args below meth c D aC G0 (zfI D aC G0 below args s 0 0) 9 0 0 (kL28 a0 a1 a2 a3 a4 G) G 28 [(0, .ref a0), (2, .int (zi a1)), (3, .int (zi a2)), (4, .int (zi a3)), (5, .int (zi a4))] []) (x0 : Nat) (x2 : Int) (x3 : Int) (x4 : Int) (x5 : Int) (x6 : Int) (x7 : Int) (G : Hp) (hx2 : zInI x2) (hx3 : zInI x3) (hx4 : zInI x4) (hx5 : zInI x5) (hx6 : zInI x6) (hx7 : zInI x7) : zS p l e ({ frames := 61, cells := 0, slots := 0, locals := 1405 } : Room) s m args below meth c D aC G0 (zfI D aC G0 below args s 0 0) 9 0 0 (FReader_read_B122 FU kL28 x0 x2 x3 x4 x5 x6 x7 G) G 122 [(0, .ref x0), (2, .int (zi x2)), (3, .int (zi x3)), (4, .int (zi x4)), (5, .int (zi x5)), (6, .int (zi x6)), (7, .int (zi x7))] [] := by
  unfold FReader_read_B122
  refine z_iload hC 6 rfl dX5_read_122 ?_
  refine z_if_eq (tgt := 137) hC hx7 dX5_read_124 (by decide) (fun _ => ?_) (fun _ => ?_)
  · refine z_sub hC [0, 1, 2, 3, 4] (lo' := [(0, .ref x0), (2, .int (zi x2)), (3, .int (zi x3)), (4, .int (zi x4)), (5, .int (zi x5))]) rfl ?_
    exact SReader_read_B137 hC hr FU kL28 hkL28 x0 x2 x3 x4 x5 G hx2 hx3 hx4 hx5
  · refine z_iload_n hC 2 rfl dX5_read_127 rfl ?_
    refine z_if_ne (tgt := 137) hC hx3 dX5_read_128 (by decide) (fun _ => ?_) (fun _ => ?_)
    · refine z_iload hC 5 rfl dX5_read_131 ?_
      refine z_istore (lo' := [(4, .int (zi x6)), (0, .ref x0), (2, .int (zi x2)), (3, .int (zi x3)), (5, .int (zi x5)), (6, .int (zi x6)), (7, .int (zi x7))]) hC dX5_read_133 (by decide) rfl ?_
      refine z_iconst hC dX5_read_135 ?_
      refine z_istore_n (lo' := [(3, .int (zi (1))), (4, .int (zi x6)), (0, .ref x0), (2, .int (zi x2)), (5, .int (zi x5)), (6, .int (zi x6)), (7, .int (zi x7))]) hC dX5_read_136 rfl (by decide) rfl ?_
      refine z_sub hC [2, 3, 0, 1, 4] (lo' := [(0, .ref x0), (2, .int (zi x2)), (3, .int (zi (1))), (4, .int (zi x6)), (5, .int (zi x5))]) rfl ?_
      exact SReader_read_B137 hC hr FU kL28 hkL28 x0 x2 (1) x6 x5 G hx2 (by decide) hx6 hx5
    · refine z_sub hC [0, 1, 2, 3, 4] (lo' := [(0, .ref x0), (2, .int (zi x2)), (3, .int (zi x3)), (4, .int (zi x4)), (5, .int (zi x5))]) rfl ?_
      exact SReader_read_B137 hC hr FU kL28 hkL28 x0 x2 x3 x4 x5 G hx2 hx3 hx4 hx5
set_option maxRecDepth 100000 in
theorem SReader_read_B85 {p : Program} {l : Launch} {e : Env} {s : State} {m : MethodId} {args : Array Value} {below : List Frame} {meth : Method} {c : Code} {D : va_G} {aC : Nat → ClassId} {G0 : Hp} (hC : zC p m c meth s args cX5_read 9 RX5 D aC) (hr : meth.sig.returnType = (some .int)) (FU : Nat) (kL28 : Nat → Int → Int → Int → Int → Hp → Option (Int × Hp)) (hkL28 : ∀ (a0 : Nat) (a1 : Int) (a2 : Int) (a3 : Int) (a4 : Int) (G : Hp), zInI a1 → zInI a2 → zInI a3 → zInI a4 → zS p l e ({ frames := 61, cells := 0, slots := 0, locals := 1405 } : Room) s m args below meth c D aC G0 (zfI D aC G0 below args s 0 0) 9 0 0 (kL28 a0 a1 a2 a3 a4 G) G 28 [(0, .ref a0), (2, .int (zi a1)), (3, .int (zi a2)), (4, .int (zi a3)), (5, .int (zi a4))] []) (x0 : Nat) (x2 : Int) (x3 : Int) (x4 : Int) (x5 : Int) (x6 : Int) (x8 : Int) (G : Hp) (hx2 : zInI x2) (hx3 : zInI x3) (hx4 : zInI x4) (hx5 : zInI x5) (hx6 : zInI x6) (hx8 : zInI x8) : zS p l e ({ frames := 61, cells := 0, slots := 0, locals := 1405 } : Room) s m args below meth c D aC G0 (zfI D aC G0 below args s 0 0) 9 0 0 (FReader_read_B85 FU kL28 x0 x2 x3 x4 x5 x6 x8 G) G 85 [(0, .ref x0), (2, .int (zi x2)), (3, .int (zi x3)), (4, .int (zi x4)), (5, .int (zi x5)), (6, .int (zi x6)), (8, .int (zi x8))] [] := by
  unfold FReader_read_B85
  refine z_aload_n hC 0 rfl dX5_read_85 rfl ?_
  refine z_dup hC rfl dX5_read_86 ?_
  refine z_getI hC zF5_19 rfl dX5_read_87 (fun v1 hv1 => ?_)
  refine z_iconst hC dX5_read_90 ?_
  refine z_iadd hC dX5_read_91 (fun v2 hv2 => ?_)
  refine z_putI hC hv2 zF5_19 rfl rfl dX5_read_92 (fun G3 => ?_)
  refine z_iload hC 5 rfl dX5_read_95 ?_
  refine z_iload hC 6 rfl dX5_read_97 ?_
  refine z_aload_n hC 0 rfl dX5_read_99 rfl ?_
  refine z_iconst hC dX5_read_100 ?_
  refine z_cI (z_rV (q := x0) (t := 5) (As := [.int (zi (0))]) hC (fun _ h1 => SReader_readSum_n FU 12 x0 (0) (by decide) h1) (fun _ h1 => SReader_readSum_nk h1) rfl rfl zM5_26 zMv_FReader_readSum ⟨by decide, by decide⟩ rfl rfl rfl (rest := [.int (zi x8), .int (zi x6)]) (Nat.le_of_ble_eq_true rfl) ⟨Nat.le_of_ble_eq_true rfl, Nat.le_of_ble_eq_true rfl⟩ rfl dX5_read_101) (fun v5 G4 hv5 => ?_)
  refine z_cZp (z_rS (As := [.int (zi x6), .int (zi x8), .int (zi v5)]) hC (fun _ h1 => SReader_compare FU x6 x8 v5 hx6 hx8 hv5 h1) zM5_34 zMs_FReader_compare ⟨by decide, by decide⟩ rfl rfl rfl (rest := []) (Nat.le_of_ble_eq_true rfl) ⟨Nat.le_of_ble_eq_true rfl, Nat.le_of_ble_eq_true rfl⟩ rfl dX5_read_104) (fun v6 hv6 => ?_)
  refine z_istore (lo' := [(7, .int (zi v6)), (0, .ref x0), (2, .int (zi x2)), (3, .int (zi x3)), (4, .int (zi x4)), (5, .int (zi x5)), (6, .int (zi x6)), (8, .int (zi x8))]) hC dX5_read_107 (by decide) rfl ?_
  refine z_aload_n hC 1 rfl dX5_read_109 rfl ?_
  refine z_bipush hC dX5_read_110 rfl ?_
  refine z_cV (z_rV (q := x0) (t := 5) (As := [.int (zi (44))]) hC (fun _ h1 => SReader_expect FU x0 (44) (by decide) h1) (fun _ h1 => SReader_expect_k h1) rfl rfl zM5_38 zMv_FReader_expect ⟨by decide, by decide⟩ rfl rfl rfl (rest := []) (Nat.le_of_ble_eq_true rfl) ⟨Nat.le_of_ble_eq_true rfl, Nat.le_of_ble_eq_true rfl⟩ rfl dX5_read_112) (fun G7 => ?_)
  refine z_aload_n hC 1 rfl dX5_read_115 rfl ?_
  refine z_iconst hC dX5_read_116 ?_
  refine z_cI (z_rV (q := x0) (t := 5) (As := [.int (zi (0))]) hC (fun _ h1 => SReader_readSum_n FU 12 x0 (0) (by decide) h1) (fun _ h1 => SReader_readSum_nk h1) rfl rfl zM5_26 zMv_FReader_readSum ⟨by decide, by decide⟩ rfl rfl rfl (rest := []) (Nat.le_of_ble_eq_true rfl) ⟨Nat.le_of_ble_eq_true rfl, Nat.le_of_ble_eq_true rfl⟩ rfl dX5_read_117) (fun v9 G8 hv9 => ?_)
  refine z_istore (lo' := [(6, .int (zi v9)), (7, .int (zi v6)), (0, .ref x0), (2, .int (zi x2)), (3, .int (zi x3)), (4, .int (zi x4)), (5, .int (zi x5)), (8, .int (zi x8))]) hC dX5_read_120 (by decide) rfl ?_
  refine z_sub hC [2, 3, 4, 5, 6, 0, 1] (lo' := [(0, .ref x0), (2, .int (zi x2)), (3, .int (zi x3)), (4, .int (zi x4)), (5, .int (zi x5)), (6, .int (zi v9)), (7, .int (zi v6))]) rfl ?_
  exact SReader_read_B122 hC hr FU kL28 hkL28 x0 x2 x3 x4 x5 v9 v6 G8 hx2 hx3 hx4 hx5 hv9 (hv6).i
set_option maxRecDepth 100000 in
theorem SReader_read_L28 {p : Program} {l : Launch} {e : Env} {s : State} {m : MethodId} {args : Array Value} {below : List Frame} {meth : Method} {c : Code} {D : va_G} {aC : Nat → ClassId} {G0 : Hp} (hC : zC p m c meth s args cX5_read 9 RX5 D aC) (hr : meth.sig.returnType = (some .int)) (FU : Nat) : ∀ (n : Nat) (x0 : Nat) (x2 : Int) (x3 : Int) (x4 : Int) (x5 : Int) (G : Hp) (hx2 : zInI x2) (hx3 : zInI x3) (hx4 : zInI x4) (hx5 : zInI x5), zS p l e ({ frames := 61, cells := 0, slots := 0, locals := 1405 } : Room) s m args below meth c D aC G0 (zfI D aC G0 below args s 0 0) 9 0 0 (FReader_read_L28 FU n x0 x2 x3 x4 x5 G) G 28 [(0, .ref x0), (2, .int (zi x2)), (3, .int (zi x3)), (4, .int (zi x4)), (5, .int (zi x5))] [] := by
  intro n
  induction n with
  | zero => intros; exact z_none
  | succ n ih =>
    intro x0 x2 x3 x4 x5 G hx2 hx3 hx4 hx5
    rw [FReader_read_L28]
    refine z_iload hC 4 rfl dX5_read_28 ?_
    refine z_iload_n hC 1 rfl dX5_read_30 rfl ?_
    refine z_icmp_gt (tgt := 160) hC hx5 hx2 dX5_read_31 (by decide) (fun _ => ?_) (fun _ => ?_)
    · refine z_aload_n hC 0 rfl dX5_read_34 rfl ?_
      refine z_getZ hC zF5_22 rfl dX5_read_35 (fun v1 hv1 => ?_)
      refine z_if_ne (tgt := 160) hC (hv1).i dX5_read_38 (by decide) (fun _ => ?_) (fun _ => ?_)
      · refine z_aload_n hC 0 rfl dX5_read_41 rfl ?_
        refine z_iconst hC dX5_read_42 ?_
        refine z_cI (z_rV (q := x0) (t := 5) (As := [.int (zi (0))]) hC (fun _ h1 => SReader_readSum_n FU 12 x0 (0) (by decide) h1) (fun _ h1 => SReader_readSum_nk h1) rfl rfl zM5_26 zMv_FReader_readSum ⟨by decide, by decide⟩ rfl rfl rfl (rest := []) (Nat.le_of_ble_eq_true rfl) ⟨Nat.le_of_ble_eq_true rfl, Nat.le_of_ble_eq_true rfl⟩ rfl dX5_read_43) (fun v3 G2 hv3 => ?_)
        refine z_istore (lo' := [(6, .int (zi v3)), (0, .ref x0), (2, .int (zi x2)), (3, .int (zi x3)), (4, .int (zi x4)), (5, .int (zi x5))]) hC dX5_read_46 (by decide) rfl ?_
        refine z_iconst hC dX5_read_48 ?_
        refine z_istore (lo' := [(7, .int (zi (1))), (6, .int (zi v3)), (0, .ref x0), (2, .int (zi x2)), (3, .int (zi x3)), (4, .int (zi x4)), (5, .int (zi x5))]) hC dX5_read_49 (by decide) rfl ?_
        refine z_aload_n hC 2 rfl dX5_read_51 rfl ?_
        refine z_cIp (z_rV (q := x0) (t := 5) (As := []) hC (fun _ h1 => SReader_next FU x0 h1) (fun _ h1 => SReader_next_k h1) rfl rfl zM5_30 zMv_FReader_next ⟨by decide, by decide⟩ rfl rfl rfl (rest := []) (Nat.le_of_ble_eq_true rfl) ⟨Nat.le_of_ble_eq_true rfl, Nat.le_of_ble_eq_true rfl⟩ rfl dX5_read_52) (fun v4 hv4 => ?_)
        refine z_istore (lo' := [(8, .int (zi v4)), (7, .int (zi (1))), (6, .int (zi v3)), (0, .ref x0), (2, .int (zi x2)), (3, .int (zi x3)), (4, .int (zi x4)), (5, .int (zi x5))]) hC dX5_read_55 (by decide) rfl ?_
        refine z_aload_n hC 3 rfl dX5_read_57 rfl ?_
        refine z_getZ hC zF5_22 rfl dX5_read_58 (fun v5 hv5 => ?_)
        refine z_if_ne (tgt := 122) hC (hv5).i dX5_read_61 (by decide) (fun _ => ?_) (fun _ => ?_)
        · refine z_iload hC 0 rfl dX5_read_64 ?_
          refine z_bipush hC dX5_read_66 rfl ?_
          refine z_icmp_eq (tgt := 85) hC hv4 (by decide) dX5_read_68 (by decide) (fun _ => ?_) (fun _ => ?_)
          · refine z_sub hC [3, 4, 5, 6, 7, 2, 0] (lo' := [(0, .ref x0), (2, .int (zi x2)), (3, .int (zi x3)), (4, .int (zi x4)), (5, .int (zi x5)), (6, .int (zi v3)), (8, .int (zi v4))]) rfl ?_
            exact SReader_read_B85 hC hr FU (FReader_read_L28 FU n) ih x0 x2 x3 x4 x5 v3 v4 G2 hx2 hx3 hx4 hx5 hv3 hv4
          · refine z_iload hC 0 rfl dX5_read_71 ?_
            refine z_bipush hC dX5_read_73 rfl ?_
            refine z_icmp_eq (tgt := 85) hC hv4 (by decide) dX5_read_75 (by decide) (fun _ => ?_) (fun _ => ?_)
            · refine z_sub hC [3, 4, 5, 6, 7, 2, 0] (lo' := [(0, .ref x0), (2, .int (zi x2)), (3, .int (zi x3)), (4, .int (zi x4)), (5, .int (zi x5)), (6, .int (zi v3)), (8, .int (zi v4))]) rfl ?_
              exact SReader_read_B85 hC hr FU (FReader_read_L28 FU n) ih x0 x2 x3 x4 x5 v3 v4 G2 hx2 hx3 hx4 hx5 hv3 hv4
            · refine z_iload hC 0 rfl dX5_read_78 ?_
              refine z_bipush hC dX5_read_80 rfl ?_
              refine z_icmp_ne (tgt := 122) hC hv4 (by decide) dX5_read_82 (by decide) (fun _ => ?_) (fun _ => ?_)
              · refine z_sub hC [3, 4, 5, 6, 7, 2, 0] (lo' := [(0, .ref x0), (2, .int (zi x2)), (3, .int (zi x3)), (4, .int (zi x4)), (5, .int (zi x5)), (6, .int (zi v3)), (8, .int (zi v4))]) rfl ?_
                exact SReader_read_B85 hC hr FU (FReader_read_L28 FU n) ih x0 x2 x3 x4 x5 v3 v4 G2 hx2 hx3 hx4 hx5 hv3 hv4
              · refine z_sub hC [3, 4, 5, 6, 7, 2, 1] (lo' := [(0, .ref x0), (2, .int (zi x2)), (3, .int (zi x3)), (4, .int (zi x4)), (5, .int (zi x5)), (6, .int (zi v3)), (7, .int (zi (1)))]) rfl ?_
                exact SReader_read_B122 hC hr FU (FReader_read_L28 FU n) ih x0 x2 x3 x4 x5 v3 (1) G2 hx2 hx3 hx4 hx5 hv3 (by decide)
        · refine z_sub hC [3, 4, 5, 6, 7, 2, 1] (lo' := [(0, .ref x0), (2, .int (zi x2)), (3, .int (zi x3)), (4, .int (zi x4)), (5, .int (zi x5)), (6, .int (zi v3)), (7, .int (zi (1)))]) rfl ?_
          exact SReader_read_B122 hC hr FU (FReader_read_L28 FU n) ih x0 x2 x3 x4 x5 v3 (1) G2 hx2 hx3 hx4 hx5 hv3 (by decide)
      · refine z_iload hC 3 rfl dX5_read_160 ?_
        exact z_iret hC hx4 hr dX5_read_162
    · refine z_iload hC 3 rfl dX5_read_160 ?_
      exact z_iret hC hx4 hr dX5_read_162
set_option maxRecDepth 100000 in
theorem SReader_read {l : Launch} {D : va_G} {aC : Nat → ClassId} (FU : Nat) (this : Nat) (p1 : Nat) (p2 : Int) (hp2 : zInI p2) {G : Hp} {r1 : (Int × Hp)} (h1 : FReader_read FU this p1 p2 G = some r1) : Met l yX5_read (Cond.code yX5_read cX5_read 9 (some .int) :: zgood) ({ frames := 61, cells := 0, slots := 0, locals := 1405 } : Room) (va_Pc [.ref this, .ref p1, .int (zi p2)] (zU D aC G)) (zQ D aC G (zInI r1.1) (some (.int (zi r1.1))) r1.2) 0 0 (zA G) := by
  refine z_met (y := yX5_read) (b := cX5_read) (maxL := 9) (mc := 0) (ms := 0) (ret := (some .int)) (As := [.ref this, .ref p1, .int (zi p2)]) (Q1 := fun r1 => zQ D aC G (zInI r1.1) (some (.int (zi r1.1))) r1.2) (X := FReader_read FU this p1 p2 G) (by decide) (Nat.le_of_ble_eq_true rfl) ?_ h1
  intro p e s m below meth c hC hr hi
  have hC : zC p m c meth s ([.ref this, .ref p1, .int (zi p2)] : List Value).toArray cX5_read 9 RX5 D aC := hC
  generalize ([.ref this, .ref p1, .int (zi p2)] : List Value).toArray = args at hC ⊢
  show zS p l e ({ frames := 61, cells := 0, slots := 0, locals := 1405 } : Room) s m args below meth c D aC G (zfI D aC G below args s 0 0) 9 0 0 (FReader_read FU this p1 p2 G) G 0 [(0, .ref this), (1, .ref p1), (2, .int (zi p2))] []
  unfold FReader_read
  refine z_gd ?_
  unfold FReader_read_b
  refine z_aload_n hC 0 rfl dX5_read_0 rfl ?_
  refine z_aload_n hC 1 rfl dX5_read_1 rfl ?_
  refine z_putR hC zF5_9 rfl rfl dX5_read_2 (fun G1 => ?_)
  refine z_aload_n hC 0 rfl dX5_read_5 rfl ?_
  refine z_iload_n hC 2 rfl dX5_read_6 rfl ?_
  refine z_putI hC hp2 zF5_15 rfl rfl dX5_read_7 (fun G2 => ?_)
  refine z_aload_n hC 0 rfl dX5_read_10 rfl ?_
  refine z_iconst hC dX5_read_11 ?_
  refine z_putI hC (by decide) zF5_19 rfl rfl dX5_read_12 (fun G3 => ?_)
  refine z_aload_n hC 0 rfl dX5_read_15 rfl ?_
  refine z_iconst hC dX5_read_16 ?_
  refine z_putZ hC zF5_22 rfl rfl dX5_read_17 (fun G4 => ?_)
  refine z_iconst hC dX5_read_20 ?_
  refine z_istore_n (lo' := [(3, .int (zi (0))), (0, .ref this), (1, .ref p1), (2, .int (zi p2))]) hC dX5_read_21 rfl (by decide) rfl ?_
  refine z_iconst hC dX5_read_22 ?_
  refine z_istore (lo' := [(4, .int (zi (0))), (3, .int (zi (0))), (0, .ref this), (1, .ref p1), (2, .int (zi p2))]) hC dX5_read_23 (by decide) rfl ?_
  refine z_iconst hC dX5_read_25 ?_
  refine z_istore (lo' := [(5, .int (zi (0))), (4, .int (zi (0))), (3, .int (zi (0))), (0, .ref this), (1, .ref p1), (2, .int (zi p2))]) hC dX5_read_26 (by decide) rfl ?_
  refine z_sub hC [3, 5, 2, 1, 0] (lo' := [(0, .ref this), (2, .int (zi p2)), (3, .int (zi (0))), (4, .int (zi (0))), (5, .int (zi (0)))]) rfl ?_
  exact SReader_read_L28 hC hr FU FU this p2 (0) (0) (0) G4 hp2 (by decide) (by decide) (by decide)
theorem SReader_read_k {FU : Nat} {this : Nat} {p1 : Nat} {p2 : Int} {G : Hp} {r1 : (Int × Hp)} (h1 : FReader_read FU this p1 p2 G = some r1) : zk G this = some (5, 0) := zgd_k (k := FReader_read_b FU this p1 p2 G) h1

set_option maxRecDepth 100000 in
theorem SShelf_init {l : Launch} {D : va_G} {aC : Nat → ClassId} (FU : Nat) (this : Nat) (p1 : Nat) {G : Hp} {r1 : (Unit × Hp)} (h1 : FShelf_init FU this p1 G = some r1) : Met l yX6_init (Cond.code yX6_init cX6_init 2 none :: zgood) ({ frames := 2, cells := 4, slots := 269, locals := 44 } : Room) (va_Pc [.ref this, .ref p1] (zU D aC G)) (zQ D aC G (True) (none) r1.2) 4 269 (zA G) := by
  refine z_met (y := yX6_init) (b := cX6_init) (maxL := 2) (mc := 4) (ms := 269) (ret := none) (As := [.ref this, .ref p1]) (Q1 := fun r1 => zQ D aC G (True) (none) r1.2) (X := FShelf_init FU this p1 G) (by decide) (Nat.le_of_ble_eq_true rfl) ?_ h1
  intro p e s m below meth c hC hr hi
  have hC : zC p m c meth s ([.ref this, .ref p1] : List Value).toArray cX6_init 2 RX6 D aC := hC
  generalize ([.ref this, .ref p1] : List Value).toArray = args at hC ⊢
  show zS p l e ({ frames := 2, cells := 4, slots := 269, locals := 44 } : Room) s m args below meth c D aC G (zfV D aC G below args s 4 269) 2 0 0 (FShelf_init FU this p1 G) G 0 [(0, .ref this), (1, .ref p1)] []
  unfold FShelf_init
  refine z_aload_n hC 0 rfl dX6_init_0 rfl ?_
  refine z_objInit hC zO6_3 ⟨by decide, by decide⟩ ⟨by decide, by decide⟩ dX6_init_1 ?_
  refine z_aload_n hC 0 rfl dX6_init_4 rfl ?_
  refine z_new (t := 5) hC rfl (zgood_in 260 (by decide +kernel) (by decide +kernel)) (zgood_in 261 (by decide +kernel) (by decide +kernel)) (zgood_in 108 (by decide +kernel) (by decide +kernel)) (by decide) (by decide) dX6_init_5 (fun a1 G2 => ?_)
  refine z_widen (k := 1) (n := 9) (by decide) (by decide) ?_
  refine z_dup hC rfl dX6_init_8 ?_
  refine z_cV (z_rI (q := a1) (As := []) hC (fun _ h1 => SReader_init FU a1 h1) zM6_11 zMi_FReader_init ⟨by decide, by decide⟩ rfl rfl rfl (rest := [.ref a1, .ref this]) (Nat.le_of_ble_eq_true rfl) ⟨Nat.le_of_ble_eq_true rfl, Nat.le_of_ble_eq_true rfl⟩ rfl dX6_init_9) (fun G3 => ?_)
  refine z_widen (k := 2) (n := 129) (by decide) (by decide) ?_
  refine z_putFR hC (t := 6) (k := 1) rfl (by decide) rfl (zgood_in 304 (by decide +kernel) (by decide +kernel)) rfl rfl hi rfl dX6_init_12 (fun G4 => ?_)
  refine z_aload_n hC 0 rfl dX6_init_15 rfl ?_
  refine z_bipush hC dX6_init_16 rfl ?_
  refine z_anew25 hC 20 rfl (by decide) (zgood_in 301 (by decide +kernel) (by decide +kernel)) (by decide) (by decide) dX6_init_18 (fun a5 G6 => ?_)
  refine z_widen (k := 3) (n := 149) (by decide) (by decide) ?_
  refine z_putFR hC (t := 6) (k := 2) rfl (by decide) rfl (zgood_in 305 (by decide +kernel) (by decide +kernel)) rfl rfl hi rfl dX6_init_21 (fun G7 => ?_)
  refine z_aload_n hC 0 rfl dX6_init_24 rfl ?_
  refine z_bipush hC dX6_init_25 rfl ?_
  refine z_newarr20 hC 120 rfl (by decide) (zgood_in 155 (by decide +kernel) (by decide +kernel)) (by decide) (by decide) dX6_init_27 (fun a8 G9 => ?_)
  refine z_widen (k := 4) (n := 269) (by decide) (by decide) ?_
  refine z_putFR hC (t := 6) (k := 3) rfl (by decide) rfl (zgood_in 306 (by decide +kernel) (by decide +kernel)) rfl rfl hi rfl dX6_init_29 (fun G10 => ?_)
  refine z_aload_n hC 0 rfl dX6_init_32 rfl ?_
  refine z_aload_n hC 1 rfl dX6_init_33 rfl ?_
  refine z_putFR hC (t := 6) (k := 0) rfl (by decide) rfl (zgood_in 303 (by decide +kernel) (by decide +kernel)) rfl rfl hi rfl dX6_init_34 (fun G11 => ?_)
  exact z_vret hC hr dX6_init_37

set_option maxRecDepth 100000 in
theorem SShelf_addBytes_L16 {p : Program} {l : Launch} {e : Env} {s : State} {m : MethodId} {args : Array Value} {below : List Frame} {meth : Method} {c : Code} {D : va_G} {aC : Nat → ClassId} {G0 : Hp} (hC : zC p m c meth s args cX6_addBytes 4 RX6 D aC) (hr : meth.sig.returnType = (some .int)) (FU : Nat) : ∀ (n : Nat) (x0 : Nat) (x1 : Int) (x2 : Int) (x3 : Int) (G : Hp) (hx1 : zInI x1) (hx2 : zInI x2) (hx3 : zInI x3), zS p l e ({ frames := 2, cells := 0, slots := 0, locals := 46 } : Room) s m args below meth c D aC G0 (zfI D aC G0 below args s 0 0) 4 0 0 (FShelf_addBytes_L16 FU n x0 x1 x2 x3 G) G 16 [(0, .ref x0), (1, .int (zi x1)), (2, .int (zi x2)), (3, .int (zi x3))] [] := by
  intro n
  induction n with
  | zero => intros; exact z_none
  | succ n ih =>
    intro x0 x1 x2 x3 G hx1 hx2 hx3
    rw [FShelf_addBytes_L16]
    refine z_iload_n hC 3 rfl dX6_addBytes_16 rfl ?_
    refine z_iload_n hC 1 rfl dX6_addBytes_17 rfl ?_
    refine z_icmp_ge (tgt := 58) hC hx3 hx1 dX6_addBytes_18 (by decide) (fun _ => ?_) (fun _ => ?_)
    · refine z_aload_n hC 0 rfl dX6_addBytes_21 rfl ?_
      refine z_getQ hC zF6_24 rfl dX6_addBytes_22 (fun v1 => ?_)
      refine z_aload_n hC 0 rfl dX6_addBytes_25 rfl ?_
      refine z_getI hC zF6_32 rfl dX6_addBytes_26 (fun v2 hv2 => ?_)
      refine z_iload_n hC 2 rfl dX6_addBytes_29 rfl ?_
      refine z_bipush hC dX6_addBytes_30 rfl ?_
      refine z_iload_n hC 3 rfl dX6_addBytes_32 rfl ?_
      refine z_imul hC dX6_addBytes_33 (fun v3 hv3 => ?_)
      refine z_iushr hC dX6_addBytes_34 (fun v4 hv4 => ?_)
      refine z_sipush hC dX6_addBytes_35 rfl ?_
      refine z_iand hC dX6_addBytes_38 (fun v5 hv5 => ?_)
      refine z_cV (z_rS (As := [.ref v1, .int (zi v2), .int (zi v5)]) hC (fun _ h1 => SB_put FU v1 v2 v5 hv2 hv5 h1) zM6_36 zMs_FB_put ⟨by decide, by decide⟩ rfl rfl rfl (rest := []) (Nat.le_of_ble_eq_true rfl) ⟨Nat.le_of_ble_eq_true rfl, Nat.le_of_ble_eq_true rfl⟩ rfl dX6_addBytes_39) (fun G6 => ?_)
      refine z_aload_n hC 0 rfl dX6_addBytes_42 rfl ?_
      refine z_dup hC rfl dX6_addBytes_43 ?_
      refine z_getI hC zF6_32 rfl dX6_addBytes_44 (fun v7 hv7 => ?_)
      refine z_iconst hC dX6_addBytes_47 ?_
      refine z_iadd hC dX6_addBytes_48 (fun v8 hv8 => ?_)
      refine z_putI hC hv8 zF6_32 rfl rfl dX6_addBytes_49 (fun G9 => ?_)
      refine z_iinc (lo' := fun v10 => [(3, .int (zi v10)), (0, .ref x0), (1, .int (zi x1)), (2, .int (zi x2))]) hC 3 dX6_addBytes_52 rfl (by decide) (fun _ => rfl) (fun v10 hv10 => ?_)
      refine z_goto (tgt := 16) hC dX6_addBytes_55 (by decide) ?_
      refine z_sub hC [1, 2, 3, 0] (lo' := [(0, .ref x0), (1, .int (zi x1)), (2, .int (zi x2)), (3, .int (zi v10))]) rfl ?_
      exact ih x0 x1 x2 v10 G9 hx1 hx2 hv10
    · refine z_aload_n hC 0 rfl dX6_addBytes_58 rfl ?_
      refine z_getI hC zF6_32 rfl dX6_addBytes_59 (fun v11 hv11 => ?_)
      exact z_iret hC hv11 hr dX6_addBytes_62
set_option maxRecDepth 100000 in
theorem SShelf_addBytes {l : Launch} {D : va_G} {aC : Nat → ClassId} (FU : Nat) (this : Nat) (p1 : Int) (p2 : Int) (hp1 : zInI p1) (hp2 : zInI p2) {G : Hp} {r1 : (Int × Hp)} (h1 : FShelf_addBytes FU this p1 p2 G = some r1) : Met l yX6_addBytes (Cond.code yX6_addBytes cX6_addBytes 4 (some .int) :: zgood) ({ frames := 2, cells := 0, slots := 0, locals := 46 } : Room) (va_Pc [.ref this, .int (zi p1), .int (zi p2)] (zU D aC G)) (zQ D aC G (zInI r1.1) (some (.int (zi r1.1))) r1.2) 0 0 (zA G) := by
  refine z_met (y := yX6_addBytes) (b := cX6_addBytes) (maxL := 4) (mc := 0) (ms := 0) (ret := (some .int)) (As := [.ref this, .int (zi p1), .int (zi p2)]) (Q1 := fun r1 => zQ D aC G (zInI r1.1) (some (.int (zi r1.1))) r1.2) (X := FShelf_addBytes FU this p1 p2 G) (by decide) (Nat.le_of_ble_eq_true rfl) ?_ h1
  intro p e s m below meth c hC hr hi
  have hC : zC p m c meth s ([.ref this, .int (zi p1), .int (zi p2)] : List Value).toArray cX6_addBytes 4 RX6 D aC := hC
  generalize ([.ref this, .int (zi p1), .int (zi p2)] : List Value).toArray = args at hC ⊢
  show zS p l e ({ frames := 2, cells := 0, slots := 0, locals := 46 } : Room) s m args below meth c D aC G (zfI D aC G below args s 0 0) 4 0 0 (FShelf_addBytes FU this p1 p2 G) G 0 [(0, .ref this), (1, .int (zi p1)), (2, .int (zi p2))] []
  unfold FShelf_addBytes
  refine z_gd ?_
  unfold FShelf_addBytes_b
  refine z_aload_n hC 0 rfl dX6_addBytes_0 rfl ?_
  refine z_getI hC zF6_32 rfl dX6_addBytes_1 (fun v1 hv1 => ?_)
  refine z_iload_n hC 1 rfl dX6_addBytes_4 rfl ?_
  refine z_iadd hC dX6_addBytes_5 (fun v2 hv2 => ?_)
  refine z_bipush hC dX6_addBytes_6 rfl ?_
  refine z_icmp_le (tgt := 14) hC hv2 (by decide) dX6_addBytes_8 (by decide) (fun _ => ?_) (fun _ => ?_)
  · refine z_iconst hC dX6_addBytes_14 ?_
    refine z_istore_n (lo' := [(3, .int (zi (0))), (0, .ref this), (1, .int (zi p1)), (2, .int (zi p2))]) hC dX6_addBytes_15 rfl (by decide) rfl ?_
    refine z_sub hC [1, 2, 3, 0] (lo' := [(0, .ref this), (1, .int (zi p1)), (2, .int (zi p2)), (3, .int (zi (0)))]) rfl ?_
    exact SShelf_addBytes_L16 hC hr FU FU this p1 p2 (0) G hp1 hp2 (by decide)
  · refine z_bipush hC dX6_addBytes_11 rfl ?_
    exact z_iret hC (by decide) hr dX6_addBytes_13
theorem SShelf_addBytes_k {FU : Nat} {this : Nat} {p1 : Int} {p2 : Int} {G : Hp} {r1 : (Int × Hp)} (h1 : FShelf_addBytes FU this p1 p2 G = some r1) : zk G this = some (6, 0) := zgd_k (k := FShelf_addBytes_b FU this p1 p2 G) h1

set_option maxRecDepth 100000 in
theorem SText_init_L36 {p : Program} {l : Launch} {e : Env} {s : State} {m : MethodId} {args : Array Value} {below : List Frame} {meth : Method} {c : Code} {D : va_G} {aC : Nat → ClassId} {G0 : Hp} (hC : zC p m c meth s args cX9_init 7 RX9 D aC) (hr : meth.sig.returnType = none) (hi : meth.name = "<init>") (FU : Nat) : ∀ (n : Nat) (x0 : Nat) (x4 : Nat) (x5 : Int) (x6 : Int) (G : Hp) (hx5 : zInI x5) (hx6 : zInI x6), zS p l e ({ frames := 2, cells := 1, slots := 120, locals := 46 } : Room) s m args below meth c D aC G0 (zfV D aC G0 below args s 1 120) 7 1 120 (FText_init_L36 FU n x0 x4 x5 x6 G) G 36 [(0, .ref x0), (4, .ref x4), (5, .int (zi x5)), (6, .int (zi x6))] [] := by
  intro n
  induction n with
  | zero => intros; exact z_none
  | succ n ih =>
    intro x0 x4 x5 x6 G hx5 hx6
    rw [FText_init_L36]
    refine z_iload hC 3 rfl dX9_init_36 ?_
    refine z_iload hC 2 rfl dX9_init_38 ?_
    refine z_icmp_ge (tgt := 65) hC hx6 hx5 dX9_init_40 (by decide) (fun _ => ?_) (fun _ => ?_)
    · refine z_aload_n hC 0 rfl dX9_init_43 rfl ?_
      refine z_getQ hC zF9_9 rfl dX9_init_44 (fun v1 => ?_)
      refine z_iload hC 3 rfl dX9_init_47 ?_
      refine z_aload hC 1 rfl dX9_init_49 ?_
      refine z_iload hC 3 rfl dX9_init_51 ?_
      refine z_cIp (z_rS (As := [.ref x4, .int (zi x6)]) hC (fun _ h1 => SB_at FU x4 x6 hx6 h1) zM9_28 zMs_FB_at ⟨by decide, by decide⟩ rfl rfl rfl (rest := [.int (zi x6), .ref v1]) (Nat.le_of_ble_eq_true rfl) ⟨Nat.le_of_ble_eq_true rfl, Nat.le_of_ble_eq_true rfl⟩ rfl dX9_init_53) (fun v2 hv2 => ?_)
      refine z_cV (z_rS (As := [.ref v1, .int (zi x6), .int (zi v2)]) hC (fun _ h1 => SB_put FU v1 x6 v2 hx6 hv2 h1) zM9_32 zMs_FB_put ⟨by decide, by decide⟩ rfl rfl rfl (rest := []) (Nat.le_of_ble_eq_true rfl) ⟨Nat.le_of_ble_eq_true rfl, Nat.le_of_ble_eq_true rfl⟩ rfl dX9_init_56) (fun G3 => ?_)
      refine z_iinc (lo' := fun v4 => [(6, .int (zi v4)), (0, .ref x0), (4, .ref x4), (5, .int (zi x5))]) hC 3 dX9_init_59 rfl (by decide) (fun _ => rfl) (fun v4 hv4 => ?_)
      refine z_goto (tgt := 36) hC dX9_init_62 (by decide) ?_
      refine z_sub hC [1, 2, 3, 0] (lo' := [(0, .ref x0), (4, .ref x4), (5, .int (zi x5)), (6, .int (zi v4))]) rfl ?_
      exact ih x0 x4 x5 v4 G3 hx5 hv4
    · exact z_vret hC hr dX9_init_65
set_option maxRecDepth 100000 in
theorem SText_init {l : Launch} {D : va_G} {aC : Nat → ClassId} (FU : Nat) (this : Nat) (p1 : Int) (p2 : Int) (p3 : Int) (p4 : Nat) (p5 : Int) (hp1 : zInI p1) (hp2 : zInI p2) (hp3 : zInI p3) (hp5 : zInI p5) {G : Hp} {r1 : (Unit × Hp)} (h1 : FText_init FU this p1 p2 p3 p4 p5 G = some r1) : Met l yX9_init (Cond.code yX9_init cX9_init 7 none :: zgood) ({ frames := 2, cells := 1, slots := 120, locals := 46 } : Room) (va_Pc [.ref this, .int (zi p1), .int (zi p2), .int (zi p3), .ref p4, .int (zi p5)] (zU D aC G)) (zQ D aC G (True) (none) r1.2) 1 120 (zA G) := by
  refine z_met (y := yX9_init) (b := cX9_init) (maxL := 7) (mc := 1) (ms := 120) (ret := none) (As := [.ref this, .int (zi p1), .int (zi p2), .int (zi p3), .ref p4, .int (zi p5)]) (Q1 := fun r1 => zQ D aC G (True) (none) r1.2) (X := FText_init FU this p1 p2 p3 p4 p5 G) (by decide) (Nat.le_of_ble_eq_true rfl) ?_ h1
  intro p e s m below meth c hC hr hi
  have hC : zC p m c meth s ([.ref this, .int (zi p1), .int (zi p2), .int (zi p3), .ref p4, .int (zi p5)] : List Value).toArray cX9_init 7 RX9 D aC := hC
  generalize ([.ref this, .int (zi p1), .int (zi p2), .int (zi p3), .ref p4, .int (zi p5)] : List Value).toArray = args at hC ⊢
  show zS p l e ({ frames := 2, cells := 1, slots := 120, locals := 46 } : Room) s m args below meth c D aC G (zfV D aC G below args s 1 120) 7 0 0 (FText_init FU this p1 p2 p3 p4 p5 G) G 0 [(0, .ref this), (1, .int (zi p1)), (2, .int (zi p2)), (3, .int (zi p3)), (4, .ref p4), (5, .int (zi p5))] []
  unfold FText_init
  refine z_aload_n hC 0 rfl dX9_init_0 rfl ?_
  refine z_objInit hC zO9_3 ⟨by decide, by decide⟩ ⟨by decide, by decide⟩ dX9_init_1 ?_
  refine z_aload_n hC 0 rfl dX9_init_4 rfl ?_
  refine z_bipush hC dX9_init_5 rfl ?_
  refine z_newarr20 hC 120 rfl (by decide) (zgood_in 155 (by decide +kernel) (by decide +kernel)) (by decide) (by decide) dX9_init_7 (fun a1 G2 => ?_)
  refine z_widen (k := 1) (n := 120) (by decide) (by decide) ?_
  refine z_putFR hC (t := 9) (k := 4) rfl (by decide) rfl (zgood_in 797 (by decide +kernel) (by decide +kernel)) rfl rfl hi rfl dX9_init_9 (fun G3 => ?_)
  refine z_aload_n hC 0 rfl dX9_init_12 rfl ?_
  refine z_iload_n hC 1 rfl dX9_init_13 rfl ?_
  refine z_putFI hC hp1 (t := 9) (k := 0) rfl (by decide) rfl (zgood_in 789 (by decide +kernel) (by decide +kernel)) rfl rfl hi rfl dX9_init_14 (fun G4 => ?_)
  refine z_aload_n hC 0 rfl dX9_init_17 rfl ?_
  refine z_iload_n hC 2 rfl dX9_init_18 rfl ?_
  refine z_putFI hC hp2 (t := 9) (k := 1) rfl (by decide) rfl (zgood_in 791 (by decide +kernel) (by decide +kernel)) rfl rfl hi rfl dX9_init_19 (fun G5 => ?_)
  refine z_aload_n hC 0 rfl dX9_init_22 rfl ?_
  refine z_iload_n hC 3 rfl dX9_init_23 rfl ?_
  refine z_putFI hC hp3 (t := 9) (k := 2) rfl (by decide) rfl (zgood_in 793 (by decide +kernel) (by decide +kernel)) rfl rfl hi rfl dX9_init_24 (fun G6 => ?_)
  refine z_aload_n hC 0 rfl dX9_init_27 rfl ?_
  refine z_iload hC 5 rfl dX9_init_28 ?_
  refine z_putFI hC hp5 (t := 9) (k := 3) rfl (by decide) rfl (zgood_in 795 (by decide +kernel) (by decide +kernel)) rfl rfl hi rfl dX9_init_30 (fun G7 => ?_)
  refine z_iconst hC dX9_init_33 ?_
  refine z_istore (lo' := [(6, .int (zi (0))), (0, .ref this), (1, .int (zi p1)), (2, .int (zi p2)), (3, .int (zi p3)), (4, .ref p4), (5, .int (zi p5))]) hC dX9_init_34 (by decide) rfl ?_
  refine z_sub hC [1, 5, 6, 0] (lo' := [(0, .ref this), (4, .ref p4), (5, .int (zi p5)), (6, .int (zi (0)))]) rfl ?_
  exact SText_init_L36 hC hr hi FU FU this p4 p5 (0) G7 hp5 (by decide)

set_option maxRecDepth 100000 in
theorem SShelf_makeText {l : Launch} {D : va_G} {aC : Nat → ClassId} (FU : Nat) (this : Nat) (p1 : Int) (p2 : Int) (p3 : Int) (hp1 : zInI p1) (hp2 : zInI p2) (hp3 : zInI p3) {G : Hp} {r1 : (Int × Hp)} (h1 : FShelf_makeText FU this p1 p2 p3 G = some r1) : Met l yX6_makeText (Cond.code yX6_makeText cX6_makeText 5 (some .int) :: zgood) ({ frames := 62, cells := 2, slots := 125, locals := 1433 } : Room) (va_Pc [.ref this, .int (zi p1), .int (zi p2), .int (zi p3)] (zU D aC G)) (zQ D aC G (zInI r1.1) (some (.int (zi r1.1))) r1.2) 2 125 (zA G) := by
  refine z_met (y := yX6_makeText) (b := cX6_makeText) (maxL := 5) (mc := 2) (ms := 125) (ret := (some .int)) (As := [.ref this, .int (zi p1), .int (zi p2), .int (zi p3)]) (Q1 := fun r1 => zQ D aC G (zInI r1.1) (some (.int (zi r1.1))) r1.2) (X := FShelf_makeText FU this p1 p2 p3 G) (by decide) (Nat.le_of_ble_eq_true rfl) ?_ h1
  intro p e s m below meth c hC hr hi
  have hC : zC p m c meth s ([.ref this, .int (zi p1), .int (zi p2), .int (zi p3)] : List Value).toArray cX6_makeText 5 RX6 D aC := hC
  generalize ([.ref this, .int (zi p1), .int (zi p2), .int (zi p3)] : List Value).toArray = args at hC ⊢
  show zS p l e ({ frames := 62, cells := 2, slots := 125, locals := 1433 } : Room) s m args below meth c D aC G (zfI D aC G below args s 2 125) 5 0 0 (FShelf_makeText FU this p1 p2 p3 G) G 0 [(0, .ref this), (1, .int (zi p1)), (2, .int (zi p2)), (3, .int (zi p3))] []
  unfold FShelf_makeText
  refine z_gd ?_
  unfold FShelf_makeText_b
  refine z_aload_n hC 0 rfl dX6_makeText_0 rfl ?_
  refine z_getI hC zF6_40 rfl dX6_makeText_1 (fun v1 hv1 => ?_)
  refine z_if_lt (tgt := 19) hC hv1 dX6_makeText_4 (by decide) (fun _ => ?_) (fun _ => ?_)
  · refine z_bipush hC dX6_makeText_19 rfl ?_
    refine z_widen (k := 2) (n := 125) (by decide) (by decide) ?_
    exact z_iret hC (by decide) hr dX6_makeText_21
  · refine z_aload_n hC 0 rfl dX6_makeText_7 rfl ?_
    refine z_getI hC zF6_40 rfl dX6_makeText_8 (fun v2 hv2 => ?_)
    refine z_aload_n hC 0 rfl dX6_makeText_11 rfl ?_
    refine z_getQ hC zF6_20 rfl dX6_makeText_12 (fun v3 => ?_)
    refine z_alen25 hC dX6_makeText_15 (fun v4 hv4 => ?_)
    refine z_icmp_lt (tgt := 22) hC hv2 hv4 dX6_makeText_16 (by decide) (fun _ => ?_) (fun _ => ?_)
    · refine z_aload_n hC 0 rfl dX6_makeText_22 rfl ?_
      refine z_getI hC zF6_32 rfl dX6_makeText_23 (fun v5 hv5 => ?_)
      refine z_istore (lo' := [(4, .int (zi v5)), (0, .ref this), (1, .int (zi p1)), (2, .int (zi p2)), (3, .int (zi p3))]) hC dX6_makeText_26 (by decide) rfl ?_
      refine z_aload_n hC 1 rfl dX6_makeText_28 rfl ?_
      refine z_iconst hC dX6_makeText_29 ?_
      refine z_putI hC (by decide) zF6_32 rfl rfl dX6_makeText_30 (fun G6 => ?_)
      refine z_aload_n hC 1 rfl dX6_makeText_33 rfl ?_
      refine z_getQ hC zF6_12 rfl dX6_makeText_34 (fun v7 => ?_)
      refine z_aload_n hC 1 rfl dX6_makeText_37 rfl ?_
      refine z_getQ hC zF6_24 rfl dX6_makeText_38 (fun v8 => ?_)
      refine z_iload hC 0 rfl dX6_makeText_41 ?_
      refine z_cI (z_rV (q := v7) (t := 5) (As := [.ref v8, .int (zi v5)]) hC (fun _ h1 => SReader_read FU v7 v8 v5 hv5 h1) (fun _ h1 => SReader_read_k h1) rfl rfl zM6_43 zMv_FReader_read ⟨by decide, by decide⟩ rfl rfl rfl (rest := []) (Nat.le_of_ble_eq_true rfl) ⟨Nat.le_of_ble_eq_true rfl, Nat.le_of_ble_eq_true rfl⟩ rfl dX6_makeText_43) (fun v10 G9 hv10 => ?_)
      refine z_pop hC rfl dX6_makeText_46 ?_
      refine z_aload_n hC 1 rfl dX6_makeText_47 rfl ?_
      refine z_getQ hC zF6_12 rfl dX6_makeText_48 (fun v11 => ?_)
      refine z_getZ hC zF6_47 rfl dX6_makeText_51 (fun v12 hv12 => ?_)
      refine z_if_eq (tgt := 68) hC (hv12).i dX6_makeText_54 (by decide) (fun _ => ?_) (fun _ => ?_)
      · refine z_aload_n hC 1 rfl dX6_makeText_68 rfl ?_
        refine z_getQ hC zF6_20 rfl dX6_makeText_69 (fun v13 => ?_)
        refine z_aload_n hC 1 rfl dX6_makeText_72 rfl ?_
        refine z_getI hC zF6_40 rfl dX6_makeText_73 (fun v14 hv14 => ?_)
        refine z_new (t := 9) hC rfl (zgood_in 301 (by decide +kernel) (by decide +kernel)) (zgood_in 782 (by decide +kernel) (by decide +kernel)) (zgood_in 113 (by decide +kernel) (by decide +kernel)) (by decide) (by decide) dX6_makeText_76 (fun a15 G16 => ?_)
        refine z_widen (k := 1) (n := 5) (by decide) (by decide) ?_
        refine z_dup hC rfl dX6_makeText_79 ?_
        refine z_iload_n hC 2 rfl dX6_makeText_80 rfl ?_
        refine z_iload_n hC 3 rfl dX6_makeText_81 rfl ?_
        refine z_iload_n hC 4 rfl dX6_makeText_82 rfl ?_
        refine z_aload_n hC 1 rfl dX6_makeText_83 rfl ?_
        refine z_getQ hC zF6_24 rfl dX6_makeText_84 (fun v17 => ?_)
        refine z_iload hC 0 rfl dX6_makeText_87 ?_
        refine z_cV (z_rI (q := a15) (As := [.int (zi p1), .int (zi p2), .int (zi p3), .ref v17, .int (zi v5)]) hC (fun _ h1 => SText_init FU a15 p1 p2 p3 v17 v5 hp1 hp2 hp3 hv5 h1) zM6_54 zMi_FText_init ⟨by decide, by decide⟩ rfl rfl rfl (rest := [.ref a15, .int (zi v14), .ref v13]) (Nat.le_of_ble_eq_true rfl) ⟨Nat.le_of_ble_eq_true rfl, Nat.le_of_ble_eq_true rfl⟩ rfl dX6_makeText_89) (fun G18 => ?_)
        refine z_widen (k := 2) (n := 125) (by decide) (by decide) ?_
        refine z_aast25 hC hv14 dX6_makeText_92 (fun G19 => ?_)
        refine z_aload_n hC 1 rfl dX6_makeText_93 rfl ?_
        refine z_dup hC rfl dX6_makeText_94 ?_
        refine z_getI hC zF6_40 rfl dX6_makeText_95 (fun v20 hv20 => ?_)
        refine z_iconst hC dX6_makeText_98 ?_
        refine z_iadd hC dX6_makeText_99 (fun v21 hv21 => ?_)
        refine z_putI hC hv21 zF6_40 rfl rfl dX6_makeText_100 (fun G22 => ?_)
        refine z_aload_n hC 1 rfl dX6_makeText_103 rfl ?_
        refine z_getI hC zF6_40 rfl dX6_makeText_104 (fun v23 hv23 => ?_)
        refine z_iconst hC dX6_makeText_107 ?_
        refine z_isub hC dX6_makeText_108 (fun v24 hv24 => ?_)
        exact z_iret hC hv24 hr dX6_makeText_109
      · refine z_bipush hC dX6_makeText_57 rfl ?_
        refine z_aload_n hC 1 rfl dX6_makeText_59 rfl ?_
        refine z_getQ hC zF6_12 rfl dX6_makeText_60 (fun v25 => ?_)
        refine z_getI hC zF6_51 rfl dX6_makeText_63 (fun v26 hv26 => ?_)
        refine z_isub hC dX6_makeText_66 (fun v27 hv27 => ?_)
        refine z_widen (k := 2) (n := 125) (by decide) (by decide) ?_
        exact z_iret hC hv27 hr dX6_makeText_67
    · refine z_bipush hC dX6_makeText_19 rfl ?_
      refine z_widen (k := 2) (n := 125) (by decide) (by decide) ?_
      exact z_iret hC (by decide) hr dX6_makeText_21
theorem SShelf_makeText_k {FU : Nat} {this : Nat} {p1 : Int} {p2 : Int} {p3 : Int} {G : Hp} {r1 : (Int × Hp)} (h1 : FShelf_makeText FU this p1 p2 p3 G = some r1) : zk G this = some (6, 0) := zgd_k (k := FShelf_makeText_b FU this p1 p2 p3 G) h1

set_option maxRecDepth 100000 in
theorem SShelf_textAt {l : Launch} {D : va_G} {aC : Nat → ClassId} (FU : Nat) (this : Nat) (p1 : Int) (hp1 : zInI p1) {G : Hp} {r1 : (Option Nat)} (h1 : FShelf_textAt FU this p1 G = some r1) : Met l yX6_textAt (Cond.code yX6_textAt cX6_textAt 2 (some (.object "BreadLands$Text")) :: zgood) ({ frames := 1, cells := 0, slots := 0, locals := 24 } : Room) (va_Pc [.ref this, .int (zi p1)] (zU D aC G)) (zQ D aC G (True) (some (va_rf r1)) G) 0 0 (zA G) := by
  refine z_met (y := yX6_textAt) (b := cX6_textAt) (maxL := 2) (mc := 0) (ms := 0) (ret := (some (.object "BreadLands$Text"))) (As := [.ref this, .int (zi p1)]) (Q1 := fun r1 => zQ D aC G (True) (some (va_rf r1)) G) (X := FShelf_textAt FU this p1 G) (by decide) (Nat.le_of_ble_eq_true rfl) ?_ h1
  intro p e s m below meth c hC hr hi
  have hC : zC p m c meth s ([.ref this, .int (zi p1)] : List Value).toArray cX6_textAt 2 RX6 D aC := hC
  generalize ([.ref this, .int (zi p1)] : List Value).toArray = args at hC ⊢
  show zS p l e ({ frames := 1, cells := 0, slots := 0, locals := 24 } : Room) s m args below meth c D aC G (fun r1 => zfA D aC G below args s 0 0 (r1, G)) 2 0 0 (FShelf_textAt FU this p1 G) G 0 [(0, .ref this), (1, .int (zi p1))] []
  unfold FShelf_textAt
  refine z_gd ?_
  unfold FShelf_textAt_b
  refine z_iload_n hC 1 rfl dX6_textAt_0 rfl ?_
  refine z_if_lt (tgt := 30) hC hp1 dX6_textAt_1 (by decide) (fun _ => ?_) (fun _ => ?_)
  · refine z_null hC dX6_textAt_30 ?_
    exact z_aretp (v := none) hC hr ⟨_, rfl⟩ dX6_textAt_31
  · refine z_iload_n hC 1 rfl dX6_textAt_4 rfl ?_
    refine z_aload_n hC 0 rfl dX6_textAt_5 rfl ?_
    refine z_getI hC zF6_40 rfl dX6_textAt_6 (fun v1 hv1 => ?_)
    refine z_icmp_ge (tgt := 30) hC hp1 hv1 dX6_textAt_9 (by decide) (fun _ => ?_) (fun _ => ?_)
    · refine z_iload_n hC 1 rfl dX6_textAt_12 rfl ?_
      refine z_aload_n hC 0 rfl dX6_textAt_13 rfl ?_
      refine z_getQ hC zF6_20 rfl dX6_textAt_14 (fun v2 => ?_)
      refine z_alen25 hC dX6_textAt_17 (fun v3 hv3 => ?_)
      refine z_icmp_ge (tgt := 30) hC hp1 hv3 dX6_textAt_18 (by decide) (fun _ => ?_) (fun _ => ?_)
      · refine z_aload_n hC 0 rfl dX6_textAt_21 rfl ?_
        refine z_getQ hC zF6_20 rfl dX6_textAt_22 (fun v4 => ?_)
        refine z_iload_n hC 1 rfl dX6_textAt_25 rfl ?_
        refine z_aald25 hC hp1 dX6_textAt_26 (fun v5 => ?_)
        refine z_goto (tgt := 31) hC dX6_textAt_27 (by decide) ?_
        exact z_aretp (v := v5) hC hr ⟨_, rfl⟩ dX6_textAt_31
      · refine z_null hC dX6_textAt_30 ?_
        exact z_aretp (v := none) hC hr ⟨_, rfl⟩ dX6_textAt_31
    · refine z_null hC dX6_textAt_30 ?_
      exact z_aretp (v := none) hC hr ⟨_, rfl⟩ dX6_textAt_31
theorem SShelf_textAt_k {FU : Nat} {this : Nat} {p1 : Int} {G : Hp} {r1 : (Option Nat)} (h1 : FShelf_textAt FU this p1 G = some r1) : zk G this = some (6, 0) := zgd_k (k := FShelf_textAt_b FU this p1 G) h1

set_option maxRecDepth 100000 in
theorem SShelf_numberInForce_L8 {p : Program} {l : Launch} {e : Env} {s : State} {m : MethodId} {args : Array Value} {below : List Frame} {meth : Method} {c : Code} {D : va_G} {aC : Nat → ClassId} {G0 : Hp} (hC : zC p m c meth s args cX6_numberInForce 6 RX6 D aC) (hr : meth.sig.returnType = (some .int)) (FU : Nat) : ∀ (n : Nat) (x0 : Nat) (x1 : Int) (x2 : Int) (x3 : Int) (x4 : Int) (hx1 : zInI x1) (hx2 : zInI x2) (hx3 : zInI x3) (hx4 : zInI x4), zS p l e ({ frames := 2, cells := 0, slots := 0, locals := 45 } : Room) s m args below meth c D aC G0 (fun r1 => zfI D aC G0 below args s 0 0 (r1, G0)) 6 0 0 (FShelf_numberInForce_L8 FU n x0 x1 x2 x3 x4 G0) G0 8 [(0, .ref x0), (1, .int (zi x1)), (2, .int (zi x2)), (3, .int (zi x3)), (4, .int (zi x4))] [] := by
  intro n
  induction n with
  | zero => intros; exact z_none
  | succ n ih =>
    intro x0 x1 x2 x3 x4 hx1 hx2 hx3 hx4
    rw [FShelf_numberInForce_L8]
    refine z_iload hC 4 rfl dX6_numberInForce_8 ?_
    refine z_if_lt (tgt := 65) hC hx4 dX6_numberInForce_10 (by decide) (fun _ => ?_) (fun _ => ?_)
    · refine z_iconst hC dX6_numberInForce_65 ?_
      exact z_iretp hC (by decide) hr dX6_numberInForce_66
    · refine z_aload_n hC 0 rfl dX6_numberInForce_13 rfl ?_
      refine z_iload hC 4 rfl dX6_numberInForce_14 ?_
      refine z_cAp (z_rV (q := x0) (t := 6) (As := [.int (zi x4)]) hC (fun _ h1 => SShelf_textAt FU x0 x4 hx4 h1) (fun _ h1 => SShelf_textAt_k h1) rfl rfl zM6_57 zMv_FShelf_textAt ⟨by decide, by decide⟩ rfl rfl rfl (rest := []) (Nat.le_of_ble_eq_true rfl) ⟨Nat.le_of_ble_eq_true rfl, Nat.le_of_ble_eq_true rfl⟩ rfl dX6_numberInForce_16) (fun v1 => ?_)
      refine z_qstore (lo' := [(5, va_rf v1), (0, .ref x0), (1, .int (zi x1)), (2, .int (zi x2)), (3, .int (zi x3)), (4, .int (zi x4))]) hC dX6_numberInForce_19 (by decide) rfl ?_
      refine z_qload hC 0 rfl dX6_numberInForce_21 ?_
      refine z_ifnull (tgt := 59) hC dX6_numberInForce_23 (by decide) (fun h0 => ?_) (fun a2 h0 => ?_)
      · subst h0
        refine z_iinc (lo' := fun v3 => [(4, .int (zi v3)), (5, .null), (0, .ref x0), (1, .int (zi x1)), (2, .int (zi x2)), (3, .int (zi x3))]) hC 5 dX6_numberInForce_59 rfl (by decide) (fun _ => rfl) (fun v3 hv3 => ?_)
        refine z_goto (tgt := 8) hC dX6_numberInForce_62 (by decide) ?_
        refine z_sub hC [2, 3, 4, 5, 0] (lo' := [(0, .ref x0), (1, .int (zi x1)), (2, .int (zi x2)), (3, .int (zi x3)), (4, .int (zi v3))]) rfl ?_
        exact ih x0 x1 x2 x3 v3 hx1 hx2 hx3 hv3
      · subst h0
        refine z_aload hC 0 rfl dX6_numberInForce_26 ?_
        refine z_getI hC zF6_61 rfl dX6_numberInForce_28 (fun v4 hv4 => ?_)
        refine z_iload_n hC 2 rfl dX6_numberInForce_31 rfl ?_
        refine z_icmp_eq (tgt := 38) hC hv4 hx1 dX6_numberInForce_32 (by decide) (fun _ => ?_) (fun _ => ?_)
        · refine z_aload hC 0 rfl dX6_numberInForce_38 ?_
          refine z_getI hC zF6_64 rfl dX6_numberInForce_40 (fun v5 hv5 => ?_)
          refine z_iload_n hC 4 rfl dX6_numberInForce_43 rfl ?_
          refine z_icmp_gt (tgt := 59) hC hv5 hx3 dX6_numberInForce_44 (by decide) (fun _ => ?_) (fun _ => ?_)
          · refine z_aload hC 0 rfl dX6_numberInForce_47 ?_
            refine z_getI hC zF6_67 rfl dX6_numberInForce_49 (fun v6 hv6 => ?_)
            refine z_iload_n hC 3 rfl dX6_numberInForce_52 rfl ?_
            refine z_icmp_gt (tgt := 59) hC hv6 hx2 dX6_numberInForce_53 (by decide) (fun _ => ?_) (fun _ => ?_)
            · refine z_iload hC 5 rfl dX6_numberInForce_56 ?_
              exact z_iretp hC hx4 hr dX6_numberInForce_58
            · refine z_iinc (lo' := fun v7 => [(4, .int (zi v7)), (5, .ref a2), (0, .ref x0), (1, .int (zi x1)), (2, .int (zi x2)), (3, .int (zi x3))]) hC 5 dX6_numberInForce_59 rfl (by decide) (fun _ => rfl) (fun v7 hv7 => ?_)
              refine z_goto (tgt := 8) hC dX6_numberInForce_62 (by decide) ?_
              refine z_sub hC [2, 3, 4, 5, 0] (lo' := [(0, .ref x0), (1, .int (zi x1)), (2, .int (zi x2)), (3, .int (zi x3)), (4, .int (zi v7))]) rfl ?_
              exact ih x0 x1 x2 x3 v7 hx1 hx2 hx3 hv7
          · refine z_iinc (lo' := fun v8 => [(4, .int (zi v8)), (5, .ref a2), (0, .ref x0), (1, .int (zi x1)), (2, .int (zi x2)), (3, .int (zi x3))]) hC 5 dX6_numberInForce_59 rfl (by decide) (fun _ => rfl) (fun v8 hv8 => ?_)
            refine z_goto (tgt := 8) hC dX6_numberInForce_62 (by decide) ?_
            refine z_sub hC [2, 3, 4, 5, 0] (lo' := [(0, .ref x0), (1, .int (zi x1)), (2, .int (zi x2)), (3, .int (zi x3)), (4, .int (zi v8))]) rfl ?_
            exact ih x0 x1 x2 x3 v8 hx1 hx2 hx3 hv8
        · refine z_goto (tgt := 59) hC dX6_numberInForce_35 (by decide) ?_
          refine z_iinc (lo' := fun v9 => [(4, .int (zi v9)), (5, .ref a2), (0, .ref x0), (1, .int (zi x1)), (2, .int (zi x2)), (3, .int (zi x3))]) hC 5 dX6_numberInForce_59 rfl (by decide) (fun _ => rfl) (fun v9 hv9 => ?_)
          refine z_goto (tgt := 8) hC dX6_numberInForce_62 (by decide) ?_
          refine z_sub hC [2, 3, 4, 5, 0] (lo' := [(0, .ref x0), (1, .int (zi x1)), (2, .int (zi x2)), (3, .int (zi x3)), (4, .int (zi v9))]) rfl ?_
          exact ih x0 x1 x2 x3 v9 hx1 hx2 hx3 hv9
set_option maxRecDepth 100000 in
theorem SShelf_numberInForce {l : Launch} {D : va_G} {aC : Nat → ClassId} (FU : Nat) (this : Nat) (p1 : Int) (p2 : Int) (p3 : Int) (hp1 : zInI p1) (hp2 : zInI p2) (hp3 : zInI p3) {G : Hp} {r1 : Int} (h1 : FShelf_numberInForce FU this p1 p2 p3 G = some r1) : Met l yX6_numberInForce (Cond.code yX6_numberInForce cX6_numberInForce 6 (some .int) :: zgood) ({ frames := 2, cells := 0, slots := 0, locals := 45 } : Room) (va_Pc [.ref this, .int (zi p1), .int (zi p2), .int (zi p3)] (zU D aC G)) (zQ D aC G (zInI r1) (some (.int (zi r1))) G) 0 0 (zA G) := by
  refine z_met (y := yX6_numberInForce) (b := cX6_numberInForce) (maxL := 6) (mc := 0) (ms := 0) (ret := (some .int)) (As := [.ref this, .int (zi p1), .int (zi p2), .int (zi p3)]) (Q1 := fun r1 => zQ D aC G (zInI r1) (some (.int (zi r1))) G) (X := FShelf_numberInForce FU this p1 p2 p3 G) (by decide) (Nat.le_of_ble_eq_true rfl) ?_ h1
  intro p e s m below meth c hC hr hi
  have hC : zC p m c meth s ([.ref this, .int (zi p1), .int (zi p2), .int (zi p3)] : List Value).toArray cX6_numberInForce 6 RX6 D aC := hC
  generalize ([.ref this, .int (zi p1), .int (zi p2), .int (zi p3)] : List Value).toArray = args at hC ⊢
  show zS p l e ({ frames := 2, cells := 0, slots := 0, locals := 45 } : Room) s m args below meth c D aC G (fun r1 => zfI D aC G below args s 0 0 (r1, G)) 6 0 0 (FShelf_numberInForce FU this p1 p2 p3 G) G 0 [(0, .ref this), (1, .int (zi p1)), (2, .int (zi p2)), (3, .int (zi p3))] []
  unfold FShelf_numberInForce
  refine z_gd ?_
  unfold FShelf_numberInForce_b
  refine z_aload_n hC 0 rfl dX6_numberInForce_0 rfl ?_
  refine z_getI hC zF6_40 rfl dX6_numberInForce_1 (fun v1 hv1 => ?_)
  refine z_iconst hC dX6_numberInForce_4 ?_
  refine z_isub hC dX6_numberInForce_5 (fun v2 hv2 => ?_)
  refine z_istore (lo' := [(4, .int (zi v2)), (0, .ref this), (1, .int (zi p1)), (2, .int (zi p2)), (3, .int (zi p3))]) hC dX6_numberInForce_6 (by decide) rfl ?_
  refine z_sub hC [1, 2, 3, 4, 0] (lo' := [(0, .ref this), (1, .int (zi p1)), (2, .int (zi p2)), (3, .int (zi p3)), (4, .int (zi v2))]) rfl ?_
  exact SShelf_numberInForce_L8 hC hr FU FU this p1 p2 p3 v2 hp1 hp2 hp3 hv2
theorem SShelf_numberInForce_k {FU : Nat} {this : Nat} {p1 : Int} {p2 : Int} {p3 : Int} {G : Hp} {r1 : Int} (h1 : FShelf_numberInForce FU this p1 p2 p3 G = some r1) : zk G this = some (6, 0) := zgd_k (k := FShelf_numberInForce_b FU this p1 p2 p3 G) h1

set_option maxRecDepth 100000 in
theorem SShop_monthAt {l : Launch} {D : va_G} {aC : Nat → ClassId} (FU : Nat) (this : Nat) (p1 : Int) (hp1 : zInI p1) {G : Hp} {r1 : (Option Nat)} (h1 : FShop_monthAt FU this p1 G = some r1) : Met l yX7_monthAt (Cond.code yX7_monthAt cX7_monthAt 2 (some (.object "BreadLands$Month")) :: zgood) ({ frames := 1, cells := 0, slots := 0, locals := 24 } : Room) (va_Pc [.ref this, .int (zi p1)] (zU D aC G)) (zQ D aC G (True) (some (va_rf r1)) G) 0 0 (zA G) := by
  refine z_met (y := yX7_monthAt) (b := cX7_monthAt) (maxL := 2) (mc := 0) (ms := 0) (ret := (some (.object "BreadLands$Month"))) (As := [.ref this, .int (zi p1)]) (Q1 := fun r1 => zQ D aC G (True) (some (va_rf r1)) G) (X := FShop_monthAt FU this p1 G) (by decide) (Nat.le_of_ble_eq_true rfl) ?_ h1
  intro p e s m below meth c hC hr hi
  have hC : zC p m c meth s ([.ref this, .int (zi p1)] : List Value).toArray cX7_monthAt 2 RX7 D aC := hC
  generalize ([.ref this, .int (zi p1)] : List Value).toArray = args at hC ⊢
  show zS p l e ({ frames := 1, cells := 0, slots := 0, locals := 24 } : Room) s m args below meth c D aC G (fun r1 => zfA D aC G below args s 0 0 (r1, G)) 2 0 0 (FShop_monthAt FU this p1 G) G 0 [(0, .ref this), (1, .int (zi p1))] []
  unfold FShop_monthAt
  refine z_gd ?_
  unfold FShop_monthAt_b
  refine z_iload_n hC 1 rfl dX7_monthAt_0 rfl ?_
  refine z_if_lt (tgt := 22) hC hp1 dX7_monthAt_1 (by decide) (fun _ => ?_) (fun _ => ?_)
  · refine z_null hC dX7_monthAt_22 ?_
    exact z_aretp (v := none) hC hr ⟨_, rfl⟩ dX7_monthAt_23
  · refine z_iload_n hC 1 rfl dX7_monthAt_4 rfl ?_
    refine z_aload_n hC 0 rfl dX7_monthAt_5 rfl ?_
    refine z_getQ hC zF7_11 rfl dX7_monthAt_6 (fun v1 => ?_)
    refine z_alen24 hC dX7_monthAt_9 (fun v2 hv2 => ?_)
    refine z_icmp_ge (tgt := 22) hC hp1 hv2 dX7_monthAt_10 (by decide) (fun _ => ?_) (fun _ => ?_)
    · refine z_aload_n hC 0 rfl dX7_monthAt_13 rfl ?_
      refine z_getQ hC zF7_11 rfl dX7_monthAt_14 (fun v3 => ?_)
      refine z_iload_n hC 1 rfl dX7_monthAt_17 rfl ?_
      refine z_aald24 hC hp1 dX7_monthAt_18 (fun v4 => ?_)
      refine z_goto (tgt := 23) hC dX7_monthAt_19 (by decide) ?_
      exact z_aretp (v := v4) hC hr ⟨_, rfl⟩ dX7_monthAt_23
    · refine z_null hC dX7_monthAt_22 ?_
      exact z_aretp (v := none) hC hr ⟨_, rfl⟩ dX7_monthAt_23
theorem SShop_monthAt_k {FU : Nat} {this : Nat} {p1 : Int} {G : Hp} {r1 : (Option Nat)} (h1 : FShop_monthAt FU this p1 G = some r1) : zk G this = some (7, 0) := zgd_k (k := FShop_monthAt_b FU this p1 G) h1

set_option maxRecDepth 100000 in
theorem SShelf_worth_B103 {p : Program} {l : Launch} {e : Env} {s : State} {m : MethodId} {args : Array Value} {below : List Frame} {meth : Method} {c : Code} {D : va_G} {aC : Nat → ClassId} {G0 : Hp} (hC : zC p m c meth s args cX6_worth 6 RX6 D aC) (hr : meth.sig.returnType = (some .int)) (FU : Nat) (x0 : Nat) (x2 : Nat) (x3 : Int) (x4 : Nat) (y0 : Nat) (y1 : Int) (G : Hp) (hx3 : zInI x3) (hy1 : zInI y1) : zS p l e ({ frames := 62, cells := 0, slots := 0, locals := 1433 } : Room) s m args below meth c D aC G0 (zfI D aC G0 below args s 0 0) 6 0 0 (FShelf_worth_B103 FU x0 x2 x3 x4 y0 y1 G) G 103 [(0, .ref x0), (2, .ref x2), (3, .int (zi x3)), (4, .ref x4)] [.int (zi y1), .ref y0] := by
  unfold FShelf_worth_B103
  refine z_putI hC hy1 zF6_92 rfl rfl dX6_worth_103 (fun G1 => ?_)
  refine z_aload_n hC 0 rfl dX6_worth_106 rfl ?_
  refine z_getQ hC zF6_12 rfl dX6_worth_107 (fun v2 => ?_)
  refine z_aload_n hC 0 rfl dX6_worth_110 rfl ?_
  refine z_getQ hC zF6_28 rfl dX6_worth_111 (fun v3 => ?_)
  refine z_aload_n hC 1 rfl dX6_worth_114 rfl ?_
  refine z_getI hC zF6_95 rfl dX6_worth_115 (fun v4 hv4 => ?_)
  refine z_iload_n hC 2 rfl dX6_worth_118 rfl ?_
  refine z_cIp (z_rV (q := v3) (t := 0) (As := [.int (zi v4), .int (zi x3)]) hC (fun _ h1 => SChain_openOn FU v3 v4 x3 hv4 hx3 h1) (fun _ h1 => SChain_openOn_k h1) rfl rfl zM6_98 zMv_FChain_openOn ⟨by decide, by decide⟩ rfl rfl rfl (rest := [.ref v2]) (Nat.le_of_ble_eq_true rfl) ⟨Nat.le_of_ble_eq_true rfl, Nat.le_of_ble_eq_true rfl⟩ rfl dX6_worth_119) (fun v5 hv5 => ?_)
  refine z_putI hC hv5 zF6_104 rfl rfl dX6_worth_122 (fun G6 => ?_)
  refine z_iconst hC dX6_worth_125 ?_
  refine z_ldc (z := 1000000) hC dX6_worth_126 zc6_107 ?_
  refine z_aload_n hC 0 rfl dX6_worth_128 rfl ?_
  refine z_getQ hC zF6_12 rfl dX6_worth_129 (fun v7 => ?_)
  refine z_aload hC 3 rfl dX6_worth_132 ?_
  refine z_getQ hC zF6_108 rfl dX6_worth_134 (fun v8 => ?_)
  refine z_aload hC 3 rfl dX6_worth_137 ?_
  refine z_getI hC zF6_111 rfl dX6_worth_139 (fun v9 hv9 => ?_)
  refine z_cI (z_rV (q := v7) (t := 5) (As := [.ref v8, .int (zi v9)]) hC (fun _ h1 => SReader_read FU v7 v8 v9 hv9 h1) (fun _ h1 => SReader_read_k h1) rfl rfl zM6_43 zMv_FReader_read ⟨by decide, by decide⟩ rfl rfl rfl (rest := [.int (zi (1000000)), .int (zi (0))]) (Nat.le_of_ble_eq_true rfl) ⟨Nat.le_of_ble_eq_true rfl, Nat.le_of_ble_eq_true rfl⟩ rfl dX6_worth_142) (fun v11 G10 hv11 => ?_)
  refine z_mmin hC (by decide) hv11 zJ6_114.1 zJ6_114.2.1 zJ6_114.2.2.1 zJ6_114.2.2.2 (by decide) (by decide) ⟨Nat.le_of_ble_eq_true rfl, Nat.le_of_ble_eq_true rfl⟩ dX6_worth_145 (fun v12 hv12 => ?_)
  refine z_mmax hC (by decide) hv12 zJ6_119.1 zJ6_119.2.1 zJ6_119.2.2.1 zJ6_119.2.2.2 (by decide) (by decide) ⟨Nat.le_of_ble_eq_true rfl, Nat.le_of_ble_eq_true rfl⟩ dX6_worth_148 (fun v13 hv13 => ?_)
  exact z_iret hC hv13 hr dX6_worth_151
set_option maxRecDepth 100000 in
theorem SShelf_worth_B63 {p : Program} {l : Launch} {e : Env} {s : State} {m : MethodId} {args : Array Value} {below : List Frame} {meth : Method} {c : Code} {D : va_G} {aC : Nat → ClassId} {G0 : Hp} (hC : zC p m c meth s args cX6_worth 6 RX6 D aC) (hr : meth.sig.returnType = (some .int)) (FU : Nat) (x0 : Nat) (x2 : Nat) (x3 : Int) (x4 : Nat) (y0 : Nat) (y1 : Int) (G : Hp) (hx3 : zInI x3) (hy1 : zInI y1) : zS p l e ({ frames := 62, cells := 0, slots := 0, locals := 1433 } : Room) s m args below meth c D aC G0 (zfI D aC G0 below args s 0 0) 6 0 0 (FShelf_worth_B63 FU x0 x2 x3 x4 y0 y1 G) G 63 [(0, .ref x0), (2, .ref x2), (3, .int (zi x3)), (4, .ref x4)] [.int (zi y1), .ref y0] := by
  unfold FShelf_worth_B63
  refine z_putI hC hy1 zF6_85 rfl rfl dX6_worth_63 (fun G1 => ?_)
  refine z_aload_n hC 0 rfl dX6_worth_66 rfl ?_
  refine z_getQ hC zF6_12 rfl dX6_worth_67 (fun v2 => ?_)
  refine z_iload_n hC 2 rfl dX6_worth_70 rfl ?_
  refine z_bipush hC dX6_worth_71 rfl ?_
  refine z_idiv hC hx3 (by decide) dX6_worth_73 (fun v3 hv3 => ?_)
  refine z_putI hC hv3 zF6_86 rfl rfl dX6_worth_74 (fun G4 => ?_)
  refine z_aload_n hC 0 rfl dX6_worth_77 rfl ?_
  refine z_getQ hC zF6_12 rfl dX6_worth_78 (fun v5 => ?_)
  refine z_iload_n hC 2 rfl dX6_worth_81 rfl ?_
  refine z_aload_n hC 1 rfl dX6_worth_82 rfl ?_
  refine z_getI hC zF6_89 rfl dX6_worth_83 (fun v6 hv6 => ?_)
  refine z_icmp_ge (tgt := 93) hC hx3 hv6 dX6_worth_86 (by decide) (fun _ => ?_) (fun _ => ?_)
  · refine z_iconst hC dX6_worth_89 ?_
    refine z_goto (tgt := 103) hC dX6_worth_90 (by decide) ?_
    refine z_sub hC [0, 1, 2, 3] (lo' := [(0, .ref x0), (2, .ref x2), (3, .int (zi x3)), (4, .ref x4)]) rfl ?_
    exact SShelf_worth_B103 hC hr FU x0 x2 x3 x4 v5 (0) G4 hx3 (by decide)
  · refine z_iload_n hC 2 rfl dX6_worth_93 rfl ?_
    refine z_aload_n hC 1 rfl dX6_worth_94 rfl ?_
    refine z_getI hC zF6_89 rfl dX6_worth_95 (fun v7 hv7 => ?_)
    refine z_isub hC dX6_worth_98 (fun v8 hv8 => ?_)
    refine z_sipush hC dX6_worth_99 rfl ?_
    refine z_idiv hC hv8 (by decide) dX6_worth_102 (fun v9 hv9 => ?_)
    refine z_sub hC [0, 1, 2, 3] (lo' := [(0, .ref x0), (2, .ref x2), (3, .int (zi x3)), (4, .ref x4)]) rfl ?_
    exact SShelf_worth_B103 hC hr FU x0 x2 x3 x4 v5 v9 G4 hx3 hv9
set_option maxRecDepth 100000 in
theorem SShelf_worth_B42 {p : Program} {l : Launch} {e : Env} {s : State} {m : MethodId} {args : Array Value} {below : List Frame} {meth : Method} {c : Code} {D : va_G} {aC : Nat → ClassId} {G0 : Hp} (hC : zC p m c meth s args cX6_worth 6 RX6 D aC) (hr : meth.sig.returnType = (some .int)) (FU : Nat) (x0 : Nat) (x2 : Nat) (x3 : Int) (x4 : Nat) (x5 : Option Nat) (y0 : Nat) (y1 : Int) (G : Hp) (hx3 : zInI x3) (hy1 : zInI y1) : zS p l e ({ frames := 62, cells := 0, slots := 0, locals := 1433 } : Room) s m args below meth c D aC G0 (zfI D aC G0 below args s 0 0) 6 0 0 (FShelf_worth_B42 FU x0 x2 x3 x4 x5 y0 y1 G) G 42 [(0, .ref x0), (2, .ref x2), (3, .int (zi x3)), (4, .ref x4), (5, va_rf x5)] [.int (zi y1), .ref y0] := by
  unfold FShelf_worth_B42
  refine z_putI hC hy1 zF6_81 rfl rfl dX6_worth_42 (fun G1 => ?_)
  refine z_aload_n hC 0 rfl dX6_worth_45 rfl ?_
  refine z_getQ hC zF6_12 rfl dX6_worth_46 (fun v2 => ?_)
  refine z_qload hC 4 rfl dX6_worth_49 ?_
  refine z_ifnonnull (tgt := 58) hC dX6_worth_51 (by decide) (fun h0 => ?_) (fun a3 h0 => ?_)
  · subst h0
    refine z_iconst hC dX6_worth_54 ?_
    refine z_goto (tgt := 63) hC dX6_worth_55 (by decide) ?_
    refine z_sub hC [0, 1, 2, 3] (lo' := [(0, .ref x0), (2, .ref x2), (3, .int (zi x3)), (4, .ref x4)]) rfl ?_
    exact SShelf_worth_B63 hC hr FU x0 x2 x3 x4 v2 (0) G1 hx3 (by decide)
  · subst h0
    refine z_aload hC 4 rfl dX6_worth_58 ?_
    refine z_getI hC zF6_82 rfl dX6_worth_60 (fun v4 hv4 => ?_)
    refine z_sub hC [0, 1, 2, 3] (lo' := [(0, .ref x0), (2, .ref x2), (3, .int (zi x3)), (4, .ref x4)]) rfl ?_
    exact SShelf_worth_B63 hC hr FU x0 x2 x3 x4 v2 v4 G1 hx3 hv4
set_option maxRecDepth 100000 in
theorem SShelf_worth {l : Launch} {D : va_G} {aC : Nat → ClassId} (FU : Nat) (this : Nat) (p1 : Int) (p2 : Nat) (p3 : Int) (hp1 : zInI p1) (hp3 : zInI p3) {G : Hp} {r1 : (Int × Hp)} (h1 : FShelf_worth FU this p1 p2 p3 G = some r1) : Met l yX6_worth (Cond.code yX6_worth cX6_worth 6 (some .int) :: zgood) ({ frames := 62, cells := 0, slots := 0, locals := 1433 } : Room) (va_Pc [.ref this, .int (zi p1), .ref p2, .int (zi p3)] (zU D aC G)) (zQ D aC G (zInI r1.1) (some (.int (zi r1.1))) r1.2) 0 0 (zA G) := by
  refine z_met (y := yX6_worth) (b := cX6_worth) (maxL := 6) (mc := 0) (ms := 0) (ret := (some .int)) (As := [.ref this, .int (zi p1), .ref p2, .int (zi p3)]) (Q1 := fun r1 => zQ D aC G (zInI r1.1) (some (.int (zi r1.1))) r1.2) (X := FShelf_worth FU this p1 p2 p3 G) (by decide) (Nat.le_of_ble_eq_true rfl) ?_ h1
  intro p e s m below meth c hC hr hi
  have hC : zC p m c meth s ([.ref this, .int (zi p1), .ref p2, .int (zi p3)] : List Value).toArray cX6_worth 6 RX6 D aC := hC
  generalize ([.ref this, .int (zi p1), .ref p2, .int (zi p3)] : List Value).toArray = args at hC ⊢
  show zS p l e ({ frames := 62, cells := 0, slots := 0, locals := 1433 } : Room) s m args below meth c D aC G (zfI D aC G below args s 0 0) 6 0 0 (FShelf_worth FU this p1 p2 p3 G) G 0 [(0, .ref this), (1, .int (zi p1)), (2, .ref p2), (3, .int (zi p3))] []
  unfold FShelf_worth
  refine z_gd ?_
  unfold FShelf_worth_b
  refine z_aload_n hC 0 rfl dX6_worth_0 rfl ?_
  refine z_iload_n hC 1 rfl dX6_worth_1 rfl ?_
  refine z_cAp (z_rV (q := this) (t := 6) (As := [.int (zi p1)]) hC (fun _ h1 => SShelf_textAt FU this p1 hp1 h1) (fun _ h1 => SShelf_textAt_k h1) rfl rfl zM6_57 zMv_FShelf_textAt ⟨by decide, by decide⟩ rfl rfl rfl (rest := []) (Nat.le_of_ble_eq_true rfl) ⟨Nat.le_of_ble_eq_true rfl, Nat.le_of_ble_eq_true rfl⟩ rfl dX6_worth_2) (fun v1 => ?_)
  refine z_qstore (lo' := [(4, va_rf v1), (0, .ref this), (1, .int (zi p1)), (2, .ref p2), (3, .int (zi p3))]) hC dX6_worth_5 (by decide) rfl ?_
  refine z_qload hC 0 rfl dX6_worth_7 ?_
  refine z_ifnonnull (tgt := 14) hC dX6_worth_9 (by decide) (fun h0 => ?_) (fun a2 h0 => ?_)
  · subst h0
    refine z_iconst hC dX6_worth_12 ?_
    exact z_iret hC (by decide) hr dX6_worth_13
  · subst h0
    refine z_aload_n hC 3 rfl dX6_worth_14 rfl ?_
    refine z_iload_n hC 4 rfl dX6_worth_15 rfl ?_
    refine z_bipush hC dX6_worth_16 rfl ?_
    refine z_idiv hC hp3 (by decide) dX6_worth_18 (fun v3 hv3 => ?_)
    refine z_cAp (z_rV (q := p2) (t := 7) (As := [.int (zi v3)]) hC (fun _ h1 => SShop_monthAt FU p2 v3 hv3 h1) (fun _ h1 => SShop_monthAt_k h1) rfl rfl zM6_70 zMv_FShop_monthAt ⟨by decide, by decide⟩ rfl rfl rfl (rest := []) (Nat.le_of_ble_eq_true rfl) ⟨Nat.le_of_ble_eq_true rfl, Nat.le_of_ble_eq_true rfl⟩ rfl dX6_worth_19) (fun v4 => ?_)
    refine z_qstore (lo' := [(5, va_rf v4), (4, .ref a2), (0, .ref this), (1, .int (zi p1)), (2, .ref p2), (3, .int (zi p3))]) hC dX6_worth_22 (by decide) rfl ?_
    refine z_aload_n hC 2 rfl dX6_worth_24 rfl ?_
    refine z_getQ hC zF6_12 rfl dX6_worth_25 (fun v5 => ?_)
    refine z_qload hC 0 rfl dX6_worth_28 ?_
    refine z_ifnonnull (tgt := 37) hC dX6_worth_30 (by decide) (fun h0 => ?_) (fun a6 h0 => ?_)
    · subst h0
      refine z_iconst hC dX6_worth_33 ?_
      refine z_goto (tgt := 42) hC dX6_worth_34 (by decide) ?_
      refine z_sub hC [2, 4, 5, 1, 0] (lo' := [(0, .ref this), (2, .ref p2), (3, .int (zi p3)), (4, .ref a2), (5, va_rf none)]) rfl ?_
      exact SShelf_worth_B42 hC hr FU this p2 p3 a2 none v5 (0) G hp3 (by decide)
    · subst h0
      refine z_aload hC 0 rfl dX6_worth_37 ?_
      refine z_getI hC zF6_76 rfl dX6_worth_39 (fun v7 hv7 => ?_)
      refine z_sub hC [2, 4, 5, 1, 0] (lo' := [(0, .ref this), (2, .ref p2), (3, .int (zi p3)), (4, .ref a2), (5, va_rf (some a6))]) rfl ?_
      exact SShelf_worth_B42 hC hr FU this p2 p3 a2 (some a6) v5 v7 G hp3 hv7
theorem SShelf_worth_k {FU : Nat} {this : Nat} {p1 : Int} {p2 : Nat} {p3 : Int} {G : Hp} {r1 : (Int × Hp)} (h1 : FShelf_worth FU this p1 p2 p3 G = some r1) : zk G this = some (6, 0) := zgd_k (k := FShelf_worth_b FU this p1 p2 p3 G) h1

set_option maxRecDepth 100000 in
theorem SShop_init {l : Launch} {D : va_G} {aC : Nat → ClassId} (FU : Nat) (this : Nat) (p1 : Int) (p2 : Int) (p3 : Int) (p4 : Int) (hp1 : zInI p1) (hp2 : zInI p2) (hp3 : zInI p3) (hp4 : zInI p4) {G : Hp} {r1 : (Unit × Hp)} (h1 : FShop_init FU this p1 p2 p3 p4 G = some r1) : Met l yX7_init (Cond.code yX7_init cX7_init 5 none :: zgood) ({ frames := 1, cells := 1, slots := 333, locals := 24 } : Room) (va_Pc [.ref this, .int (zi p1), .int (zi p2), .int (zi p3), .int (zi p4)] (zU D aC G)) (zQ D aC G (True) (none) r1.2) 1 333 (zA G) := by
  refine z_met (y := yX7_init) (b := cX7_init) (maxL := 5) (mc := 1) (ms := 333) (ret := none) (As := [.ref this, .int (zi p1), .int (zi p2), .int (zi p3), .int (zi p4)]) (Q1 := fun r1 => zQ D aC G (True) (none) r1.2) (X := FShop_init FU this p1 p2 p3 p4 G) (by decide) (Nat.le_of_ble_eq_true rfl) ?_ h1
  intro p e s m below meth c hC hr hi
  have hC : zC p m c meth s ([.ref this, .int (zi p1), .int (zi p2), .int (zi p3), .int (zi p4)] : List Value).toArray cX7_init 5 RX7 D aC := hC
  generalize ([.ref this, .int (zi p1), .int (zi p2), .int (zi p3), .int (zi p4)] : List Value).toArray = args at hC ⊢
  show zS p l e ({ frames := 1, cells := 1, slots := 333, locals := 24 } : Room) s m args below meth c D aC G (zfV D aC G below args s 1 333) 5 0 0 (FShop_init FU this p1 p2 p3 p4 G) G 0 [(0, .ref this), (1, .int (zi p1)), (2, .int (zi p2)), (3, .int (zi p3)), (4, .int (zi p4))] []
  unfold FShop_init
  refine z_aload_n hC 0 rfl dX7_init_0 rfl ?_
  refine z_objInit hC zO7_3 ⟨by decide, by decide⟩ ⟨by decide, by decide⟩ dX7_init_1 ?_
  refine z_aload_n hC 0 rfl dX7_init_4 rfl ?_
  refine z_sipush hC dX7_init_5 rfl ?_
  refine z_anew24 hC 333 rfl (by decide) (zgood_in 516 (by decide +kernel) (by decide +kernel)) (by decide) (by decide) dX7_init_8 (fun a1 G2 => ?_)
  refine z_widen (k := 1) (n := 333) (by decide) (by decide) ?_
  refine z_putFR hC (t := 7) (k := 4) rfl (by decide) rfl (zgood_in 534 (by decide +kernel) (by decide +kernel)) rfl rfl hi rfl dX7_init_11 (fun G3 => ?_)
  refine z_aload_n hC 0 rfl dX7_init_14 rfl ?_
  refine z_iconst hC dX7_init_15 ?_
  refine z_putI hC (by decide) zF7_17 rfl rfl dX7_init_16 (fun G4 => ?_)
  refine z_aload_n hC 0 rfl dX7_init_19 rfl ?_
  refine z_iconst hC dX7_init_20 ?_
  refine z_putI hC (by decide) zF7_21 rfl rfl dX7_init_21 (fun G5 => ?_)
  refine z_aload_n hC 0 rfl dX7_init_24 rfl ?_
  refine z_iload_n hC 1 rfl dX7_init_25 rfl ?_
  refine z_putFI hC hp1 (t := 7) (k := 0) rfl (by decide) rfl (zgood_in 518 (by decide +kernel) (by decide +kernel)) rfl rfl hi rfl dX7_init_26 (fun G6 => ?_)
  refine z_aload_n hC 0 rfl dX7_init_29 rfl ?_
  refine z_iload_n hC 2 rfl dX7_init_30 rfl ?_
  refine z_putFI hC hp2 (t := 7) (k := 1) rfl (by decide) rfl (zgood_in 522 (by decide +kernel) (by decide +kernel)) rfl rfl hi rfl dX7_init_31 (fun G7 => ?_)
  refine z_aload_n hC 0 rfl dX7_init_34 rfl ?_
  refine z_iload_n hC 3 rfl dX7_init_35 rfl ?_
  refine z_putFI hC hp3 (t := 7) (k := 2) rfl (by decide) rfl (zgood_in 528 (by decide +kernel) (by decide +kernel)) rfl rfl hi rfl dX7_init_36 (fun G8 => ?_)
  refine z_aload_n hC 0 rfl dX7_init_39 rfl ?_
  refine z_iload hC 4 rfl dX7_init_40 ?_
  refine z_putFI hC hp4 (t := 7) (k := 3) rfl (by decide) rfl (zgood_in 531 (by decide +kernel) (by decide +kernel)) rfl rfl hi rfl dX7_init_42 (fun G9 => ?_)
  exact z_vret hC hr dX7_init_45

set_option maxRecDepth 100000 in
theorem SShop_keepMonth {l : Launch} {D : va_G} {aC : Nat → ClassId} (FU : Nat) (this : Nat) (p1 : Int) (p2 : Nat) (hp1 : zInI p1) {G : Hp} {r1 : (Unit × Hp)} (h1 : FShop_keepMonth FU this p1 p2 G = some r1) : Met l yX7_keepMonth (Cond.code yX7_keepMonth cX7_keepMonth 3 none :: zgood) ({ frames := 1, cells := 0, slots := 0, locals := 24 } : Room) (va_Pc [.ref this, .int (zi p1), .ref p2] (zU D aC G)) (zQ D aC G (True) (none) r1.2) 0 0 (zA G) := by
  refine z_met (y := yX7_keepMonth) (b := cX7_keepMonth) (maxL := 3) (mc := 0) (ms := 0) (ret := none) (As := [.ref this, .int (zi p1), .ref p2]) (Q1 := fun r1 => zQ D aC G (True) (none) r1.2) (X := FShop_keepMonth FU this p1 p2 G) (by decide) (Nat.le_of_ble_eq_true rfl) ?_ h1
  intro p e s m below meth c hC hr hi
  have hC : zC p m c meth s ([.ref this, .int (zi p1), .ref p2] : List Value).toArray cX7_keepMonth 3 RX7 D aC := hC
  generalize ([.ref this, .int (zi p1), .ref p2] : List Value).toArray = args at hC ⊢
  show zS p l e ({ frames := 1, cells := 0, slots := 0, locals := 24 } : Room) s m args below meth c D aC G (zfV D aC G below args s 0 0) 3 0 0 (FShop_keepMonth FU this p1 p2 G) G 0 [(0, .ref this), (1, .int (zi p1)), (2, .ref p2)] []
  unfold FShop_keepMonth
  refine z_gd ?_
  unfold FShop_keepMonth_b
  refine z_iload_n hC 1 rfl dX7_keepMonth_0 rfl ?_
  refine z_if_lt (tgt := 20) hC hp1 dX7_keepMonth_1 (by decide) (fun _ => ?_) (fun _ => ?_)
  · exact z_vret hC hr dX7_keepMonth_20
  · refine z_iload_n hC 1 rfl dX7_keepMonth_4 rfl ?_
    refine z_aload_n hC 0 rfl dX7_keepMonth_5 rfl ?_
    refine z_getQ hC zF7_11 rfl dX7_keepMonth_6 (fun v1 => ?_)
    refine z_alen24 hC dX7_keepMonth_9 (fun v2 hv2 => ?_)
    refine z_icmp_ge (tgt := 20) hC hp1 hv2 dX7_keepMonth_10 (by decide) (fun _ => ?_) (fun _ => ?_)
    · refine z_aload_n hC 0 rfl dX7_keepMonth_13 rfl ?_
      refine z_getQ hC zF7_11 rfl dX7_keepMonth_14 (fun v3 => ?_)
      refine z_iload_n hC 1 rfl dX7_keepMonth_17 rfl ?_
      refine z_aload_n hC 2 rfl dX7_keepMonth_18 rfl ?_
      refine z_aast24 hC hp1 dX7_keepMonth_19 (fun G4 => ?_)
      exact z_vret hC hr dX7_keepMonth_20
    · exact z_vret hC hr dX7_keepMonth_20
theorem SShop_keepMonth_k {FU : Nat} {this : Nat} {p1 : Int} {p2 : Nat} {G : Hp} {r1 : (Unit × Hp)} (h1 : FShop_keepMonth FU this p1 p2 G = some r1) : zk G this = some (7, 0) := zgd_k (k := FShop_keepMonth_b FU this p1 p2 G) h1

set_option maxRecDepth 100000 in
theorem SShop_charge {l : Launch} {D : va_G} {aC : Nat → ClassId} (FU : Nat) (this : Nat) (p1 : Nat) (p2 : Int) (p3 : Int) (hp2 : zInI p2) (hp3 : zInI p3) {G : Hp} {r1 : (Unit × Hp)} (h1 : FShop_charge FU this p1 p2 p3 G = some r1) : Met l yX7_charge (Cond.code yX7_charge cX7_charge 4 none :: zgood) ({ frames := 1, cells := 0, slots := 0, locals := 24 } : Room) (va_Pc [.ref this, .ref p1, .int (zi p2), .int (zi p3)] (zU D aC G)) (zQ D aC G (True) (none) r1.2) 0 0 (zA G) := by
  refine z_met (y := yX7_charge) (b := cX7_charge) (maxL := 4) (mc := 0) (ms := 0) (ret := none) (As := [.ref this, .ref p1, .int (zi p2), .int (zi p3)]) (Q1 := fun r1 => zQ D aC G (True) (none) r1.2) (X := FShop_charge FU this p1 p2 p3 G) (by decide) (Nat.le_of_ble_eq_true rfl) ?_ h1
  intro p e s m below meth c hC hr hi
  have hC : zC p m c meth s ([.ref this, .ref p1, .int (zi p2), .int (zi p3)] : List Value).toArray cX7_charge 4 RX7 D aC := hC
  generalize ([.ref this, .ref p1, .int (zi p2), .int (zi p3)] : List Value).toArray = args at hC ⊢
  show zS p l e ({ frames := 1, cells := 0, slots := 0, locals := 24 } : Room) s m args below meth c D aC G (zfV D aC G below args s 0 0) 4 0 0 (FShop_charge FU this p1 p2 p3 G) G 0 [(0, .ref this), (1, .ref p1), (2, .int (zi p2)), (3, .int (zi p3))] []
  unfold FShop_charge
  refine z_gd ?_
  unfold FShop_charge_b
  refine z_aload_n hC 1 rfl dX7_charge_0 rfl ?_
  refine z_iload_n hC 2 rfl dX7_charge_1 rfl ?_
  refine z_putI hC hp2 zF7_40 rfl rfl dX7_charge_2 (fun G1 => ?_)
  refine z_aload_n hC 1 rfl dX7_charge_5 rfl ?_
  refine z_iload_n hC 3 rfl dX7_charge_6 rfl ?_
  refine z_putI hC hp3 zF7_43 rfl rfl dX7_charge_7 (fun G2 => ?_)
  refine z_aload_n hC 0 rfl dX7_charge_10 rfl ?_
  refine z_dup hC rfl dX7_charge_11 ?_
  refine z_getI hC zF7_46 rfl dX7_charge_12 (fun v3 hv3 => ?_)
  refine z_iload_n hC 2 rfl dX7_charge_15 rfl ?_
  refine z_iload_n hC 3 rfl dX7_charge_16 rfl ?_
  refine z_iadd hC dX7_charge_17 (fun v4 hv4 => ?_)
  refine z_iadd hC dX7_charge_18 (fun v5 hv5 => ?_)
  refine z_putI hC hv5 zF7_46 rfl rfl dX7_charge_19 (fun G6 => ?_)
  exact z_vret hC hr dX7_charge_22
theorem SShop_charge_k {FU : Nat} {this : Nat} {p1 : Nat} {p2 : Int} {p3 : Int} {G : Hp} {r1 : (Unit × Hp)} (h1 : FShop_charge FU this p1 p2 p3 G = some r1) : zk G this = some (7, 0) := zgd_k (k := FShop_charge_b FU this p1 p2 p3 G) h1

