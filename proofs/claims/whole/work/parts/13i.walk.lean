set_option maxRecDepth 100000 in
theorem SM_goSites_L42 {p : Program} {l : Launch} {e : Env} {s : State} {m : MethodId} {args : Array Value} {below : List Frame} {meth : Method} {c : Code} {D : va_G} {aC : Nat → ClassId} {G0 : Hp} (hC : zC p m c meth s args cX12_goSites 10 RX12 D aC) (hr : meth.sig.returnType = none) (FU : Nat) (rec : Nat → Int → Int → Int → Int → Int → Int → Hp → Option (Unit × Hp)) (rr : Room) (hrr : rr.cells = 0 ∧ rr.slots = 0) (hrec : ∀ (this : Nat) (p1 : Int) (p2 : Int) (p3 : Int) (p4 : Int) (p5 : Int) (p6 : Int), zInI p1 → zInI p2 → zInI p3 → zInI p4 → zInI p5 → zInI p6 → ∀ (G : Hp) (r1 : (Unit × Hp)), rec this p1 p2 p3 p4 p5 p6 G = some r1 → Met l yX12_goSites (Cond.code yX12_goSites cX12_goSites 10 none :: zgood) rr (va_Pc [.ref this, .int (zi p1), .int (zi p2), .int (zi p3), .int (zi p4), .int (zi p5), .int (zi p6)] (zU D aC G)) (zQ D aC G (True) (none) r1.2) 0 0 (zA G)) (hreck : ∀ (this : Nat) (p1 : Int) (p2 : Int) (p3 : Int) (p4 : Int) (p5 : Int) (p6 : Int) (G : Hp) (r1 : (Unit × Hp)), rec this p1 p2 p3 p4 p5 p6 G = some r1 → zk G this = some (12, 0)) : ∀ (n : Nat) (x0 : Nat) (x3 : Int) (x9 : Int) (G : Hp) (hx3 : zInI x3) (hx9 : zInI x9), zS p l e ({ frames := rr.frames + 6, cells := 0, slots := 0, locals := rr.locals + 151 } : Room) s m args below meth c D aC G0 (zfV D aC G0 below args s 0 0) 10 0 0 (FM_goSites_L42 FU rec n x0 x3 x9 G) G 42 [(0, .ref x0), (3, .int (zi x3)), (9, .int (zi x9))] [] := by
  intro n
  induction n with
  | zero => intros; exact z_none
  | succ n ih =>
    intro x0 x3 x9 G hx3 hx9
    rw [FM_goSites_L42]
    refine z_iload hC 2 rfl dX12_goSites_42 ?_
    refine z_iload_n hC 1 rfl dX12_goSites_44 rfl ?_
    refine z_icmp_ge (tgt := 73) hC hx9 hx3 dX12_goSites_45 (by decide) (fun _ => ?_) (fun _ => ?_)
    · refine z_aload_n hC 0 rfl dX12_goSites_48 rfl ?_
      refine z_getQ hC zF12_53 rfl dX12_goSites_49 (fun v1 => ?_)
      refine z_iload hC 2 rfl dX12_goSites_52 ?_
      refine z_aload_n hC 0 rfl dX12_goSites_54 rfl ?_
      refine z_getQ hC zF12_47 rfl dX12_goSites_55 (fun v2 => ?_)
      refine z_aload_n hC 0 rfl dX12_goSites_58 rfl ?_
      refine z_getQ hC zF12_50 rfl dX12_goSites_59 (fun v3 => ?_)
      refine z_iload hC 2 rfl dX12_goSites_62 ?_
      refine z_iald hC hx9 dX12_goSites_64 (fun v4 hv4 => ?_)
      refine z_iald hC hv4 dX12_goSites_65 (fun v5 hv5 => ?_)
      refine z_iast hC hx9 hv5 dX12_goSites_66 (fun G6 => ?_)
      refine z_iinc (lo' := fun v7 => [(9, .int (zi v7)), (0, .ref x0), (3, .int (zi x3))]) hC 2 dX12_goSites_67 rfl (by decide) (fun _ => rfl) (fun v7 hv7 => ?_)
      refine z_goto (tgt := 42) hC dX12_goSites_70 (by decide) ?_
      refine z_sub hC [1, 2, 0] (lo' := [(0, .ref x0), (3, .int (zi x3)), (9, .int (zi v7))]) rfl ?_
      exact ih x0 x3 v7 G6 hx3 hv7
    · exact z_vret hC hr dX12_goSites_73
set_option maxRecDepth 100000 in
theorem SM_goSites_L77 {p : Program} {l : Launch} {e : Env} {s : State} {m : MethodId} {args : Array Value} {below : List Frame} {meth : Method} {c : Code} {D : va_G} {aC : Nat → ClassId} {G0 : Hp} (hC : zC p m c meth s args cX12_goSites 10 RX12 D aC) (hr : meth.sig.returnType = none) (FU : Nat) (rec : Nat → Int → Int → Int → Int → Int → Int → Hp → Option (Unit × Hp)) (rr : Room) (hrr : rr.cells = 0 ∧ rr.slots = 0) (hrec : ∀ (this : Nat) (p1 : Int) (p2 : Int) (p3 : Int) (p4 : Int) (p5 : Int) (p6 : Int), zInI p1 → zInI p2 → zInI p3 → zInI p4 → zInI p5 → zInI p6 → ∀ (G : Hp) (r1 : (Unit × Hp)), rec this p1 p2 p3 p4 p5 p6 G = some r1 → Met l yX12_goSites (Cond.code yX12_goSites cX12_goSites 10 none :: zgood) rr (va_Pc [.ref this, .int (zi p1), .int (zi p2), .int (zi p3), .int (zi p4), .int (zi p5), .int (zi p6)] (zU D aC G)) (zQ D aC G (True) (none) r1.2) 0 0 (zA G)) (hreck : ∀ (this : Nat) (p1 : Int) (p2 : Int) (p3 : Int) (p4 : Int) (p5 : Int) (p6 : Int) (G : Hp) (r1 : (Unit × Hp)), rec this p1 p2 p3 p4 p5 p6 G = some r1 → zk G this = some (12, 0)) : ∀ (n : Nat) (x0 : Nat) (x1 : Int) (x3 : Int) (x4 : Int) (x5 : Int) (x6 : Int) (x7 : Int) (G : Hp) (hx1 : zInI x1) (hx3 : zInI x3) (hx4 : zInI x4) (hx5 : zInI x5) (hx6 : zInI x6) (hx7 : zInI x7), zS p l e ({ frames := rr.frames + 6, cells := 0, slots := 0, locals := rr.locals + 151 } : Room) s m args below meth c D aC G0 (zfV D aC G0 below args s 0 0) 10 0 0 (FM_goSites_L77 FU rec n x0 x1 x3 x4 x5 x6 x7 G) G 77 [(0, .ref x0), (1, .int (zi x1)), (3, .int (zi x3)), (4, .int (zi x4)), (5, .int (zi x5)), (6, .int (zi x6)), (7, .int (zi x7))] [] := by
  intro n
  induction n with
  | zero => intros; exact z_none
  | succ n ih =>
    intro x0 x1 x3 x4 x5 x6 x7 G hx1 hx3 hx4 hx5 hx6 hx7
    rw [FM_goSites_L77]
    refine z_iload hC 6 rfl dX12_goSites_77 ?_
    refine z_aload_n hC 0 rfl dX12_goSites_79 rfl ?_
    refine z_getI hC zF12_217 rfl dX12_goSites_80 (fun v1 hv1 => ?_)
    refine z_icmp_ge (tgt := 148) hC hx7 hv1 dX12_goSites_83 (by decide) (fun _ => ?_) (fun _ => ?_)
    · refine z_aload_n hC 0 rfl dX12_goSites_86 rfl ?_
      refine z_aload_n hC 0 rfl dX12_goSites_87 rfl ?_
      refine z_getQ hC zF12_47 rfl dX12_goSites_88 (fun v2 => ?_)
      refine z_iload hC 6 rfl dX12_goSites_91 ?_
      refine z_iald hC hx7 dX12_goSites_93 (fun v3 hv3 => ?_)
      refine z_cIp (z_rV (q := x0) (t := 12) (As := [.int (zi v3)]) hC (fun _ h1 => SM_openAt FU x0 v3 hv3 h1) (fun _ h1 => SM_openAt_k h1) rfl rfl zM12_185 zMv_FM_openAt ⟨show 2 + 1 ≤ rr.frames + 6 by omega, show 8 + (3 + 11) + 45 ≤ rr.locals + 151 by omega⟩ rfl rfl rfl (rest := []) (Nat.le_of_ble_eq_true rfl) ⟨Nat.le_of_ble_eq_true rfl, Nat.le_of_ble_eq_true rfl⟩ rfl dX12_goSites_94) (fun v4 hv4 => ?_)
      refine z_if_ge (tgt := 142) hC hv4 dX12_goSites_97 (by decide) (fun _ => ?_) (fun _ => ?_)
      · refine z_aload_n hC 0 rfl dX12_goSites_100 rfl ?_
        refine z_aload_n hC 0 rfl dX12_goSites_101 rfl ?_
        refine z_getQ hC zF12_47 rfl dX12_goSites_102 (fun v5 => ?_)
        refine z_iload hC 6 rfl dX12_goSites_105 ?_
        refine z_iald hC hx7 dX12_goSites_107 (fun v6 hv6 => ?_)
        refine z_iload hC 3 rfl dX12_goSites_108 ?_
        refine z_cZ (z_rV (q := x0) (t := 12) (As := [.int (zi v6), .int (zi x4)]) hC (fun _ h1 => SM_isOthers FU x0 v6 x4 hv6 hx4 h1) (fun _ h1 => SM_isOthers_k h1) rfl rfl zM12_188 zMv_FM_isOthers ⟨show 4 + 1 ≤ rr.frames + 6 by omega, show 8 + (4 + 11) + 95 ≤ rr.locals + 151 by omega⟩ rfl rfl rfl (rest := []) (Nat.le_of_ble_eq_true rfl) ⟨Nat.le_of_ble_eq_true rfl, Nat.le_of_ble_eq_true rfl⟩ rfl dX12_goSites_110) (fun v8 G7 hv8 => ?_)
        refine z_if_ne (tgt := 142) hC (hv8).i dX12_goSites_113 (by decide) (fun _ => ?_) (fun _ => ?_)
        · refine z_aload_n hC 0 rfl dX12_goSites_116 rfl ?_
          refine z_getQ hC zF12_50 rfl dX12_goSites_117 (fun v9 => ?_)
          refine z_iload_n hC 1 rfl dX12_goSites_120 rfl ?_
          refine z_iload hC 6 rfl dX12_goSites_121 ?_
          refine z_iast hC hx1 hx7 dX12_goSites_123 (fun G10 => ?_)
          refine z_aload_n hC 0 rfl dX12_goSites_124 rfl ?_
          refine z_iload_n hC 1 rfl dX12_goSites_125 rfl ?_
          refine z_iconst hC dX12_goSites_126 ?_
          refine z_iadd hC dX12_goSites_127 (fun v11 hv11 => ?_)
          refine z_iload hC 6 rfl dX12_goSites_128 ?_
          refine z_iconst hC dX12_goSites_130 ?_
          refine z_iadd hC dX12_goSites_131 (fun v12 hv12 => ?_)
          refine z_iload_n hC 2 rfl dX12_goSites_132 rfl ?_
          refine z_iload hC 3 rfl dX12_goSites_133 ?_
          refine z_iload hC 4 rfl dX12_goSites_135 ?_
          refine z_iload hC 5 rfl dX12_goSites_137 ?_
          refine z_cV (z_rV (q := x0) (t := 12) (As := [.int (zi v11), .int (zi v12), .int (zi x3), .int (zi x4), .int (zi x5), .int (zi x6)]) hC (fun _ h1 => hrec x0 v11 v12 x3 x4 x5 x6 hv11 hv12 hx3 hx4 hx5 hx6 G10 _ h1) (fun _ h1 => hreck x0 v11 v12 x3 x4 x5 x6 G10 _ h1) rfl rfl zM12_233 zMv_FM_goSites ⟨show rr.frames + 1 ≤ rr.frames + 6 by omega, show 8 + (10 + 11) + rr.locals ≤ rr.locals + 151 by omega⟩ hrr.1 hrr.2 rfl (rest := []) (Nat.le_of_ble_eq_true rfl) ⟨Nat.le_of_ble_eq_true rfl, Nat.le_of_ble_eq_true rfl⟩ rfl dX12_goSites_139) (fun G13 => ?_)
          refine z_iinc (lo' := fun v14 => [(7, .int (zi v14)), (0, .ref x0), (1, .int (zi x1)), (3, .int (zi x3)), (4, .int (zi x4)), (5, .int (zi x5)), (6, .int (zi x6))]) hC 6 dX12_goSites_142 rfl (by decide) (fun _ => rfl) (fun v14 hv14 => ?_)
          refine z_goto (tgt := 77) hC dX12_goSites_145 (by decide) ?_
          refine z_sub hC [1, 2, 3, 4, 5, 6, 0] (lo' := [(0, .ref x0), (1, .int (zi x1)), (3, .int (zi x3)), (4, .int (zi x4)), (5, .int (zi x5)), (6, .int (zi x6)), (7, .int (zi v14))]) rfl ?_
          exact ih x0 x1 x3 x4 x5 x6 v14 G13 hx1 hx3 hx4 hx5 hx6 hv14
        · refine z_iinc (lo' := fun v15 => [(7, .int (zi v15)), (0, .ref x0), (1, .int (zi x1)), (3, .int (zi x3)), (4, .int (zi x4)), (5, .int (zi x5)), (6, .int (zi x6))]) hC 6 dX12_goSites_142 rfl (by decide) (fun _ => rfl) (fun v15 hv15 => ?_)
          refine z_goto (tgt := 77) hC dX12_goSites_145 (by decide) ?_
          refine z_sub hC [1, 2, 3, 4, 5, 6, 0] (lo' := [(0, .ref x0), (1, .int (zi x1)), (3, .int (zi x3)), (4, .int (zi x4)), (5, .int (zi x5)), (6, .int (zi x6)), (7, .int (zi v15))]) rfl ?_
          exact ih x0 x1 x3 x4 x5 x6 v15 G7 hx1 hx3 hx4 hx5 hx6 hv15
      · refine z_iinc (lo' := fun v16 => [(7, .int (zi v16)), (0, .ref x0), (1, .int (zi x1)), (3, .int (zi x3)), (4, .int (zi x4)), (5, .int (zi x5)), (6, .int (zi x6))]) hC 6 dX12_goSites_142 rfl (by decide) (fun _ => rfl) (fun v16 hv16 => ?_)
        refine z_goto (tgt := 77) hC dX12_goSites_145 (by decide) ?_
        refine z_sub hC [1, 2, 3, 4, 5, 6, 0] (lo' := [(0, .ref x0), (1, .int (zi x1)), (3, .int (zi x3)), (4, .int (zi x4)), (5, .int (zi x5)), (6, .int (zi x6)), (7, .int (zi v16))]) rfl ?_
        exact ih x0 x1 x3 x4 x5 x6 v16 G hx1 hx3 hx4 hx5 hx6 hv16
    · exact z_vret hC hr dX12_goSites_148
set_option maxRecDepth 100000 in
theorem SM_goSites {l : Launch} {D : va_G} {aC : Nat → ClassId} (FU : Nat) (rec : Nat → Int → Int → Int → Int → Int → Int → Hp → Option (Unit × Hp)) (rr : Room) (hrr : rr.cells = 0 ∧ rr.slots = 0) (hrec : ∀ (this : Nat) (p1 : Int) (p2 : Int) (p3 : Int) (p4 : Int) (p5 : Int) (p6 : Int), zInI p1 → zInI p2 → zInI p3 → zInI p4 → zInI p5 → zInI p6 → ∀ (G : Hp) (r1 : (Unit × Hp)), rec this p1 p2 p3 p4 p5 p6 G = some r1 → Met l yX12_goSites (Cond.code yX12_goSites cX12_goSites 10 none :: zgood) rr (va_Pc [.ref this, .int (zi p1), .int (zi p2), .int (zi p3), .int (zi p4), .int (zi p5), .int (zi p6)] (zU D aC G)) (zQ D aC G (True) (none) r1.2) 0 0 (zA G)) (hreck : ∀ (this : Nat) (p1 : Int) (p2 : Int) (p3 : Int) (p4 : Int) (p5 : Int) (p6 : Int) (G : Hp) (r1 : (Unit × Hp)), rec this p1 p2 p3 p4 p5 p6 G = some r1 → zk G this = some (12, 0)) (this : Nat) (p1 : Int) (p2 : Int) (p3 : Int) (p4 : Int) (p5 : Int) (p6 : Int) (hp1 : zInI p1) (hp2 : zInI p2) (hp3 : zInI p3) (hp4 : zInI p4) (hp5 : zInI p5) (hp6 : zInI p6) {G : Hp} {r1 : (Unit × Hp)} (h1 : FM_goSites FU rec this p1 p2 p3 p4 p5 p6 G = some r1) : Met l yX12_goSites (Cond.code yX12_goSites cX12_goSites 10 none :: zgood) ({ frames := rr.frames + 6, cells := 0, slots := 0, locals := rr.locals + 151 } : Room) (va_Pc [.ref this, .int (zi p1), .int (zi p2), .int (zi p3), .int (zi p4), .int (zi p5), .int (zi p6)] (zU D aC G)) (zQ D aC G (True) (none) r1.2) 0 0 (zA G) := by
  refine z_met (y := yX12_goSites) (b := cX12_goSites) (maxL := 10) (mc := 0) (ms := 0) (ret := none) (As := [.ref this, .int (zi p1), .int (zi p2), .int (zi p3), .int (zi p4), .int (zi p5), .int (zi p6)]) (Q1 := fun r1 => zQ D aC G (True) (none) r1.2) (X := FM_goSites FU rec this p1 p2 p3 p4 p5 p6 G) (by decide) (Nat.le_of_ble_eq_true rfl) ?_ h1
  intro p e s m below meth c hC hr hi
  have hC : zC p m c meth s ([.ref this, .int (zi p1), .int (zi p2), .int (zi p3), .int (zi p4), .int (zi p5), .int (zi p6)] : List Value).toArray cX12_goSites 10 RX12 D aC := hC
  generalize ([.ref this, .int (zi p1), .int (zi p2), .int (zi p3), .int (zi p4), .int (zi p5), .int (zi p6)] : List Value).toArray = args at hC ⊢
  show zS p l e ({ frames := rr.frames + 6, cells := 0, slots := 0, locals := rr.locals + 151 } : Room) s m args below meth c D aC G (zfV D aC G below args s 0 0) 10 0 0 (FM_goSites FU rec this p1 p2 p3 p4 p5 p6 G) G 0 [(0, .ref this), (1, .int (zi p1)), (2, .int (zi p2)), (3, .int (zi p3)), (4, .int (zi p4)), (5, .int (zi p5)), (6, .int (zi p6))] []
  unfold FM_goSites
  refine z_gd ?_
  unfold FM_goSites_b
  refine z_iload_n hC 1 rfl dX12_goSites_0 rfl ?_
  refine z_iload_n hC 3 rfl dX12_goSites_1 rfl ?_
  refine z_icmp_ne (tgt := 74) hC hp1 hp3 dX12_goSites_2 (by decide) (fun _ => ?_) (fun _ => ?_)
  · refine z_aload_n hC 0 rfl dX12_goSites_5 rfl ?_
    refine z_iload_n hC 3 rfl dX12_goSites_6 rfl ?_
    refine z_iload hC 4 rfl dX12_goSites_7 ?_
    refine z_iload hC 5 rfl dX12_goSites_9 ?_
    refine z_iload hC 6 rfl dX12_goSites_11 ?_
    refine z_cL (z_rV (q := this) (t := 12) (As := [.int (zi p3), .int (zi p4), .int (zi p5), .int (zi p6)]) hC (fun _ h1 => SM_sumOf FU this p3 p4 p5 p6 hp3 hp4 hp5 hp6 h1) (fun _ h1 => SM_sumOf_k h1) rfl rfl zM12_222 zMv_FM_sumOf ⟨show 5 + 1 ≤ rr.frames + 6 by omega, show 8 + (11 + 11) + 121 ≤ rr.locals + 151 by omega⟩ rfl rfl rfl (rest := []) (Nat.le_of_ble_eq_true rfl) ⟨Nat.le_of_ble_eq_true rfl, Nat.le_of_ble_eq_true rfl⟩ rfl dX12_goSites_13) (fun v2 G1 hv2 => ?_)
    refine z_lstore (lo' := [(7, .long (zl v2)), (0, .ref this), (1, .int (zi p1)), (2, .int (zi p2)), (3, .int (zi p3)), (4, .int (zi p4)), (5, .int (zi p5)), (6, .int (zi p6))]) hC dX12_goSites_16 (by decide) rfl ?_
    refine z_lload hC 0 rfl dX12_goSites_18 ?_
    refine z_aload_n hC 1 rfl dX12_goSites_20 rfl ?_
    refine z_getL hC zF12_226 rfl dX12_goSites_21 (fun v3 hv3 => ?_)
    refine z_lcmp hC hv2 hv3 dX12_goSites_24 (fun v4 hv4 => ?_)
    refine z_if_le (tgt := 73) hC hv4 dX12_goSites_25 (by decide) (fun _ => ?_) (fun _ => ?_)
    · exact z_vret hC hr dX12_goSites_73
    · refine z_aload_n hC 1 rfl dX12_goSites_28 rfl ?_
      refine z_lload hC 0 rfl dX12_goSites_29 ?_
      refine z_putL hC hv2 zF12_226 rfl rfl dX12_goSites_31 (fun G5 => ?_)
      refine z_aload_n hC 1 rfl dX12_goSites_34 rfl ?_
      refine z_iload_n hC 4 rfl dX12_goSites_35 rfl ?_
      refine z_putI hC hp3 zF12_230 rfl rfl dX12_goSites_36 (fun G6 => ?_)
      refine z_iconst hC dX12_goSites_39 ?_
      refine z_istore (lo' := [(9, .int (zi (0))), (7, .long (zl v2)), (0, .ref this), (1, .int (zi p1)), (2, .int (zi p2)), (3, .int (zi p3)), (4, .int (zi p4)), (5, .int (zi p5)), (6, .int (zi p6))]) hC dX12_goSites_40 (by decide) rfl ?_
      refine z_sub hC [2, 5, 0] (lo' := [(0, .ref this), (3, .int (zi p3)), (9, .int (zi (0)))]) rfl ?_
      exact SM_goSites_L42 hC hr FU rec rr hrr hrec hreck FU this p3 (0) G6 hp3 (by decide)
  · refine z_iload_n hC 2 rfl dX12_goSites_74 rfl ?_
    refine z_istore (lo' := [(7, .int (zi p2)), (0, .ref this), (1, .int (zi p1)), (2, .int (zi p2)), (3, .int (zi p3)), (4, .int (zi p4)), (5, .int (zi p5)), (6, .int (zi p6))]) hC dX12_goSites_75 (by decide) rfl ?_
    refine z_sub hC [1, 2, 4, 5, 6, 7, 0] (lo' := [(0, .ref this), (1, .int (zi p1)), (3, .int (zi p3)), (4, .int (zi p4)), (5, .int (zi p5)), (6, .int (zi p6)), (7, .int (zi p2))]) rfl ?_
    exact SM_goSites_L77 hC hr FU rec rr hrr hrec hreck FU this p1 p3 p4 p5 p6 p2 G hp1 hp3 hp4 hp5 hp6 hp2
theorem SM_goSites_k {FU : Nat} {rec : Nat → Int → Int → Int → Int → Int → Int → Hp → Option (Unit × Hp)} {this : Nat} {p1 : Int} {p2 : Int} {p3 : Int} {p4 : Int} {p5 : Int} {p6 : Int} {G : Hp} {r1 : (Unit × Hp)} (h1 : FM_goSites FU rec this p1 p2 p3 p4 p5 p6 G = some r1) : zk G this = some (12, 0) := zgd_k (k := FM_goSites_b FU rec this p1 p2 p3 p4 p5 p6 G) h1
theorem SM_goSites_nk {FU d : Nat} {this : Nat} {p1 : Int} {p2 : Int} {p3 : Int} {p4 : Int} {p5 : Int} {p6 : Int} {G : Hp} {r1 : (Unit × Hp)} (h1 : FM_goSites_n FU d this p1 p2 p3 p4 p5 p6 G = some r1) : zk G this = some (12, 0) := by
  cases d with
  | zero => cases h1
  | succ d => exact SM_goSites_k h1
theorem SM_goSites_n {l : Launch} {D : va_G} {aC : Nat → ClassId} (FU : Nat) : ∀ (d : Nat) (this : Nat) (p1 : Int) (p2 : Int) (p3 : Int) (p4 : Int) (p5 : Int) (p6 : Int) (hp1 : zInI p1) (hp2 : zInI p2) (hp3 : zInI p3) (hp4 : zInI p4) (hp5 : zInI p5) (hp6 : zInI p6) {G : Hp} {r1 : (Unit × Hp)}, FM_goSites_n FU d this p1 p2 p3 p4 p5 p6 G = some r1 → Met l yX12_goSites (Cond.code yX12_goSites cX12_goSites 10 none :: zgood) ({ frames := 6 * d, cells := 0, slots := 0, locals := 151 * d } : Room) (va_Pc [.ref this, .int (zi p1), .int (zi p2), .int (zi p3), .int (zi p4), .int (zi p5), .int (zi p6)] (zU D aC G)) (zQ D aC G (True) (none) r1.2) 0 0 (zA G) := by
  intro d
  induction d with
  | zero => intros; rename_i h; cases h
  | succ d ih =>
    intro this p1 p2 p3 p4 p5 p6 hp1 hp2 hp3 hp4 hp5 hp6 G r1 h1
    exact SM_goSites FU (FM_goSites_n FU d) ({ frames := 6 * d, cells := 0, slots := 0, locals := 151 * d } : Room) ⟨rfl, rfl⟩ (fun this p1 p2 p3 p4 p5 p6 hp1 hp2 hp3 hp4 hp5 hp6 _ _ h => ih this p1 p2 p3 p4 p5 p6 hp1 hp2 hp3 hp4 hp5 hp6 h) (fun this p1 p2 p3 p4 p5 p6 _ _ h => SM_goSites_nk h) this p1 p2 p3 p4 p5 p6 hp1 hp2 hp3 hp4 hp5 hp6 h1

set_option maxRecDepth 100000 in
theorem SM_best_L37 {p : Program} {l : Launch} {e : Env} {s : State} {m : MethodId} {args : Array Value} {below : List Frame} {meth : Method} {c : Code} {D : va_G} {aC : Nat → ClassId} {G0 : Hp} (hC : zC p m c meth s args cX12_best 5 RX12 D aC) (hr : meth.sig.returnType = (some .int)) (FU : Nat) : ∀ (n : Nat) (x0 : Nat) (x1 : Int) (x2 : Int) (x3 : Int) (x4 : Int) (G : Hp) (hx1 : zInI x1) (hx2 : zInI x2) (hx3 : zInI x3) (hx4 : zInI x4), zS p l e ({ frames := 37, cells := 0, slots := 0, locals := 935 } : Room) s m args below meth c D aC G0 (zfI D aC G0 below args s 0 0) 5 0 0 (FM_best_L37 FU n x0 x1 x2 x3 x4 G) G 37 [(0, .ref x0), (1, .int (zi x1)), (2, .int (zi x2)), (3, .int (zi x3)), (4, .int (zi x4))] [] := by
  intro n
  induction n with
  | zero => intros; exact z_none
  | succ n ih =>
    intro x0 x1 x2 x3 x4 G hx1 hx2 hx3 hx4
    rw [FM_best_L37]
    refine z_iload hC 4 rfl dX12_best_37 ?_
    refine z_aload_n hC 0 rfl dX12_best_39 rfl ?_
    refine z_getI hC zF12_139 rfl dX12_best_40 (fun v1 hv1 => ?_)
    refine z_icmp_ge (tgt := 78) hC hx4 hv1 dX12_best_43 (by decide) (fun _ => ?_) (fun _ => ?_)
    · refine z_aload_n hC 0 rfl dX12_best_46 rfl ?_
      refine z_getQ hC zF12_56 rfl dX12_best_47 (fun v2 => ?_)
      refine z_iload hC 4 rfl dX12_best_50 ?_
      refine z_aload_n hC 0 rfl dX12_best_52 rfl ?_
      refine z_iload hC 4 rfl dX12_best_53 ?_
      refine z_cZp (z_rV (q := x0) (t := 12) (As := [.int (zi x4)]) hC (fun _ h1 => SM_isOpen FU x0 x4 hx4 h1) (fun _ h1 => SM_isOpen_k h1) rfl rfl zM12_176 zMv_FM_isOpen ⟨by decide, by decide⟩ rfl rfl rfl (rest := [.int (zi x4), .ref v2]) (Nat.le_of_ble_eq_true rfl) ⟨Nat.le_of_ble_eq_true rfl, Nat.le_of_ble_eq_true rfl⟩ rfl dX12_best_55) (fun v3 hv3 => ?_)
      refine z_if_eq (tgt := 70) hC (hv3).i dX12_best_58 (by decide) (fun _ => ?_) (fun _ => ?_)
      · refine z_lconst (z := 0) hC dX12_best_70 rfl ?_
        refine z_last hC hx4 (by decide) dX12_best_71 (fun G4 => ?_)
        refine z_iinc (lo' := fun v5 => [(4, .int (zi v5)), (0, .ref x0), (1, .int (zi x1)), (2, .int (zi x2)), (3, .int (zi x3))]) hC 4 dX12_best_72 rfl (by decide) (fun _ => rfl) (fun v5 hv5 => ?_)
        refine z_goto (tgt := 37) hC dX12_best_75 (by decide) ?_
        refine z_sub hC [1, 2, 3, 4, 0] (lo' := [(0, .ref x0), (1, .int (zi x1)), (2, .int (zi x2)), (3, .int (zi x3)), (4, .int (zi v5))]) rfl ?_
        exact ih x0 x1 x2 x3 v5 G4 hx1 hx2 hx3 hv5
      · refine z_aload_n hC 0 rfl dX12_best_61 rfl ?_
        refine z_iload hC 4 rfl dX12_best_62 ?_
        refine z_cL (z_rV (q := x0) (t := 12) (As := [.int (zi x4)]) hC (fun _ h1 => SM_foretoldOf FU x0 x4 hx4 h1) (fun _ h1 => SM_foretoldOf_k h1) rfl rfl zM12_207 zMv_FM_foretoldOf ⟨by decide, by decide⟩ rfl rfl rfl (rest := [.int (zi x4), .ref v2]) (Nat.le_of_ble_eq_true rfl) ⟨Nat.le_of_ble_eq_true rfl, Nat.le_of_ble_eq_true rfl⟩ rfl dX12_best_64) (fun v7 G6 hv7 => ?_)
        refine z_goto (tgt := 71) hC dX12_best_67 (by decide) ?_
        refine z_last hC hx4 hv7 dX12_best_71 (fun G8 => ?_)
        refine z_iinc (lo' := fun v9 => [(4, .int (zi v9)), (0, .ref x0), (1, .int (zi x1)), (2, .int (zi x2)), (3, .int (zi x3))]) hC 4 dX12_best_72 rfl (by decide) (fun _ => rfl) (fun v9 hv9 => ?_)
        refine z_goto (tgt := 37) hC dX12_best_75 (by decide) ?_
        refine z_sub hC [1, 2, 3, 4, 0] (lo' := [(0, .ref x0), (1, .int (zi x1)), (2, .int (zi x2)), (3, .int (zi x3)), (4, .int (zi v9))]) rfl ?_
        exact ih x0 x1 x2 x3 v9 G8 hx1 hx2 hx3 hv9
    · refine z_aload_n hC 0 rfl dX12_best_78 rfl ?_
      refine z_ldc2 (z := -1) hC dX12_best_79 zc12_220 ?_
      refine z_putL hC (by decide) zF12_226 rfl rfl dX12_best_82 (fun G10 => ?_)
      refine z_aload_n hC 0 rfl dX12_best_85 rfl ?_
      refine z_iconst hC dX12_best_86 ?_
      refine z_iconst hC dX12_best_87 ?_
      refine z_iload_n hC 1 rfl dX12_best_88 rfl ?_
      refine z_iload_n hC 2 rfl dX12_best_89 rfl ?_
      refine z_bipush hC dX12_best_90 rfl ?_
      refine z_idiv hC hx2 (by decide) dX12_best_92 (fun v11 hv11 => ?_)
      refine z_iload_n hC 2 rfl dX12_best_93 rfl ?_
      refine z_bipush hC dX12_best_94 rfl ?_
      refine z_irem hC hx2 (by decide) dX12_best_96 (fun v12 hv12 => ?_)
      refine z_iload_n hC 3 rfl dX12_best_97 rfl ?_
      refine z_cV (z_rV (q := x0) (t := 12) (As := [.int (zi (0)), .int (zi (0)), .int (zi x1), .int (zi v11), .int (zi v12), .int (zi x3)]) hC (fun _ h1 => SM_goSites_n FU 6 x0 (0) (0) x1 v11 v12 x3 (by decide) (by decide) hx1 hv11 hv12 hx3 h1) (fun _ h1 => SM_goSites_nk h1) rfl rfl zM12_233 zMv_FM_goSites ⟨by decide, by decide⟩ rfl rfl rfl (rest := []) (Nat.le_of_ble_eq_true rfl) ⟨Nat.le_of_ble_eq_true rfl, Nat.le_of_ble_eq_true rfl⟩ rfl dX12_best_98) (fun G13 => ?_)
      refine z_aload_n hC 0 rfl dX12_best_101 rfl ?_
      refine z_getL hC zF12_226 rfl dX12_best_102 (fun v14 hv14 => ?_)
      refine z_lconst (z := 0) hC dX12_best_105 rfl ?_
      refine z_lcmp hC hv14 (by decide) dX12_best_106 (fun v15 hv15 => ?_)
      refine z_if_ge (tgt := 115) hC hv15 dX12_best_107 (by decide) (fun _ => ?_) (fun _ => ?_)
      · refine z_bipush hC dX12_best_110 rfl ?_
        refine z_goto (tgt := 120) hC dX12_best_112 (by decide) ?_
        exact z_iret hC (by decide) hr dX12_best_120
      · refine z_aload_n hC 0 rfl dX12_best_115 rfl ?_
        refine z_getL hC zF12_226 rfl dX12_best_116 (fun v16 hv16 => ?_)
        refine z_l2i hC dX12_best_119 (fun v17 hv17 => ?_)
        exact z_iret hC hv17 hr dX12_best_120
set_option maxRecDepth 100000 in
theorem SM_best {l : Launch} {D : va_G} {aC : Nat → ClassId} (FU : Nat) (this : Nat) (p1 : Int) (p2 : Int) (p3 : Int) (hp1 : zInI p1) (hp2 : zInI p2) (hp3 : zInI p3) {G : Hp} {r1 : (Int × Hp)} (h1 : FM_best FU this p1 p2 p3 G = some r1) : Met l yX12_best (Cond.code yX12_best cX12_best 5 (some .int) :: zgood) ({ frames := 37, cells := 0, slots := 0, locals := 935 } : Room) (va_Pc [.ref this, .int (zi p1), .int (zi p2), .int (zi p3)] (zU D aC G)) (zQ D aC G (zInI r1.1) (some (.int (zi r1.1))) r1.2) 0 0 (zA G) := by
  refine z_met (y := yX12_best) (b := cX12_best) (maxL := 5) (mc := 0) (ms := 0) (ret := (some .int)) (As := [.ref this, .int (zi p1), .int (zi p2), .int (zi p3)]) (Q1 := fun r1 => zQ D aC G (zInI r1.1) (some (.int (zi r1.1))) r1.2) (X := FM_best FU this p1 p2 p3 G) (by decide) (Nat.le_of_ble_eq_true rfl) ?_ h1
  intro p e s m below meth c hC hr hi
  have hC : zC p m c meth s ([.ref this, .int (zi p1), .int (zi p2), .int (zi p3)] : List Value).toArray cX12_best 5 RX12 D aC := hC
  generalize ([.ref this, .int (zi p1), .int (zi p2), .int (zi p3)] : List Value).toArray = args at hC ⊢
  show zS p l e ({ frames := 37, cells := 0, slots := 0, locals := 935 } : Room) s m args below meth c D aC G (zfI D aC G below args s 0 0) 5 0 0 (FM_best FU this p1 p2 p3 G) G 0 [(0, .ref this), (1, .int (zi p1)), (2, .int (zi p2)), (3, .int (zi p3))] []
  unfold FM_best
  refine z_gd ?_
  unfold FM_best_b
  refine z_iload_n hC 1 rfl dX12_best_0 rfl ?_
  refine z_iconst hC dX12_best_1 ?_
  refine z_iconst hC dX12_best_2 ?_
  refine z_cZp (z_rS (As := [.int (zi p1), .int (zi (1)), .int (zi (3))]) hC (fun _ h1 => SM_within FU p1 (1) (3) hp1 (by decide) (by decide) h1) zM12_142 zMs_FM_within ⟨by decide, by decide⟩ rfl rfl rfl (rest := []) (Nat.le_of_ble_eq_true rfl) ⟨Nat.le_of_ble_eq_true rfl, Nat.le_of_ble_eq_true rfl⟩ rfl dX12_best_3) (fun v1 hv1 => ?_)
  refine z_if_eq (tgt := 27) hC (hv1).i dX12_best_6 (by decide) (fun _ => ?_) (fun _ => ?_)
  · refine z_iconst hC dX12_best_27 ?_
    exact z_iret hC (by decide) hr dX12_best_28
  · refine z_iload_n hC 2 rfl dX12_best_9 rfl ?_
    refine z_cZp (z_rS (As := [.int (zi p2)]) hC (fun _ h1 => SM_isWho FU p2 hp2 h1) zM12_182 zMs_FM_isWho ⟨by decide, by decide⟩ rfl rfl rfl (rest := []) (Nat.le_of_ble_eq_true rfl) ⟨Nat.le_of_ble_eq_true rfl, Nat.le_of_ble_eq_true rfl⟩ rfl dX12_best_10) (fun v2 hv2 => ?_)
    refine z_if_eq (tgt := 27) hC (hv2).i dX12_best_13 (by decide) (fun _ => ?_) (fun _ => ?_)
    · refine z_iconst hC dX12_best_27 ?_
      exact z_iret hC (by decide) hr dX12_best_28
    · refine z_iload_n hC 3 rfl dX12_best_16 rfl ?_
      refine z_iconst hC dX12_best_17 ?_
      refine z_sipush hC dX12_best_18 rfl ?_
      refine z_cZp (z_rS (As := [.int (zi p3), .int (zi (0)), .int (zi (1000))]) hC (fun _ h1 => SM_within FU p3 (0) (1000) hp3 (by decide) (by decide) h1) zM12_142 zMs_FM_within ⟨by decide, by decide⟩ rfl rfl rfl (rest := []) (Nat.le_of_ble_eq_true rfl) ⟨Nat.le_of_ble_eq_true rfl, Nat.le_of_ble_eq_true rfl⟩ rfl dX12_best_21) (fun v3 hv3 => ?_)
      refine z_if_ne (tgt := 29) hC (hv3).i dX12_best_24 (by decide) (fun _ => ?_) (fun _ => ?_)
      · refine z_iconst hC dX12_best_27 ?_
        exact z_iret hC (by decide) hr dX12_best_28
      · refine z_aload_n hC 0 rfl dX12_best_29 rfl ?_
        refine z_iconst hC dX12_best_30 ?_
        refine z_putI hC (by decide) zF12_198 rfl rfl dX12_best_31 (fun G4 => ?_)
        refine z_iconst hC dX12_best_34 ?_
        refine z_istore (lo' := [(4, .int (zi (0))), (0, .ref this), (1, .int (zi p1)), (2, .int (zi p2)), (3, .int (zi p3))]) hC dX12_best_35 (by decide) rfl ?_
        refine z_sub hC [1, 2, 3, 4, 0] (lo' := [(0, .ref this), (1, .int (zi p1)), (2, .int (zi p2)), (3, .int (zi p3)), (4, .int (zi (0)))]) rfl ?_
        exact SM_best_L37 hC hr FU FU this p1 p2 p3 (0) G4 hp1 hp2 hp3 (by decide)
theorem SM_best_k {FU : Nat} {this : Nat} {p1 : Int} {p2 : Int} {p3 : Int} {G : Hp} {r1 : (Int × Hp)} (h1 : FM_best FU this p1 p2 p3 G = some r1) : zk G this = some (12, 0) := zgd_k (k := FM_best_b FU this p1 p2 p3 G) h1

set_option maxRecDepth 100000 in
theorem SM_found {l : Launch} {D : va_G} {aC : Nat → ClassId} (FU : Nat) (this : Nat) (p1 : Int) (hp1 : zInI p1) {G : Hp} {r1 : Int} (h1 : FM_found FU this p1 G = some r1) : Met l yX12_found (Cond.code yX12_found cX12_found 2 (some .int) :: zgood) ({ frames := 1, cells := 0, slots := 0, locals := 24 } : Room) (va_Pc [.ref this, .int (zi p1)] (zU D aC G)) (zQ D aC G (zInI r1) (some (.int (zi r1))) G) 0 0 (zA G) := by
  refine z_met (y := yX12_found) (b := cX12_found) (maxL := 2) (mc := 0) (ms := 0) (ret := (some .int)) (As := [.ref this, .int (zi p1)]) (Q1 := fun r1 => zQ D aC G (zInI r1) (some (.int (zi r1))) G) (X := FM_found FU this p1 G) (by decide) (Nat.le_of_ble_eq_true rfl) ?_ h1
  intro p e s m below meth c hC hr hi
  have hC : zC p m c meth s ([.ref this, .int (zi p1)] : List Value).toArray cX12_found 2 RX12 D aC := hC
  generalize ([.ref this, .int (zi p1)] : List Value).toArray = args at hC ⊢
  show zS p l e ({ frames := 1, cells := 0, slots := 0, locals := 24 } : Room) s m args below meth c D aC G (fun r1 => zfI D aC G below args s 0 0 (r1, G)) 2 0 0 (FM_found FU this p1 G) G 0 [(0, .ref this), (1, .int (zi p1))] []
  unfold FM_found
  refine z_gd ?_
  unfold FM_found_b
  refine z_iload_n hC 1 rfl dX12_found_0 rfl ?_
  refine z_if_lt (tgt := 21) hC hp1 dX12_found_1 (by decide) (fun _ => ?_) (fun _ => ?_)
  · refine z_iconst hC dX12_found_21 ?_
    exact z_iretp hC (by decide) hr dX12_found_22
  · refine z_iload_n hC 1 rfl dX12_found_4 rfl ?_
    refine z_aload_n hC 0 rfl dX12_found_5 rfl ?_
    refine z_getI hC zF12_230 rfl dX12_found_6 (fun v1 hv1 => ?_)
    refine z_icmp_ge (tgt := 21) hC hp1 hv1 dX12_found_9 (by decide) (fun _ => ?_) (fun _ => ?_)
    · refine z_aload_n hC 0 rfl dX12_found_12 rfl ?_
      refine z_getQ hC zF12_53 rfl dX12_found_13 (fun v2 => ?_)
      refine z_iload_n hC 1 rfl dX12_found_16 rfl ?_
      refine z_iald hC hp1 dX12_found_17 (fun v3 hv3 => ?_)
      refine z_goto (tgt := 22) hC dX12_found_18 (by decide) ?_
      exact z_iretp hC hv3 hr dX12_found_22
    · refine z_iconst hC dX12_found_21 ?_
      exact z_iretp hC (by decide) hr dX12_found_22
theorem SM_found_k {FU : Nat} {this : Nat} {p1 : Int} {G : Hp} {r1 : Int} (h1 : FM_found FU this p1 G = some r1) : zk G this = some (12, 0) := zgd_k (k := FM_found_b FU this p1 G) h1

set_option maxRecDepth 100000 in
theorem SM_feed_L27 {p : Program} {l : Launch} {e : Env} {s : State} {m : MethodId} {args : Array Value} {below : List Frame} {meth : Method} {c : Code} {D : va_G} {aC : Nat → ClassId} {G0 : Hp} (hC : zC p m c meth s args cX12_feed 4 RX12 D aC) (hr : meth.sig.returnType = (some .int)) (FU : Nat) : ∀ (n : Nat) (x0 : Nat) (x1 : Int) (x2 : Int) (x3 : Int) (G : Hp) (hx1 : zInI x1) (hx2 : zInI x2) (hx3 : zInI x3), zS p l e ({ frames := 2, cells := 0, slots := 0, locals := 46 } : Room) s m args below meth c D aC G0 (zfI D aC G0 below args s 0 0) 4 0 0 (FM_feed_L27 FU n x0 x1 x2 x3 G) G 27 [(0, .ref x0), (1, .int (zi x1)), (2, .int (zi x2)), (3, .int (zi x3))] [] := by
  intro n
  induction n with
  | zero => intros; exact z_none
  | succ n ih =>
    intro x0 x1 x2 x3 G hx1 hx2 hx3
    rw [FM_feed_L27]
    refine z_iload_n hC 3 rfl dX12_feed_27 rfl ?_
    refine z_iload_n hC 1 rfl dX12_feed_28 rfl ?_
    refine z_icmp_ge (tgt := 67) hC hx3 hx1 dX12_feed_29 (by decide) (fun _ => ?_) (fun _ => ?_)
    · refine z_aload_n hC 0 rfl dX12_feed_32 rfl ?_
      refine z_getQ hC zF12_60 rfl dX12_feed_33 (fun v1 => ?_)
      refine z_aload_n hC 0 rfl dX12_feed_36 rfl ?_
      refine z_getI hC zF12_237 rfl dX12_feed_37 (fun v2 hv2 => ?_)
      refine z_iload_n hC 2 rfl dX12_feed_40 rfl ?_
      refine z_bipush hC dX12_feed_41 rfl ?_
      refine z_iload_n hC 3 rfl dX12_feed_43 rfl ?_
      refine z_imul hC dX12_feed_44 (fun v3 hv3 => ?_)
      refine z_ishr hC dX12_feed_45 (fun v4 hv4 => ?_)
      refine z_sipush hC dX12_feed_46 rfl ?_
      refine z_iand hC dX12_feed_49 (fun v5 hv5 => ?_)
      refine z_iast hC hv2 hv5 dX12_feed_50 (fun G6 => ?_)
      refine z_aload_n hC 0 rfl dX12_feed_51 rfl ?_
      refine z_dup hC rfl dX12_feed_52 ?_
      refine z_getI hC zF12_237 rfl dX12_feed_53 (fun v7 hv7 => ?_)
      refine z_iconst hC dX12_feed_56 ?_
      refine z_iadd hC dX12_feed_57 (fun v8 hv8 => ?_)
      refine z_putI hC hv8 zF12_237 rfl rfl dX12_feed_58 (fun G9 => ?_)
      refine z_iinc (lo' := fun v10 => [(3, .int (zi v10)), (0, .ref x0), (1, .int (zi x1)), (2, .int (zi x2))]) hC 3 dX12_feed_61 rfl (by decide) (fun _ => rfl) (fun v10 hv10 => ?_)
      refine z_goto (tgt := 27) hC dX12_feed_64 (by decide) ?_
      refine z_sub hC [1, 2, 3, 0] (lo' := [(0, .ref x0), (1, .int (zi x1)), (2, .int (zi x2)), (3, .int (zi v10))]) rfl ?_
      exact ih x0 x1 x2 v10 G9 hx1 hx2 hv10
    · refine z_aload_n hC 0 rfl dX12_feed_67 rfl ?_
      refine z_getI hC zF12_237 rfl dX12_feed_68 (fun v11 hv11 => ?_)
      exact z_iret hC hv11 hr dX12_feed_71
set_option maxRecDepth 100000 in
theorem SM_feed {l : Launch} {D : va_G} {aC : Nat → ClassId} (FU : Nat) (this : Nat) (p1 : Int) (p2 : Int) (hp1 : zInI p1) (hp2 : zInI p2) {G : Hp} {r1 : (Int × Hp)} (h1 : FM_feed FU this p1 p2 G = some r1) : Met l yX12_feed (Cond.code yX12_feed cX12_feed 4 (some .int) :: zgood) ({ frames := 2, cells := 0, slots := 0, locals := 46 } : Room) (va_Pc [.ref this, .int (zi p1), .int (zi p2)] (zU D aC G)) (zQ D aC G (zInI r1.1) (some (.int (zi r1.1))) r1.2) 0 0 (zA G) := by
  refine z_met (y := yX12_feed) (b := cX12_feed) (maxL := 4) (mc := 0) (ms := 0) (ret := (some .int)) (As := [.ref this, .int (zi p1), .int (zi p2)]) (Q1 := fun r1 => zQ D aC G (zInI r1.1) (some (.int (zi r1.1))) r1.2) (X := FM_feed FU this p1 p2 G) (by decide) (Nat.le_of_ble_eq_true rfl) ?_ h1
  intro p e s m below meth c hC hr hi
  have hC : zC p m c meth s ([.ref this, .int (zi p1), .int (zi p2)] : List Value).toArray cX12_feed 4 RX12 D aC := hC
  generalize ([.ref this, .int (zi p1), .int (zi p2)] : List Value).toArray = args at hC ⊢
  show zS p l e ({ frames := 2, cells := 0, slots := 0, locals := 46 } : Room) s m args below meth c D aC G (zfI D aC G below args s 0 0) 4 0 0 (FM_feed FU this p1 p2 G) G 0 [(0, .ref this), (1, .int (zi p1)), (2, .int (zi p2))] []
  unfold FM_feed
  refine z_gd ?_
  unfold FM_feed_b
  refine z_iload_n hC 1 rfl dX12_feed_0 rfl ?_
  refine z_iconst hC dX12_feed_1 ?_
  refine z_iconst hC dX12_feed_2 ?_
  refine z_cZp (z_rS (As := [.int (zi p1), .int (zi (1)), .int (zi (4))]) hC (fun _ h1 => SM_within FU p1 (1) (4) hp1 (by decide) (by decide) h1) zM12_142 zMs_FM_within ⟨by decide, by decide⟩ rfl rfl rfl (rest := []) (Nat.le_of_ble_eq_true rfl) ⟨Nat.le_of_ble_eq_true rfl, Nat.le_of_ble_eq_true rfl⟩ rfl dX12_feed_3) (fun v1 hv1 => ?_)
  refine z_if_ne (tgt := 11) hC (hv1).i dX12_feed_6 (by decide) (fun _ => ?_) (fun _ => ?_)
  · refine z_iconst hC dX12_feed_9 ?_
    exact z_iret hC (by decide) hr dX12_feed_10
  · refine z_aload_n hC 0 rfl dX12_feed_11 rfl ?_
    refine z_getI hC zF12_237 rfl dX12_feed_12 (fun v2 hv2 => ?_)
    refine z_iload_n hC 1 rfl dX12_feed_15 rfl ?_
    refine z_iadd hC dX12_feed_16 (fun v3 hv3 => ?_)
    refine z_bipush hC dX12_feed_17 rfl ?_
    refine z_icmp_le (tgt := 25) hC hv3 (by decide) dX12_feed_19 (by decide) (fun _ => ?_) (fun _ => ?_)
    · refine z_iconst hC dX12_feed_25 ?_
      refine z_istore_n (lo' := [(3, .int (zi (0))), (0, .ref this), (1, .int (zi p1)), (2, .int (zi p2))]) hC dX12_feed_26 rfl (by decide) rfl ?_
      refine z_sub hC [1, 2, 3, 0] (lo' := [(0, .ref this), (1, .int (zi p1)), (2, .int (zi p2)), (3, .int (zi (0)))]) rfl ?_
      exact SM_feed_L27 hC hr FU FU this p1 p2 (0) G hp1 hp2 (by decide)
    · refine z_bipush hC dX12_feed_22 rfl ?_
      exact z_iret hC (by decide) hr dX12_feed_24
theorem SM_feed_k {FU : Nat} {this : Nat} {p1 : Int} {p2 : Int} {G : Hp} {r1 : (Int × Hp)} (h1 : FM_feed FU this p1 p2 G = some r1) : zk G this = some (12, 0) := zgd_k (k := FM_feed_b FU this p1 p2 G) h1

set_option maxRecDepth 100000 in
theorem SM_byteAt {l : Launch} {D : va_G} {aC : Nat → ClassId} (FU : Nat) (this : Nat) {G : Hp} {r1 : Int} (h1 : FM_byteAt FU this G = some r1) : Met l yX12_byteAt (Cond.code yX12_byteAt cX12_byteAt 1 (some .int) :: zgood) ({ frames := 1, cells := 0, slots := 0, locals := 24 } : Room) (va_Pc [.ref this] (zU D aC G)) (zQ D aC G (zInI r1) (some (.int (zi r1))) G) 0 0 (zA G) := by
  refine z_met (y := yX12_byteAt) (b := cX12_byteAt) (maxL := 1) (mc := 0) (ms := 0) (ret := (some .int)) (As := [.ref this]) (Q1 := fun r1 => zQ D aC G (zInI r1) (some (.int (zi r1))) G) (X := FM_byteAt FU this G) (by decide) (Nat.le_of_ble_eq_true rfl) ?_ h1
  intro p e s m below meth c hC hr hi
  have hC : zC p m c meth s ([.ref this] : List Value).toArray cX12_byteAt 1 RX12 D aC := hC
  generalize ([.ref this] : List Value).toArray = args at hC ⊢
  show zS p l e ({ frames := 1, cells := 0, slots := 0, locals := 24 } : Room) s m args below meth c D aC G (fun r1 => zfI D aC G below args s 0 0 (r1, G)) 1 0 0 (FM_byteAt FU this G) G 0 [(0, .ref this)] []
  unfold FM_byteAt
  refine z_gd ?_
  unfold FM_byteAt_b
  refine z_aload_n hC 0 rfl dX12_byteAt_0 rfl ?_
  refine z_getI hC zF12_240 rfl dX12_byteAt_1 (fun v1 hv1 => ?_)
  refine z_aload_n hC 0 rfl dX12_byteAt_4 rfl ?_
  refine z_getI hC zF12_243 rfl dX12_byteAt_5 (fun v2 hv2 => ?_)
  refine z_icmp_ge (tgt := 47) hC hv1 hv2 dX12_byteAt_8 (by decide) (fun _ => ?_) (fun _ => ?_)
  · refine z_aload_n hC 0 rfl dX12_byteAt_11 rfl ?_
    refine z_getI hC zF12_246 rfl dX12_byteAt_12 (fun v3 hv3 => ?_)
    refine z_if_ge (tgt := 30) hC hv3 dX12_byteAt_15 (by decide) (fun _ => ?_) (fun _ => ?_)
    · refine z_aload_n hC 0 rfl dX12_byteAt_18 rfl ?_
      refine z_getQ hC zF12_60 rfl dX12_byteAt_19 (fun v4 => ?_)
      refine z_aload_n hC 0 rfl dX12_byteAt_22 rfl ?_
      refine z_getI hC zF12_240 rfl dX12_byteAt_23 (fun v5 hv5 => ?_)
      refine z_iald hC hv5 dX12_byteAt_26 (fun v6 hv6 => ?_)
      refine z_goto (tgt := 48) hC dX12_byteAt_27 (by decide) ?_
      exact z_iretp hC hv6 hr dX12_byteAt_48
    · refine z_aload_n hC 0 rfl dX12_byteAt_30 rfl ?_
      refine z_getQ hC zF12_63 rfl dX12_byteAt_31 (fun v7 => ?_)
      refine z_aload_n hC 0 rfl dX12_byteAt_34 rfl ?_
      refine z_getI hC zF12_246 rfl dX12_byteAt_35 (fun v8 hv8 => ?_)
      refine z_aload_n hC 0 rfl dX12_byteAt_38 rfl ?_
      refine z_getI hC zF12_240 rfl dX12_byteAt_39 (fun v9 hv9 => ?_)
      refine z_iadd hC dX12_byteAt_42 (fun v10 hv10 => ?_)
      refine z_iald hC hv10 dX12_byteAt_43 (fun v11 hv11 => ?_)
      refine z_goto (tgt := 48) hC dX12_byteAt_44 (by decide) ?_
      exact z_iretp hC hv11 hr dX12_byteAt_48
  · refine z_iconst hC dX12_byteAt_47 ?_
    exact z_iretp hC (by decide) hr dX12_byteAt_48
theorem SM_byteAt_k {FU : Nat} {this : Nat} {G : Hp} {r1 : Int} (h1 : FM_byteAt FU this G = some r1) : zk G this = some (12, 0) := zgd_k (k := FM_byteAt_b FU this G) h1

set_option maxRecDepth 100000 in
theorem SM_wrong {l : Launch} {D : va_G} {aC : Nat → ClassId} (FU : Nat) (this : Nat) {G : Hp} {r1 : (Int × Hp)} (h1 : FM_wrong FU this G = some r1) : Met l yX12_wrong (Cond.code yX12_wrong cX12_wrong 1 (some .int) :: zgood) ({ frames := 1, cells := 0, slots := 0, locals := 24 } : Room) (va_Pc [.ref this] (zU D aC G)) (zQ D aC G (zInI r1.1) (some (.int (zi r1.1))) r1.2) 0 0 (zA G) := by
  refine z_met (y := yX12_wrong) (b := cX12_wrong) (maxL := 1) (mc := 0) (ms := 0) (ret := (some .int)) (As := [.ref this]) (Q1 := fun r1 => zQ D aC G (zInI r1.1) (some (.int (zi r1.1))) r1.2) (X := FM_wrong FU this G) (by decide) (Nat.le_of_ble_eq_true rfl) ?_ h1
  intro p e s m below meth c hC hr hi
  have hC : zC p m c meth s ([.ref this] : List Value).toArray cX12_wrong 1 RX12 D aC := hC
  generalize ([.ref this] : List Value).toArray = args at hC ⊢
  show zS p l e ({ frames := 1, cells := 0, slots := 0, locals := 24 } : Room) s m args below meth c D aC G (zfI D aC G below args s 0 0) 1 0 0 (FM_wrong FU this G) G 0 [(0, .ref this)] []
  unfold FM_wrong
  refine z_gd ?_
  unfold FM_wrong_b
  refine z_aload_n hC 0 rfl dX12_wrong_0 rfl ?_
  refine z_aload_n hC 0 rfl dX12_wrong_1 rfl ?_
  refine z_getI hC zF12_249 rfl dX12_wrong_2 (fun v1 hv1 => ?_)
  refine z_if_ge (tgt := 15) hC hv1 dX12_wrong_5 (by decide) (fun _ => ?_) (fun _ => ?_)
  · refine z_aload_n hC 0 rfl dX12_wrong_8 rfl ?_
    refine z_getI hC zF12_240 rfl dX12_wrong_9 (fun v2 hv2 => ?_)
    refine z_goto (tgt := 19) hC dX12_wrong_12 (by decide) ?_
    refine z_putI hC hv2 zF12_249 rfl rfl dX12_wrong_19 (fun G3 => ?_)
    refine z_iconst hC dX12_wrong_22 ?_
    exact z_iret hC (by decide) hr dX12_wrong_23
  · refine z_aload_n hC 0 rfl dX12_wrong_15 rfl ?_
    refine z_getI hC zF12_249 rfl dX12_wrong_16 (fun v4 hv4 => ?_)
    refine z_putI hC hv4 zF12_249 rfl rfl dX12_wrong_19 (fun G5 => ?_)
    refine z_iconst hC dX12_wrong_22 ?_
    exact z_iret hC (by decide) hr dX12_wrong_23
theorem SM_wrong_k {FU : Nat} {this : Nat} {G : Hp} {r1 : (Int × Hp)} (h1 : FM_wrong FU this G = some r1) : zk G this = some (12, 0) := zgd_k (k := FM_wrong_b FU this G) h1

set_option maxRecDepth 100000 in
theorem SM_one_B80 {p : Program} {l : Launch} {e : Env} {s : State} {m : MethodId} {args : Array Value} {below : List Frame} {meth : Method} {c : Code} {D : va_G} {aC : Nat → ClassId} {G0 : Hp} (hC : zC p m c meth s args cX12_one 5 RX12 D aC) (hr : meth.sig.returnType = (some .int)) (FU : Nat) (rec : Nat → Hp → Option (Int × Hp)) (rr : Room) (hrr : rr.cells = 0 ∧ rr.slots = 0) (hrec : ∀ (this : Nat), ∀ (G : Hp) (r1 : (Int × Hp)), rec this G = some r1 → Met l yX12_sum (Cond.code yX12_sum cX12_sum 4 (some .int) :: zgood) rr (va_Pc [.ref this] (zU D aC G)) (zQ D aC G (zInI r1.1) (some (.int (zi r1.1))) r1.2) 0 0 (zA G)) (hreck : ∀ (this : Nat) (G : Hp) (r1 : (Int × Hp)), rec this G = some r1 → zk G this = some (12, 0)) (x0 : Nat) (x2 : Int) (G : Hp) (hx2 : zInI x2) : zS p l e ({ frames := rr.frames + 2, cells := 0, slots := 0, locals := rr.locals + 44 } : Room) s m args below meth c D aC G0 (zfI D aC G0 below args s 0 0) 5 0 0 (FM_one_B80 FU rec x0 x2 G) G 80 [(0, .ref x0), (2, .int (zi x2))] [] := by
  unfold FM_one_B80
  refine z_aload_n hC 0 rfl dX12_one_80 rfl ?_
  refine z_dup hC rfl dX12_one_81 ?_
  refine z_getI hC zF12_240 rfl dX12_one_82 (fun v1 hv1 => ?_)
  refine z_iconst hC dX12_one_85 ?_
  refine z_iadd hC dX12_one_86 (fun v2 hv2 => ?_)
  refine z_putI hC hv2 zF12_240 rfl rfl dX12_one_87 (fun G3 => ?_)
  refine z_aload_n hC 0 rfl dX12_one_90 rfl ?_
  refine z_dup hC rfl dX12_one_91 ?_
  refine z_getI hC zF12_262 rfl dX12_one_92 (fun v4 hv4 => ?_)
  refine z_iconst hC dX12_one_95 ?_
  refine z_isub hC dX12_one_96 (fun v5 hv5 => ?_)
  refine z_putI hC hv5 zF12_262 rfl rfl dX12_one_97 (fun G6 => ?_)
  refine z_iload_n hC 1 rfl dX12_one_100 rfl ?_
  exact z_iret hC hx2 hr dX12_one_101
set_option maxRecDepth 100000 in
theorem SM_one_B187 {p : Program} {l : Launch} {e : Env} {s : State} {m : MethodId} {args : Array Value} {below : List Frame} {meth : Method} {c : Code} {D : va_G} {aC : Nat → ClassId} {G0 : Hp} (hC : zC p m c meth s args cX12_one 5 RX12 D aC) (hr : meth.sig.returnType = (some .int)) (FU : Nat) (rec : Nat → Hp → Option (Int × Hp)) (rr : Room) (hrr : rr.cells = 0 ∧ rr.slots = 0) (hrec : ∀ (this : Nat), ∀ (G : Hp) (r1 : (Int × Hp)), rec this G = some r1 → Met l yX12_sum (Cond.code yX12_sum cX12_sum 4 (some .int) :: zgood) rr (va_Pc [.ref this] (zU D aC G)) (zQ D aC G (zInI r1.1) (some (.int (zi r1.1))) r1.2) 0 0 (zA G)) (hreck : ∀ (this : Nat) (G : Hp) (r1 : (Int × Hp)), rec this G = some r1 → zk G this = some (12, 0)) (x0 : Nat) (G : Hp) : zS p l e ({ frames := rr.frames + 2, cells := 0, slots := 0, locals := rr.locals + 44 } : Room) s m args below meth c D aC G0 (zfI D aC G0 below args s 0 0) 5 0 0 (FM_one_B187 FU rec x0 G) G 187 [(0, .ref x0)] [] := by
  unfold FM_one_B187
  refine z_aload_n hC 0 rfl dX12_one_187 rfl ?_
  refine z_cI (z_rV (q := x0) (t := 12) (As := []) hC (fun _ h1 => SM_wrong FU x0 h1) (fun _ h1 => SM_wrong_k h1) rfl rfl zM12_265 zMv_FM_wrong ⟨show 1 + 1 ≤ rr.frames + 2 by omega, show 8 + (1 + 11) + 24 ≤ rr.locals + 44 by omega⟩ rfl rfl rfl (rest := []) (Nat.le_of_ble_eq_true rfl) ⟨Nat.le_of_ble_eq_true rfl, Nat.le_of_ble_eq_true rfl⟩ rfl dX12_one_188) (fun v2 G1 hv2 => ?_)
  exact z_iret hC hv2 hr dX12_one_191
set_option maxRecDepth 100000 in
theorem SM_one_L197 {p : Program} {l : Launch} {e : Env} {s : State} {m : MethodId} {args : Array Value} {below : List Frame} {meth : Method} {c : Code} {D : va_G} {aC : Nat → ClassId} {G0 : Hp} (hC : zC p m c meth s args cX12_one 5 RX12 D aC) (hr : meth.sig.returnType = (some .int)) (FU : Nat) (rec : Nat → Hp → Option (Int × Hp)) (rr : Room) (hrr : rr.cells = 0 ∧ rr.slots = 0) (hrec : ∀ (this : Nat), ∀ (G : Hp) (r1 : (Int × Hp)), rec this G = some r1 → Met l yX12_sum (Cond.code yX12_sum cX12_sum 4 (some .int) :: zgood) rr (va_Pc [.ref this] (zU D aC G)) (zQ D aC G (zInI r1.1) (some (.int (zi r1.1))) r1.2) 0 0 (zA G)) (hreck : ∀ (this : Nat) (G : Hp) (r1 : (Int × Hp)), rec this G = some r1 → zk G this = some (12, 0)) : ∀ (n : Nat) (x0 : Nat) (x3 : Int) (x4 : Int) (G : Hp) (hx3 : zInI x3) (hx4 : zInI x4), zS p l e ({ frames := rr.frames + 2, cells := 0, slots := 0, locals := rr.locals + 44 } : Room) s m args below meth c D aC G0 (zfI D aC G0 below args s 0 0) 5 0 0 (FM_one_L197 FU rec n x0 x3 x4 G) G 197 [(0, .ref x0), (3, .int (zi x3)), (4, .int (zi x4))] [] := by
  intro n
  induction n with
  | zero => intros; exact z_none
  | succ n ih =>
    intro x0 x3 x4 G hx3 hx4
    rw [FM_one_L197]
    refine z_aload_n hC 0 rfl dX12_one_197 rfl ?_
    refine z_cIp (z_rV (q := x0) (t := 12) (As := []) hC (fun _ h1 => SM_byteAt FU x0 h1) (fun _ h1 => SM_byteAt_k h1) rfl rfl zM12_256 zMv_FM_byteAt ⟨show 1 + 1 ≤ rr.frames + 2 by omega, show 8 + (1 + 11) + 24 ≤ rr.locals + 44 by omega⟩ rfl rfl rfl (rest := []) (Nat.le_of_ble_eq_true rfl) ⟨Nat.le_of_ble_eq_true rfl, Nat.le_of_ble_eq_true rfl⟩ rfl dX12_one_198) (fun v1 hv1 => ?_)
    refine z_bipush hC dX12_one_201 rfl ?_
    refine z_icmp_lt (tgt := 256) hC hv1 (by decide) dX12_one_203 (by decide) (fun _ => ?_) (fun _ => ?_)
    · refine z_iload_n hC 1 rfl dX12_one_256 rfl ?_
      exact z_iret hC hx3 hr dX12_one_257
    · refine z_aload_n hC 0 rfl dX12_one_206 rfl ?_
      refine z_cIp (z_rV (q := x0) (t := 12) (As := []) hC (fun _ h1 => SM_byteAt FU x0 h1) (fun _ h1 => SM_byteAt_k h1) rfl rfl zM12_256 zMv_FM_byteAt ⟨show 1 + 1 ≤ rr.frames + 2 by omega, show 8 + (1 + 11) + 24 ≤ rr.locals + 44 by omega⟩ rfl rfl rfl (rest := []) (Nat.le_of_ble_eq_true rfl) ⟨Nat.le_of_ble_eq_true rfl, Nat.le_of_ble_eq_true rfl⟩ rfl dX12_one_207) (fun v2 hv2 => ?_)
      refine z_bipush hC dX12_one_210 rfl ?_
      refine z_icmp_gt (tgt := 256) hC hv2 (by decide) dX12_one_212 (by decide) (fun _ => ?_) (fun _ => ?_)
      · refine z_iload hC 2 rfl dX12_one_215 ?_
        refine z_bipush hC dX12_one_217 rfl ?_
        refine z_icmp_ne (tgt := 227) hC hx4 (by decide) dX12_one_219 (by decide) (fun _ => ?_) (fun _ => ?_)
        · refine z_aload_n hC 0 rfl dX12_one_222 rfl ?_
          refine z_cI (z_rV (q := x0) (t := 12) (As := []) hC (fun _ h1 => SM_wrong FU x0 h1) (fun _ h1 => SM_wrong_k h1) rfl rfl zM12_265 zMv_FM_wrong ⟨show 1 + 1 ≤ rr.frames + 2 by omega, show 8 + (1 + 11) + 24 ≤ rr.locals + 44 by omega⟩ rfl rfl rfl (rest := []) (Nat.le_of_ble_eq_true rfl) ⟨Nat.le_of_ble_eq_true rfl, Nat.le_of_ble_eq_true rfl⟩ rfl dX12_one_223) (fun v4 G3 hv4 => ?_)
          exact z_iret hC hv4 hr dX12_one_226
        · refine z_bipush hC dX12_one_227 rfl ?_
          refine z_iload_n hC 1 rfl dX12_one_229 rfl ?_
          refine z_imulw hC dX12_one_230 (fun v5 hv5 => ?_)
          refine z_aload_n hC 0 rfl dX12_one_231 rfl ?_
          refine z_cIp (z_rV (q := x0) (t := 12) (As := []) hC (fun _ h1 => SM_byteAt FU x0 h1) (fun _ h1 => SM_byteAt_k h1) rfl rfl zM12_256 zMv_FM_byteAt ⟨show 1 + 1 ≤ rr.frames + 2 by omega, show 8 + (1 + 11) + 24 ≤ rr.locals + 44 by omega⟩ rfl rfl rfl (rest := [.int (zi v5)]) (Nat.le_of_ble_eq_true rfl) ⟨Nat.le_of_ble_eq_true rfl, Nat.le_of_ble_eq_true rfl⟩ rfl dX12_one_232) (fun v6 hv6 => ?_)
          refine z_iaddw hC dX12_one_235 (fun v7 hv7 => ?_)
          refine z_bipush hC dX12_one_236 rfl ?_
          refine z_isubw hC dX12_one_238 (fun v8 hv8 => ?_)
          refine z_istore_n (lo' := [(3, .int (zi v8)), (0, .ref x0), (4, .int (zi x4))]) hC dX12_one_239 rfl (by decide) rfl ?_
          refine z_iinc (lo' := fun v9 => [(4, .int (zi v9)), (3, .int (zi v8)), (0, .ref x0)]) hC 2 dX12_one_240 rfl (by decide) (fun _ => rfl) (fun v9 hv9 => ?_)
          refine z_aload_n hC 2 rfl dX12_one_243 rfl ?_
          refine z_dup hC rfl dX12_one_244 ?_
          refine z_getI hC zF12_240 rfl dX12_one_245 (fun v10 hv10 => ?_)
          refine z_iconst hC dX12_one_248 ?_
          refine z_iadd hC dX12_one_249 (fun v11 hv11 => ?_)
          refine z_putI hC hv11 zF12_240 rfl rfl dX12_one_250 (fun G12 => ?_)
          refine z_goto (tgt := 197) hC dX12_one_253 (by decide) ?_
          refine z_sub hC [2, 1, 0] (lo' := [(0, .ref x0), (3, .int (zi v8)), (4, .int (zi v9))]) rfl ?_
          exact ih x0 v8 v9 G12 hv8 hv9
      · refine z_iload_n hC 1 rfl dX12_one_256 rfl ?_
        exact z_iret hC hx3 hr dX12_one_257
set_option maxRecDepth 100000 in
theorem SM_one_B153 {p : Program} {l : Launch} {e : Env} {s : State} {m : MethodId} {args : Array Value} {below : List Frame} {meth : Method} {c : Code} {D : va_G} {aC : Nat → ClassId} {G0 : Hp} (hC : zC p m c meth s args cX12_one 5 RX12 D aC) (hr : meth.sig.returnType = (some .int)) (FU : Nat) (rec : Nat → Hp → Option (Int × Hp)) (rr : Room) (hrr : rr.cells = 0 ∧ rr.slots = 0) (hrec : ∀ (this : Nat), ∀ (G : Hp) (r1 : (Int × Hp)), rec this G = some r1 → Met l yX12_sum (Cond.code yX12_sum cX12_sum 4 (some .int) :: zgood) rr (va_Pc [.ref this] (zU D aC G)) (zQ D aC G (zInI r1.1) (some (.int (zi r1.1))) r1.2) 0 0 (zA G)) (hreck : ∀ (this : Nat) (G : Hp) (r1 : (Int × Hp)), rec this G = some r1 → zk G this = some (12, 0)) (x0 : Nat) (x1 : Int) (y0 : Int) (G : Hp) (hx1 : zInI x1) (hy0 : zInI y0) : zS p l e ({ frames := rr.frames + 2, cells := 0, slots := 0, locals := rr.locals + 44 } : Room) s m args below meth c D aC G0 (zfI D aC G0 below args s 0 0) 5 0 0 (FM_one_B153 FU rec x0 x1 y0 G) G 153 [(0, .ref x0), (1, .int (zi x1))] [.int (zi y0)] := by
  unfold FM_one_B153
  refine z_istore_n (lo' := [(2, .int (zi y0)), (0, .ref x0), (1, .int (zi x1))]) hC dX12_one_153 rfl (by decide) rfl ?_
  refine z_iload_n hC 0 rfl dX12_one_154 rfl ?_
  refine z_if_lt (tgt := 175) hC hy0 dX12_one_155 (by decide) (fun _ => ?_) (fun _ => ?_)
  · refine z_iload_n hC 2 rfl dX12_one_175 rfl ?_
    refine z_bipush hC dX12_one_176 rfl ?_
    refine z_icmp_lt (tgt := 187) hC hx1 (by decide) dX12_one_178 (by decide) (fun _ => ?_) (fun _ => ?_)
    · refine z_sub hC [1] (lo' := [(0, .ref x0)]) rfl ?_
      exact SM_one_B187 hC hr FU rec rr hrr hrec hreck x0 G
    · refine z_iload_n hC 2 rfl dX12_one_181 rfl ?_
      refine z_bipush hC dX12_one_182 rfl ?_
      refine z_icmp_le (tgt := 192) hC hx1 (by decide) dX12_one_184 (by decide) (fun _ => ?_) (fun _ => ?_)
      · refine z_iconst hC dX12_one_192 ?_
        refine z_istore_n (lo' := [(3, .int (zi (0))), (2, .int (zi y0)), (0, .ref x0), (1, .int (zi x1))]) hC dX12_one_193 rfl (by decide) rfl ?_
        refine z_iconst hC dX12_one_194 ?_
        refine z_istore (lo' := [(4, .int (zi (0))), (3, .int (zi (0))), (2, .int (zi y0)), (0, .ref x0), (1, .int (zi x1))]) hC dX12_one_195 (by decide) rfl ?_
        refine z_sub hC [3, 1, 0] (lo' := [(0, .ref x0), (3, .int (zi (0))), (4, .int (zi (0)))]) rfl ?_
        exact SM_one_L197 hC hr FU rec rr hrr hrec hreck FU x0 (0) (0) G (by decide) (by decide)
      · refine z_sub hC [1] (lo' := [(0, .ref x0)]) rfl ?_
        exact SM_one_B187 hC hr FU rec rr hrr hrec hreck x0 G
  · refine z_aload_n hC 1 rfl dX12_one_158 rfl ?_
    refine z_dup hC rfl dX12_one_159 ?_
    refine z_getI hC zF12_240 rfl dX12_one_160 (fun v1 hv1 => ?_)
    refine z_iconst hC dX12_one_163 ?_
    refine z_iadd hC dX12_one_164 (fun v2 hv2 => ?_)
    refine z_putI hC hv2 zF12_240 rfl rfl dX12_one_165 (fun G3 => ?_)
    refine z_aload_n hC 1 rfl dX12_one_168 rfl ?_
    refine z_getQ hC zF12_78 rfl dX12_one_169 (fun v4 => ?_)
    refine z_iload_n hC 0 rfl dX12_one_172 rfl ?_
    refine z_iald hC hy0 dX12_one_173 (fun v5 hv5 => ?_)
    exact z_iret hC hv5 hr dX12_one_174
set_option maxRecDepth 100000 in
theorem SM_one {l : Launch} {D : va_G} {aC : Nat → ClassId} (FU : Nat) (rec : Nat → Hp → Option (Int × Hp)) (rr : Room) (hrr : rr.cells = 0 ∧ rr.slots = 0) (hrec : ∀ (this : Nat), ∀ (G : Hp) (r1 : (Int × Hp)), rec this G = some r1 → Met l yX12_sum (Cond.code yX12_sum cX12_sum 4 (some .int) :: zgood) rr (va_Pc [.ref this] (zU D aC G)) (zQ D aC G (zInI r1.1) (some (.int (zi r1.1))) r1.2) 0 0 (zA G)) (hreck : ∀ (this : Nat) (G : Hp) (r1 : (Int × Hp)), rec this G = some r1 → zk G this = some (12, 0)) (this : Nat) {G : Hp} {r1 : (Int × Hp)} (h1 : FM_one FU rec this G = some r1) : Met l yX12_one (Cond.code yX12_one cX12_one 5 (some .int) :: zgood) ({ frames := rr.frames + 2, cells := 0, slots := 0, locals := rr.locals + 44 } : Room) (va_Pc [.ref this] (zU D aC G)) (zQ D aC G (zInI r1.1) (some (.int (zi r1.1))) r1.2) 0 0 (zA G) := by
  refine z_met (y := yX12_one) (b := cX12_one) (maxL := 5) (mc := 0) (ms := 0) (ret := (some .int)) (As := [.ref this]) (Q1 := fun r1 => zQ D aC G (zInI r1.1) (some (.int (zi r1.1))) r1.2) (X := FM_one FU rec this G) (by decide) (Nat.le_of_ble_eq_true rfl) ?_ h1
  intro p e s m below meth c hC hr hi
  have hC : zC p m c meth s ([.ref this] : List Value).toArray cX12_one 5 RX12 D aC := hC
  generalize ([.ref this] : List Value).toArray = args at hC ⊢
  show zS p l e ({ frames := rr.frames + 2, cells := 0, slots := 0, locals := rr.locals + 44 } : Room) s m args below meth c D aC G (zfI D aC G below args s 0 0) 5 0 0 (FM_one FU rec this G) G 0 [(0, .ref this)] []
  unfold FM_one
  refine z_gd ?_
  unfold FM_one_b
  refine z_aload_n hC 0 rfl dX12_one_0 rfl ?_
  refine z_getI hC zF12_249 rfl dX12_one_1 (fun v1 hv1 => ?_)
  refine z_if_lt (tgt := 9) hC hv1 dX12_one_4 (by decide) (fun _ => ?_) (fun _ => ?_)
  · refine z_aload_n hC 0 rfl dX12_one_9 rfl ?_
    refine z_cIp (z_rV (q := this) (t := 12) (As := []) hC (fun _ h1 => SM_byteAt FU this h1) (fun _ h1 => SM_byteAt_k h1) rfl rfl zM12_256 zMv_FM_byteAt ⟨show 1 + 1 ≤ rr.frames + 2 by omega, show 8 + (1 + 11) + 24 ≤ rr.locals + 44 by omega⟩ rfl rfl rfl (rest := []) (Nat.le_of_ble_eq_true rfl) ⟨Nat.le_of_ble_eq_true rfl, Nat.le_of_ble_eq_true rfl⟩ rfl dX12_one_10) (fun v2 hv2 => ?_)
    refine z_istore_n (lo' := [(1, .int (zi v2)), (0, .ref this)]) hC dX12_one_13 rfl (by decide) rfl ?_
    refine z_iload_n hC 0 rfl dX12_one_14 rfl ?_
    refine z_bipush hC dX12_one_15 rfl ?_
    refine z_icmp_ne (tgt := 102) hC hv2 (by decide) dX12_one_17 (by decide) (fun _ => ?_) (fun _ => ?_)
    · refine z_aload_n hC 1 rfl dX12_one_20 rfl ?_
      refine z_getI hC zF12_262 rfl dX12_one_21 (fun v3 hv3 => ?_)
      refine z_bipush hC dX12_one_24 rfl ?_
      refine z_icmp_ne (tgt := 34) hC hv3 (by decide) dX12_one_26 (by decide) (fun _ => ?_) (fun _ => ?_)
      · refine z_aload_n hC 1 rfl dX12_one_29 rfl ?_
        refine z_cI (z_rV (q := this) (t := 12) (As := []) hC (fun _ h1 => SM_wrong FU this h1) (fun _ h1 => SM_wrong_k h1) rfl rfl zM12_265 zMv_FM_wrong ⟨show 1 + 1 ≤ rr.frames + 2 by omega, show 8 + (1 + 11) + 24 ≤ rr.locals + 44 by omega⟩ rfl rfl rfl (rest := []) (Nat.le_of_ble_eq_true rfl) ⟨Nat.le_of_ble_eq_true rfl, Nat.le_of_ble_eq_true rfl⟩ rfl dX12_one_30) (fun v5 G4 hv5 => ?_)
        exact z_iret hC hv5 hr dX12_one_33
      · refine z_aload_n hC 1 rfl dX12_one_34 rfl ?_
        refine z_dup hC rfl dX12_one_35 ?_
        refine z_getI hC zF12_262 rfl dX12_one_36 (fun v6 hv6 => ?_)
        refine z_iconst hC dX12_one_39 ?_
        refine z_iadd hC dX12_one_40 (fun v7 hv7 => ?_)
        refine z_putI hC hv7 zF12_262 rfl rfl dX12_one_41 (fun G8 => ?_)
        refine z_aload_n hC 1 rfl dX12_one_44 rfl ?_
        refine z_dup hC rfl dX12_one_45 ?_
        refine z_getI hC zF12_240 rfl dX12_one_46 (fun v9 hv9 => ?_)
        refine z_iconst hC dX12_one_49 ?_
        refine z_iadd hC dX12_one_50 (fun v10 hv10 => ?_)
        refine z_putI hC hv10 zF12_240 rfl rfl dX12_one_51 (fun G11 => ?_)
        refine z_aload_n hC 1 rfl dX12_one_54 rfl ?_
        refine z_cI (z_rV (q := this) (t := 12) (As := []) hC (fun _ h1 => hrec this G11 _ h1) (fun _ h1 => hreck this G11 _ h1) rfl rfl zM12_268 zMv_FM_sum ⟨show rr.frames + 1 ≤ rr.frames + 2 by omega, show 8 + (4 + 11) + rr.locals ≤ rr.locals + 44 by omega⟩ hrr.1 hrr.2 rfl (rest := []) (Nat.le_of_ble_eq_true rfl) ⟨Nat.le_of_ble_eq_true rfl, Nat.le_of_ble_eq_true rfl⟩ rfl dX12_one_55) (fun v13 G12 hv13 => ?_)
        refine z_istore_n (lo' := [(2, .int (zi v13)), (1, .int (zi v2)), (0, .ref this)]) hC dX12_one_58 rfl (by decide) rfl ?_
        refine z_aload_n hC 2 rfl dX12_one_59 rfl ?_
        refine z_getI hC zF12_249 rfl dX12_one_60 (fun v14 hv14 => ?_)
        refine z_if_ge (tgt := 80) hC hv14 dX12_one_63 (by decide) (fun _ => ?_) (fun _ => ?_)
        · refine z_aload_n hC 2 rfl dX12_one_66 rfl ?_
          refine z_cIp (z_rV (q := this) (t := 12) (As := []) hC (fun _ h1 => SM_byteAt FU this h1) (fun _ h1 => SM_byteAt_k h1) rfl rfl zM12_256 zMv_FM_byteAt ⟨show 1 + 1 ≤ rr.frames + 2 by omega, show 8 + (1 + 11) + 24 ≤ rr.locals + 44 by omega⟩ rfl rfl rfl (rest := []) (Nat.le_of_ble_eq_true rfl) ⟨Nat.le_of_ble_eq_true rfl, Nat.le_of_ble_eq_true rfl⟩ rfl dX12_one_67) (fun v15 hv15 => ?_)
          refine z_bipush hC dX12_one_70 rfl ?_
          refine z_icmp_eq (tgt := 80) hC hv15 (by decide) dX12_one_72 (by decide) (fun _ => ?_) (fun _ => ?_)
          · refine z_sub hC [2, 0] (lo' := [(0, .ref this), (2, .int (zi v13))]) rfl ?_
            exact SM_one_B80 hC hr FU rec rr hrr hrec hreck this v13 G12 hv13
          · refine z_aload_n hC 2 rfl dX12_one_75 rfl ?_
            refine z_cI (z_rV (q := this) (t := 12) (As := []) hC (fun _ h1 => SM_wrong FU this h1) (fun _ h1 => SM_wrong_k h1) rfl rfl zM12_265 zMv_FM_wrong ⟨show 1 + 1 ≤ rr.frames + 2 by omega, show 8 + (1 + 11) + 24 ≤ rr.locals + 44 by omega⟩ rfl rfl rfl (rest := []) (Nat.le_of_ble_eq_true rfl) ⟨Nat.le_of_ble_eq_true rfl, Nat.le_of_ble_eq_true rfl⟩ rfl dX12_one_76) (fun v17 G16 hv17 => ?_)
            exact z_iret hC hv17 hr dX12_one_79
        · refine z_sub hC [2, 0] (lo' := [(0, .ref this), (2, .int (zi v13))]) rfl ?_
          exact SM_one_B80 hC hr FU rec rr hrr hrec hreck this v13 G12 hv13
    · refine z_iload_n hC 0 rfl dX12_one_102 rfl ?_
      refine z_bipush hC dX12_one_103 rfl ?_
      refine z_icmp_ne (tgt := 112) hC hv2 (by decide) dX12_one_105 (by decide) (fun _ => ?_) (fun _ => ?_)
      · refine z_iconst hC dX12_one_108 ?_
        refine z_goto (tgt := 153) hC dX12_one_109 (by decide) ?_
        refine z_sub hC [1, 0] (lo' := [(0, .ref this), (1, .int (zi v2))]) rfl ?_
        exact SM_one_B153 hC hr FU rec rr hrr hrec hreck this v2 (0) G hv2 (by decide)
      · refine z_iload_n hC 0 rfl dX12_one_112 rfl ?_
        refine z_bipush hC dX12_one_113 rfl ?_
        refine z_icmp_ne (tgt := 122) hC hv2 (by decide) dX12_one_115 (by decide) (fun _ => ?_) (fun _ => ?_)
        · refine z_iconst hC dX12_one_118 ?_
          refine z_goto (tgt := 153) hC dX12_one_119 (by decide) ?_
          refine z_sub hC [1, 0] (lo' := [(0, .ref this), (1, .int (zi v2))]) rfl ?_
          exact SM_one_B153 hC hr FU rec rr hrr hrec hreck this v2 (1) G hv2 (by decide)
        · refine z_iload_n hC 0 rfl dX12_one_122 rfl ?_
          refine z_bipush hC dX12_one_123 rfl ?_
          refine z_icmp_ne (tgt := 132) hC hv2 (by decide) dX12_one_125 (by decide) (fun _ => ?_) (fun _ => ?_)
          · refine z_iconst hC dX12_one_128 ?_
            refine z_goto (tgt := 153) hC dX12_one_129 (by decide) ?_
            refine z_sub hC [1, 0] (lo' := [(0, .ref this), (1, .int (zi v2))]) rfl ?_
            exact SM_one_B153 hC hr FU rec rr hrr hrec hreck this v2 (2) G hv2 (by decide)
          · refine z_iload_n hC 0 rfl dX12_one_132 rfl ?_
            refine z_bipush hC dX12_one_133 rfl ?_
            refine z_icmp_ne (tgt := 142) hC hv2 (by decide) dX12_one_135 (by decide) (fun _ => ?_) (fun _ => ?_)
            · refine z_iconst hC dX12_one_138 ?_
              refine z_goto (tgt := 153) hC dX12_one_139 (by decide) ?_
              refine z_sub hC [1, 0] (lo' := [(0, .ref this), (1, .int (zi v2))]) rfl ?_
              exact SM_one_B153 hC hr FU rec rr hrr hrec hreck this v2 (3) G hv2 (by decide)
            · refine z_iload_n hC 0 rfl dX12_one_142 rfl ?_
              refine z_bipush hC dX12_one_143 rfl ?_
              refine z_icmp_ne (tgt := 152) hC hv2 (by decide) dX12_one_145 (by decide) (fun _ => ?_) (fun _ => ?_)
              · refine z_iconst hC dX12_one_148 ?_
                refine z_goto (tgt := 153) hC dX12_one_149 (by decide) ?_
                refine z_sub hC [1, 0] (lo' := [(0, .ref this), (1, .int (zi v2))]) rfl ?_
                exact SM_one_B153 hC hr FU rec rr hrr hrec hreck this v2 (4) G hv2 (by decide)
              · refine z_iconst hC dX12_one_152 ?_
                refine z_sub hC [1, 0] (lo' := [(0, .ref this), (1, .int (zi v2))]) rfl ?_
                exact SM_one_B153 hC hr FU rec rr hrr hrec hreck this v2 (-1) G hv2 (by decide)
  · refine z_iconst hC dX12_one_7 ?_
    exact z_iret hC (by decide) hr dX12_one_8
theorem SM_one_k {FU : Nat} {rec : Nat → Hp → Option (Int × Hp)} {this : Nat} {G : Hp} {r1 : (Int × Hp)} (h1 : FM_one FU rec this G = some r1) : zk G this = some (12, 0) := zgd_k (k := FM_one_b FU rec this G) h1

set_option maxRecDepth 100000 in
theorem SM_product_B44 {p : Program} {l : Launch} {e : Env} {s : State} {m : MethodId} {args : Array Value} {below : List Frame} {meth : Method} {c : Code} {D : va_G} {aC : Nat → ClassId} {G0 : Hp} (hC : zC p m c meth s args cX12_product 4 RX12 D aC) (hr : meth.sig.returnType = (some .int)) (FU : Nat) (rec : Nat → Hp → Option (Int × Hp)) (rr : Room) (hrr : rr.cells = 0 ∧ rr.slots = 0) (hrec : ∀ (this : Nat), ∀ (G : Hp) (r1 : (Int × Hp)), rec this G = some r1 → Met l yX12_sum (Cond.code yX12_sum cX12_sum 4 (some .int) :: zgood) rr (va_Pc [.ref this] (zU D aC G)) (zQ D aC G (zInI r1.1) (some (.int (zi r1.1))) r1.2) 0 0 (zA G)) (hreck : ∀ (this : Nat) (G : Hp) (r1 : (Int × Hp)), rec this G = some r1 → zk G this = some (12, 0)) (kL5 : Nat → Int → Hp → Option (Int × Hp)) (hkL5 : ∀ (a0 : Nat) (a1 : Int) (G : Hp), zInI a1 → zS p l e ({ frames := rr.frames + 3, cells := 0, slots := 0, locals := rr.locals + 68 } : Room) s m args below meth c D aC G0 (zfI D aC G0 below args s 0 0) 4 0 0 (kL5 a0 a1 G) G 5 [(0, .ref a0), (1, .int (zi a1))] []) (x0 : Nat) (x1 : Int) (y0 : Int) (G : Hp) (hx1 : zInI x1) (hy0 : zInI y0) : zS p l e ({ frames := rr.frames + 3, cells := 0, slots := 0, locals := rr.locals + 68 } : Room) s m args below meth c D aC G0 (zfI D aC G0 below args s 0 0) 4 0 0 (FM_product_B44 FU rec kL5 x0 x1 y0 G) G 44 [(0, .ref x0), (1, .int (zi x1))] [.int (zi y0)] := by
  unfold FM_product_B44
  refine z_istore_n (lo' := [(2, .int (zi y0)), (0, .ref x0), (1, .int (zi x1))]) hC dX12_product_44 rfl (by decide) rfl ?_
  refine z_aload_n hC 1 rfl dX12_product_45 rfl ?_
  refine z_dup hC rfl dX12_product_46 ?_
  refine z_getI hC zF12_240 rfl dX12_product_47 (fun v1 hv1 => ?_)
  refine z_iconst hC dX12_product_50 ?_
  refine z_iadd hC dX12_product_51 (fun v2 hv2 => ?_)
  refine z_putI hC hv2 zF12_240 rfl rfl dX12_product_52 (fun G3 => ?_)
  refine z_aload_n hC 1 rfl dX12_product_55 rfl ?_
  refine z_cI (z_rV (q := x0) (t := 12) (As := []) hC (fun _ h1 => SM_one FU rec rr hrr hrec hreck x0 h1) (fun _ h1 => SM_one_k h1) rfl rfl zM12_259 zMv_FM_one ⟨show rr.frames + 2 + 1 ≤ rr.frames + 3 by omega, show 8 + (5 + 11) + (rr.locals + 44) ≤ rr.locals + 68 by omega⟩ rfl rfl rfl (rest := []) (Nat.le_of_ble_eq_true rfl) ⟨Nat.le_of_ble_eq_true rfl, Nat.le_of_ble_eq_true rfl⟩ rfl dX12_product_56) (fun v5 G4 hv5 => ?_)
  refine z_istore_n (lo' := [(3, .int (zi v5)), (2, .int (zi y0)), (0, .ref x0), (1, .int (zi x1))]) hC dX12_product_59 rfl (by decide) rfl ?_
  refine z_iload_n hC 1 rfl dX12_product_60 rfl ?_
  refine z_if_eq (tgt := 70) hC hy0 dX12_product_61 (by decide) (fun _ => ?_) (fun _ => ?_)
  · refine z_iload_n hC 0 rfl dX12_product_70 rfl ?_
    refine z_if_ne (tgt := 78) hC hv5 dX12_product_71 (by decide) (fun _ => ?_) (fun _ => ?_)
    · refine z_iconst hC dX12_product_74 ?_
      refine z_goto (tgt := 81) hC dX12_product_75 (by decide) ?_
      refine z_istore_n (lo' := [(1, .int (zi (0))), (3, .int (zi v5)), (2, .int (zi y0)), (0, .ref x0)]) hC dX12_product_81 rfl (by decide) rfl ?_
      refine z_goto (tgt := 5) hC dX12_product_82 (by decide) ?_
      refine z_sub hC [3, 0] (lo' := [(0, .ref x0), (1, .int (zi (0)))]) rfl ?_
      exact hkL5 x0 (0) G4 (by decide)
    · refine z_iload_n hC 3 rfl dX12_product_78 rfl ?_
      refine z_iload_n hC 0 rfl dX12_product_79 rfl ?_
      refine z_idivw hC hx1 hv5 dX12_product_80 (fun v6 hv6 => ?_)
      refine z_istore_n (lo' := [(1, .int (zi v6)), (3, .int (zi v5)), (2, .int (zi y0)), (0, .ref x0)]) hC dX12_product_81 rfl (by decide) rfl ?_
      refine z_goto (tgt := 5) hC dX12_product_82 (by decide) ?_
      refine z_sub hC [3, 0] (lo' := [(0, .ref x0), (1, .int (zi v6))]) rfl ?_
      exact hkL5 x0 v6 G4 hv6
  · refine z_iload_n hC 3 rfl dX12_product_64 rfl ?_
    refine z_iload_n hC 0 rfl dX12_product_65 rfl ?_
    refine z_imulw hC dX12_product_66 (fun v7 hv7 => ?_)
    refine z_goto (tgt := 81) hC dX12_product_67 (by decide) ?_
    refine z_istore_n (lo' := [(1, .int (zi v7)), (3, .int (zi v5)), (2, .int (zi y0)), (0, .ref x0)]) hC dX12_product_81 rfl (by decide) rfl ?_
    refine z_goto (tgt := 5) hC dX12_product_82 (by decide) ?_
    refine z_sub hC [3, 0] (lo' := [(0, .ref x0), (1, .int (zi v7))]) rfl ?_
    exact hkL5 x0 v7 G4 hv7
set_option maxRecDepth 100000 in
theorem SM_product_B30 {p : Program} {l : Launch} {e : Env} {s : State} {m : MethodId} {args : Array Value} {below : List Frame} {meth : Method} {c : Code} {D : va_G} {aC : Nat → ClassId} {G0 : Hp} (hC : zC p m c meth s args cX12_product 4 RX12 D aC) (hr : meth.sig.returnType = (some .int)) (FU : Nat) (rec : Nat → Hp → Option (Int × Hp)) (rr : Room) (hrr : rr.cells = 0 ∧ rr.slots = 0) (hrec : ∀ (this : Nat), ∀ (G : Hp) (r1 : (Int × Hp)), rec this G = some r1 → Met l yX12_sum (Cond.code yX12_sum cX12_sum 4 (some .int) :: zgood) rr (va_Pc [.ref this] (zU D aC G)) (zQ D aC G (zInI r1.1) (some (.int (zi r1.1))) r1.2) 0 0 (zA G)) (hreck : ∀ (this : Nat) (G : Hp) (r1 : (Int × Hp)), rec this G = some r1 → zk G this = some (12, 0)) (kL5 : Nat → Int → Hp → Option (Int × Hp)) (hkL5 : ∀ (a0 : Nat) (a1 : Int) (G : Hp), zInI a1 → zS p l e ({ frames := rr.frames + 3, cells := 0, slots := 0, locals := rr.locals + 68 } : Room) s m args below meth c D aC G0 (zfI D aC G0 below args s 0 0) 4 0 0 (kL5 a0 a1 G) G 5 [(0, .ref a0), (1, .int (zi a1))] []) (x0 : Nat) (x1 : Int) (G : Hp) (hx1 : zInI x1) : zS p l e ({ frames := rr.frames + 3, cells := 0, slots := 0, locals := rr.locals + 68 } : Room) s m args below meth c D aC G0 (zfI D aC G0 below args s 0 0) 4 0 0 (FM_product_B30 FU rec kL5 x0 x1 G) G 30 [(0, .ref x0), (1, .int (zi x1))] [] := by
  unfold FM_product_B30
  refine z_aload_n hC 0 rfl dX12_product_30 rfl ?_
  refine z_cIp (z_rV (q := x0) (t := 12) (As := []) hC (fun _ h1 => SM_byteAt FU x0 h1) (fun _ h1 => SM_byteAt_k h1) rfl rfl zM12_256 zMv_FM_byteAt ⟨show 1 + 1 ≤ rr.frames + 3 by omega, show 8 + (1 + 11) + 24 ≤ rr.locals + 68 by omega⟩ rfl rfl rfl (rest := []) (Nat.le_of_ble_eq_true rfl) ⟨Nat.le_of_ble_eq_true rfl, Nat.le_of_ble_eq_true rfl⟩ rfl dX12_product_31) (fun v1 hv1 => ?_)
  refine z_bipush hC dX12_product_34 rfl ?_
  refine z_icmp_ne (tgt := 43) hC hv1 (by decide) dX12_product_36 (by decide) (fun _ => ?_) (fun _ => ?_)
  · refine z_iconst hC dX12_product_39 ?_
    refine z_goto (tgt := 44) hC dX12_product_40 (by decide) ?_
    refine z_sub hC [0, 1] (lo' := [(0, .ref x0), (1, .int (zi x1))]) rfl ?_
    exact SM_product_B44 hC hr FU rec rr hrr hrec hreck kL5 hkL5 x0 x1 (1) G hx1 (by decide)
  · refine z_iconst hC dX12_product_43 ?_
    refine z_sub hC [0, 1] (lo' := [(0, .ref x0), (1, .int (zi x1))]) rfl ?_
    exact SM_product_B44 hC hr FU rec rr hrr hrec hreck kL5 hkL5 x0 x1 (0) G hx1 (by decide)
set_option maxRecDepth 100000 in
theorem SM_product_L5 {p : Program} {l : Launch} {e : Env} {s : State} {m : MethodId} {args : Array Value} {below : List Frame} {meth : Method} {c : Code} {D : va_G} {aC : Nat → ClassId} {G0 : Hp} (hC : zC p m c meth s args cX12_product 4 RX12 D aC) (hr : meth.sig.returnType = (some .int)) (FU : Nat) (rec : Nat → Hp → Option (Int × Hp)) (rr : Room) (hrr : rr.cells = 0 ∧ rr.slots = 0) (hrec : ∀ (this : Nat), ∀ (G : Hp) (r1 : (Int × Hp)), rec this G = some r1 → Met l yX12_sum (Cond.code yX12_sum cX12_sum 4 (some .int) :: zgood) rr (va_Pc [.ref this] (zU D aC G)) (zQ D aC G (zInI r1.1) (some (.int (zi r1.1))) r1.2) 0 0 (zA G)) (hreck : ∀ (this : Nat) (G : Hp) (r1 : (Int × Hp)), rec this G = some r1 → zk G this = some (12, 0)) : ∀ (n : Nat) (x0 : Nat) (x1 : Int) (G : Hp) (hx1 : zInI x1), zS p l e ({ frames := rr.frames + 3, cells := 0, slots := 0, locals := rr.locals + 68 } : Room) s m args below meth c D aC G0 (zfI D aC G0 below args s 0 0) 4 0 0 (FM_product_L5 FU rec n x0 x1 G) G 5 [(0, .ref x0), (1, .int (zi x1))] [] := by
  intro n
  induction n with
  | zero => intros; exact z_none
  | succ n ih =>
    intro x0 x1 G hx1
    rw [FM_product_L5]
    refine z_aload_n hC 0 rfl dX12_product_5 rfl ?_
    refine z_getI hC zF12_249 rfl dX12_product_6 (fun v1 hv1 => ?_)
    refine z_if_ge (tgt := 85) hC hv1 dX12_product_9 (by decide) (fun _ => ?_) (fun _ => ?_)
    · refine z_aload_n hC 0 rfl dX12_product_12 rfl ?_
      refine z_cIp (z_rV (q := x0) (t := 12) (As := []) hC (fun _ h1 => SM_byteAt FU x0 h1) (fun _ h1 => SM_byteAt_k h1) rfl rfl zM12_256 zMv_FM_byteAt ⟨show 1 + 1 ≤ rr.frames + 3 by omega, show 8 + (1 + 11) + 24 ≤ rr.locals + 68 by omega⟩ rfl rfl rfl (rest := []) (Nat.le_of_ble_eq_true rfl) ⟨Nat.le_of_ble_eq_true rfl, Nat.le_of_ble_eq_true rfl⟩ rfl dX12_product_13) (fun v2 hv2 => ?_)
      refine z_bipush hC dX12_product_16 rfl ?_
      refine z_icmp_eq (tgt := 30) hC hv2 (by decide) dX12_product_18 (by decide) (fun _ => ?_) (fun _ => ?_)
      · refine z_sub hC [0, 1] (lo' := [(0, .ref x0), (1, .int (zi x1))]) rfl ?_
        exact SM_product_B30 hC hr FU rec rr hrr hrec hreck (FM_product_L5 FU rec n) ih x0 x1 G hx1
      · refine z_aload_n hC 0 rfl dX12_product_21 rfl ?_
        refine z_cIp (z_rV (q := x0) (t := 12) (As := []) hC (fun _ h1 => SM_byteAt FU x0 h1) (fun _ h1 => SM_byteAt_k h1) rfl rfl zM12_256 zMv_FM_byteAt ⟨show 1 + 1 ≤ rr.frames + 3 by omega, show 8 + (1 + 11) + 24 ≤ rr.locals + 68 by omega⟩ rfl rfl rfl (rest := []) (Nat.le_of_ble_eq_true rfl) ⟨Nat.le_of_ble_eq_true rfl, Nat.le_of_ble_eq_true rfl⟩ rfl dX12_product_22) (fun v3 hv3 => ?_)
        refine z_bipush hC dX12_product_25 rfl ?_
        refine z_icmp_ne (tgt := 85) hC hv3 (by decide) dX12_product_27 (by decide) (fun _ => ?_) (fun _ => ?_)
        · refine z_sub hC [0, 1] (lo' := [(0, .ref x0), (1, .int (zi x1))]) rfl ?_
          exact SM_product_B30 hC hr FU rec rr hrr hrec hreck (FM_product_L5 FU rec n) ih x0 x1 G hx1
        · refine z_iload_n hC 1 rfl dX12_product_85 rfl ?_
          exact z_iret hC hx1 hr dX12_product_86
    · refine z_iload_n hC 1 rfl dX12_product_85 rfl ?_
      exact z_iret hC hx1 hr dX12_product_86
set_option maxRecDepth 100000 in
theorem SM_product {l : Launch} {D : va_G} {aC : Nat → ClassId} (FU : Nat) (rec : Nat → Hp → Option (Int × Hp)) (rr : Room) (hrr : rr.cells = 0 ∧ rr.slots = 0) (hrec : ∀ (this : Nat), ∀ (G : Hp) (r1 : (Int × Hp)), rec this G = some r1 → Met l yX12_sum (Cond.code yX12_sum cX12_sum 4 (some .int) :: zgood) rr (va_Pc [.ref this] (zU D aC G)) (zQ D aC G (zInI r1.1) (some (.int (zi r1.1))) r1.2) 0 0 (zA G)) (hreck : ∀ (this : Nat) (G : Hp) (r1 : (Int × Hp)), rec this G = some r1 → zk G this = some (12, 0)) (this : Nat) {G : Hp} {r1 : (Int × Hp)} (h1 : FM_product FU rec this G = some r1) : Met l yX12_product (Cond.code yX12_product cX12_product 4 (some .int) :: zgood) ({ frames := rr.frames + 3, cells := 0, slots := 0, locals := rr.locals + 68 } : Room) (va_Pc [.ref this] (zU D aC G)) (zQ D aC G (zInI r1.1) (some (.int (zi r1.1))) r1.2) 0 0 (zA G) := by
  refine z_met (y := yX12_product) (b := cX12_product) (maxL := 4) (mc := 0) (ms := 0) (ret := (some .int)) (As := [.ref this]) (Q1 := fun r1 => zQ D aC G (zInI r1.1) (some (.int (zi r1.1))) r1.2) (X := FM_product FU rec this G) (by decide) (Nat.le_of_ble_eq_true rfl) ?_ h1
  intro p e s m below meth c hC hr hi
  have hC : zC p m c meth s ([.ref this] : List Value).toArray cX12_product 4 RX12 D aC := hC
  generalize ([.ref this] : List Value).toArray = args at hC ⊢
  show zS p l e ({ frames := rr.frames + 3, cells := 0, slots := 0, locals := rr.locals + 68 } : Room) s m args below meth c D aC G (zfI D aC G below args s 0 0) 4 0 0 (FM_product FU rec this G) G 0 [(0, .ref this)] []
  unfold FM_product
  refine z_gd ?_
  unfold FM_product_b
  refine z_aload_n hC 0 rfl dX12_product_0 rfl ?_
  refine z_cI (z_rV (q := this) (t := 12) (As := []) hC (fun _ h1 => SM_one FU rec rr hrr hrec hreck this h1) (fun _ h1 => SM_one_k h1) rfl rfl zM12_259 zMv_FM_one ⟨show rr.frames + 2 + 1 ≤ rr.frames + 3 by omega, show 8 + (5 + 11) + (rr.locals + 44) ≤ rr.locals + 68 by omega⟩ rfl rfl rfl (rest := []) (Nat.le_of_ble_eq_true rfl) ⟨Nat.le_of_ble_eq_true rfl, Nat.le_of_ble_eq_true rfl⟩ rfl dX12_product_1) (fun v2 G1 hv2 => ?_)
  refine z_istore_n (lo' := [(1, .int (zi v2)), (0, .ref this)]) hC dX12_product_4 rfl (by decide) rfl ?_
  refine z_sub hC [1, 0] (lo' := [(0, .ref this), (1, .int (zi v2))]) rfl ?_
  exact SM_product_L5 hC hr FU rec rr hrr hrec hreck FU this v2 G1 hv2
theorem SM_product_k {FU : Nat} {rec : Nat → Hp → Option (Int × Hp)} {this : Nat} {G : Hp} {r1 : (Int × Hp)} (h1 : FM_product FU rec this G = some r1) : zk G this = some (12, 0) := zgd_k (k := FM_product_b FU rec this G) h1

set_option maxRecDepth 100000 in
theorem SM_sum_B44 {p : Program} {l : Launch} {e : Env} {s : State} {m : MethodId} {args : Array Value} {below : List Frame} {meth : Method} {c : Code} {D : va_G} {aC : Nat → ClassId} {G0 : Hp} (hC : zC p m c meth s args cX12_sum 4 RX12 D aC) (hr : meth.sig.returnType = (some .int)) (FU : Nat) (rec : Nat → Hp → Option (Int × Hp)) (rr : Room) (hrr : rr.cells = 0 ∧ rr.slots = 0) (hrec : ∀ (this : Nat), ∀ (G : Hp) (r1 : (Int × Hp)), rec this G = some r1 → Met l yX12_sum (Cond.code yX12_sum cX12_sum 4 (some .int) :: zgood) rr (va_Pc [.ref this] (zU D aC G)) (zQ D aC G (zInI r1.1) (some (.int (zi r1.1))) r1.2) 0 0 (zA G)) (hreck : ∀ (this : Nat) (G : Hp) (r1 : (Int × Hp)), rec this G = some r1 → zk G this = some (12, 0)) (kL5 : Nat → Int → Hp → Option (Int × Hp)) (hkL5 : ∀ (a0 : Nat) (a1 : Int) (G : Hp), zInI a1 → zS p l e ({ frames := rr.frames + 4, cells := 0, slots := 0, locals := rr.locals + 91 } : Room) s m args below meth c D aC G0 (zfI D aC G0 below args s 0 0) 4 0 0 (kL5 a0 a1 G) G 5 [(0, .ref a0), (1, .int (zi a1))] []) (x0 : Nat) (x1 : Int) (y0 : Int) (G : Hp) (hx1 : zInI x1) (hy0 : zInI y0) : zS p l e ({ frames := rr.frames + 4, cells := 0, slots := 0, locals := rr.locals + 91 } : Room) s m args below meth c D aC G0 (zfI D aC G0 below args s 0 0) 4 0 0 (FM_sum_B44 FU rec kL5 x0 x1 y0 G) G 44 [(0, .ref x0), (1, .int (zi x1))] [.int (zi y0)] := by
  unfold FM_sum_B44
  refine z_istore_n (lo' := [(2, .int (zi y0)), (0, .ref x0), (1, .int (zi x1))]) hC dX12_sum_44 rfl (by decide) rfl ?_
  refine z_aload_n hC 1 rfl dX12_sum_45 rfl ?_
  refine z_dup hC rfl dX12_sum_46 ?_
  refine z_getI hC zF12_240 rfl dX12_sum_47 (fun v1 hv1 => ?_)
  refine z_iconst hC dX12_sum_50 ?_
  refine z_iadd hC dX12_sum_51 (fun v2 hv2 => ?_)
  refine z_putI hC hv2 zF12_240 rfl rfl dX12_sum_52 (fun G3 => ?_)
  refine z_aload_n hC 1 rfl dX12_sum_55 rfl ?_
  refine z_cI (z_rV (q := x0) (t := 12) (As := []) hC (fun _ h1 => SM_product FU rec rr hrr hrec hreck x0 h1) (fun _ h1 => SM_product_k h1) rfl rfl zM12_252 zMv_FM_product ⟨show rr.frames + 3 + 1 ≤ rr.frames + 4 by omega, show 8 + (4 + 11) + (rr.locals + 68) ≤ rr.locals + 91 by omega⟩ rfl rfl rfl (rest := []) (Nat.le_of_ble_eq_true rfl) ⟨Nat.le_of_ble_eq_true rfl, Nat.le_of_ble_eq_true rfl⟩ rfl dX12_sum_56) (fun v5 G4 hv5 => ?_)
  refine z_istore_n (lo' := [(3, .int (zi v5)), (2, .int (zi y0)), (0, .ref x0), (1, .int (zi x1))]) hC dX12_sum_59 rfl (by decide) rfl ?_
  refine z_iload_n hC 1 rfl dX12_sum_60 rfl ?_
  refine z_if_eq (tgt := 70) hC hy0 dX12_sum_61 (by decide) (fun _ => ?_) (fun _ => ?_)
  · refine z_iload_n hC 3 rfl dX12_sum_70 rfl ?_
    refine z_iload_n hC 0 rfl dX12_sum_71 rfl ?_
    refine z_isubw hC dX12_sum_72 (fun v6 hv6 => ?_)
    refine z_istore_n (lo' := [(1, .int (zi v6)), (3, .int (zi v5)), (2, .int (zi y0)), (0, .ref x0)]) hC dX12_sum_73 rfl (by decide) rfl ?_
    refine z_goto (tgt := 5) hC dX12_sum_74 (by decide) ?_
    refine z_sub hC [3, 0] (lo' := [(0, .ref x0), (1, .int (zi v6))]) rfl ?_
    exact hkL5 x0 v6 G4 hv6
  · refine z_iload_n hC 3 rfl dX12_sum_64 rfl ?_
    refine z_iload_n hC 0 rfl dX12_sum_65 rfl ?_
    refine z_iaddw hC dX12_sum_66 (fun v7 hv7 => ?_)
    refine z_goto (tgt := 73) hC dX12_sum_67 (by decide) ?_
    refine z_istore_n (lo' := [(1, .int (zi v7)), (3, .int (zi v5)), (2, .int (zi y0)), (0, .ref x0)]) hC dX12_sum_73 rfl (by decide) rfl ?_
    refine z_goto (tgt := 5) hC dX12_sum_74 (by decide) ?_
    refine z_sub hC [3, 0] (lo' := [(0, .ref x0), (1, .int (zi v7))]) rfl ?_
    exact hkL5 x0 v7 G4 hv7
set_option maxRecDepth 100000 in
theorem SM_sum_B30 {p : Program} {l : Launch} {e : Env} {s : State} {m : MethodId} {args : Array Value} {below : List Frame} {meth : Method} {c : Code} {D : va_G} {aC : Nat → ClassId} {G0 : Hp} (hC : zC p m c meth s args cX12_sum 4 RX12 D aC) (hr : meth.sig.returnType = (some .int)) (FU : Nat) (rec : Nat → Hp → Option (Int × Hp)) (rr : Room) (hrr : rr.cells = 0 ∧ rr.slots = 0) (hrec : ∀ (this : Nat), ∀ (G : Hp) (r1 : (Int × Hp)), rec this G = some r1 → Met l yX12_sum (Cond.code yX12_sum cX12_sum 4 (some .int) :: zgood) rr (va_Pc [.ref this] (zU D aC G)) (zQ D aC G (zInI r1.1) (some (.int (zi r1.1))) r1.2) 0 0 (zA G)) (hreck : ∀ (this : Nat) (G : Hp) (r1 : (Int × Hp)), rec this G = some r1 → zk G this = some (12, 0)) (kL5 : Nat → Int → Hp → Option (Int × Hp)) (hkL5 : ∀ (a0 : Nat) (a1 : Int) (G : Hp), zInI a1 → zS p l e ({ frames := rr.frames + 4, cells := 0, slots := 0, locals := rr.locals + 91 } : Room) s m args below meth c D aC G0 (zfI D aC G0 below args s 0 0) 4 0 0 (kL5 a0 a1 G) G 5 [(0, .ref a0), (1, .int (zi a1))] []) (x0 : Nat) (x1 : Int) (G : Hp) (hx1 : zInI x1) : zS p l e ({ frames := rr.frames + 4, cells := 0, slots := 0, locals := rr.locals + 91 } : Room) s m args below meth c D aC G0 (zfI D aC G0 below args s 0 0) 4 0 0 (FM_sum_B30 FU rec kL5 x0 x1 G) G 30 [(0, .ref x0), (1, .int (zi x1))] [] := by
  unfold FM_sum_B30
  refine z_aload_n hC 0 rfl dX12_sum_30 rfl ?_
  refine z_cIp (z_rV (q := x0) (t := 12) (As := []) hC (fun _ h1 => SM_byteAt FU x0 h1) (fun _ h1 => SM_byteAt_k h1) rfl rfl zM12_256 zMv_FM_byteAt ⟨show 1 + 1 ≤ rr.frames + 4 by omega, show 8 + (1 + 11) + 24 ≤ rr.locals + 91 by omega⟩ rfl rfl rfl (rest := []) (Nat.le_of_ble_eq_true rfl) ⟨Nat.le_of_ble_eq_true rfl, Nat.le_of_ble_eq_true rfl⟩ rfl dX12_sum_31) (fun v1 hv1 => ?_)
  refine z_bipush hC dX12_sum_34 rfl ?_
  refine z_icmp_ne (tgt := 43) hC hv1 (by decide) dX12_sum_36 (by decide) (fun _ => ?_) (fun _ => ?_)
  · refine z_iconst hC dX12_sum_39 ?_
    refine z_goto (tgt := 44) hC dX12_sum_40 (by decide) ?_
    refine z_sub hC [0, 1] (lo' := [(0, .ref x0), (1, .int (zi x1))]) rfl ?_
    exact SM_sum_B44 hC hr FU rec rr hrr hrec hreck kL5 hkL5 x0 x1 (1) G hx1 (by decide)
  · refine z_iconst hC dX12_sum_43 ?_
    refine z_sub hC [0, 1] (lo' := [(0, .ref x0), (1, .int (zi x1))]) rfl ?_
    exact SM_sum_B44 hC hr FU rec rr hrr hrec hreck kL5 hkL5 x0 x1 (0) G hx1 (by decide)
set_option maxRecDepth 100000 in
theorem SM_sum_L5 {p : Program} {l : Launch} {e : Env} {s : State} {m : MethodId} {args : Array Value} {below : List Frame} {meth : Method} {c : Code} {D : va_G} {aC : Nat → ClassId} {G0 : Hp} (hC : zC p m c meth s args cX12_sum 4 RX12 D aC) (hr : meth.sig.returnType = (some .int)) (FU : Nat) (rec : Nat → Hp → Option (Int × Hp)) (rr : Room) (hrr : rr.cells = 0 ∧ rr.slots = 0) (hrec : ∀ (this : Nat), ∀ (G : Hp) (r1 : (Int × Hp)), rec this G = some r1 → Met l yX12_sum (Cond.code yX12_sum cX12_sum 4 (some .int) :: zgood) rr (va_Pc [.ref this] (zU D aC G)) (zQ D aC G (zInI r1.1) (some (.int (zi r1.1))) r1.2) 0 0 (zA G)) (hreck : ∀ (this : Nat) (G : Hp) (r1 : (Int × Hp)), rec this G = some r1 → zk G this = some (12, 0)) : ∀ (n : Nat) (x0 : Nat) (x1 : Int) (G : Hp) (hx1 : zInI x1), zS p l e ({ frames := rr.frames + 4, cells := 0, slots := 0, locals := rr.locals + 91 } : Room) s m args below meth c D aC G0 (zfI D aC G0 below args s 0 0) 4 0 0 (FM_sum_L5 FU rec n x0 x1 G) G 5 [(0, .ref x0), (1, .int (zi x1))] [] := by
  intro n
  induction n with
  | zero => intros; exact z_none
  | succ n ih =>
    intro x0 x1 G hx1
    rw [FM_sum_L5]
    refine z_aload_n hC 0 rfl dX12_sum_5 rfl ?_
    refine z_getI hC zF12_249 rfl dX12_sum_6 (fun v1 hv1 => ?_)
    refine z_if_ge (tgt := 77) hC hv1 dX12_sum_9 (by decide) (fun _ => ?_) (fun _ => ?_)
    · refine z_aload_n hC 0 rfl dX12_sum_12 rfl ?_
      refine z_cIp (z_rV (q := x0) (t := 12) (As := []) hC (fun _ h1 => SM_byteAt FU x0 h1) (fun _ h1 => SM_byteAt_k h1) rfl rfl zM12_256 zMv_FM_byteAt ⟨show 1 + 1 ≤ rr.frames + 4 by omega, show 8 + (1 + 11) + 24 ≤ rr.locals + 91 by omega⟩ rfl rfl rfl (rest := []) (Nat.le_of_ble_eq_true rfl) ⟨Nat.le_of_ble_eq_true rfl, Nat.le_of_ble_eq_true rfl⟩ rfl dX12_sum_13) (fun v2 hv2 => ?_)
      refine z_bipush hC dX12_sum_16 rfl ?_
      refine z_icmp_eq (tgt := 30) hC hv2 (by decide) dX12_sum_18 (by decide) (fun _ => ?_) (fun _ => ?_)
      · refine z_sub hC [0, 1] (lo' := [(0, .ref x0), (1, .int (zi x1))]) rfl ?_
        exact SM_sum_B30 hC hr FU rec rr hrr hrec hreck (FM_sum_L5 FU rec n) ih x0 x1 G hx1
      · refine z_aload_n hC 0 rfl dX12_sum_21 rfl ?_
        refine z_cIp (z_rV (q := x0) (t := 12) (As := []) hC (fun _ h1 => SM_byteAt FU x0 h1) (fun _ h1 => SM_byteAt_k h1) rfl rfl zM12_256 zMv_FM_byteAt ⟨show 1 + 1 ≤ rr.frames + 4 by omega, show 8 + (1 + 11) + 24 ≤ rr.locals + 91 by omega⟩ rfl rfl rfl (rest := []) (Nat.le_of_ble_eq_true rfl) ⟨Nat.le_of_ble_eq_true rfl, Nat.le_of_ble_eq_true rfl⟩ rfl dX12_sum_22) (fun v3 hv3 => ?_)
        refine z_bipush hC dX12_sum_25 rfl ?_
        refine z_icmp_ne (tgt := 77) hC hv3 (by decide) dX12_sum_27 (by decide) (fun _ => ?_) (fun _ => ?_)
        · refine z_sub hC [0, 1] (lo' := [(0, .ref x0), (1, .int (zi x1))]) rfl ?_
          exact SM_sum_B30 hC hr FU rec rr hrr hrec hreck (FM_sum_L5 FU rec n) ih x0 x1 G hx1
        · refine z_iload_n hC 1 rfl dX12_sum_77 rfl ?_
          exact z_iret hC hx1 hr dX12_sum_78
    · refine z_iload_n hC 1 rfl dX12_sum_77 rfl ?_
      exact z_iret hC hx1 hr dX12_sum_78
set_option maxRecDepth 100000 in
theorem SM_sum {l : Launch} {D : va_G} {aC : Nat → ClassId} (FU : Nat) (rec : Nat → Hp → Option (Int × Hp)) (rr : Room) (hrr : rr.cells = 0 ∧ rr.slots = 0) (hrec : ∀ (this : Nat), ∀ (G : Hp) (r1 : (Int × Hp)), rec this G = some r1 → Met l yX12_sum (Cond.code yX12_sum cX12_sum 4 (some .int) :: zgood) rr (va_Pc [.ref this] (zU D aC G)) (zQ D aC G (zInI r1.1) (some (.int (zi r1.1))) r1.2) 0 0 (zA G)) (hreck : ∀ (this : Nat) (G : Hp) (r1 : (Int × Hp)), rec this G = some r1 → zk G this = some (12, 0)) (this : Nat) {G : Hp} {r1 : (Int × Hp)} (h1 : FM_sum FU rec this G = some r1) : Met l yX12_sum (Cond.code yX12_sum cX12_sum 4 (some .int) :: zgood) ({ frames := rr.frames + 4, cells := 0, slots := 0, locals := rr.locals + 91 } : Room) (va_Pc [.ref this] (zU D aC G)) (zQ D aC G (zInI r1.1) (some (.int (zi r1.1))) r1.2) 0 0 (zA G) := by
  refine z_met (y := yX12_sum) (b := cX12_sum) (maxL := 4) (mc := 0) (ms := 0) (ret := (some .int)) (As := [.ref this]) (Q1 := fun r1 => zQ D aC G (zInI r1.1) (some (.int (zi r1.1))) r1.2) (X := FM_sum FU rec this G) (by decide) (Nat.le_of_ble_eq_true rfl) ?_ h1
  intro p e s m below meth c hC hr hi
  have hC : zC p m c meth s ([.ref this] : List Value).toArray cX12_sum 4 RX12 D aC := hC
  generalize ([.ref this] : List Value).toArray = args at hC ⊢
  show zS p l e ({ frames := rr.frames + 4, cells := 0, slots := 0, locals := rr.locals + 91 } : Room) s m args below meth c D aC G (zfI D aC G below args s 0 0) 4 0 0 (FM_sum FU rec this G) G 0 [(0, .ref this)] []
  unfold FM_sum
  refine z_gd ?_
  unfold FM_sum_b
  refine z_aload_n hC 0 rfl dX12_sum_0 rfl ?_
  refine z_cI (z_rV (q := this) (t := 12) (As := []) hC (fun _ h1 => SM_product FU rec rr hrr hrec hreck this h1) (fun _ h1 => SM_product_k h1) rfl rfl zM12_252 zMv_FM_product ⟨show rr.frames + 3 + 1 ≤ rr.frames + 4 by omega, show 8 + (4 + 11) + (rr.locals + 68) ≤ rr.locals + 91 by omega⟩ rfl rfl rfl (rest := []) (Nat.le_of_ble_eq_true rfl) ⟨Nat.le_of_ble_eq_true rfl, Nat.le_of_ble_eq_true rfl⟩ rfl dX12_sum_1) (fun v2 G1 hv2 => ?_)
  refine z_istore_n (lo' := [(1, .int (zi v2)), (0, .ref this)]) hC dX12_sum_4 rfl (by decide) rfl ?_
  refine z_sub hC [1, 0] (lo' := [(0, .ref this), (1, .int (zi v2))]) rfl ?_
  exact SM_sum_L5 hC hr FU rec rr hrr hrec hreck FU this v2 G1 hv2
theorem SM_sum_k {FU : Nat} {rec : Nat → Hp → Option (Int × Hp)} {this : Nat} {G : Hp} {r1 : (Int × Hp)} (h1 : FM_sum FU rec this G = some r1) : zk G this = some (12, 0) := zgd_k (k := FM_sum_b FU rec this G) h1
theorem SM_sum_nk {FU d : Nat} {this : Nat} {G : Hp} {r1 : (Int × Hp)} (h1 : FM_sum_n FU d this G = some r1) : zk G this = some (12, 0) := by
  cases d with
  | zero => cases h1
  | succ d => exact SM_sum_k h1
theorem SM_sum_n {l : Launch} {D : va_G} {aC : Nat → ClassId} (FU : Nat) : ∀ (d : Nat) (this : Nat) {G : Hp} {r1 : (Int × Hp)}, FM_sum_n FU d this G = some r1 → Met l yX12_sum (Cond.code yX12_sum cX12_sum 4 (some .int) :: zgood) ({ frames := 4 * d, cells := 0, slots := 0, locals := 91 * d } : Room) (va_Pc [.ref this] (zU D aC G)) (zQ D aC G (zInI r1.1) (some (.int (zi r1.1))) r1.2) 0 0 (zA G) := by
  intro d
  induction d with
  | zero => intros; rename_i h; cases h
  | succ d ih =>
    intro this  G r1 h1
    exact SM_sum FU (FM_sum_n FU d) ({ frames := 4 * d, cells := 0, slots := 0, locals := 91 * d } : Room) ⟨rfl, rfl⟩ (fun this  _ _ h => ih this  h) (fun this _ _ h => SM_sum_nk h) this  h1

