set_option maxRecDepth 100000 in
theorem SM_settle_B140 {p : Program} {l : Launch} {e : Env} {s : State} {m : MethodId} {args : Array Value} {below : List Frame} {meth : Method} {c : Code} {D : va_G} {aC : Nat → ClassId} {G0 : Hp} (hC : zC p m c meth s args cX12_settle 6 RX12 D aC) (hr : meth.sig.returnType = none) (FU : Nat) (x0 : Nat) (x1 : Int) (x3 : Int) (G : Hp) (hx1 : zInI x1) (hx3 : zInI x3) : zS p l e ({ frames := 2, cells := 0, slots := 0, locals := 47 } : Room) s m args below meth c D aC G0 (zfV D aC G0 below args s 0 0) 6 0 0 (FM_settle_B140 FU x0 x1 x3 G) G 140 [(0, .ref x0), (1, .int (zi x1)), (3, .int (zi x3))] [] := by
  unfold FM_settle_B140
  refine z_aload_n hC 0 rfl dX12_settle_140 rfl ?_
  refine z_getQ hC zF12_106 rfl dX12_settle_141 (fun v1 => ?_)
  refine z_iload_n hC 1 rfl dX12_settle_144 rfl ?_
  refine z_dup2 hC rfl rfl dX12_settle_145 ?_
  refine z_iald hC hx1 dX12_settle_146 (fun v2 hv2 => ?_)
  refine z_iload_n hC 2 rfl dX12_settle_147 rfl ?_
  refine z_iadd hC dX12_settle_148 (fun v3 hv3 => ?_)
  refine z_iast hC hx1 hv3 dX12_settle_149 (fun G4 => ?_)
  refine z_aload_n hC 0 rfl dX12_settle_150 rfl ?_
  refine z_iload_n hC 1 rfl dX12_settle_151 rfl ?_
  refine z_cZp (z_rV (q := x0) (t := 12) (As := [.int (zi x1)]) hC (fun _ h1 => SM_runs FU x0 x1 hx1 h1) (fun _ h1 => SM_runs_k h1) rfl rfl zM12_165 zMv_FM_runs ⟨by decide, by decide⟩ rfl rfl rfl (rest := []) (Nat.le_of_ble_eq_true rfl) ⟨Nat.le_of_ble_eq_true rfl, Nat.le_of_ble_eq_true rfl⟩ rfl dX12_settle_152) (fun v5 hv5 => ?_)
  refine z_if_eq (tgt := 172) hC (hv5).i dX12_settle_155 (by decide) (fun _ => ?_) (fun _ => ?_)
  · exact z_vret hC hr dX12_settle_172
  · refine z_aload_n hC 0 rfl dX12_settle_158 rfl ?_
    refine z_iload_n hC 1 rfl dX12_settle_159 rfl ?_
    refine z_cIp (z_rV (q := x0) (t := 12) (As := [.int (zi x1)]) hC (fun _ h1 => SM_owedOf FU x0 x1 hx1 h1) (fun _ h1 => SM_owedOf_k h1) rfl rfl zM12_168 zMv_FM_owedOf ⟨by decide, by decide⟩ rfl rfl rfl (rest := []) (Nat.le_of_ble_eq_true rfl) ⟨Nat.le_of_ble_eq_true rfl, Nat.le_of_ble_eq_true rfl⟩ rfl dX12_settle_160) (fun v6 hv6 => ?_)
    refine z_if_gt (tgt := 172) hC hv6 dX12_settle_163 (by decide) (fun _ => ?_) (fun _ => ?_)
    · refine z_aload_n hC 0 rfl dX12_settle_166 rfl ?_
      refine z_iload_n hC 1 rfl dX12_settle_167 rfl ?_
      refine z_iconst hC dX12_settle_168 ?_
      refine z_cV (z_rV (q := x0) (t := 12) (As := [.int (zi x1), .int (zi (1))]) hC (fun _ h1 => SM_endNotice FU x0 x1 (1) hx1 (by decide) h1) (fun _ h1 => SM_endNotice_k h1) rfl rfl zM12_172 zMv_FM_endNotice ⟨by decide, by decide⟩ rfl rfl rfl (rest := []) (Nat.le_of_ble_eq_true rfl) ⟨Nat.le_of_ble_eq_true rfl, Nat.le_of_ble_eq_true rfl⟩ rfl dX12_settle_169) (fun G7 => ?_)
      exact z_vret hC hr dX12_settle_172
    · exact z_vret hC hr dX12_settle_172
set_option maxRecDepth 100000 in
theorem SM_settle_B104 {p : Program} {l : Launch} {e : Env} {s : State} {m : MethodId} {args : Array Value} {below : List Frame} {meth : Method} {c : Code} {D : va_G} {aC : Nat → ClassId} {G0 : Hp} (hC : zC p m c meth s args cX12_settle 6 RX12 D aC) (hr : meth.sig.returnType = none) (FU : Nat) (kL9 : Nat → Int → Int → Int → Hp → Option (Unit × Hp)) (hkL9 : ∀ (a0 : Nat) (a1 : Int) (a2 : Int) (a3 : Int) (G : Hp), zInI a1 → zInI a2 → zInI a3 → zS p l e ({ frames := 2, cells := 0, slots := 0, locals := 47 } : Room) s m args below meth c D aC G0 (zfV D aC G0 below args s 0 0) 6 0 0 (kL9 a0 a1 a2 a3 G) G 9 [(0, .ref a0), (1, .int (zi a1)), (3, .int (zi a2)), (4, .int (zi a3))] []) (x0 : Nat) (x1 : Int) (x3 : Int) (x4 : Int) (y0 : Int) (G : Hp) (hx1 : zInI x1) (hx3 : zInI x3) (hx4 : zInI x4) (hy0 : zInI y0) : zS p l e ({ frames := 2, cells := 0, slots := 0, locals := 47 } : Room) s m args below meth c D aC G0 (zfV D aC G0 below args s 0 0) 6 0 0 (FM_settle_B104 FU kL9 x0 x1 x3 x4 y0 G) G 104 [(0, .ref x0), (1, .int (zi x1)), (3, .int (zi x3)), (4, .int (zi x4))] [.int (zi y0)] := by
  unfold FM_settle_B104
  refine z_istore (lo' := [(5, .int (zi y0)), (0, .ref x0), (1, .int (zi x1)), (3, .int (zi x3)), (4, .int (zi x4))]) hC dX12_settle_104 (by decide) rfl ?_
  refine z_aload_n hC 1 rfl dX12_settle_106 rfl ?_
  refine z_getQ hC zF12_103 rfl dX12_settle_107 (fun v1 => ?_)
  refine z_iload hC 4 rfl dX12_settle_110 ?_
  refine z_dup2 hC rfl rfl dX12_settle_112 ?_
  refine z_iald hC hx4 dX12_settle_113 (fun v2 hv2 => ?_)
  refine z_iload hC 0 rfl dX12_settle_114 ?_
  refine z_iadd hC dX12_settle_116 (fun v3 hv3 => ?_)
  refine z_iast hC hx4 hv3 dX12_settle_117 (fun G4 => ?_)
  refine z_aload_n hC 1 rfl dX12_settle_118 rfl ?_
  refine z_dup hC rfl dX12_settle_119 ?_
  refine z_getI hC zF12_310 rfl dX12_settle_120 (fun v5 hv5 => ?_)
  refine z_iload hC 0 rfl dX12_settle_123 ?_
  refine z_iadd hC dX12_settle_125 (fun v6 hv6 => ?_)
  refine z_putI hC hv6 zF12_310 rfl rfl dX12_settle_126 (fun G7 => ?_)
  refine z_iload_n hC 3 rfl dX12_settle_129 rfl ?_
  refine z_iload hC 0 rfl dX12_settle_130 ?_
  refine z_isub hC dX12_settle_132 (fun v8 hv8 => ?_)
  refine z_istore_n (lo' := [(3, .int (zi v8)), (5, .int (zi y0)), (0, .ref x0), (1, .int (zi x1)), (4, .int (zi x4))]) hC dX12_settle_133 rfl (by decide) rfl ?_
  refine z_iinc (lo' := fun v9 => [(4, .int (zi v9)), (3, .int (zi v8)), (5, .int (zi y0)), (0, .ref x0), (1, .int (zi x1))]) hC 4 dX12_settle_134 rfl (by decide) (fun _ => rfl) (fun v9 hv9 => ?_)
  refine z_goto (tgt := 9) hC dX12_settle_137 (by decide) ?_
  refine z_sub hC [3, 4, 1, 0] (lo' := [(0, .ref x0), (1, .int (zi x1)), (3, .int (zi v8)), (4, .int (zi v9))]) rfl ?_
  exact hkL9 x0 x1 v8 v9 G7 hx1 hv8 hv9
set_option maxRecDepth 100000 in
theorem SM_settle_B56 {p : Program} {l : Launch} {e : Env} {s : State} {m : MethodId} {args : Array Value} {below : List Frame} {meth : Method} {c : Code} {D : va_G} {aC : Nat → ClassId} {G0 : Hp} (hC : zC p m c meth s args cX12_settle 6 RX12 D aC) (hr : meth.sig.returnType = none) (FU : Nat) (kL9 : Nat → Int → Int → Int → Hp → Option (Unit × Hp)) (hkL9 : ∀ (a0 : Nat) (a1 : Int) (a2 : Int) (a3 : Int) (G : Hp), zInI a1 → zInI a2 → zInI a3 → zS p l e ({ frames := 2, cells := 0, slots := 0, locals := 47 } : Room) s m args below meth c D aC G0 (zfV D aC G0 below args s 0 0) 6 0 0 (kL9 a0 a1 a2 a3 G) G 9 [(0, .ref a0), (1, .int (zi a1)), (3, .int (zi a2)), (4, .int (zi a3))] []) (x0 : Nat) (x1 : Int) (x3 : Int) (x4 : Int) (y0 : Int) (G : Hp) (hx1 : zInI x1) (hx3 : zInI x3) (hx4 : zInI x4) (hy0 : zInI y0) : zS p l e ({ frames := 2, cells := 0, slots := 0, locals := 47 } : Room) s m args below meth c D aC G0 (zfV D aC G0 below args s 0 0) 6 0 0 (FM_settle_B56 FU kL9 x0 x1 x3 x4 y0 G) G 56 [(0, .ref x0), (1, .int (zi x1)), (3, .int (zi x3)), (4, .int (zi x4))] [.int (zi y0)] := by
  unfold FM_settle_B56
  refine z_istore (lo' := [(5, .int (zi y0)), (0, .ref x0), (1, .int (zi x1)), (3, .int (zi x3)), (4, .int (zi x4))]) hC dX12_settle_56 (by decide) rfl ?_
  refine z_aload_n hC 1 rfl dX12_settle_58 rfl ?_
  refine z_getQ hC zF12_100 rfl dX12_settle_59 (fun v1 => ?_)
  refine z_iload hC 4 rfl dX12_settle_62 ?_
  refine z_dup2 hC rfl rfl dX12_settle_64 ?_
  refine z_iald hC hx4 dX12_settle_65 (fun v2 hv2 => ?_)
  refine z_iload hC 0 rfl dX12_settle_66 ?_
  refine z_iadd hC dX12_settle_68 (fun v3 hv3 => ?_)
  refine z_iast hC hx4 hv3 dX12_settle_69 (fun G4 => ?_)
  refine z_iload_n hC 3 rfl dX12_settle_70 rfl ?_
  refine z_iload hC 0 rfl dX12_settle_71 ?_
  refine z_isub hC dX12_settle_73 (fun v5 hv5 => ?_)
  refine z_istore_n (lo' := [(3, .int (zi v5)), (5, .int (zi y0)), (0, .ref x0), (1, .int (zi x1)), (4, .int (zi x4))]) hC dX12_settle_74 rfl (by decide) rfl ?_
  refine z_aload_n hC 2 rfl dX12_settle_75 rfl ?_
  refine z_getQ hC zF12_97 rfl dX12_settle_76 (fun v6 => ?_)
  refine z_iload hC 4 rfl dX12_settle_79 ?_
  refine z_iald hC hx4 dX12_settle_81 (fun v7 hv7 => ?_)
  refine z_aload_n hC 2 rfl dX12_settle_82 rfl ?_
  refine z_getQ hC zF12_103 rfl dX12_settle_83 (fun v8 => ?_)
  refine z_iload hC 4 rfl dX12_settle_86 ?_
  refine z_iald hC hx4 dX12_settle_88 (fun v9 hv9 => ?_)
  refine z_isub hC dX12_settle_89 (fun v10 hv10 => ?_)
  refine z_istore (lo' := [(5, .int (zi v10)), (3, .int (zi v5)), (0, .ref x0), (1, .int (zi x1)), (4, .int (zi x4))]) hC dX12_settle_90 (by decide) rfl ?_
  refine z_iload hC 0 rfl dX12_settle_92 ?_
  refine z_iload_n hC 1 rfl dX12_settle_94 rfl ?_
  refine z_icmp_ge (tgt := 103) hC hv10 hv5 dX12_settle_95 (by decide) (fun _ => ?_) (fun _ => ?_)
  · refine z_iload hC 0 rfl dX12_settle_98 ?_
    refine z_goto (tgt := 104) hC dX12_settle_100 (by decide) ?_
    refine z_sub hC [2, 3, 1, 4] (lo' := [(0, .ref x0), (1, .int (zi x1)), (3, .int (zi v5)), (4, .int (zi x4))]) rfl ?_
    exact SM_settle_B104 hC hr FU kL9 hkL9 x0 x1 v5 x4 v10 G4 hx1 hv5 hx4 hv10
  · refine z_iload_n hC 1 rfl dX12_settle_103 rfl ?_
    refine z_sub hC [2, 3, 1, 4] (lo' := [(0, .ref x0), (1, .int (zi x1)), (3, .int (zi v5)), (4, .int (zi x4))]) rfl ?_
    exact SM_settle_B104 hC hr FU kL9 hkL9 x0 x1 v5 x4 v5 G4 hx1 hv5 hx4 hv5
set_option maxRecDepth 100000 in
theorem SM_settle_L9 {p : Program} {l : Launch} {e : Env} {s : State} {m : MethodId} {args : Array Value} {below : List Frame} {meth : Method} {c : Code} {D : va_G} {aC : Nat → ClassId} {G0 : Hp} (hC : zC p m c meth s args cX12_settle 6 RX12 D aC) (hr : meth.sig.returnType = none) (FU : Nat) : ∀ (n : Nat) (x0 : Nat) (x1 : Int) (x3 : Int) (x4 : Int) (G : Hp) (hx1 : zInI x1) (hx3 : zInI x3) (hx4 : zInI x4), zS p l e ({ frames := 2, cells := 0, slots := 0, locals := 47 } : Room) s m args below meth c D aC G0 (zfV D aC G0 below args s 0 0) 6 0 0 (FM_settle_L9 FU n x0 x1 x3 x4 G) G 9 [(0, .ref x0), (1, .int (zi x1)), (3, .int (zi x3)), (4, .int (zi x4))] [] := by
  intro n
  induction n with
  | zero => intros; exact z_none
  | succ n ih =>
    intro x0 x1 x3 x4 G hx1 hx3 hx4
    rw [FM_settle_L9]
    refine z_iload hC 3 rfl dX12_settle_9 ?_
    refine z_sipush hC dX12_settle_11 rfl ?_
    refine z_iload_n hC 1 rfl dX12_settle_14 rfl ?_
    refine z_imul hC dX12_settle_15 (fun v1 hv1 => ?_)
    refine z_sipush hC dX12_settle_16 rfl ?_
    refine z_iadd hC dX12_settle_19 (fun v2 hv2 => ?_)
    refine z_icmp_ge (tgt := 140) hC hx4 hv2 dX12_settle_20 (by decide) (fun _ => ?_) (fun _ => ?_)
    · refine z_iload_n hC 2 rfl dX12_settle_23 rfl ?_
      refine z_if_le (tgt := 140) hC hx3 dX12_settle_24 (by decide) (fun _ => ?_) (fun _ => ?_)
      · refine z_sub hC [0, 1, 2] (lo' := [(0, .ref x0), (1, .int (zi x1)), (3, .int (zi x3))]) rfl ?_
        exact SM_settle_B140 hC hr FU x0 x1 x3 G hx1 hx3
      · refine z_aload_n hC 0 rfl dX12_settle_27 rfl ?_
        refine z_getQ hC zF12_94 rfl dX12_settle_28 (fun v3 => ?_)
        refine z_iload hC 3 rfl dX12_settle_31 ?_
        refine z_iald hC hx4 dX12_settle_33 (fun v4 hv4 => ?_)
        refine z_aload_n hC 0 rfl dX12_settle_34 rfl ?_
        refine z_getQ hC zF12_100 rfl dX12_settle_35 (fun v5 => ?_)
        refine z_iload hC 3 rfl dX12_settle_38 ?_
        refine z_iald hC hx4 dX12_settle_40 (fun v6 hv6 => ?_)
        refine z_isub hC dX12_settle_41 (fun v7 hv7 => ?_)
        refine z_istore (lo' := [(5, .int (zi v7)), (0, .ref x0), (1, .int (zi x1)), (3, .int (zi x3)), (4, .int (zi x4))]) hC dX12_settle_42 (by decide) rfl ?_
        refine z_iload hC 0 rfl dX12_settle_44 ?_
        refine z_iload_n hC 3 rfl dX12_settle_46 rfl ?_
        refine z_icmp_ge (tgt := 55) hC hv7 hx3 dX12_settle_47 (by decide) (fun _ => ?_) (fun _ => ?_)
        · refine z_iload hC 0 rfl dX12_settle_50 ?_
          refine z_goto (tgt := 56) hC dX12_settle_52 (by decide) ?_
          refine z_sub hC [1, 2, 3, 4] (lo' := [(0, .ref x0), (1, .int (zi x1)), (3, .int (zi x3)), (4, .int (zi x4))]) rfl ?_
          exact SM_settle_B56 hC hr FU (FM_settle_L9 FU n) ih x0 x1 x3 x4 v7 G hx1 hx3 hx4 hv7
        · refine z_iload_n hC 3 rfl dX12_settle_55 rfl ?_
          refine z_sub hC [1, 2, 3, 4] (lo' := [(0, .ref x0), (1, .int (zi x1)), (3, .int (zi x3)), (4, .int (zi x4))]) rfl ?_
          exact SM_settle_B56 hC hr FU (FM_settle_L9 FU n) ih x0 x1 x3 x4 x3 G hx1 hx3 hx4 hx3
    · refine z_sub hC [0, 1, 2] (lo' := [(0, .ref x0), (1, .int (zi x1)), (3, .int (zi x3))]) rfl ?_
      exact SM_settle_B140 hC hr FU x0 x1 x3 G hx1 hx3
set_option maxRecDepth 100000 in
theorem SM_settle {l : Launch} {D : va_G} {aC : Nat → ClassId} (FU : Nat) (this : Nat) (p1 : Int) (p2 : Int) (hp1 : zInI p1) (hp2 : zInI p2) {G : Hp} {r1 : (Unit × Hp)} (h1 : FM_settle FU this p1 p2 G = some r1) : Met l yX12_settle (Cond.code yX12_settle cX12_settle 6 none :: zgood) ({ frames := 2, cells := 0, slots := 0, locals := 47 } : Room) (va_Pc [.ref this, .int (zi p1), .int (zi p2)] (zU D aC G)) (zQ D aC G (True) (none) r1.2) 0 0 (zA G) := by
  refine z_met (y := yX12_settle) (b := cX12_settle) (maxL := 6) (mc := 0) (ms := 0) (ret := none) (As := [.ref this, .int (zi p1), .int (zi p2)]) (Q1 := fun r1 => zQ D aC G (True) (none) r1.2) (X := FM_settle FU this p1 p2 G) (by decide) (Nat.le_of_ble_eq_true rfl) ?_ h1
  intro p e s m below meth c hC hr hi
  have hC : zC p m c meth s ([.ref this, .int (zi p1), .int (zi p2)] : List Value).toArray cX12_settle 6 RX12 D aC := hC
  generalize ([.ref this, .int (zi p1), .int (zi p2)] : List Value).toArray = args at hC ⊢
  show zS p l e ({ frames := 2, cells := 0, slots := 0, locals := 47 } : Room) s m args below meth c D aC G (zfV D aC G below args s 0 0) 6 0 0 (FM_settle FU this p1 p2 G) G 0 [(0, .ref this), (1, .int (zi p1)), (2, .int (zi p2))] []
  unfold FM_settle
  refine z_gd ?_
  unfold FM_settle_b
  refine z_iload_n hC 2 rfl dX12_settle_0 rfl ?_
  refine z_istore_n (lo' := [(3, .int (zi p2)), (0, .ref this), (1, .int (zi p1)), (2, .int (zi p2))]) hC dX12_settle_1 rfl (by decide) rfl ?_
  refine z_sipush hC dX12_settle_2 rfl ?_
  refine z_iload_n hC 2 rfl dX12_settle_5 rfl ?_
  refine z_imul hC dX12_settle_6 (fun v1 hv1 => ?_)
  refine z_istore (lo' := [(4, .int (zi v1)), (3, .int (zi p2)), (0, .ref this), (1, .int (zi p1)), (2, .int (zi p2))]) hC dX12_settle_7 (by decide) rfl ?_
  refine z_sub hC [2, 3, 1, 0] (lo' := [(0, .ref this), (1, .int (zi p1)), (3, .int (zi p2)), (4, .int (zi v1))]) rfl ?_
  exact SM_settle_L9 hC hr FU FU this p1 p2 v1 G hp1 hp2 hv1
theorem SM_settle_k {FU : Nat} {this : Nat} {p1 : Int} {p2 : Int} {G : Hp} {r1 : (Unit × Hp)} (h1 : FM_settle FU this p1 p2 G = some r1) : zk G this = some (12, 0) := zgd_k (k := FM_settle_b FU this p1 p2 G) h1

set_option maxRecDepth 100000 in
theorem SM_month {l : Launch} {D : va_G} {aC : Nat → ClassId} (FU : Nat) (this : Nat) (p1 : Int) (p2 : Int) (p3 : Int) (p4 : Int) (p5 : Int) (hp1 : zInI p1) (hp2 : zInI p2) (hp3 : zInI p3) (hp4 : zInI p4) (hp5 : zInI p5) {G : Hp} {r1 : (Int × Hp)} (h1 : FM_month FU this p1 p2 p3 p4 p5 G = some r1) : Met l yX12_month (Cond.code yX12_month cX12_month 8 (some .int) :: zgood) ({ frames := 53, cells := 0, slots := 0, locals := 1216 } : Room) (va_Pc [.ref this, .int (zi p1), .int (zi p2), .int (zi p3), .int (zi p4), .int (zi p5)] (zU D aC G)) (zQ D aC G (zInI r1.1) (some (.int (zi r1.1))) r1.2) 0 0 (zA G) := by
  refine z_met (y := yX12_month) (b := cX12_month) (maxL := 8) (mc := 0) (ms := 0) (ret := (some .int)) (As := [.ref this, .int (zi p1), .int (zi p2), .int (zi p3), .int (zi p4), .int (zi p5)]) (Q1 := fun r1 => zQ D aC G (zInI r1.1) (some (.int (zi r1.1))) r1.2) (X := FM_month FU this p1 p2 p3 p4 p5 G) (by decide) (Nat.le_of_ble_eq_true rfl) ?_ h1
  intro p e s m below meth c hC hr hi
  have hC : zC p m c meth s ([.ref this, .int (zi p1), .int (zi p2), .int (zi p3), .int (zi p4), .int (zi p5)] : List Value).toArray cX12_month 8 RX12 D aC := hC
  generalize ([.ref this, .int (zi p1), .int (zi p2), .int (zi p3), .int (zi p4), .int (zi p5)] : List Value).toArray = args at hC ⊢
  show zS p l e ({ frames := 53, cells := 0, slots := 0, locals := 1216 } : Room) s m args below meth c D aC G (zfI D aC G below args s 0 0) 8 0 0 (FM_month FU this p1 p2 p3 p4 p5 G) G 0 [(0, .ref this), (1, .int (zi p1)), (2, .int (zi p2)), (3, .int (zi p3)), (4, .int (zi p4)), (5, .int (zi p5))] []
  unfold FM_month
  refine z_gd ?_
  unfold FM_month_b
  refine z_aload_n hC 0 rfl dX12_month_0 rfl ?_
  refine z_iload_n hC 1 rfl dX12_month_1 rfl ?_
  refine z_cZp (z_rV (q := this) (t := 12) (As := [.int (zi p1)]) hC (fun _ h1 => SM_isShop FU this p1 hp1 h1) (fun _ h1 => SM_isShop_k h1) rfl rfl zM12_192 zMv_FM_isShop ⟨by decide, by decide⟩ rfl rfl rfl (rest := []) (Nat.le_of_ble_eq_true rfl) ⟨Nat.le_of_ble_eq_true rfl, Nat.le_of_ble_eq_true rfl⟩ rfl dX12_month_2) (fun v1 hv1 => ?_)
  refine z_if_eq (tgt := 50) hC (hv1).i dX12_month_5 (by decide) (fun _ => ?_) (fun _ => ?_)
  · refine z_iconst hC dX12_month_50 ?_
    exact z_iret hC (by decide) hr dX12_month_51
  · refine z_iload_n hC 2 rfl dX12_month_8 rfl ?_
    refine z_cZp (z_rS (As := [.int (zi p2)]) hC (fun _ h1 => SM_isMonth FU p2 hp2 h1) zM12_293 zMs_FM_isMonth ⟨by decide, by decide⟩ rfl rfl rfl (rest := []) (Nat.le_of_ble_eq_true rfl) ⟨Nat.le_of_ble_eq_true rfl, Nat.le_of_ble_eq_true rfl⟩ rfl dX12_month_9) (fun v2 hv2 => ?_)
    refine z_if_eq (tgt := 50) hC (hv2).i dX12_month_12 (by decide) (fun _ => ?_) (fun _ => ?_)
    · refine z_iconst hC dX12_month_50 ?_
      exact z_iret hC (by decide) hr dX12_month_51
    · refine z_iload_n hC 3 rfl dX12_month_15 rfl ?_
      refine z_iconst hC dX12_month_16 ?_
      refine z_ldcw (z := 99999) hC dX12_month_17 zc12_303 ?_
      refine z_cZp (z_rS (As := [.int (zi p3), .int (zi (0)), .int (zi (99999))]) hC (fun _ h1 => SM_within FU p3 (0) (99999) hp3 (by decide) (by decide) h1) zM12_142 zMs_FM_within ⟨by decide, by decide⟩ rfl rfl rfl (rest := []) (Nat.le_of_ble_eq_true rfl) ⟨Nat.le_of_ble_eq_true rfl, Nat.le_of_ble_eq_true rfl⟩ rfl dX12_month_20) (fun v3 hv3 => ?_)
      refine z_if_eq (tgt := 50) hC (hv3).i dX12_month_23 (by decide) (fun _ => ?_) (fun _ => ?_)
      · refine z_iconst hC dX12_month_50 ?_
        exact z_iret hC (by decide) hr dX12_month_51
      · refine z_iload hC 4 rfl dX12_month_26 ?_
        refine z_iconst hC dX12_month_28 ?_
        refine z_sipush hC dX12_month_29 rfl ?_
        refine z_cZp (z_rS (As := [.int (zi p4), .int (zi (0)), .int (zi (9999))]) hC (fun _ h1 => SM_within FU p4 (0) (9999) hp4 (by decide) (by decide) h1) zM12_142 zMs_FM_within ⟨by decide, by decide⟩ rfl rfl rfl (rest := []) (Nat.le_of_ble_eq_true rfl) ⟨Nat.le_of_ble_eq_true rfl, Nat.le_of_ble_eq_true rfl⟩ rfl dX12_month_32) (fun v4 hv4 => ?_)
        refine z_if_eq (tgt := 50) hC (hv4).i dX12_month_35 (by decide) (fun _ => ?_) (fun _ => ?_)
        · refine z_iconst hC dX12_month_50 ?_
          exact z_iret hC (by decide) hr dX12_month_51
        · refine z_iload hC 5 rfl dX12_month_38 ?_
          refine z_iconst hC dX12_month_40 ?_
          refine z_sipush hC dX12_month_41 rfl ?_
          refine z_cZp (z_rS (As := [.int (zi p5), .int (zi (0)), .int (zi (9999))]) hC (fun _ h1 => SM_within FU p5 (0) (9999) hp5 (by decide) (by decide) h1) zM12_142 zMs_FM_within ⟨by decide, by decide⟩ rfl rfl rfl (rest := []) (Nat.le_of_ble_eq_true rfl) ⟨Nat.le_of_ble_eq_true rfl, Nat.le_of_ble_eq_true rfl⟩ rfl dX12_month_44) (fun v5 hv5 => ?_)
          refine z_if_ne (tgt := 52) hC (hv5).i dX12_month_47 (by decide) (fun _ => ?_) (fun _ => ?_)
          · refine z_iconst hC dX12_month_50 ?_
            exact z_iret hC (by decide) hr dX12_month_51
          · refine z_sipush hC dX12_month_52 rfl ?_
            refine z_iload_n hC 1 rfl dX12_month_55 rfl ?_
            refine z_imul hC dX12_month_56 (fun v6 hv6 => ?_)
            refine z_iload_n hC 2 rfl dX12_month_57 rfl ?_
            refine z_iadd hC dX12_month_58 (fun v7 hv7 => ?_)
            refine z_istore (lo' := [(6, .int (zi v7)), (0, .ref this), (1, .int (zi p1)), (2, .int (zi p2)), (3, .int (zi p3)), (4, .int (zi p4)), (5, .int (zi p5))]) hC dX12_month_59 (by decide) rfl ?_
            refine z_aload_n hC 1 rfl dX12_month_61 rfl ?_
            refine z_getQ hC zF12_81 rfl dX12_month_62 (fun v8 => ?_)
            refine z_iload hC 0 rfl dX12_month_65 ?_
            refine z_zald hC hv7 dX12_month_67 (fun v9 hv9 => ?_)
            refine z_if_ne (tgt := 94) hC (hv9).i dX12_month_68 (by decide) (fun _ => ?_) (fun _ => ?_)
            · refine z_aload_n hC 1 rfl dX12_month_71 rfl ?_
              refine z_getI hC zF12_162 rfl dX12_month_72 (fun v10 hv10 => ?_)
              refine z_iload_n hC 3 rfl dX12_month_75 rfl ?_
              refine z_cIp (z_rS (As := [.int (zi p2)]) hC (fun _ h1 => SM_lastOf FU p2 hp2 h1) zM12_296 zMs_FM_lastOf ⟨by decide, by decide⟩ rfl rfl rfl (rest := [.int (zi v10)]) (Nat.le_of_ble_eq_true rfl) ⟨Nat.le_of_ble_eq_true rfl, Nat.le_of_ble_eq_true rfl⟩ rfl dX12_month_76) (fun v11 hv11 => ?_)
              refine z_icmp_le (tgt := 94) hC hv10 hv11 dX12_month_79 (by decide) (fun _ => ?_) (fun _ => ?_)
              · refine z_bipush hC dX12_month_94 rfl ?_
                exact z_iret hC (by decide) hr dX12_month_96
              · refine z_aload_n hC 1 rfl dX12_month_82 rfl ?_
                refine z_iload_n hC 2 rfl dX12_month_83 rfl ?_
                refine z_iload_n hC 3 rfl dX12_month_84 rfl ?_
                refine z_cIp (z_rS (As := [.int (zi p2)]) hC (fun _ h1 => SM_lastOf FU p2 hp2 h1) zM12_296 zMs_FM_lastOf ⟨by decide, by decide⟩ rfl rfl rfl (rest := [.int (zi p1), .ref this]) (Nat.le_of_ble_eq_true rfl) ⟨Nat.le_of_ble_eq_true rfl, Nat.le_of_ble_eq_true rfl⟩ rfl dX12_month_85) (fun v12 hv12 => ?_)
                refine z_cZp (z_rV (q := this) (t := 12) (As := [.int (zi p1), .int (zi v12)]) hC (fun _ h1 => SM_wasOpen FU this p1 v12 hp1 hv12 h1) (fun _ h1 => SM_wasOpen_k h1) rfl rfl zM12_290 zMv_FM_wasOpen ⟨by decide, by decide⟩ rfl rfl rfl (rest := []) (Nat.le_of_ble_eq_true rfl) ⟨Nat.le_of_ble_eq_true rfl, Nat.le_of_ble_eq_true rfl⟩ rfl dX12_month_88) (fun v13 hv13 => ?_)
                refine z_if_ne (tgt := 97) hC (hv13).i dX12_month_91 (by decide) (fun _ => ?_) (fun _ => ?_)
                · refine z_bipush hC dX12_month_94 rfl ?_
                  exact z_iret hC (by decide) hr dX12_month_96
                · refine z_aload_n hC 1 rfl dX12_month_97 rfl ?_
                  refine z_getQ hC zF12_81 rfl dX12_month_98 (fun v14 => ?_)
                  refine z_iload hC 0 rfl dX12_month_101 ?_
                  refine z_iconst hC dX12_month_103 ?_
                  refine z_zast hC hv7 dX12_month_104 (fun G15 => ?_)
                  refine z_aload_n hC 1 rfl dX12_month_105 rfl ?_
                  refine z_getQ hC zF12_85 rfl dX12_month_106 (fun v16 => ?_)
                  refine z_iload hC 0 rfl dX12_month_109 ?_
                  refine z_iload_n hC 4 rfl dX12_month_111 rfl ?_
                  refine z_iast hC hv7 hp3 dX12_month_112 (fun G17 => ?_)
                  refine z_aload_n hC 1 rfl dX12_month_113 rfl ?_
                  refine z_getQ hC zF12_88 rfl dX12_month_114 (fun v18 => ?_)
                  refine z_iload hC 0 rfl dX12_month_117 ?_
                  refine z_iload hC 5 rfl dX12_month_119 ?_
                  refine z_iast hC hv7 hp4 dX12_month_121 (fun G19 => ?_)
                  refine z_aload_n hC 1 rfl dX12_month_122 rfl ?_
                  refine z_getQ hC zF12_91 rfl dX12_month_123 (fun v20 => ?_)
                  refine z_iload hC 0 rfl dX12_month_126 ?_
                  refine z_iload hC 6 rfl dX12_month_128 ?_
                  refine z_iast hC hv7 hp5 dX12_month_130 (fun G21 => ?_)
                  refine z_aload_n hC 1 rfl dX12_month_131 rfl ?_
                  refine z_getQ hC zF12_94 rfl dX12_month_132 (fun v22 => ?_)
                  refine z_iload hC 0 rfl dX12_month_135 ?_
                  refine z_aload_n hC 1 rfl dX12_month_137 rfl ?_
                  refine z_iconst hC dX12_month_138 ?_
                  refine z_iload_n hC 2 rfl dX12_month_139 rfl ?_
                  refine z_iload_n hC 3 rfl dX12_month_140 rfl ?_
                  refine z_cI (z_rV (q := this) (t := 12) (As := [.int (zi (0)), .int (zi p1), .int (zi p2)]) hC (fun _ h1 => SM_due FU this (0) p1 p2 (by decide) hp1 hp2 h1) (fun _ h1 => SM_due_k h1) rfl rfl zM12_304 zMv_FM_due ⟨by decide, by decide⟩ rfl rfl rfl (rest := [.int (zi v7), .ref v22]) (Nat.le_of_ble_eq_true rfl) ⟨Nat.le_of_ble_eq_true rfl, Nat.le_of_ble_eq_true rfl⟩ rfl dX12_month_141) (fun v24 G23 hv24 => ?_)
                  refine z_iast hC hv7 hv24 dX12_month_144 (fun G25 => ?_)
                  refine z_aload_n hC 1 rfl dX12_month_145 rfl ?_
                  refine z_getQ hC zF12_97 rfl dX12_month_146 (fun v26 => ?_)
                  refine z_iload hC 0 rfl dX12_month_149 ?_
                  refine z_aload_n hC 1 rfl dX12_month_151 rfl ?_
                  refine z_iconst hC dX12_month_152 ?_
                  refine z_iload_n hC 2 rfl dX12_month_153 rfl ?_
                  refine z_iload_n hC 3 rfl dX12_month_154 rfl ?_
                  refine z_cI (z_rV (q := this) (t := 12) (As := [.int (zi (1)), .int (zi p1), .int (zi p2)]) hC (fun _ h1 => SM_due FU this (1) p1 p2 (by decide) hp1 hp2 h1) (fun _ h1 => SM_due_k h1) rfl rfl zM12_304 zMv_FM_due ⟨by decide, by decide⟩ rfl rfl rfl (rest := [.int (zi v7), .ref v26]) (Nat.le_of_ble_eq_true rfl) ⟨Nat.le_of_ble_eq_true rfl, Nat.le_of_ble_eq_true rfl⟩ rfl dX12_month_155) (fun v28 G27 hv28 => ?_)
                  refine z_iast hC hv7 hv28 dX12_month_158 (fun G29 => ?_)
                  refine z_aload_n hC 1 rfl dX12_month_159 rfl ?_
                  refine z_getQ hC zF12_106 rfl dX12_month_160 (fun v30 => ?_)
                  refine z_iload_n hC 2 rfl dX12_month_163 rfl ?_
                  refine z_iald hC hp1 dX12_month_164 (fun v31 hv31 => ?_)
                  refine z_istore (lo' := [(7, .int (zi v31)), (6, .int (zi v7)), (0, .ref this), (1, .int (zi p1)), (2, .int (zi p2)), (3, .int (zi p3)), (4, .int (zi p4)), (5, .int (zi p5))]) hC dX12_month_165 (by decide) rfl ?_
                  refine z_aload_n hC 2 rfl dX12_month_167 rfl ?_
                  refine z_getQ hC zF12_106 rfl dX12_month_168 (fun v32 => ?_)
                  refine z_iload_n hC 3 rfl dX12_month_171 rfl ?_
                  refine z_iconst hC dX12_month_172 ?_
                  refine z_iast hC hp1 (by decide) dX12_month_173 (fun G33 => ?_)
                  refine z_aload_n hC 2 rfl dX12_month_174 rfl ?_
                  refine z_iload_n hC 3 rfl dX12_month_175 rfl ?_
                  refine z_iload hC 0 rfl dX12_month_176 ?_
                  refine z_cV (z_rV (q := this) (t := 12) (As := [.int (zi p1), .int (zi v31)]) hC (fun _ h1 => SM_settle FU this p1 v31 hp1 hv31 h1) (fun _ h1 => SM_settle_k h1) rfl rfl zM12_307 zMv_FM_settle ⟨by decide, by decide⟩ rfl rfl rfl (rest := []) (Nat.le_of_ble_eq_true rfl) ⟨Nat.le_of_ble_eq_true rfl, Nat.le_of_ble_eq_true rfl⟩ rfl dX12_month_178) (fun G34 => ?_)
                  refine z_aload_n hC 2 rfl dX12_month_181 rfl ?_
                  refine z_getQ hC zF12_94 rfl dX12_month_182 (fun v35 => ?_)
                  refine z_iload hC 1 rfl dX12_month_185 ?_
                  refine z_iald hC hv7 dX12_month_187 (fun v36 hv36 => ?_)
                  refine z_aload_n hC 2 rfl dX12_month_188 rfl ?_
                  refine z_getQ hC zF12_97 rfl dX12_month_189 (fun v37 => ?_)
                  refine z_iload hC 1 rfl dX12_month_192 ?_
                  refine z_iald hC hv7 dX12_month_194 (fun v38 hv38 => ?_)
                  refine z_iadd hC dX12_month_195 (fun v39 hv39 => ?_)
                  exact z_iret hC hv39 hr dX12_month_196
            · refine z_bipush hC dX12_month_94 rfl ?_
              exact z_iret hC (by decide) hr dX12_month_96
theorem SM_month_k {FU : Nat} {this : Nat} {p1 : Int} {p2 : Int} {p3 : Int} {p4 : Int} {p5 : Int} {G : Hp} {r1 : (Int × Hp)} (h1 : FM_month FU this p1 p2 p3 p4 p5 G = some r1) : zk G this = some (12, 0) := zgd_k (k := FM_month_b FU this p1 p2 p3 p4 p5 G) h1

set_option maxRecDepth 100000 in
theorem SM_isShortMonth {l : Launch} {D : va_G} {aC : Nat → ClassId} (FU : Nat) (this : Nat) (p1 : Int) (hp1 : zInI p1) {G : Hp} {r1 : Int} (h1 : FM_isShortMonth FU this p1 G = some r1) : Met l yX12_isShortMonth (Cond.code yX12_isShortMonth cX12_isShortMonth 2 (some .boolean) :: zgood) ({ frames := 1, cells := 0, slots := 0, locals := 24 } : Room) (va_Pc [.ref this, .int (zi p1)] (zU D aC G)) (zQ D aC G (zIn01 r1) (some (.int (zi r1))) G) 0 0 (zA G) := by
  refine z_met (y := yX12_isShortMonth) (b := cX12_isShortMonth) (maxL := 2) (mc := 0) (ms := 0) (ret := (some .boolean)) (As := [.ref this, .int (zi p1)]) (Q1 := fun r1 => zQ D aC G (zIn01 r1) (some (.int (zi r1))) G) (X := FM_isShortMonth FU this p1 G) (by decide) (Nat.le_of_ble_eq_true rfl) ?_ h1
  intro p e s m below meth c hC hr hi
  have hC : zC p m c meth s ([.ref this, .int (zi p1)] : List Value).toArray cX12_isShortMonth 2 RX12 D aC := hC
  generalize ([.ref this, .int (zi p1)] : List Value).toArray = args at hC ⊢
  show zS p l e ({ frames := 1, cells := 0, slots := 0, locals := 24 } : Room) s m args below meth c D aC G (fun r1 => zfZ D aC G below args s 0 0 (r1, G)) 2 0 0 (FM_isShortMonth FU this p1 G) G 0 [(0, .ref this), (1, .int (zi p1))] []
  unfold FM_isShortMonth
  refine z_gd ?_
  unfold FM_isShortMonth_b
  refine z_aload_n hC 0 rfl dX12_isShortMonth_0 rfl ?_
  refine z_getQ hC zF12_85 rfl dX12_isShortMonth_1 (fun v1 => ?_)
  refine z_iload_n hC 1 rfl dX12_isShortMonth_4 rfl ?_
  refine z_iald hC hp1 dX12_isShortMonth_5 (fun v2 hv2 => ?_)
  refine z_aload_n hC 0 rfl dX12_isShortMonth_6 rfl ?_
  refine z_getQ hC zF12_88 rfl dX12_isShortMonth_7 (fun v3 => ?_)
  refine z_iload_n hC 1 rfl dX12_isShortMonth_10 rfl ?_
  refine z_iald hC hp1 dX12_isShortMonth_11 (fun v4 hv4 => ?_)
  refine z_aload_n hC 0 rfl dX12_isShortMonth_12 rfl ?_
  refine z_getI hC zF12_23 rfl dX12_isShortMonth_13 (fun v5 hv5 => ?_)
  refine z_imul hC dX12_isShortMonth_16 (fun v6 hv6 => ?_)
  refine z_icmp_lt (tgt := 35) hC hv2 hv6 dX12_isShortMonth_17 (by decide) (fun _ => ?_) (fun _ => ?_)
  · refine z_iconst hC dX12_isShortMonth_35 ?_
    refine z_goto (tgt := 40) hC dX12_isShortMonth_36 (by decide) ?_
    exact z_zretp hC hr dX12_isShortMonth_40
  · refine z_aload_n hC 0 rfl dX12_isShortMonth_20 rfl ?_
    refine z_getQ hC zF12_85 rfl dX12_isShortMonth_21 (fun v7 => ?_)
    refine z_iload_n hC 1 rfl dX12_isShortMonth_24 rfl ?_
    refine z_iald hC hp1 dX12_isShortMonth_25 (fun v8 hv8 => ?_)
    refine z_aload_n hC 0 rfl dX12_isShortMonth_26 rfl ?_
    refine z_getQ hC zF12_91 rfl dX12_isShortMonth_27 (fun v9 => ?_)
    refine z_iload_n hC 1 rfl dX12_isShortMonth_30 rfl ?_
    refine z_iald hC hp1 dX12_isShortMonth_31 (fun v10 hv10 => ?_)
    refine z_icmp_ge (tgt := 39) hC hv8 hv10 dX12_isShortMonth_32 (by decide) (fun _ => ?_) (fun _ => ?_)
    · refine z_iconst hC dX12_isShortMonth_35 ?_
      refine z_goto (tgt := 40) hC dX12_isShortMonth_36 (by decide) ?_
      exact z_zretp hC hr dX12_isShortMonth_40
    · refine z_iconst hC dX12_isShortMonth_39 ?_
      exact z_zretp hC hr dX12_isShortMonth_40
theorem SM_isShortMonth_k {FU : Nat} {this : Nat} {p1 : Int} {G : Hp} {r1 : Int} (h1 : FM_isShortMonth FU this p1 G = some r1) : zk G this = some (12, 0) := zgd_k (k := FM_isShortMonth_b FU this p1 G) h1

set_option maxRecDepth 100000 in
theorem SM_isShort {l : Launch} {D : va_G} {aC : Nat → ClassId} (FU : Nat) (this : Nat) (p1 : Int) (p2 : Int) (hp1 : zInI p1) (hp2 : zInI p2) {G : Hp} {r1 : Int} (h1 : FM_isShort FU this p1 p2 G = some r1) : Met l yX12_isShort (Cond.code yX12_isShort cX12_isShort 3 (some .int) :: zgood) ({ frames := 3, cells := 0, slots := 0, locals := 66 } : Room) (va_Pc [.ref this, .int (zi p1), .int (zi p2)] (zU D aC G)) (zQ D aC G (zInI r1) (some (.int (zi r1))) G) 0 0 (zA G) := by
  refine z_met (y := yX12_isShort) (b := cX12_isShort) (maxL := 3) (mc := 0) (ms := 0) (ret := (some .int)) (As := [.ref this, .int (zi p1), .int (zi p2)]) (Q1 := fun r1 => zQ D aC G (zInI r1) (some (.int (zi r1))) G) (X := FM_isShort FU this p1 p2 G) (by decide) (Nat.le_of_ble_eq_true rfl) ?_ h1
  intro p e s m below meth c hC hr hi
  have hC : zC p m c meth s ([.ref this, .int (zi p1), .int (zi p2)] : List Value).toArray cX12_isShort 3 RX12 D aC := hC
  generalize ([.ref this, .int (zi p1), .int (zi p2)] : List Value).toArray = args at hC ⊢
  show zS p l e ({ frames := 3, cells := 0, slots := 0, locals := 66 } : Room) s m args below meth c D aC G (fun r1 => zfI D aC G below args s 0 0 (r1, G)) 3 0 0 (FM_isShort FU this p1 p2 G) G 0 [(0, .ref this), (1, .int (zi p1)), (2, .int (zi p2))] []
  unfold FM_isShort
  refine z_gd ?_
  unfold FM_isShort_b
  refine z_aload_n hC 0 rfl dX12_isShort_0 rfl ?_
  refine z_iload_n hC 1 rfl dX12_isShort_1 rfl ?_
  refine z_cZp (z_rV (q := this) (t := 12) (As := [.int (zi p1)]) hC (fun _ h1 => SM_isShop FU this p1 hp1 h1) (fun _ h1 => SM_isShop_k h1) rfl rfl zM12_192 zMv_FM_isShop ⟨by decide, by decide⟩ rfl rfl rfl (rest := []) (Nat.le_of_ble_eq_true rfl) ⟨Nat.le_of_ble_eq_true rfl, Nat.le_of_ble_eq_true rfl⟩ rfl dX12_isShort_2) (fun v1 hv1 => ?_)
  refine z_if_eq (tgt := 30) hC (hv1).i dX12_isShort_5 (by decide) (fun _ => ?_) (fun _ => ?_)
  · refine z_iconst hC dX12_isShort_30 ?_
    exact z_iretp hC (by decide) hr dX12_isShort_31
  · refine z_iload_n hC 2 rfl dX12_isShort_8 rfl ?_
    refine z_cZp (z_rS (As := [.int (zi p2)]) hC (fun _ h1 => SM_isMonth FU p2 hp2 h1) zM12_293 zMs_FM_isMonth ⟨by decide, by decide⟩ rfl rfl rfl (rest := []) (Nat.le_of_ble_eq_true rfl) ⟨Nat.le_of_ble_eq_true rfl, Nat.le_of_ble_eq_true rfl⟩ rfl dX12_isShort_9) (fun v2 hv2 => ?_)
    refine z_if_eq (tgt := 30) hC (hv2).i dX12_isShort_12 (by decide) (fun _ => ?_) (fun _ => ?_)
    · refine z_iconst hC dX12_isShort_30 ?_
      exact z_iretp hC (by decide) hr dX12_isShort_31
    · refine z_aload_n hC 0 rfl dX12_isShort_15 rfl ?_
      refine z_getQ hC zF12_81 rfl dX12_isShort_16 (fun v3 => ?_)
      refine z_sipush hC dX12_isShort_19 rfl ?_
      refine z_iload_n hC 1 rfl dX12_isShort_22 rfl ?_
      refine z_imul hC dX12_isShort_23 (fun v4 hv4 => ?_)
      refine z_iload_n hC 2 rfl dX12_isShort_24 rfl ?_
      refine z_iadd hC dX12_isShort_25 (fun v5 hv5 => ?_)
      refine z_zald hC hv5 dX12_isShort_26 (fun v6 hv6 => ?_)
      refine z_if_ne (tgt := 32) hC (hv6).i dX12_isShort_27 (by decide) (fun _ => ?_) (fun _ => ?_)
      · refine z_iconst hC dX12_isShort_30 ?_
        exact z_iretp hC (by decide) hr dX12_isShort_31
      · refine z_aload_n hC 0 rfl dX12_isShort_32 rfl ?_
        refine z_sipush hC dX12_isShort_33 rfl ?_
        refine z_iload_n hC 1 rfl dX12_isShort_36 rfl ?_
        refine z_imul hC dX12_isShort_37 (fun v7 hv7 => ?_)
        refine z_iload_n hC 2 rfl dX12_isShort_38 rfl ?_
        refine z_iadd hC dX12_isShort_39 (fun v8 hv8 => ?_)
        refine z_cZp (z_rV (q := this) (t := 12) (As := [.int (zi v8)]) hC (fun _ h1 => SM_isShortMonth FU this v8 hv8 h1) (fun _ h1 => SM_isShortMonth_k h1) rfl rfl zM12_313 zMv_FM_isShortMonth ⟨by decide, by decide⟩ rfl rfl rfl (rest := []) (Nat.le_of_ble_eq_true rfl) ⟨Nat.le_of_ble_eq_true rfl, Nat.le_of_ble_eq_true rfl⟩ rfl dX12_isShort_40) (fun v9 hv9 => ?_)
        refine z_if_eq (tgt := 50) hC (hv9).i dX12_isShort_43 (by decide) (fun _ => ?_) (fun _ => ?_)
        · refine z_iconst hC dX12_isShort_50 ?_
          exact z_iretp hC (by decide) hr dX12_isShort_51
        · refine z_iconst hC dX12_isShort_46 ?_
          refine z_goto (tgt := 51) hC dX12_isShort_47 (by decide) ?_
          exact z_iretp hC (by decide) hr dX12_isShort_51
theorem SM_isShort_k {FU : Nat} {this : Nat} {p1 : Int} {p2 : Int} {G : Hp} {r1 : Int} (h1 : FM_isShort FU this p1 p2 G = some r1) : zk G this = some (12, 0) := zgd_k (k := FM_isShort_b FU this p1 p2 G) h1

set_option maxRecDepth 100000 in
theorem SM_under_B86 {p : Program} {l : Launch} {e : Env} {s : State} {m : MethodId} {args : Array Value} {below : List Frame} {meth : Method} {c : Code} {D : va_G} {aC : Nat → ClassId} {G0 : Hp} (hC : zC p m c meth s args cX12_under 6 RX12 D aC) (hr : meth.sig.returnType = (some .int)) (FU : Nat) (x4 : Int) (hx4 : zInI x4) : zS p l e ({ frames := 3, cells := 0, slots := 0, locals := 66 } : Room) s m args below meth c D aC G0 (fun r1 => zfI D aC G0 below args s 0 0 (r1, G0)) 6 0 0 (FM_under_B86 FU x4 G0) G0 86 [(4, .int (zi x4))] [] := by
  unfold FM_under_B86
  refine z_iload hC 0 rfl dX12_under_86 ?_
  refine z_iconst hC dX12_under_88 ?_
  refine z_icmp_lt (tgt := 96) hC hx4 (by decide) dX12_under_89 (by decide) (fun _ => ?_) (fun _ => ?_)
  · refine z_iconst hC dX12_under_96 ?_
    exact z_iretp hC (by decide) hr dX12_under_97
  · refine z_iconst hC dX12_under_92 ?_
    refine z_goto (tgt := 97) hC dX12_under_93 (by decide) ?_
    exact z_iretp hC (by decide) hr dX12_under_97
set_option maxRecDepth 100000 in
theorem SM_under_L25 {p : Program} {l : Launch} {e : Env} {s : State} {m : MethodId} {args : Array Value} {below : List Frame} {meth : Method} {c : Code} {D : va_G} {aC : Nat → ClassId} {G0 : Hp} (hC : zC p m c meth s args cX12_under 6 RX12 D aC) (hr : meth.sig.returnType = (some .int)) (FU : Nat) : ∀ (n : Nat) (x0 : Nat) (x1 : Int) (x3 : Int) (x4 : Int) (x5 : Int) (hx1 : zInI x1) (hx3 : zInI x3) (hx4 : zInI x4) (hx5 : zInI x5), zS p l e ({ frames := 3, cells := 0, slots := 0, locals := 66 } : Room) s m args below meth c D aC G0 (fun r1 => zfI D aC G0 below args s 0 0 (r1, G0)) 6 0 0 (FM_under_L25 FU n x0 x1 x3 x4 x5 G0) G0 25 [(0, .ref x0), (1, .int (zi x1)), (3, .int (zi x3)), (4, .int (zi x4)), (5, .int (zi x5))] [] := by
  intro n
  induction n with
  | zero => intros; exact z_none
  | succ n ih =>
    intro x0 x1 x3 x4 x5 hx1 hx3 hx4 hx5
    rw [FM_under_L25]
    refine z_iload hC 4 rfl dX12_under_25 ?_
    refine z_if_lt (tgt := 86) hC hx5 dX12_under_27 (by decide) (fun _ => ?_) (fun _ => ?_)
    · refine z_sub hC [3] (lo' := [(4, .int (zi x4))]) rfl ?_
      exact SM_under_B86 hC hr FU x4 hx4
    · refine z_iload_n hC 2 rfl dX12_under_30 rfl ?_
      refine z_bipush hC dX12_under_31 rfl ?_
      refine z_icmp_ge (tgt := 86) hC hx3 (by decide) dX12_under_33 (by decide) (fun _ => ?_) (fun _ => ?_)
      · refine z_aload_n hC 0 rfl dX12_under_36 rfl ?_
        refine z_getQ hC zF12_81 rfl dX12_under_37 (fun v1 => ?_)
        refine z_sipush hC dX12_under_40 rfl ?_
        refine z_iload_n hC 1 rfl dX12_under_43 rfl ?_
        refine z_imul hC dX12_under_44 (fun v2 hv2 => ?_)
        refine z_iload hC 4 rfl dX12_under_45 ?_
        refine z_iadd hC dX12_under_47 (fun v3 hv3 => ?_)
        refine z_zald hC hv3 dX12_under_48 (fun v4 hv4 => ?_)
        refine z_if_eq (tgt := 80) hC (hv4).i dX12_under_49 (by decide) (fun _ => ?_) (fun _ => ?_)
        · refine z_iinc (lo' := fun v5 => [(5, .int (zi v5)), (0, .ref x0), (1, .int (zi x1)), (3, .int (zi x3)), (4, .int (zi x4))]) hC 4 dX12_under_80 rfl (by decide) (fun _ => rfl) (fun v5 hv5 => ?_)
          refine z_goto (tgt := 25) hC dX12_under_83 (by decide) ?_
          refine z_sub hC [1, 2, 3, 4, 0] (lo' := [(0, .ref x0), (1, .int (zi x1)), (3, .int (zi x3)), (4, .int (zi x4)), (5, .int (zi v5))]) rfl ?_
          exact ih x0 x1 x3 x4 v5 hx1 hx3 hx4 hv5
        · refine z_iinc (lo' := fun v6 => [(3, .int (zi v6)), (0, .ref x0), (1, .int (zi x1)), (4, .int (zi x4)), (5, .int (zi x5))]) hC 2 dX12_under_52 rfl (by decide) (fun _ => rfl) (fun v6 hv6 => ?_)
          refine z_iload hC 3 rfl dX12_under_55 ?_
          refine z_aload_n hC 1 rfl dX12_under_57 rfl ?_
          refine z_sipush hC dX12_under_58 rfl ?_
          refine z_iload_n hC 2 rfl dX12_under_61 rfl ?_
          refine z_imul hC dX12_under_62 (fun v7 hv7 => ?_)
          refine z_iload hC 4 rfl dX12_under_63 ?_
          refine z_iadd hC dX12_under_65 (fun v8 hv8 => ?_)
          refine z_cZp (z_rV (q := x0) (t := 12) (As := [.int (zi v8)]) hC (fun _ h1 => SM_isShortMonth FU x0 v8 hv8 h1) (fun _ h1 => SM_isShortMonth_k h1) rfl rfl zM12_313 zMv_FM_isShortMonth ⟨by decide, by decide⟩ rfl rfl rfl (rest := [.int (zi x4)]) (Nat.le_of_ble_eq_true rfl) ⟨Nat.le_of_ble_eq_true rfl, Nat.le_of_ble_eq_true rfl⟩ rfl dX12_under_66) (fun v9 hv9 => ?_)
          refine z_if_eq (tgt := 76) hC (hv9).i dX12_under_69 (by decide) (fun _ => ?_) (fun _ => ?_)
          · refine z_iconst hC dX12_under_76 ?_
            refine z_iadd hC dX12_under_77 (fun v10 hv10 => ?_)
            refine z_istore (lo' := [(4, .int (zi v10)), (3, .int (zi v6)), (0, .ref x0), (1, .int (zi x1)), (5, .int (zi x5))]) hC dX12_under_78 (by decide) rfl ?_
            refine z_iinc (lo' := fun v11 => [(5, .int (zi v11)), (4, .int (zi v10)), (3, .int (zi v6)), (0, .ref x0), (1, .int (zi x1))]) hC 4 dX12_under_80 rfl (by decide) (fun _ => rfl) (fun v11 hv11 => ?_)
            refine z_goto (tgt := 25) hC dX12_under_83 (by decide) ?_
            refine z_sub hC [3, 4, 2, 1, 0] (lo' := [(0, .ref x0), (1, .int (zi x1)), (3, .int (zi v6)), (4, .int (zi v10)), (5, .int (zi v11))]) rfl ?_
            exact ih x0 x1 v6 v10 v11 hx1 hv6 hv10 hv11
          · refine z_iconst hC dX12_under_72 ?_
            refine z_goto (tgt := 77) hC dX12_under_73 (by decide) ?_
            refine z_iadd hC dX12_under_77 (fun v12 hv12 => ?_)
            refine z_istore (lo' := [(4, .int (zi v12)), (3, .int (zi v6)), (0, .ref x0), (1, .int (zi x1)), (5, .int (zi x5))]) hC dX12_under_78 (by decide) rfl ?_
            refine z_iinc (lo' := fun v13 => [(5, .int (zi v13)), (4, .int (zi v12)), (3, .int (zi v6)), (0, .ref x0), (1, .int (zi x1))]) hC 4 dX12_under_80 rfl (by decide) (fun _ => rfl) (fun v13 hv13 => ?_)
            refine z_goto (tgt := 25) hC dX12_under_83 (by decide) ?_
            refine z_sub hC [3, 4, 2, 1, 0] (lo' := [(0, .ref x0), (1, .int (zi x1)), (3, .int (zi v6)), (4, .int (zi v12)), (5, .int (zi v13))]) rfl ?_
            exact ih x0 x1 v6 v12 v13 hx1 hv6 hv12 hv13
      · refine z_sub hC [3] (lo' := [(4, .int (zi x4))]) rfl ?_
        exact SM_under_B86 hC hr FU x4 hx4
set_option maxRecDepth 100000 in
theorem SM_under {l : Launch} {D : va_G} {aC : Nat → ClassId} (FU : Nat) (this : Nat) (p1 : Int) (p2 : Int) (hp1 : zInI p1) (hp2 : zInI p2) {G : Hp} {r1 : Int} (h1 : FM_under FU this p1 p2 G = some r1) : Met l yX12_under (Cond.code yX12_under cX12_under 6 (some .int) :: zgood) ({ frames := 3, cells := 0, slots := 0, locals := 66 } : Room) (va_Pc [.ref this, .int (zi p1), .int (zi p2)] (zU D aC G)) (zQ D aC G (zInI r1) (some (.int (zi r1))) G) 0 0 (zA G) := by
  refine z_met (y := yX12_under) (b := cX12_under) (maxL := 6) (mc := 0) (ms := 0) (ret := (some .int)) (As := [.ref this, .int (zi p1), .int (zi p2)]) (Q1 := fun r1 => zQ D aC G (zInI r1) (some (.int (zi r1))) G) (X := FM_under FU this p1 p2 G) (by decide) (Nat.le_of_ble_eq_true rfl) ?_ h1
  intro p e s m below meth c hC hr hi
  have hC : zC p m c meth s ([.ref this, .int (zi p1), .int (zi p2)] : List Value).toArray cX12_under 6 RX12 D aC := hC
  generalize ([.ref this, .int (zi p1), .int (zi p2)] : List Value).toArray = args at hC ⊢
  show zS p l e ({ frames := 3, cells := 0, slots := 0, locals := 66 } : Room) s m args below meth c D aC G (fun r1 => zfI D aC G below args s 0 0 (r1, G)) 6 0 0 (FM_under FU this p1 p2 G) G 0 [(0, .ref this), (1, .int (zi p1)), (2, .int (zi p2))] []
  unfold FM_under
  refine z_gd ?_
  unfold FM_under_b
  refine z_aload_n hC 0 rfl dX12_under_0 rfl ?_
  refine z_iload_n hC 1 rfl dX12_under_1 rfl ?_
  refine z_cZp (z_rV (q := this) (t := 12) (As := [.int (zi p1)]) hC (fun _ h1 => SM_isShop FU this p1 hp1 h1) (fun _ h1 => SM_isShop_k h1) rfl rfl zM12_192 zMv_FM_isShop ⟨by decide, by decide⟩ rfl rfl rfl (rest := []) (Nat.le_of_ble_eq_true rfl) ⟨Nat.le_of_ble_eq_true rfl, Nat.le_of_ble_eq_true rfl⟩ rfl dX12_under_2) (fun v1 hv1 => ?_)
  refine z_if_eq (tgt := 15) hC (hv1).i dX12_under_5 (by decide) (fun _ => ?_) (fun _ => ?_)
  · refine z_iconst hC dX12_under_15 ?_
    exact z_iretp hC (by decide) hr dX12_under_16
  · refine z_iload_n hC 2 rfl dX12_under_8 rfl ?_
    refine z_cZp (z_rS (As := [.int (zi p2)]) hC (fun _ h1 => SM_isMonth FU p2 hp2 h1) zM12_293 zMs_FM_isMonth ⟨by decide, by decide⟩ rfl rfl rfl (rest := []) (Nat.le_of_ble_eq_true rfl) ⟨Nat.le_of_ble_eq_true rfl, Nat.le_of_ble_eq_true rfl⟩ rfl dX12_under_9) (fun v2 hv2 => ?_)
    refine z_if_ne (tgt := 17) hC (hv2).i dX12_under_12 (by decide) (fun _ => ?_) (fun _ => ?_)
    · refine z_iconst hC dX12_under_15 ?_
      exact z_iretp hC (by decide) hr dX12_under_16
    · refine z_iconst hC dX12_under_17 ?_
      refine z_istore_n (lo' := [(3, .int (zi (0))), (0, .ref this), (1, .int (zi p1)), (2, .int (zi p2))]) hC dX12_under_18 rfl (by decide) rfl ?_
      refine z_iconst hC dX12_under_19 ?_
      refine z_istore (lo' := [(4, .int (zi (0))), (3, .int (zi (0))), (0, .ref this), (1, .int (zi p1)), (2, .int (zi p2))]) hC dX12_under_20 (by decide) rfl ?_
      refine z_iload_n hC 4 rfl dX12_under_22 rfl ?_
      refine z_istore (lo' := [(5, .int (zi p2)), (4, .int (zi (0))), (3, .int (zi (0))), (0, .ref this), (1, .int (zi p1)), (2, .int (zi p2))]) hC dX12_under_23 (by decide) rfl ?_
      refine z_sub hC [3, 4, 2, 1, 0] (lo' := [(0, .ref this), (1, .int (zi p1)), (3, .int (zi (0))), (4, .int (zi (0))), (5, .int (zi p2))]) rfl ?_
      exact SM_under_L25 hC hr FU FU this p1 (0) (0) p2 hp1 (by decide) (by decide) hp2
theorem SM_under_k {FU : Nat} {this : Nat} {p1 : Int} {p2 : Int} {G : Hp} {r1 : Int} (h1 : FM_under FU this p1 p2 G = some r1) : zk G this = some (12, 0) := zgd_k (k := FM_under_b FU this p1 p2 G) h1

set_option maxRecDepth 100000 in
theorem SM_pay {l : Launch} {D : va_G} {aC : Nat → ClassId} (FU : Nat) (this : Nat) (p1 : Int) (p2 : Int) (hp1 : zInI p1) (hp2 : zInI p2) {G : Hp} {r1 : (Int × Hp)} (h1 : FM_pay FU this p1 p2 G = some r1) : Met l yX12_pay (Cond.code yX12_pay cX12_pay 3 (some .int) :: zgood) ({ frames := 3, cells := 0, slots := 0, locals := 72 } : Room) (va_Pc [.ref this, .int (zi p1), .int (zi p2)] (zU D aC G)) (zQ D aC G (zInI r1.1) (some (.int (zi r1.1))) r1.2) 0 0 (zA G) := by
  refine z_met (y := yX12_pay) (b := cX12_pay) (maxL := 3) (mc := 0) (ms := 0) (ret := (some .int)) (As := [.ref this, .int (zi p1), .int (zi p2)]) (Q1 := fun r1 => zQ D aC G (zInI r1.1) (some (.int (zi r1.1))) r1.2) (X := FM_pay FU this p1 p2 G) (by decide) (Nat.le_of_ble_eq_true rfl) ?_ h1
  intro p e s m below meth c hC hr hi
  have hC : zC p m c meth s ([.ref this, .int (zi p1), .int (zi p2)] : List Value).toArray cX12_pay 3 RX12 D aC := hC
  generalize ([.ref this, .int (zi p1), .int (zi p2)] : List Value).toArray = args at hC ⊢
  show zS p l e ({ frames := 3, cells := 0, slots := 0, locals := 72 } : Room) s m args below meth c D aC G (zfI D aC G below args s 0 0) 3 0 0 (FM_pay FU this p1 p2 G) G 0 [(0, .ref this), (1, .int (zi p1)), (2, .int (zi p2))] []
  unfold FM_pay
  refine z_gd ?_
  unfold FM_pay_b
  refine z_aload_n hC 0 rfl dX12_pay_0 rfl ?_
  refine z_iload_n hC 1 rfl dX12_pay_1 rfl ?_
  refine z_cZp (z_rV (q := this) (t := 12) (As := [.int (zi p1)]) hC (fun _ h1 => SM_isShop FU this p1 hp1 h1) (fun _ h1 => SM_isShop_k h1) rfl rfl zM12_192 zMv_FM_isShop ⟨by decide, by decide⟩ rfl rfl rfl (rest := []) (Nat.le_of_ble_eq_true rfl) ⟨Nat.le_of_ble_eq_true rfl, Nat.le_of_ble_eq_true rfl⟩ rfl dX12_pay_2) (fun v1 hv1 => ?_)
  refine z_if_eq (tgt := 18) hC (hv1).i dX12_pay_5 (by decide) (fun _ => ?_) (fun _ => ?_)
  · refine z_ldcw (z := -2000000000) hC dX12_pay_18 zc12_316 ?_
    exact z_iret hC (by decide) hr dX12_pay_21
  · refine z_iload_n hC 2 rfl dX12_pay_8 rfl ?_
    refine z_iconst hC dX12_pay_9 ?_
    refine z_ldc (z := 1000000) hC dX12_pay_10 zc12_154 ?_
    refine z_cZp (z_rS (As := [.int (zi p2), .int (zi (1)), .int (zi (1000000))]) hC (fun _ h1 => SM_within FU p2 (1) (1000000) hp2 (by decide) (by decide) h1) zM12_142 zMs_FM_within ⟨by decide, by decide⟩ rfl rfl rfl (rest := []) (Nat.le_of_ble_eq_true rfl) ⟨Nat.le_of_ble_eq_true rfl, Nat.le_of_ble_eq_true rfl⟩ rfl dX12_pay_12) (fun v2 hv2 => ?_)
    refine z_if_ne (tgt := 22) hC (hv2).i dX12_pay_15 (by decide) (fun _ => ?_) (fun _ => ?_)
    · refine z_ldcw (z := -2000000000) hC dX12_pay_18 zc12_316 ?_
      exact z_iret hC (by decide) hr dX12_pay_21
    · refine z_aload_n hC 0 rfl dX12_pay_22 rfl ?_
      refine z_iload_n hC 1 rfl dX12_pay_23 rfl ?_
      refine z_iload_n hC 2 rfl dX12_pay_24 rfl ?_
      refine z_cV (z_rV (q := this) (t := 12) (As := [.int (zi p1), .int (zi p2)]) hC (fun _ h1 => SM_settle FU this p1 p2 hp1 hp2 h1) (fun _ h1 => SM_settle_k h1) rfl rfl zM12_307 zMv_FM_settle ⟨by decide, by decide⟩ rfl rfl rfl (rest := []) (Nat.le_of_ble_eq_true rfl) ⟨Nat.le_of_ble_eq_true rfl, Nat.le_of_ble_eq_true rfl⟩ rfl dX12_pay_25) (fun G3 => ?_)
      refine z_aload_n hC 0 rfl dX12_pay_28 rfl ?_
      refine z_iload_n hC 1 rfl dX12_pay_29 rfl ?_
      refine z_cIp (z_rV (q := this) (t := 12) (As := [.int (zi p1)]) hC (fun _ h1 => SM_owedOf FU this p1 hp1 h1) (fun _ h1 => SM_owedOf_k h1) rfl rfl zM12_168 zMv_FM_owedOf ⟨by decide, by decide⟩ rfl rfl rfl (rest := []) (Nat.le_of_ble_eq_true rfl) ⟨Nat.le_of_ble_eq_true rfl, Nat.le_of_ble_eq_true rfl⟩ rfl dX12_pay_30) (fun v4 hv4 => ?_)
      exact z_iret hC hv4 hr dX12_pay_33
theorem SM_pay_k {FU : Nat} {this : Nat} {p1 : Int} {p2 : Int} {G : Hp} {r1 : (Int × Hp)} (h1 : FM_pay FU this p1 p2 G = some r1) : zk G this = some (12, 0) := zgd_k (k := FM_pay_b FU this p1 p2 G) h1

set_option maxRecDepth 100000 in
theorem SM_owed {l : Launch} {D : va_G} {aC : Nat → ClassId} (FU : Nat) (this : Nat) (p1 : Int) (hp1 : zInI p1) {G : Hp} {r1 : Int} (h1 : FM_owed FU this p1 G = some r1) : Met l yX12_owed (Cond.code yX12_owed cX12_owed 2 (some .int) :: zgood) ({ frames := 2, cells := 0, slots := 0, locals := 47 } : Room) (va_Pc [.ref this, .int (zi p1)] (zU D aC G)) (zQ D aC G (zInI r1) (some (.int (zi r1))) G) 0 0 (zA G) := by
  refine z_met (y := yX12_owed) (b := cX12_owed) (maxL := 2) (mc := 0) (ms := 0) (ret := (some .int)) (As := [.ref this, .int (zi p1)]) (Q1 := fun r1 => zQ D aC G (zInI r1) (some (.int (zi r1))) G) (X := FM_owed FU this p1 G) (by decide) (Nat.le_of_ble_eq_true rfl) ?_ h1
  intro p e s m below meth c hC hr hi
  have hC : zC p m c meth s ([.ref this, .int (zi p1)] : List Value).toArray cX12_owed 2 RX12 D aC := hC
  generalize ([.ref this, .int (zi p1)] : List Value).toArray = args at hC ⊢
  show zS p l e ({ frames := 2, cells := 0, slots := 0, locals := 47 } : Room) s m args below meth c D aC G (fun r1 => zfI D aC G below args s 0 0 (r1, G)) 2 0 0 (FM_owed FU this p1 G) G 0 [(0, .ref this), (1, .int (zi p1))] []
  unfold FM_owed
  refine z_gd ?_
  unfold FM_owed_b
  refine z_aload_n hC 0 rfl dX12_owed_0 rfl ?_
  refine z_iload_n hC 1 rfl dX12_owed_1 rfl ?_
  refine z_cZp (z_rV (q := this) (t := 12) (As := [.int (zi p1)]) hC (fun _ h1 => SM_isShop FU this p1 hp1 h1) (fun _ h1 => SM_isShop_k h1) rfl rfl zM12_192 zMv_FM_isShop ⟨by decide, by decide⟩ rfl rfl rfl (rest := []) (Nat.le_of_ble_eq_true rfl) ⟨Nat.le_of_ble_eq_true rfl, Nat.le_of_ble_eq_true rfl⟩ rfl dX12_owed_2) (fun v1 hv1 => ?_)
  refine z_if_eq (tgt := 16) hC (hv1).i dX12_owed_5 (by decide) (fun _ => ?_) (fun _ => ?_)
  · refine z_ldcw (z := -2000000000) hC dX12_owed_16 zc12_316 ?_
    exact z_iretp hC (by decide) hr dX12_owed_19
  · refine z_aload_n hC 0 rfl dX12_owed_8 rfl ?_
    refine z_iload_n hC 1 rfl dX12_owed_9 rfl ?_
    refine z_cIp (z_rV (q := this) (t := 12) (As := [.int (zi p1)]) hC (fun _ h1 => SM_owedOf FU this p1 hp1 h1) (fun _ h1 => SM_owedOf_k h1) rfl rfl zM12_168 zMv_FM_owedOf ⟨by decide, by decide⟩ rfl rfl rfl (rest := []) (Nat.le_of_ble_eq_true rfl) ⟨Nat.le_of_ble_eq_true rfl, Nat.le_of_ble_eq_true rfl⟩ rfl dX12_owed_10) (fun v2 hv2 => ?_)
    refine z_goto (tgt := 19) hC dX12_owed_13 (by decide) ?_
    exact z_iretp hC hv2 hr dX12_owed_19
theorem SM_owed_k {FU : Nat} {this : Nat} {p1 : Int} {G : Hp} {r1 : Int} (h1 : FM_owed FU this p1 G = some r1) : zk G this = some (12, 0) := zgd_k (k := FM_owed_b FU this p1 G) h1

set_option maxRecDepth 100000 in
theorem SM_led {l : Launch} {D : va_G} {aC : Nat → ClassId} (FU : Nat) (this : Nat) (p1 : Int) (p2 : Int) (p3 : Int) (hp1 : zInI p1) (hp2 : zInI p2) (hp3 : zInI p3) {G : Hp} {r1 : Int} (h1 : FM_led FU this p1 p2 p3 G = some r1) : Met l yX12_led (Cond.code yX12_led cX12_led 5 (some .int) :: zgood) ({ frames := 3, cells := 0, slots := 0, locals := 66 } : Room) (va_Pc [.ref this, .int (zi p1), .int (zi p2), .int (zi p3)] (zU D aC G)) (zQ D aC G (zInI r1) (some (.int (zi r1))) G) 0 0 (zA G) := by
  refine z_met (y := yX12_led) (b := cX12_led) (maxL := 5) (mc := 0) (ms := 0) (ret := (some .int)) (As := [.ref this, .int (zi p1), .int (zi p2), .int (zi p3)]) (Q1 := fun r1 => zQ D aC G (zInI r1) (some (.int (zi r1))) G) (X := FM_led FU this p1 p2 p3 G) (by decide) (Nat.le_of_ble_eq_true rfl) ?_ h1
  intro p e s m below meth c hC hr hi
  have hC : zC p m c meth s ([.ref this, .int (zi p1), .int (zi p2), .int (zi p3)] : List Value).toArray cX12_led 5 RX12 D aC := hC
  generalize ([.ref this, .int (zi p1), .int (zi p2), .int (zi p3)] : List Value).toArray = args at hC ⊢
  show zS p l e ({ frames := 3, cells := 0, slots := 0, locals := 66 } : Room) s m args below meth c D aC G (fun r1 => zfI D aC G below args s 0 0 (r1, G)) 5 0 0 (FM_led FU this p1 p2 p3 G) G 0 [(0, .ref this), (1, .int (zi p1)), (2, .int (zi p2)), (3, .int (zi p3))] []
  unfold FM_led
  refine z_gd ?_
  unfold FM_led_b
  refine z_aload_n hC 0 rfl dX12_led_0 rfl ?_
  refine z_iload_n hC 1 rfl dX12_led_1 rfl ?_
  refine z_cZp (z_rV (q := this) (t := 12) (As := [.int (zi p1)]) hC (fun _ h1 => SM_isShop FU this p1 hp1 h1) (fun _ h1 => SM_isShop_k h1) rfl rfl zM12_192 zMv_FM_isShop ⟨by decide, by decide⟩ rfl rfl rfl (rest := []) (Nat.le_of_ble_eq_true rfl) ⟨Nat.le_of_ble_eq_true rfl, Nat.le_of_ble_eq_true rfl⟩ rfl dX12_led_2) (fun v1 hv1 => ?_)
  refine z_if_eq (tgt := 39) hC (hv1).i dX12_led_5 (by decide) (fun _ => ?_) (fun _ => ?_)
  · refine z_iconst hC dX12_led_39 ?_
    exact z_iretp hC (by decide) hr dX12_led_40
  · refine z_iload_n hC 2 rfl dX12_led_8 rfl ?_
    refine z_cZp (z_rS (As := [.int (zi p2)]) hC (fun _ h1 => SM_isMonth FU p2 hp2 h1) zM12_293 zMs_FM_isMonth ⟨by decide, by decide⟩ rfl rfl rfl (rest := []) (Nat.le_of_ble_eq_true rfl) ⟨Nat.le_of_ble_eq_true rfl, Nat.le_of_ble_eq_true rfl⟩ rfl dX12_led_9) (fun v2 hv2 => ?_)
    refine z_if_eq (tgt := 39) hC (hv2).i dX12_led_12 (by decide) (fun _ => ?_) (fun _ => ?_)
    · refine z_iconst hC dX12_led_39 ?_
      exact z_iretp hC (by decide) hr dX12_led_40
    · refine z_aload_n hC 0 rfl dX12_led_15 rfl ?_
      refine z_getQ hC zF12_81 rfl dX12_led_16 (fun v3 => ?_)
      refine z_sipush hC dX12_led_19 rfl ?_
      refine z_iload_n hC 1 rfl dX12_led_22 rfl ?_
      refine z_imul hC dX12_led_23 (fun v4 hv4 => ?_)
      refine z_iload_n hC 2 rfl dX12_led_24 rfl ?_
      refine z_iadd hC dX12_led_25 (fun v5 hv5 => ?_)
      refine z_zald hC hv5 dX12_led_26 (fun v6 hv6 => ?_)
      refine z_if_eq (tgt := 39) hC (hv6).i dX12_led_27 (by decide) (fun _ => ?_) (fun _ => ?_)
      · refine z_iconst hC dX12_led_39 ?_
        exact z_iretp hC (by decide) hr dX12_led_40
      · refine z_iload_n hC 3 rfl dX12_led_30 rfl ?_
        refine z_iconst hC dX12_led_31 ?_
        refine z_iconst hC dX12_led_32 ?_
        refine z_cZp (z_rS (As := [.int (zi p3), .int (zi (0)), .int (zi (3))]) hC (fun _ h1 => SM_within FU p3 (0) (3) hp3 (by decide) (by decide) h1) zM12_142 zMs_FM_within ⟨by decide, by decide⟩ rfl rfl rfl (rest := []) (Nat.le_of_ble_eq_true rfl) ⟨Nat.le_of_ble_eq_true rfl, Nat.le_of_ble_eq_true rfl⟩ rfl dX12_led_33) (fun v7 hv7 => ?_)
        refine z_if_ne (tgt := 41) hC (hv7).i dX12_led_36 (by decide) (fun _ => ?_) (fun _ => ?_)
        · refine z_iconst hC dX12_led_39 ?_
          exact z_iretp hC (by decide) hr dX12_led_40
        · refine z_sipush hC dX12_led_41 rfl ?_
          refine z_iload_n hC 1 rfl dX12_led_44 rfl ?_
          refine z_imul hC dX12_led_45 (fun v8 hv8 => ?_)
          refine z_iload_n hC 2 rfl dX12_led_46 rfl ?_
          refine z_iadd hC dX12_led_47 (fun v9 hv9 => ?_)
          refine z_istore (lo' := [(4, .int (zi v9)), (0, .ref this), (1, .int (zi p1)), (2, .int (zi p2)), (3, .int (zi p3))]) hC dX12_led_48 (by decide) rfl ?_
          refine z_iload_n hC 4 rfl dX12_led_50 rfl ?_
          refine z_if_ne (tgt := 64) hC hp3 dX12_led_51 (by decide) (fun _ => ?_) (fun _ => ?_)
          · refine z_aload_n hC 1 rfl dX12_led_54 rfl ?_
            refine z_getQ hC zF12_94 rfl dX12_led_55 (fun v10 => ?_)
            refine z_iload hC 0 rfl dX12_led_58 ?_
            refine z_iald hC hv9 dX12_led_60 (fun v11 hv11 => ?_)
            refine z_goto (tgt := 101) hC dX12_led_61 (by decide) ?_
            exact z_iretp hC hv11 hr dX12_led_101
          · refine z_iload_n hC 4 rfl dX12_led_64 rfl ?_
            refine z_iconst hC dX12_led_65 ?_
            refine z_icmp_ne (tgt := 79) hC hp3 (by decide) dX12_led_66 (by decide) (fun _ => ?_) (fun _ => ?_)
            · refine z_aload_n hC 1 rfl dX12_led_69 rfl ?_
              refine z_getQ hC zF12_97 rfl dX12_led_70 (fun v12 => ?_)
              refine z_iload hC 0 rfl dX12_led_73 ?_
              refine z_iald hC hv9 dX12_led_75 (fun v13 hv13 => ?_)
              refine z_goto (tgt := 101) hC dX12_led_76 (by decide) ?_
              exact z_iretp hC hv13 hr dX12_led_101
            · refine z_iload_n hC 4 rfl dX12_led_79 rfl ?_
              refine z_iconst hC dX12_led_80 ?_
              refine z_icmp_ne (tgt := 94) hC hp3 (by decide) dX12_led_81 (by decide) (fun _ => ?_) (fun _ => ?_)
              · refine z_aload_n hC 1 rfl dX12_led_84 rfl ?_
                refine z_getQ hC zF12_100 rfl dX12_led_85 (fun v14 => ?_)
                refine z_iload hC 0 rfl dX12_led_88 ?_
                refine z_iald hC hv9 dX12_led_90 (fun v15 hv15 => ?_)
                refine z_goto (tgt := 101) hC dX12_led_91 (by decide) ?_
                exact z_iretp hC hv15 hr dX12_led_101
              · refine z_aload_n hC 1 rfl dX12_led_94 rfl ?_
                refine z_getQ hC zF12_103 rfl dX12_led_95 (fun v16 => ?_)
                refine z_iload hC 0 rfl dX12_led_98 ?_
                refine z_iald hC hv9 dX12_led_100 (fun v17 hv17 => ?_)
                exact z_iretp hC hv17 hr dX12_led_101
theorem SM_led_k {FU : Nat} {this : Nat} {p1 : Int} {p2 : Int} {p3 : Int} {G : Hp} {r1 : Int} (h1 : FM_led FU this p1 p2 p3 G = some r1) : zk G this = some (12, 0) := zgd_k (k := FM_led_b FU this p1 p2 p3 G) h1

set_option maxRecDepth 100000 in
theorem SM_notice_B76 {p : Program} {l : Launch} {e : Env} {s : State} {m : MethodId} {args : Array Value} {below : List Frame} {meth : Method} {c : Code} {D : va_G} {aC : Nat → ClassId} {G0 : Hp} (hC : zC p m c meth s args cX12_notice 4 RX12 D aC) (hr : meth.sig.returnType = (some .int)) (FU : Nat) (x0 : Nat) (x1 : Int) (y0 : Int) (G : Hp) (hx1 : zInI x1) (hy0 : zInI y0) : zS p l e ({ frames := 52, cells := 0, slots := 0, locals := 1192 } : Room) s m args below meth c D aC G0 (zfI D aC G0 below args s 0 0) 4 0 0 (FM_notice_B76 FU x0 x1 y0 G) G 76 [(0, .ref x0), (1, .int (zi x1))] [.int (zi y0)] := by
  unfold FM_notice_B76
  refine z_istore_n (lo' := [(3, .int (zi y0)), (0, .ref x0), (1, .int (zi x1))]) hC dX12_notice_76 rfl (by decide) rfl ?_
  refine z_aload_n hC 1 rfl dX12_notice_77 rfl ?_
  refine z_getQ hC zF12_109 rfl dX12_notice_78 (fun v1 => ?_)
  refine z_iload_n hC 2 rfl dX12_notice_81 rfl ?_
  refine z_aload_n hC 1 rfl dX12_notice_82 rfl ?_
  refine z_getI hC zF12_162 rfl dX12_notice_83 (fun v2 hv2 => ?_)
  refine z_iast hC hx1 hv2 dX12_notice_86 (fun G3 => ?_)
  refine z_aload_n hC 1 rfl dX12_notice_87 rfl ?_
  refine z_getQ hC zF12_112 rfl dX12_notice_88 (fun v4 => ?_)
  refine z_iload_n hC 2 rfl dX12_notice_91 rfl ?_
  refine z_aload_n hC 1 rfl dX12_notice_92 rfl ?_
  refine z_getI hC zF12_162 rfl dX12_notice_93 (fun v5 hv5 => ?_)
  refine z_iload_n hC 0 rfl dX12_notice_96 rfl ?_
  refine z_iadd hC dX12_notice_97 (fun v6 hv6 => ?_)
  refine z_iast hC hx1 hv6 dX12_notice_98 (fun G7 => ?_)
  refine z_aload_n hC 1 rfl dX12_notice_99 rfl ?_
  refine z_getQ hC zF12_115 rfl dX12_notice_100 (fun v8 => ?_)
  refine z_iload_n hC 2 rfl dX12_notice_103 rfl ?_
  refine z_iconst hC dX12_notice_104 ?_
  refine z_iast hC hx1 (by decide) dX12_notice_105 (fun G9 => ?_)
  refine z_aload_n hC 1 rfl dX12_notice_106 rfl ?_
  refine z_getQ hC zF12_118 rfl dX12_notice_107 (fun v10 => ?_)
  refine z_iload_n hC 2 rfl dX12_notice_110 rfl ?_
  refine z_iconst hC dX12_notice_111 ?_
  refine z_iast hC hx1 (by decide) dX12_notice_112 (fun G11 => ?_)
  refine z_aload_n hC 1 rfl dX12_notice_113 rfl ?_
  refine z_getQ hC zF12_112 rfl dX12_notice_114 (fun v12 => ?_)
  refine z_iload_n hC 2 rfl dX12_notice_117 rfl ?_
  refine z_iald hC hx1 dX12_notice_118 (fun v13 hv13 => ?_)
  exact z_iret hC hv13 hr dX12_notice_119
set_option maxRecDepth 100000 in
theorem SM_notice {l : Launch} {D : va_G} {aC : Nat → ClassId} (FU : Nat) (this : Nat) (p1 : Int) (hp1 : zInI p1) {G : Hp} {r1 : (Int × Hp)} (h1 : FM_notice FU this p1 G = some r1) : Met l yX12_notice (Cond.code yX12_notice cX12_notice 4 (some .int) :: zgood) ({ frames := 52, cells := 0, slots := 0, locals := 1192 } : Room) (va_Pc [.ref this, .int (zi p1)] (zU D aC G)) (zQ D aC G (zInI r1.1) (some (.int (zi r1.1))) r1.2) 0 0 (zA G) := by
  refine z_met (y := yX12_notice) (b := cX12_notice) (maxL := 4) (mc := 0) (ms := 0) (ret := (some .int)) (As := [.ref this, .int (zi p1)]) (Q1 := fun r1 => zQ D aC G (zInI r1.1) (some (.int (zi r1.1))) r1.2) (X := FM_notice FU this p1 G) (by decide) (Nat.le_of_ble_eq_true rfl) ?_ h1
  intro p e s m below meth c hC hr hi
  have hC : zC p m c meth s ([.ref this, .int (zi p1)] : List Value).toArray cX12_notice 4 RX12 D aC := hC
  generalize ([.ref this, .int (zi p1)] : List Value).toArray = args at hC ⊢
  show zS p l e ({ frames := 52, cells := 0, slots := 0, locals := 1192 } : Room) s m args below meth c D aC G (zfI D aC G below args s 0 0) 4 0 0 (FM_notice FU this p1 G) G 0 [(0, .ref this), (1, .int (zi p1))] []
  unfold FM_notice
  refine z_gd ?_
  unfold FM_notice_b
  refine z_aload_n hC 0 rfl dX12_notice_0 rfl ?_
  refine z_iload_n hC 1 rfl dX12_notice_1 rfl ?_
  refine z_cZp (z_rV (q := this) (t := 12) (As := [.int (zi p1)]) hC (fun _ h1 => SM_isShop FU this p1 hp1 h1) (fun _ h1 => SM_isShop_k h1) rfl rfl zM12_192 zMv_FM_isShop ⟨by decide, by decide⟩ rfl rfl rfl (rest := []) (Nat.le_of_ble_eq_true rfl) ⟨Nat.le_of_ble_eq_true rfl, Nat.le_of_ble_eq_true rfl⟩ rfl dX12_notice_2) (fun v1 hv1 => ?_)
  refine z_if_ne (tgt := 10) hC (hv1).i dX12_notice_5 (by decide) (fun _ => ?_) (fun _ => ?_)
  · refine z_iconst hC dX12_notice_8 ?_
    exact z_iret hC (by decide) hr dX12_notice_9
  · refine z_aload_n hC 0 rfl dX12_notice_10 rfl ?_
    refine z_iload_n hC 1 rfl dX12_notice_11 rfl ?_
    refine z_cIp (z_rV (q := this) (t := 12) (As := [.int (zi p1)]) hC (fun _ h1 => SM_owedOf FU this p1 hp1 h1) (fun _ h1 => SM_owedOf_k h1) rfl rfl zM12_168 zMv_FM_owedOf ⟨by decide, by decide⟩ rfl rfl rfl (rest := []) (Nat.le_of_ble_eq_true rfl) ⟨Nat.le_of_ble_eq_true rfl, Nat.le_of_ble_eq_true rfl⟩ rfl dX12_notice_12) (fun v2 hv2 => ?_)
    refine z_if_le (tgt := 34) hC hv2 dX12_notice_15 (by decide) (fun _ => ?_) (fun _ => ?_)
    · refine z_bipush hC dX12_notice_34 rfl ?_
      exact z_iret hC (by decide) hr dX12_notice_36
    · refine z_aload_n hC 0 rfl dX12_notice_18 rfl ?_
      refine z_iload_n hC 1 rfl dX12_notice_19 rfl ?_
      refine z_cZp (z_rV (q := this) (t := 12) (As := [.int (zi p1)]) hC (fun _ h1 => SM_runs FU this p1 hp1 h1) (fun _ h1 => SM_runs_k h1) rfl rfl zM12_165 zMv_FM_runs ⟨by decide, by decide⟩ rfl rfl rfl (rest := []) (Nat.le_of_ble_eq_true rfl) ⟨Nat.le_of_ble_eq_true rfl, Nat.le_of_ble_eq_true rfl⟩ rfl dX12_notice_20) (fun v3 hv3 => ?_)
      refine z_if_ne (tgt := 34) hC (hv3).i dX12_notice_23 (by decide) (fun _ => ?_) (fun _ => ?_)
      · refine z_aload_n hC 0 rfl dX12_notice_26 rfl ?_
        refine z_iload_n hC 1 rfl dX12_notice_27 rfl ?_
        refine z_cZp (z_rV (q := this) (t := 12) (As := [.int (zi p1)]) hC (fun _ h1 => SM_isOpen FU this p1 hp1 h1) (fun _ h1 => SM_isOpen_k h1) rfl rfl zM12_176 zMv_FM_isOpen ⟨by decide, by decide⟩ rfl rfl rfl (rest := []) (Nat.le_of_ble_eq_true rfl) ⟨Nat.le_of_ble_eq_true rfl, Nat.le_of_ble_eq_true rfl⟩ rfl dX12_notice_28) (fun v4 hv4 => ?_)
        refine z_if_ne (tgt := 37) hC (hv4).i dX12_notice_31 (by decide) (fun _ => ?_) (fun _ => ?_)
        · refine z_bipush hC dX12_notice_34 rfl ?_
          exact z_iret hC (by decide) hr dX12_notice_36
        · refine z_aload_n hC 0 rfl dX12_notice_37 rfl ?_
          refine z_iconst hC dX12_notice_38 ?_
          refine z_aload_n hC 0 rfl dX12_notice_39 rfl ?_
          refine z_getI hC zF12_162 rfl dX12_notice_40 (fun v5 hv5 => ?_)
          refine z_aload_n hC 0 rfl dX12_notice_43 rfl ?_
          refine z_getI hC zF12_162 rfl dX12_notice_44 (fun v6 hv6 => ?_)
          refine z_cIp (z_rV (q := this) (t := 12) (As := [.int (zi (2)), .int (zi v5), .int (zi v6)]) hC (fun _ h1 => SM_force FU this (2) v5 v6 (by decide) hv5 hv6 h1) (fun _ h1 => SM_force_k h1) rfl rfl zM12_286 zMv_FM_force ⟨by decide, by decide⟩ rfl rfl rfl (rest := []) (Nat.le_of_ble_eq_true rfl) ⟨Nat.le_of_ble_eq_true rfl, Nat.le_of_ble_eq_true rfl⟩ rfl dX12_notice_47) (fun v7 hv7 => ?_)
          refine z_istore_n (lo' := [(2, .int (zi v7)), (0, .ref this), (1, .int (zi p1))]) hC dX12_notice_50 rfl (by decide) rfl ?_
          refine z_iload_n hC 0 rfl dX12_notice_51 rfl ?_
          refine z_if_ge (tgt := 59) hC hv7 dX12_notice_52 (by decide) (fun _ => ?_) (fun _ => ?_)
          · refine z_iconst hC dX12_notice_55 ?_
            refine z_goto (tgt := 76) hC dX12_notice_56 (by decide) ?_
            refine z_sub hC [1, 2] (lo' := [(0, .ref this), (1, .int (zi p1))]) rfl ?_
            exact SM_notice_B76 hC hr FU this p1 (0) G hp1 (by decide)
          · refine z_aload_n hC 1 rfl dX12_notice_59 rfl ?_
            refine z_iload_n hC 0 rfl dX12_notice_60 rfl ?_
            refine z_iload_n hC 2 rfl dX12_notice_61 rfl ?_
            refine z_aload_n hC 1 rfl dX12_notice_62 rfl ?_
            refine z_getI hC zF12_162 rfl dX12_notice_63 (fun v8 hv8 => ?_)
            refine z_bipush hC dX12_notice_66 rfl ?_
            refine z_idiv hC hv8 (by decide) dX12_notice_68 (fun v9 hv9 => ?_)
            refine z_aload_n hC 1 rfl dX12_notice_69 rfl ?_
            refine z_getI hC zF12_162 rfl dX12_notice_70 (fun v10 hv10 => ?_)
            refine z_cI (z_rV (q := this) (t := 12) (As := [.int (zi v7), .int (zi p1), .int (zi v9), .int (zi v10)]) hC (fun _ h1 => SM_given FU this v7 p1 v9 v10 hv7 hp1 hv9 hv10 h1) (fun _ h1 => SM_given_k h1) rfl rfl zM12_299 zMv_FM_given ⟨by decide, by decide⟩ rfl rfl rfl (rest := []) (Nat.le_of_ble_eq_true rfl) ⟨Nat.le_of_ble_eq_true rfl, Nat.le_of_ble_eq_true rfl⟩ rfl dX12_notice_73) (fun v12 G11 hv12 => ?_)
            refine z_sub hC [1, 2] (lo' := [(0, .ref this), (1, .int (zi p1))]) rfl ?_
            exact SM_notice_B76 hC hr FU this p1 v12 G11 hp1 hv12
      · refine z_bipush hC dX12_notice_34 rfl ?_
        exact z_iret hC (by decide) hr dX12_notice_36
theorem SM_notice_k {FU : Nat} {this : Nat} {p1 : Int} {G : Hp} {r1 : (Int × Hp)} (h1 : FM_notice FU this p1 G = some r1) : zk G this = some (12, 0) := zgd_k (k := FM_notice_b FU this p1 G) h1

set_option maxRecDepth 100000 in
theorem SM_ofNotice {l : Launch} {D : va_G} {aC : Nat → ClassId} (FU : Nat) (this : Nat) (p1 : Int) (p2 : Int) (hp1 : zInI p1) (hp2 : zInI p2) {G : Hp} {r1 : Int} (h1 : FM_ofNotice FU this p1 p2 G = some r1) : Met l yX12_ofNotice (Cond.code yX12_ofNotice cX12_ofNotice 3 (some .int) :: zgood) ({ frames := 2, cells := 0, slots := 0, locals := 45 } : Room) (va_Pc [.ref this, .int (zi p1), .int (zi p2)] (zU D aC G)) (zQ D aC G (zInI r1) (some (.int (zi r1))) G) 0 0 (zA G) := by
  refine z_met (y := yX12_ofNotice) (b := cX12_ofNotice) (maxL := 3) (mc := 0) (ms := 0) (ret := (some .int)) (As := [.ref this, .int (zi p1), .int (zi p2)]) (Q1 := fun r1 => zQ D aC G (zInI r1) (some (.int (zi r1))) G) (X := FM_ofNotice FU this p1 p2 G) (by decide) (Nat.le_of_ble_eq_true rfl) ?_ h1
  intro p e s m below meth c hC hr hi
  have hC : zC p m c meth s ([.ref this, .int (zi p1), .int (zi p2)] : List Value).toArray cX12_ofNotice 3 RX12 D aC := hC
  generalize ([.ref this, .int (zi p1), .int (zi p2)] : List Value).toArray = args at hC ⊢
  show zS p l e ({ frames := 2, cells := 0, slots := 0, locals := 45 } : Room) s m args below meth c D aC G (fun r1 => zfI D aC G below args s 0 0 (r1, G)) 3 0 0 (FM_ofNotice FU this p1 p2 G) G 0 [(0, .ref this), (1, .int (zi p1)), (2, .int (zi p2))] []
  unfold FM_ofNotice
  refine z_gd ?_
  unfold FM_ofNotice_b
  refine z_aload_n hC 0 rfl dX12_ofNotice_0 rfl ?_
  refine z_iload_n hC 1 rfl dX12_ofNotice_1 rfl ?_
  refine z_cZp (z_rV (q := this) (t := 12) (As := [.int (zi p1)]) hC (fun _ h1 => SM_isShop FU this p1 hp1 h1) (fun _ h1 => SM_isShop_k h1) rfl rfl zM12_192 zMv_FM_isShop ⟨by decide, by decide⟩ rfl rfl rfl (rest := []) (Nat.le_of_ble_eq_true rfl) ⟨Nat.le_of_ble_eq_true rfl, Nat.le_of_ble_eq_true rfl⟩ rfl dX12_ofNotice_2) (fun v1 hv1 => ?_)
  refine z_if_eq (tgt := 17) hC (hv1).i dX12_ofNotice_5 (by decide) (fun _ => ?_) (fun _ => ?_)
  · refine z_iconst hC dX12_ofNotice_17 ?_
    exact z_iretp hC (by decide) hr dX12_ofNotice_18
  · refine z_aload_n hC 0 rfl dX12_ofNotice_8 rfl ?_
    refine z_getQ hC zF12_109 rfl dX12_ofNotice_9 (fun v2 => ?_)
    refine z_iload_n hC 1 rfl dX12_ofNotice_12 rfl ?_
    refine z_iald hC hp1 dX12_ofNotice_13 (fun v3 hv3 => ?_)
    refine z_if_ge (tgt := 19) hC hv3 dX12_ofNotice_14 (by decide) (fun _ => ?_) (fun _ => ?_)
    · refine z_iconst hC dX12_ofNotice_17 ?_
      exact z_iretp hC (by decide) hr dX12_ofNotice_18
    · refine z_iload_n hC 2 rfl dX12_ofNotice_19 rfl ?_
      refine z_tabIf (tgt := 52) hC hp2 dX12_ofNotice_20 0 ⟨by decide, by decide⟩ rfl (by decide) (fun _ => ?_) (fun hsw0 => ?_)
      · refine z_aload_n hC 0 rfl dX12_ofNotice_52 rfl ?_
        refine z_getQ hC zF12_109 rfl dX12_ofNotice_53 (fun v4 => ?_)
        refine z_iload_n hC 1 rfl dX12_ofNotice_56 rfl ?_
        refine z_iald hC hp1 dX12_ofNotice_57 (fun v5 hv5 => ?_)
        exact z_iretp hC hv5 hr dX12_ofNotice_58
      refine z_tabIf (tgt := 59) hC hp2 dX12_ofNotice_20 1 ⟨by decide, by decide⟩ rfl (by decide) (fun _ => ?_) (fun hsw1 => ?_)
      · refine z_aload_n hC 0 rfl dX12_ofNotice_59 rfl ?_
        refine z_getQ hC zF12_112 rfl dX12_ofNotice_60 (fun v6 => ?_)
        refine z_iload_n hC 1 rfl dX12_ofNotice_63 rfl ?_
        refine z_iald hC hp1 dX12_ofNotice_64 (fun v7 hv7 => ?_)
        exact z_iretp hC hv7 hr dX12_ofNotice_65
      refine z_tabIf (tgt := 66) hC hp2 dX12_ofNotice_20 2 ⟨by decide, by decide⟩ rfl (by decide) (fun _ => ?_) (fun hsw2 => ?_)
      · refine z_aload_n hC 0 rfl dX12_ofNotice_66 rfl ?_
        refine z_getQ hC zF12_115 rfl dX12_ofNotice_67 (fun v8 => ?_)
        refine z_iload_n hC 1 rfl dX12_ofNotice_70 rfl ?_
        refine z_iald hC hp1 dX12_ofNotice_71 (fun v9 hv9 => ?_)
        exact z_iretp hC hv9 hr dX12_ofNotice_72
      refine z_tabIf (tgt := 73) hC hp2 dX12_ofNotice_20 3 ⟨by decide, by decide⟩ rfl (by decide) (fun _ => ?_) (fun hsw3 => ?_)
      · refine z_aload_n hC 0 rfl dX12_ofNotice_73 rfl ?_
        refine z_getQ hC zF12_118 rfl dX12_ofNotice_74 (fun v10 => ?_)
        refine z_iload_n hC 1 rfl dX12_ofNotice_77 rfl ?_
        refine z_iald hC hp1 dX12_ofNotice_78 (fun v11 hv11 => ?_)
        exact z_iretp hC hv11 hr dX12_ofNotice_79
      refine z_tabDef (tgt := 80) hC hp2 dX12_ofNotice_20 (by omega) (by decide) ?_
      refine z_iconst hC dX12_ofNotice_80 ?_
      exact z_iretp hC (by decide) hr dX12_ofNotice_81
theorem SM_ofNotice_k {FU : Nat} {this : Nat} {p1 : Int} {p2 : Int} {G : Hp} {r1 : Int} (h1 : FM_ofNotice FU this p1 p2 G = some r1) : zk G this = some (12, 0) := zgd_k (k := FM_ofNotice_b FU this p1 p2 G) h1

set_option maxRecDepth 100000 in
theorem SM_gain {l : Launch} {D : va_G} {aC : Nat → ClassId} (FU : Nat) (this : Nat) (p1 : Int) (p2 : Int) (hp1 : zInI p1) (hp2 : zInI p2) {G : Hp} {r1 : (Int × Hp)} (h1 : FM_gain FU this p1 p2 G = some r1) : Met l yX12_gain (Cond.code yX12_gain cX12_gain 4 (some .int) :: zgood) ({ frames := 2, cells := 0, slots := 0, locals := 46 } : Room) (va_Pc [.ref this, .int (zi p1), .int (zi p2)] (zU D aC G)) (zQ D aC G (zInI r1.1) (some (.int (zi r1.1))) r1.2) 0 0 (zA G) := by
  refine z_met (y := yX12_gain) (b := cX12_gain) (maxL := 4) (mc := 0) (ms := 0) (ret := (some .int)) (As := [.ref this, .int (zi p1), .int (zi p2)]) (Q1 := fun r1 => zQ D aC G (zInI r1.1) (some (.int (zi r1.1))) r1.2) (X := FM_gain FU this p1 p2 G) (by decide) (Nat.le_of_ble_eq_true rfl) ?_ h1
  intro p e s m below meth c hC hr hi
  have hC : zC p m c meth s ([.ref this, .int (zi p1), .int (zi p2)] : List Value).toArray cX12_gain 4 RX12 D aC := hC
  generalize ([.ref this, .int (zi p1), .int (zi p2)] : List Value).toArray = args at hC ⊢
  show zS p l e ({ frames := 2, cells := 0, slots := 0, locals := 46 } : Room) s m args below meth c D aC G (zfI D aC G below args s 0 0) 4 0 0 (FM_gain FU this p1 p2 G) G 0 [(0, .ref this), (1, .int (zi p1)), (2, .int (zi p2))] []
  unfold FM_gain
  refine z_gd ?_
  unfold FM_gain_b
  refine z_aload_n hC 0 rfl dX12_gain_0 rfl ?_
  refine z_iload_n hC 1 rfl dX12_gain_1 rfl ?_
  refine z_cZp (z_rV (q := this) (t := 12) (As := [.int (zi p1)]) hC (fun _ h1 => SM_isShop FU this p1 hp1 h1) (fun _ h1 => SM_isShop_k h1) rfl rfl zM12_192 zMv_FM_isShop ⟨by decide, by decide⟩ rfl rfl rfl (rest := []) (Nat.le_of_ble_eq_true rfl) ⟨Nat.le_of_ble_eq_true rfl, Nat.le_of_ble_eq_true rfl⟩ rfl dX12_gain_2) (fun v1 hv1 => ?_)
  refine z_if_eq (tgt := 19) hC (hv1).i dX12_gain_5 (by decide) (fun _ => ?_) (fun _ => ?_)
  · refine z_iconst hC dX12_gain_19 ?_
    exact z_iret hC (by decide) hr dX12_gain_20
  · refine z_iload_n hC 2 rfl dX12_gain_8 rfl ?_
    refine z_iconst hC dX12_gain_9 ?_
    refine z_sipush hC dX12_gain_10 rfl ?_
    refine z_cZp (z_rS (As := [.int (zi p2), .int (zi (0)), .int (zi (999))]) hC (fun _ h1 => SM_within FU p2 (0) (999) hp2 (by decide) (by decide) h1) zM12_142 zMs_FM_within ⟨by decide, by decide⟩ rfl rfl rfl (rest := []) (Nat.le_of_ble_eq_true rfl) ⟨Nat.le_of_ble_eq_true rfl, Nat.le_of_ble_eq_true rfl⟩ rfl dX12_gain_13) (fun v2 hv2 => ?_)
    refine z_if_ne (tgt := 21) hC (hv2).i dX12_gain_16 (by decide) (fun _ => ?_) (fun _ => ?_)
    · refine z_iconst hC dX12_gain_19 ?_
      exact z_iret hC (by decide) hr dX12_gain_20
    · refine z_aload_n hC 0 rfl dX12_gain_21 rfl ?_
      refine z_getQ hC zF12_121 rfl dX12_gain_22 (fun v3 => ?_)
      refine z_iload_n hC 1 rfl dX12_gain_25 rfl ?_
      refine z_iald hC hp1 dX12_gain_26 (fun v4 hv4 => ?_)
      refine z_istore_n (lo' := [(3, .int (zi v4)), (0, .ref this), (1, .int (zi p1)), (2, .int (zi p2))]) hC dX12_gain_27 rfl (by decide) rfl ?_
      refine z_aload_n hC 1 rfl dX12_gain_28 rfl ?_
      refine z_getQ hC zF12_121 rfl dX12_gain_29 (fun v5 => ?_)
      refine z_iload_n hC 2 rfl dX12_gain_32 rfl ?_
      refine z_iload_n hC 3 rfl dX12_gain_33 rfl ?_
      refine z_iast hC hp1 hp2 dX12_gain_34 (fun G6 => ?_)
      refine z_iload_n hC 0 rfl dX12_gain_35 rfl ?_
      exact z_iret hC hv4 hr dX12_gain_36
theorem SM_gain_k {FU : Nat} {this : Nat} {p1 : Int} {p2 : Int} {G : Hp} {r1 : (Int × Hp)} (h1 : FM_gain FU this p1 p2 G = some r1) : zk G this = some (12, 0) := zgd_k (k := FM_gain_b FU this p1 p2 G) h1

set_option maxRecDepth 100000 in
theorem SM_restOf {l : Launch} {D : va_G} {aC : Nat → ClassId} (FU : Nat) (this : Nat) (p1 : Int) (p2 : Int) (p3 : Int) (hp1 : zInI p1) (hp2 : zInI p2) (hp3 : zInL p3) {G : Hp} {r1 : Int} (h1 : FM_restOf FU this p1 p2 p3 G = some r1) : Met l yX12_restOf (Cond.code yX12_restOf cX12_restOf 5 (some .long) :: zgood) ({ frames := 1, cells := 0, slots := 0, locals := 24 } : Room) (va_Pc [.ref this, .int (zi p1), .int (zi p2), .long (zl p3)] (zU D aC G)) (zQ D aC G (zInL r1) (some (.long (zl r1))) G) 0 0 (zA G) := by
  refine z_met (y := yX12_restOf) (b := cX12_restOf) (maxL := 5) (mc := 0) (ms := 0) (ret := (some .long)) (As := [.ref this, .int (zi p1), .int (zi p2), .long (zl p3)]) (Q1 := fun r1 => zQ D aC G (zInL r1) (some (.long (zl r1))) G) (X := FM_restOf FU this p1 p2 p3 G) (by decide) (Nat.le_of_ble_eq_true rfl) ?_ h1
  intro p e s m below meth c hC hr hi
  have hC : zC p m c meth s ([.ref this, .int (zi p1), .int (zi p2), .long (zl p3)] : List Value).toArray cX12_restOf 5 RX12 D aC := hC
  generalize ([.ref this, .int (zi p1), .int (zi p2), .long (zl p3)] : List Value).toArray = args at hC ⊢
  show zS p l e ({ frames := 1, cells := 0, slots := 0, locals := 24 } : Room) s m args below meth c D aC G (fun r1 => zfL D aC G below args s 0 0 (r1, G)) 5 0 0 (FM_restOf FU this p1 p2 p3 G) G 0 [(0, .ref this), (1, .int (zi p1)), (2, .int (zi p2)), (3, .long (zl p3))] []
  unfold FM_restOf
  refine z_gd ?_
  unfold FM_restOf_b
  refine z_iload_n hC 2 rfl dX12_restOf_0 rfl ?_
  refine z_i2l hC hp2 dX12_restOf_1 ?_
  refine z_aload_n hC 0 rfl dX12_restOf_2 rfl ?_
  refine z_getQ hC zF12_121 rfl dX12_restOf_3 (fun v1 => ?_)
  refine z_iload_n hC 1 rfl dX12_restOf_6 rfl ?_
  refine z_iald hC hp1 dX12_restOf_7 (fun v2 hv2 => ?_)
  refine z_i2l hC hv2 dX12_restOf_8 ?_
  refine z_lmul hC dX12_restOf_9 (fun v3 hv3 => ?_)
  refine z_lload_n hC 3 rfl dX12_restOf_10 rfl ?_
  refine z_lrem hC hv3 hp3 dX12_restOf_11 (fun v4 hv4 => ?_)
  exact z_lretp hC hv4 hr dX12_restOf_12
theorem SM_restOf_k {FU : Nat} {this : Nat} {p1 : Int} {p2 : Int} {p3 : Int} {G : Hp} {r1 : Int} (h1 : FM_restOf FU this p1 p2 p3 G = some r1) : zk G this = some (12, 0) := zgd_k (k := FM_restOf_b FU this p1 p2 p3 G) h1

