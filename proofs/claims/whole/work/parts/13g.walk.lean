set_option maxRecDepth 100000 in
theorem SM_findWays_L20 {p : Program} {l : Launch} {e : Env} {s : State} {m : MethodId} {args : Array Value} {below : List Frame} {meth : Method} {c : Code} {D : va_G} {aC : Nat → ClassId} {G0 : Hp} (hC : zC p m c meth s args cX12_findWays 5 RX12 D aC) (hr : meth.sig.returnType = none) (FU : Nat) (kL10 : Nat → Int → Hp → Option (Unit × Hp)) (hkL10 : ∀ (a0 : Nat) (a1 : Int) (G : Hp), zInI a1 → zS p l e ({ frames := 1, cells := 0, slots := 0, locals := 24 } : Room) s m args below meth c D aC G0 (zfV D aC G0 below args s 0 0) 5 0 0 (kL10 a0 a1 G) G 10 [(0, .ref a0), (1, .int (zi a1))] []) : ∀ (n : Nat) (x0 : Nat) (x1 : Int) (x2 : Int) (G : Hp) (hx1 : zInI x1) (hx2 : zInI x2), zS p l e ({ frames := 1, cells := 0, slots := 0, locals := 24 } : Room) s m args below meth c D aC G0 (zfV D aC G0 below args s 0 0) 5 0 0 (FM_findWays_L20 FU kL10 n x0 x1 x2 G) G 20 [(0, .ref x0), (1, .int (zi x1)), (2, .int (zi x2))] [] := by
  intro n
  induction n with
  | zero => intros; exact z_none
  | succ n ih =>
    intro x0 x1 x2 G hx1 hx2
    rw [FM_findWays_L20]
    refine z_iload_n hC 2 rfl dX12_findWays_20 rfl ?_
    refine z_aload_n hC 0 rfl dX12_findWays_21 rfl ?_
    refine z_getI hC zF12_136 rfl dX12_findWays_22 (fun v1 hv1 => ?_)
    refine z_icmp_ge (tgt := 76) hC hx2 hv1 dX12_findWays_25 (by decide) (fun _ => ?_) (fun _ => ?_)
    · refine z_aload_n hC 0 rfl dX12_findWays_28 rfl ?_
      refine z_getQ hC zF12_13 rfl dX12_findWays_29 (fun v2 => ?_)
      refine z_bipush hC dX12_findWays_32 rfl ?_
      refine z_iload_n hC 1 rfl dX12_findWays_34 rfl ?_
      refine z_imul hC dX12_findWays_35 (fun v3 hv3 => ?_)
      refine z_iload_n hC 2 rfl dX12_findWays_36 rfl ?_
      refine z_iadd hC dX12_findWays_37 (fun v4 hv4 => ?_)
      refine z_iald hC hv4 dX12_findWays_38 (fun v5 hv5 => ?_)
      refine z_istore_n (lo' := [(3, .int (zi v5)), (0, .ref x0), (1, .int (zi x1)), (2, .int (zi x2))]) hC dX12_findWays_39 rfl (by decide) rfl ?_
      refine z_aload_n hC 1 rfl dX12_findWays_40 rfl ?_
      refine z_getQ hC zF12_16 rfl dX12_findWays_41 (fun v6 => ?_)
      refine z_bipush hC dX12_findWays_44 rfl ?_
      refine z_iload_n hC 2 rfl dX12_findWays_46 rfl ?_
      refine z_imul hC dX12_findWays_47 (fun v7 hv7 => ?_)
      refine z_iload_n hC 3 rfl dX12_findWays_48 rfl ?_
      refine z_iadd hC dX12_findWays_49 (fun v8 hv8 => ?_)
      refine z_iload_n hC 2 rfl dX12_findWays_50 rfl ?_
      refine z_iload_n hC 3 rfl dX12_findWays_51 rfl ?_
      refine z_icmp_ne (tgt := 59) hC hx1 hx2 dX12_findWays_52 (by decide) (fun _ => ?_) (fun _ => ?_)
      · refine z_iconst hC dX12_findWays_55 ?_
        refine z_goto (tgt := 69) hC dX12_findWays_56 (by decide) ?_
        refine z_iast hC hv8 (by decide) dX12_findWays_69 (fun G9 => ?_)
        refine z_iinc (lo' := fun v10 => [(2, .int (zi v10)), (3, .int (zi v5)), (0, .ref x0), (1, .int (zi x1))]) hC 3 dX12_findWays_70 rfl (by decide) (fun _ => rfl) (fun v10 hv10 => ?_)
        refine z_goto (tgt := 20) hC dX12_findWays_73 (by decide) ?_
        refine z_sub hC [2, 3, 0] (lo' := [(0, .ref x0), (1, .int (zi x1)), (2, .int (zi v10))]) rfl ?_
        exact ih x0 x1 v10 G9 hx1 hv10
      · refine z_iload_n hC 0 rfl dX12_findWays_59 rfl ?_
        refine z_if_le (tgt := 67) hC hv5 dX12_findWays_60 (by decide) (fun _ => ?_) (fun _ => ?_)
        · refine z_ldc (z := 1000000) hC dX12_findWays_67 zc12_154 ?_
          refine z_iast hC hv8 (by decide) dX12_findWays_69 (fun G11 => ?_)
          refine z_iinc (lo' := fun v12 => [(2, .int (zi v12)), (3, .int (zi v5)), (0, .ref x0), (1, .int (zi x1))]) hC 3 dX12_findWays_70 rfl (by decide) (fun _ => rfl) (fun v12 hv12 => ?_)
          refine z_goto (tgt := 20) hC dX12_findWays_73 (by decide) ?_
          refine z_sub hC [2, 3, 0] (lo' := [(0, .ref x0), (1, .int (zi x1)), (2, .int (zi v12))]) rfl ?_
          exact ih x0 x1 v12 G11 hx1 hv12
        · refine z_iload_n hC 0 rfl dX12_findWays_63 rfl ?_
          refine z_goto (tgt := 69) hC dX12_findWays_64 (by decide) ?_
          refine z_iast hC hv8 hv5 dX12_findWays_69 (fun G13 => ?_)
          refine z_iinc (lo' := fun v14 => [(2, .int (zi v14)), (3, .int (zi v5)), (0, .ref x0), (1, .int (zi x1))]) hC 3 dX12_findWays_70 rfl (by decide) (fun _ => rfl) (fun v14 hv14 => ?_)
          refine z_goto (tgt := 20) hC dX12_findWays_73 (by decide) ?_
          refine z_sub hC [2, 3, 0] (lo' := [(0, .ref x0), (1, .int (zi x1)), (2, .int (zi v14))]) rfl ?_
          exact ih x0 x1 v14 G13 hx1 hv14
    · refine z_iinc (lo' := fun v15 => [(1, .int (zi v15)), (0, .ref x0), (2, .int (zi x2))]) hC 1 dX12_findWays_76 rfl (by decide) (fun _ => rfl) (fun v15 hv15 => ?_)
      refine z_goto (tgt := 10) hC dX12_findWays_79 (by decide) ?_
      refine z_sub hC [1, 0] (lo' := [(0, .ref x0), (1, .int (zi v15))]) rfl ?_
      exact hkL10 x0 v15 G hv15
set_option maxRecDepth 100000 in
theorem SM_findWays_L104 {p : Program} {l : Launch} {e : Env} {s : State} {m : MethodId} {args : Array Value} {below : List Frame} {meth : Method} {c : Code} {D : va_G} {aC : Nat → ClassId} {G0 : Hp} (hC : zC p m c meth s args cX12_findWays 5 RX12 D aC) (hr : meth.sig.returnType = none) (FU : Nat) (kL84 : Nat → Int → Hp → Option (Unit × Hp)) (hkL84 : ∀ (a0 : Nat) (a1 : Int) (G : Hp), zInI a1 → zS p l e ({ frames := 1, cells := 0, slots := 0, locals := 24 } : Room) s m args below meth c D aC G0 (zfV D aC G0 below args s 0 0) 5 0 0 (kL84 a0 a1 G) G 84 [(0, .ref a0), (1, .int (zi a1))] []) (kL94 : Nat → Int → Int → Hp → Option (Unit × Hp)) (hkL94 : ∀ (a0 : Nat) (a1 : Int) (a2 : Int) (G : Hp), zInI a1 → zInI a2 → zS p l e ({ frames := 1, cells := 0, slots := 0, locals := 24 } : Room) s m args below meth c D aC G0 (zfV D aC G0 below args s 0 0) 5 0 0 (kL94 a0 a1 a2 G) G 94 [(0, .ref a0), (1, .int (zi a1)), (2, .int (zi a2))] []) : ∀ (n : Nat) (x0 : Nat) (x1 : Int) (x2 : Int) (x3 : Int) (G : Hp) (hx1 : zInI x1) (hx2 : zInI x2) (hx3 : zInI x3), zS p l e ({ frames := 1, cells := 0, slots := 0, locals := 24 } : Room) s m args below meth c D aC G0 (zfV D aC G0 below args s 0 0) 5 0 0 (FM_findWays_L104 FU kL84 kL94 n x0 x1 x2 x3 G) G 104 [(0, .ref x0), (1, .int (zi x1)), (2, .int (zi x2)), (3, .int (zi x3))] [] := by
  intro n
  induction n with
  | zero => intros; exact z_none
  | succ n ih =>
    intro x0 x1 x2 x3 G hx1 hx2 hx3
    rw [FM_findWays_L104]
    refine z_iload_n hC 3 rfl dX12_findWays_104 rfl ?_
    refine z_aload_n hC 0 rfl dX12_findWays_105 rfl ?_
    refine z_getI hC zF12_136 rfl dX12_findWays_106 (fun v1 hv1 => ?_)
    refine z_icmp_ge (tgt := 172) hC hx3 hv1 dX12_findWays_109 (by decide) (fun _ => ?_) (fun _ => ?_)
    · refine z_aload_n hC 0 rfl dX12_findWays_112 rfl ?_
      refine z_getQ hC zF12_16 rfl dX12_findWays_113 (fun v2 => ?_)
      refine z_bipush hC dX12_findWays_116 rfl ?_
      refine z_iload_n hC 2 rfl dX12_findWays_118 rfl ?_
      refine z_imul hC dX12_findWays_119 (fun v3 hv3 => ?_)
      refine z_iload_n hC 1 rfl dX12_findWays_120 rfl ?_
      refine z_iadd hC dX12_findWays_121 (fun v4 hv4 => ?_)
      refine z_iald hC hv4 dX12_findWays_122 (fun v5 hv5 => ?_)
      refine z_aload_n hC 0 rfl dX12_findWays_123 rfl ?_
      refine z_getQ hC zF12_16 rfl dX12_findWays_124 (fun v6 => ?_)
      refine z_bipush hC dX12_findWays_127 rfl ?_
      refine z_iload_n hC 1 rfl dX12_findWays_129 rfl ?_
      refine z_imul hC dX12_findWays_130 (fun v7 hv7 => ?_)
      refine z_iload_n hC 3 rfl dX12_findWays_131 rfl ?_
      refine z_iadd hC dX12_findWays_132 (fun v8 hv8 => ?_)
      refine z_iald hC hv8 dX12_findWays_133 (fun v9 hv9 => ?_)
      refine z_iadd hC dX12_findWays_134 (fun v10 hv10 => ?_)
      refine z_istore (lo' := [(4, .int (zi v10)), (0, .ref x0), (1, .int (zi x1)), (2, .int (zi x2)), (3, .int (zi x3))]) hC dX12_findWays_135 (by decide) rfl ?_
      refine z_iload hC 0 rfl dX12_findWays_137 ?_
      refine z_aload_n hC 1 rfl dX12_findWays_139 rfl ?_
      refine z_getQ hC zF12_16 rfl dX12_findWays_140 (fun v11 => ?_)
      refine z_bipush hC dX12_findWays_143 rfl ?_
      refine z_iload_n hC 3 rfl dX12_findWays_145 rfl ?_
      refine z_imul hC dX12_findWays_146 (fun v12 hv12 => ?_)
      refine z_iload_n hC 4 rfl dX12_findWays_147 rfl ?_
      refine z_iadd hC dX12_findWays_148 (fun v13 hv13 => ?_)
      refine z_iald hC hv13 dX12_findWays_149 (fun v14 hv14 => ?_)
      refine z_icmp_ge (tgt := 166) hC hv10 hv14 dX12_findWays_150 (by decide) (fun _ => ?_) (fun _ => ?_)
      · refine z_aload_n hC 1 rfl dX12_findWays_153 rfl ?_
        refine z_getQ hC zF12_16 rfl dX12_findWays_154 (fun v15 => ?_)
        refine z_bipush hC dX12_findWays_157 rfl ?_
        refine z_iload_n hC 3 rfl dX12_findWays_159 rfl ?_
        refine z_imul hC dX12_findWays_160 (fun v16 hv16 => ?_)
        refine z_iload_n hC 4 rfl dX12_findWays_161 rfl ?_
        refine z_iadd hC dX12_findWays_162 (fun v17 hv17 => ?_)
        refine z_iload hC 0 rfl dX12_findWays_163 ?_
        refine z_iast hC hv17 hv10 dX12_findWays_165 (fun G18 => ?_)
        refine z_iinc (lo' := fun v19 => [(3, .int (zi v19)), (4, .int (zi v10)), (0, .ref x0), (1, .int (zi x1)), (2, .int (zi x2))]) hC 4 dX12_findWays_166 rfl (by decide) (fun _ => rfl) (fun v19 hv19 => ?_)
        refine z_goto (tgt := 104) hC dX12_findWays_169 (by decide) ?_
        refine z_sub hC [2, 3, 4, 0] (lo' := [(0, .ref x0), (1, .int (zi x1)), (2, .int (zi x2)), (3, .int (zi v19))]) rfl ?_
        exact ih x0 x1 x2 v19 G18 hx1 hx2 hv19
      · refine z_iinc (lo' := fun v20 => [(3, .int (zi v20)), (4, .int (zi v10)), (0, .ref x0), (1, .int (zi x1)), (2, .int (zi x2))]) hC 4 dX12_findWays_166 rfl (by decide) (fun _ => rfl) (fun v20 hv20 => ?_)
        refine z_goto (tgt := 104) hC dX12_findWays_169 (by decide) ?_
        refine z_sub hC [2, 3, 4, 0] (lo' := [(0, .ref x0), (1, .int (zi x1)), (2, .int (zi x2)), (3, .int (zi v20))]) rfl ?_
        exact ih x0 x1 x2 v20 G hx1 hx2 hv20
    · refine z_iinc (lo' := fun v21 => [(2, .int (zi v21)), (0, .ref x0), (1, .int (zi x1)), (3, .int (zi x3))]) hC 2 dX12_findWays_172 rfl (by decide) (fun _ => rfl) (fun v21 hv21 => ?_)
      refine z_goto (tgt := 94) hC dX12_findWays_175 (by decide) ?_
      refine z_sub hC [1, 2, 0] (lo' := [(0, .ref x0), (1, .int (zi x1)), (2, .int (zi v21))]) rfl ?_
      exact hkL94 x0 x1 v21 G hx1 hv21
set_option maxRecDepth 100000 in
theorem SM_findWays_L94 {p : Program} {l : Launch} {e : Env} {s : State} {m : MethodId} {args : Array Value} {below : List Frame} {meth : Method} {c : Code} {D : va_G} {aC : Nat → ClassId} {G0 : Hp} (hC : zC p m c meth s args cX12_findWays 5 RX12 D aC) (hr : meth.sig.returnType = none) (FU : Nat) (kL84 : Nat → Int → Hp → Option (Unit × Hp)) (hkL84 : ∀ (a0 : Nat) (a1 : Int) (G : Hp), zInI a1 → zS p l e ({ frames := 1, cells := 0, slots := 0, locals := 24 } : Room) s m args below meth c D aC G0 (zfV D aC G0 below args s 0 0) 5 0 0 (kL84 a0 a1 G) G 84 [(0, .ref a0), (1, .int (zi a1))] []) : ∀ (n : Nat) (x0 : Nat) (x1 : Int) (x2 : Int) (G : Hp) (hx1 : zInI x1) (hx2 : zInI x2), zS p l e ({ frames := 1, cells := 0, slots := 0, locals := 24 } : Room) s m args below meth c D aC G0 (zfV D aC G0 below args s 0 0) 5 0 0 (FM_findWays_L94 FU kL84 n x0 x1 x2 G) G 94 [(0, .ref x0), (1, .int (zi x1)), (2, .int (zi x2))] [] := by
  intro n
  induction n with
  | zero => intros; exact z_none
  | succ n ih =>
    intro x0 x1 x2 G hx1 hx2
    rw [FM_findWays_L94]
    refine z_iload_n hC 2 rfl dX12_findWays_94 rfl ?_
    refine z_aload_n hC 0 rfl dX12_findWays_95 rfl ?_
    refine z_getI hC zF12_136 rfl dX12_findWays_96 (fun v1 hv1 => ?_)
    refine z_icmp_ge (tgt := 178) hC hx2 hv1 dX12_findWays_99 (by decide) (fun _ => ?_) (fun _ => ?_)
    · refine z_iconst hC dX12_findWays_102 ?_
      refine z_istore_n (lo' := [(3, .int (zi (0))), (0, .ref x0), (1, .int (zi x1)), (2, .int (zi x2))]) hC dX12_findWays_103 rfl (by decide) rfl ?_
      refine z_sub hC [1, 2, 3, 0] (lo' := [(0, .ref x0), (1, .int (zi x1)), (2, .int (zi x2)), (3, .int (zi (0)))]) rfl ?_
      exact SM_findWays_L104 hC hr FU kL84 hkL84 (FM_findWays_L94 FU kL84 n) ih FU x0 x1 x2 (0) G hx1 hx2 (by decide)
    · refine z_iinc (lo' := fun v2 => [(1, .int (zi v2)), (0, .ref x0), (2, .int (zi x2))]) hC 1 dX12_findWays_178 rfl (by decide) (fun _ => rfl) (fun v2 hv2 => ?_)
      refine z_goto (tgt := 84) hC dX12_findWays_181 (by decide) ?_
      refine z_sub hC [1, 0] (lo' := [(0, .ref x0), (1, .int (zi v2))]) rfl ?_
      exact hkL84 x0 v2 G hv2
set_option maxRecDepth 100000 in
theorem SM_findWays_L84 {p : Program} {l : Launch} {e : Env} {s : State} {m : MethodId} {args : Array Value} {below : List Frame} {meth : Method} {c : Code} {D : va_G} {aC : Nat → ClassId} {G0 : Hp} (hC : zC p m c meth s args cX12_findWays 5 RX12 D aC) (hr : meth.sig.returnType = none) (FU : Nat) : ∀ (n : Nat) (x0 : Nat) (x1 : Int) (G : Hp) (hx1 : zInI x1), zS p l e ({ frames := 1, cells := 0, slots := 0, locals := 24 } : Room) s m args below meth c D aC G0 (zfV D aC G0 below args s 0 0) 5 0 0 (FM_findWays_L84 FU n x0 x1 G) G 84 [(0, .ref x0), (1, .int (zi x1))] [] := by
  intro n
  induction n with
  | zero => intros; exact z_none
  | succ n ih =>
    intro x0 x1 G hx1
    rw [FM_findWays_L84]
    refine z_iload_n hC 1 rfl dX12_findWays_84 rfl ?_
    refine z_aload_n hC 0 rfl dX12_findWays_85 rfl ?_
    refine z_getI hC zF12_136 rfl dX12_findWays_86 (fun v1 hv1 => ?_)
    refine z_icmp_ge (tgt := 184) hC hx1 hv1 dX12_findWays_89 (by decide) (fun _ => ?_) (fun _ => ?_)
    · refine z_iconst hC dX12_findWays_92 ?_
      refine z_istore_n (lo' := [(2, .int (zi (0))), (0, .ref x0), (1, .int (zi x1))]) hC dX12_findWays_93 rfl (by decide) rfl ?_
      refine z_sub hC [1, 2, 0] (lo' := [(0, .ref x0), (1, .int (zi x1)), (2, .int (zi (0)))]) rfl ?_
      exact SM_findWays_L94 hC hr FU (FM_findWays_L84 FU n) ih FU x0 x1 (0) G hx1 (by decide)
    · refine z_aload_n hC 0 rfl dX12_findWays_184 rfl ?_
      refine z_iconst hC dX12_findWays_185 ?_
      refine z_putZ hC zF12_146 rfl rfl dX12_findWays_186 (fun G2 => ?_)
      exact z_vret hC hr dX12_findWays_189
set_option maxRecDepth 100000 in
theorem SM_findWays_L10 {p : Program} {l : Launch} {e : Env} {s : State} {m : MethodId} {args : Array Value} {below : List Frame} {meth : Method} {c : Code} {D : va_G} {aC : Nat → ClassId} {G0 : Hp} (hC : zC p m c meth s args cX12_findWays 5 RX12 D aC) (hr : meth.sig.returnType = none) (FU : Nat) : ∀ (n : Nat) (x0 : Nat) (x1 : Int) (G : Hp) (hx1 : zInI x1), zS p l e ({ frames := 1, cells := 0, slots := 0, locals := 24 } : Room) s m args below meth c D aC G0 (zfV D aC G0 below args s 0 0) 5 0 0 (FM_findWays_L10 FU n x0 x1 G) G 10 [(0, .ref x0), (1, .int (zi x1))] [] := by
  intro n
  induction n with
  | zero => intros; exact z_none
  | succ n ih =>
    intro x0 x1 G hx1
    rw [FM_findWays_L10]
    refine z_iload_n hC 1 rfl dX12_findWays_10 rfl ?_
    refine z_aload_n hC 0 rfl dX12_findWays_11 rfl ?_
    refine z_getI hC zF12_136 rfl dX12_findWays_12 (fun v1 hv1 => ?_)
    refine z_icmp_ge (tgt := 82) hC hx1 hv1 dX12_findWays_15 (by decide) (fun _ => ?_) (fun _ => ?_)
    · refine z_iconst hC dX12_findWays_18 ?_
      refine z_istore_n (lo' := [(2, .int (zi (0))), (0, .ref x0), (1, .int (zi x1))]) hC dX12_findWays_19 rfl (by decide) rfl ?_
      refine z_sub hC [1, 2, 0] (lo' := [(0, .ref x0), (1, .int (zi x1)), (2, .int (zi (0)))]) rfl ?_
      exact SM_findWays_L20 hC hr FU (FM_findWays_L10 FU n) ih FU x0 x1 (0) G hx1 (by decide)
    · refine z_iconst hC dX12_findWays_82 ?_
      refine z_istore_n (lo' := [(1, .int (zi (0))), (0, .ref x0)]) hC dX12_findWays_83 rfl (by decide) rfl ?_
      refine z_sub hC [1, 0] (lo' := [(0, .ref x0), (1, .int (zi (0)))]) rfl ?_
      exact SM_findWays_L84 hC hr FU FU x0 (0) G (by decide)
set_option maxRecDepth 100000 in
theorem SM_findWays {l : Launch} {D : va_G} {aC : Nat → ClassId} (FU : Nat) (this : Nat) {G : Hp} {r1 : (Unit × Hp)} (h1 : FM_findWays FU this G = some r1) : Met l yX12_findWays (Cond.code yX12_findWays cX12_findWays 5 none :: zgood) ({ frames := 1, cells := 0, slots := 0, locals := 24 } : Room) (va_Pc [.ref this] (zU D aC G)) (zQ D aC G (True) (none) r1.2) 0 0 (zA G) := by
  refine z_met (y := yX12_findWays) (b := cX12_findWays) (maxL := 5) (mc := 0) (ms := 0) (ret := none) (As := [.ref this]) (Q1 := fun r1 => zQ D aC G (True) (none) r1.2) (X := FM_findWays FU this G) (by decide) (Nat.le_of_ble_eq_true rfl) ?_ h1
  intro p e s m below meth c hC hr hi
  have hC : zC p m c meth s ([.ref this] : List Value).toArray cX12_findWays 5 RX12 D aC := hC
  generalize ([.ref this] : List Value).toArray = args at hC ⊢
  show zS p l e ({ frames := 1, cells := 0, slots := 0, locals := 24 } : Room) s m args below meth c D aC G (zfV D aC G below args s 0 0) 5 0 0 (FM_findWays FU this G) G 0 [(0, .ref this)] []
  unfold FM_findWays
  refine z_gd ?_
  unfold FM_findWays_b
  refine z_aload_n hC 0 rfl dX12_findWays_0 rfl ?_
  refine z_getZ hC zF12_146 rfl dX12_findWays_1 (fun v1 hv1 => ?_)
  refine z_if_eq (tgt := 8) hC (hv1).i dX12_findWays_4 (by decide) (fun _ => ?_) (fun _ => ?_)
  · refine z_iconst hC dX12_findWays_8 ?_
    refine z_istore_n (lo' := [(1, .int (zi (0))), (0, .ref this)]) hC dX12_findWays_9 rfl (by decide) rfl ?_
    refine z_sub hC [1, 0] (lo' := [(0, .ref this), (1, .int (zi (0)))]) rfl ?_
    exact SM_findWays_L10 hC hr FU FU this (0) G (by decide)
  · exact z_vret hC hr dX12_findWays_7
theorem SM_findWays_k {FU : Nat} {this : Nat} {G : Hp} {r1 : (Unit × Hp)} (h1 : FM_findWays FU this G = some r1) : zk G this = some (12, 0) := zgd_k (k := FM_findWays_b FU this G) h1

set_option maxRecDepth 100000 in
theorem SM_wayOf {l : Launch} {D : va_G} {aC : Nat → ClassId} (FU : Nat) (this : Nat) (p1 : Int) (p2 : Int) (hp1 : zInI p1) (hp2 : zInI p2) {G : Hp} {r1 : (Int × Hp)} (h1 : FM_wayOf FU this p1 p2 G = some r1) : Met l yX12_wayOf (Cond.code yX12_wayOf cX12_wayOf 3 (some .int) :: zgood) ({ frames := 2, cells := 0, slots := 0, locals := 48 } : Room) (va_Pc [.ref this, .int (zi p1), .int (zi p2)] (zU D aC G)) (zQ D aC G (zInI r1.1) (some (.int (zi r1.1))) r1.2) 0 0 (zA G) := by
  refine z_met (y := yX12_wayOf) (b := cX12_wayOf) (maxL := 3) (mc := 0) (ms := 0) (ret := (some .int)) (As := [.ref this, .int (zi p1), .int (zi p2)]) (Q1 := fun r1 => zQ D aC G (zInI r1.1) (some (.int (zi r1.1))) r1.2) (X := FM_wayOf FU this p1 p2 G) (by decide) (Nat.le_of_ble_eq_true rfl) ?_ h1
  intro p e s m below meth c hC hr hi
  have hC : zC p m c meth s ([.ref this, .int (zi p1), .int (zi p2)] : List Value).toArray cX12_wayOf 3 RX12 D aC := hC
  generalize ([.ref this, .int (zi p1), .int (zi p2)] : List Value).toArray = args at hC ⊢
  show zS p l e ({ frames := 2, cells := 0, slots := 0, locals := 48 } : Room) s m args below meth c D aC G (zfI D aC G below args s 0 0) 3 0 0 (FM_wayOf FU this p1 p2 G) G 0 [(0, .ref this), (1, .int (zi p1)), (2, .int (zi p2))] []
  unfold FM_wayOf
  refine z_gd ?_
  unfold FM_wayOf_b
  refine z_aload_n hC 0 rfl dX12_wayOf_0 rfl ?_
  refine z_cV (z_rV (q := this) (t := 12) (As := []) hC (fun _ h1 => SM_findWays FU this h1) (fun _ h1 => SM_findWays_k h1) rfl rfl zM12_155 zMv_FM_findWays ⟨by decide, by decide⟩ rfl rfl rfl (rest := []) (Nat.le_of_ble_eq_true rfl) ⟨Nat.le_of_ble_eq_true rfl, Nat.le_of_ble_eq_true rfl⟩ rfl dX12_wayOf_1) (fun G1 => ?_)
  refine z_aload_n hC 0 rfl dX12_wayOf_4 rfl ?_
  refine z_getQ hC zF12_16 rfl dX12_wayOf_5 (fun v2 => ?_)
  refine z_bipush hC dX12_wayOf_8 rfl ?_
  refine z_iload_n hC 1 rfl dX12_wayOf_10 rfl ?_
  refine z_imul hC dX12_wayOf_11 (fun v3 hv3 => ?_)
  refine z_iload_n hC 2 rfl dX12_wayOf_12 rfl ?_
  refine z_iadd hC dX12_wayOf_13 (fun v4 hv4 => ?_)
  refine z_iald hC hv4 dX12_wayOf_14 (fun v5 hv5 => ?_)
  exact z_iret hC hv5 hr dX12_wayOf_15
theorem SM_wayOf_k {FU : Nat} {this : Nat} {p1 : Int} {p2 : Int} {G : Hp} {r1 : (Int × Hp)} (h1 : FM_wayOf FU this p1 p2 G = some r1) : zk G this = some (12, 0) := zgd_k (k := FM_wayOf_b FU this p1 p2 G) h1

set_option maxRecDepth 100000 in
theorem SM_way {l : Launch} {D : va_G} {aC : Nat → ClassId} (FU : Nat) (this : Nat) (p1 : Int) (p2 : Int) (hp1 : zInI p1) (hp2 : zInI p2) {G : Hp} {r1 : (Int × Hp)} (h1 : FM_way FU this p1 p2 G = some r1) : Met l yX12_way (Cond.code yX12_way cX12_way 4 (some .int) :: zgood) ({ frames := 3, cells := 0, slots := 0, locals := 70 } : Room) (va_Pc [.ref this, .int (zi p1), .int (zi p2)] (zU D aC G)) (zQ D aC G (zInI r1.1) (some (.int (zi r1.1))) r1.2) 0 0 (zA G) := by
  refine z_met (y := yX12_way) (b := cX12_way) (maxL := 4) (mc := 0) (ms := 0) (ret := (some .int)) (As := [.ref this, .int (zi p1), .int (zi p2)]) (Q1 := fun r1 => zQ D aC G (zInI r1.1) (some (.int (zi r1.1))) r1.2) (X := FM_way FU this p1 p2 G) (by decide) (Nat.le_of_ble_eq_true rfl) ?_ h1
  intro p e s m below meth c hC hr hi
  have hC : zC p m c meth s ([.ref this, .int (zi p1), .int (zi p2)] : List Value).toArray cX12_way 4 RX12 D aC := hC
  generalize ([.ref this, .int (zi p1), .int (zi p2)] : List Value).toArray = args at hC ⊢
  show zS p l e ({ frames := 3, cells := 0, slots := 0, locals := 70 } : Room) s m args below meth c D aC G (zfI D aC G below args s 0 0) 4 0 0 (FM_way FU this p1 p2 G) G 0 [(0, .ref this), (1, .int (zi p1)), (2, .int (zi p2))] []
  unfold FM_way
  refine z_gd ?_
  unfold FM_way_b
  refine z_aload_n hC 0 rfl dX12_way_0 rfl ?_
  refine z_iload_n hC 1 rfl dX12_way_1 rfl ?_
  refine z_cZp (z_rV (q := this) (t := 12) (As := [.int (zi p1)]) hC (fun _ h1 => SM_isPlace FU this p1 hp1 h1) (fun _ h1 => SM_isPlace_k h1) rfl rfl zM12_150 zMv_FM_isPlace ⟨by decide, by decide⟩ rfl rfl rfl (rest := []) (Nat.le_of_ble_eq_true rfl) ⟨Nat.le_of_ble_eq_true rfl, Nat.le_of_ble_eq_true rfl⟩ rfl dX12_way_2) (fun v1 hv1 => ?_)
  refine z_if_eq (tgt := 16) hC (hv1).i dX12_way_5 (by decide) (fun _ => ?_) (fun _ => ?_)
  · refine z_iconst hC dX12_way_16 ?_
    exact z_iret hC (by decide) hr dX12_way_17
  · refine z_aload_n hC 0 rfl dX12_way_8 rfl ?_
    refine z_iload_n hC 2 rfl dX12_way_9 rfl ?_
    refine z_cZp (z_rV (q := this) (t := 12) (As := [.int (zi p2)]) hC (fun _ h1 => SM_isPlace FU this p2 hp2 h1) (fun _ h1 => SM_isPlace_k h1) rfl rfl zM12_150 zMv_FM_isPlace ⟨by decide, by decide⟩ rfl rfl rfl (rest := []) (Nat.le_of_ble_eq_true rfl) ⟨Nat.le_of_ble_eq_true rfl, Nat.le_of_ble_eq_true rfl⟩ rfl dX12_way_10) (fun v2 hv2 => ?_)
    refine z_if_ne (tgt := 18) hC (hv2).i dX12_way_13 (by decide) (fun _ => ?_) (fun _ => ?_)
    · refine z_iconst hC dX12_way_16 ?_
      exact z_iret hC (by decide) hr dX12_way_17
    · refine z_aload_n hC 0 rfl dX12_way_18 rfl ?_
      refine z_iload_n hC 1 rfl dX12_way_19 rfl ?_
      refine z_iload_n hC 2 rfl dX12_way_20 rfl ?_
      refine z_cI (z_rV (q := this) (t := 12) (As := [.int (zi p1), .int (zi p2)]) hC (fun _ h1 => SM_wayOf FU this p1 p2 hp1 hp2 h1) (fun _ h1 => SM_wayOf_k h1) rfl rfl zM12_158 zMv_FM_wayOf ⟨by decide, by decide⟩ rfl rfl rfl (rest := []) (Nat.le_of_ble_eq_true rfl) ⟨Nat.le_of_ble_eq_true rfl, Nat.le_of_ble_eq_true rfl⟩ rfl dX12_way_21) (fun v4 G3 hv4 => ?_)
      refine z_istore_n (lo' := [(3, .int (zi v4)), (0, .ref this), (1, .int (zi p1)), (2, .int (zi p2))]) hC dX12_way_24 rfl (by decide) rfl ?_
      refine z_iload_n hC 0 rfl dX12_way_25 rfl ?_
      refine z_ldc (z := 1000000) hC dX12_way_26 zc12_154 ?_
      refine z_icmp_ge (tgt := 35) hC hv4 (by decide) dX12_way_28 (by decide) (fun _ => ?_) (fun _ => ?_)
      · refine z_iload_n hC 0 rfl dX12_way_31 rfl ?_
        refine z_goto (tgt := 37) hC dX12_way_32 (by decide) ?_
        exact z_iret hC hv4 hr dX12_way_37
      · refine z_bipush hC dX12_way_35 rfl ?_
        exact z_iret hC (by decide) hr dX12_way_37
theorem SM_way_k {FU : Nat} {this : Nat} {p1 : Int} {p2 : Int} {G : Hp} {r1 : (Int × Hp)} (h1 : FM_way FU this p1 p2 G = some r1) : zk G this = some (12, 0) := zgd_k (k := FM_way_b FU this p1 p2 G) h1

set_option maxRecDepth 100000 in
theorem SM_runs {l : Launch} {D : va_G} {aC : Nat → ClassId} (FU : Nat) (this : Nat) (p1 : Int) (hp1 : zInI p1) {G : Hp} {r1 : Int} (h1 : FM_runs FU this p1 G = some r1) : Met l yX12_runs (Cond.code yX12_runs cX12_runs 2 (some .boolean) :: zgood) ({ frames := 1, cells := 0, slots := 0, locals := 24 } : Room) (va_Pc [.ref this, .int (zi p1)] (zU D aC G)) (zQ D aC G (zIn01 r1) (some (.int (zi r1))) G) 0 0 (zA G) := by
  refine z_met (y := yX12_runs) (b := cX12_runs) (maxL := 2) (mc := 0) (ms := 0) (ret := (some .boolean)) (As := [.ref this, .int (zi p1)]) (Q1 := fun r1 => zQ D aC G (zIn01 r1) (some (.int (zi r1))) G) (X := FM_runs FU this p1 G) (by decide) (Nat.le_of_ble_eq_true rfl) ?_ h1
  intro p e s m below meth c hC hr hi
  have hC : zC p m c meth s ([.ref this, .int (zi p1)] : List Value).toArray cX12_runs 2 RX12 D aC := hC
  generalize ([.ref this, .int (zi p1)] : List Value).toArray = args at hC ⊢
  show zS p l e ({ frames := 1, cells := 0, slots := 0, locals := 24 } : Room) s m args below meth c D aC G (fun r1 => zfZ D aC G below args s 0 0 (r1, G)) 2 0 0 (FM_runs FU this p1 G) G 0 [(0, .ref this), (1, .int (zi p1))] []
  unfold FM_runs
  refine z_gd ?_
  unfold FM_runs_b
  refine z_aload_n hC 0 rfl dX12_runs_0 rfl ?_
  refine z_getQ hC zF12_109 rfl dX12_runs_1 (fun v1 => ?_)
  refine z_iload_n hC 1 rfl dX12_runs_4 rfl ?_
  refine z_iald hC hp1 dX12_runs_5 (fun v2 hv2 => ?_)
  refine z_if_lt (tgt := 22) hC hv2 dX12_runs_6 (by decide) (fun _ => ?_) (fun _ => ?_)
  · refine z_iconst hC dX12_runs_22 ?_
    exact z_zretp hC hr dX12_runs_23
  · refine z_aload_n hC 0 rfl dX12_runs_9 rfl ?_
    refine z_getQ hC zF12_115 rfl dX12_runs_10 (fun v3 => ?_)
    refine z_iload_n hC 1 rfl dX12_runs_13 rfl ?_
    refine z_iald hC hp1 dX12_runs_14 (fun v4 hv4 => ?_)
    refine z_if_ne (tgt := 22) hC hv4 dX12_runs_15 (by decide) (fun _ => ?_) (fun _ => ?_)
    · refine z_iconst hC dX12_runs_18 ?_
      refine z_goto (tgt := 23) hC dX12_runs_19 (by decide) ?_
      exact z_zretp hC hr dX12_runs_23
    · refine z_iconst hC dX12_runs_22 ?_
      exact z_zretp hC hr dX12_runs_23
theorem SM_runs_k {FU : Nat} {this : Nat} {p1 : Int} {G : Hp} {r1 : Int} (h1 : FM_runs FU this p1 G = some r1) : zk G this = some (12, 0) := zgd_k (k := FM_runs_b FU this p1 G) h1

set_option maxRecDepth 100000 in
theorem SM_owedOf_L14 {p : Program} {l : Launch} {e : Env} {s : State} {m : MethodId} {args : Array Value} {below : List Frame} {meth : Method} {c : Code} {D : va_G} {aC : Nat → ClassId} {G0 : Hp} (hC : zC p m c meth s args cX12_owedOf 4 RX12 D aC) (hr : meth.sig.returnType = (some .int)) (FU : Nat) : ∀ (n : Nat) (x0 : Nat) (x1 : Int) (x2 : Int) (x3 : Int) (hx1 : zInI x1) (hx2 : zInI x2) (hx3 : zInI x3), zS p l e ({ frames := 1, cells := 0, slots := 0, locals := 24 } : Room) s m args below meth c D aC G0 (fun r1 => zfI D aC G0 below args s 0 0 (r1, G0)) 4 0 0 (FM_owedOf_L14 FU n x0 x1 x2 x3 G0) G0 14 [(0, .ref x0), (1, .int (zi x1)), (2, .int (zi x2)), (3, .int (zi x3))] [] := by
  intro n
  induction n with
  | zero => intros; exact z_none
  | succ n ih =>
    intro x0 x1 x2 x3 hx1 hx2 hx3
    rw [FM_owedOf_L14]
    refine z_iload_n hC 3 rfl dX12_owedOf_14 rfl ?_
    refine z_sipush hC dX12_owedOf_15 rfl ?_
    refine z_iload_n hC 1 rfl dX12_owedOf_18 rfl ?_
    refine z_imul hC dX12_owedOf_19 (fun v1 hv1 => ?_)
    refine z_sipush hC dX12_owedOf_20 rfl ?_
    refine z_iadd hC dX12_owedOf_23 (fun v2 hv2 => ?_)
    refine z_icmp_ge (tgt := 63) hC hx3 hv2 dX12_owedOf_24 (by decide) (fun _ => ?_) (fun _ => ?_)
    · refine z_iload_n hC 2 rfl dX12_owedOf_27 rfl ?_
      refine z_aload_n hC 0 rfl dX12_owedOf_28 rfl ?_
      refine z_getQ hC zF12_94 rfl dX12_owedOf_29 (fun v3 => ?_)
      refine z_iload_n hC 3 rfl dX12_owedOf_32 rfl ?_
      refine z_iald hC hx3 dX12_owedOf_33 (fun v4 hv4 => ?_)
      refine z_aload_n hC 0 rfl dX12_owedOf_34 rfl ?_
      refine z_getQ hC zF12_100 rfl dX12_owedOf_35 (fun v5 => ?_)
      refine z_iload_n hC 3 rfl dX12_owedOf_38 rfl ?_
      refine z_iald hC hx3 dX12_owedOf_39 (fun v6 hv6 => ?_)
      refine z_isub hC dX12_owedOf_40 (fun v7 hv7 => ?_)
      refine z_aload_n hC 0 rfl dX12_owedOf_41 rfl ?_
      refine z_getQ hC zF12_97 rfl dX12_owedOf_42 (fun v8 => ?_)
      refine z_iload_n hC 3 rfl dX12_owedOf_45 rfl ?_
      refine z_iald hC hx3 dX12_owedOf_46 (fun v9 hv9 => ?_)
      refine z_iadd hC dX12_owedOf_47 (fun v10 hv10 => ?_)
      refine z_aload_n hC 0 rfl dX12_owedOf_48 rfl ?_
      refine z_getQ hC zF12_103 rfl dX12_owedOf_49 (fun v11 => ?_)
      refine z_iload_n hC 3 rfl dX12_owedOf_52 rfl ?_
      refine z_iald hC hx3 dX12_owedOf_53 (fun v12 hv12 => ?_)
      refine z_isub hC dX12_owedOf_54 (fun v13 hv13 => ?_)
      refine z_iadd hC dX12_owedOf_55 (fun v14 hv14 => ?_)
      refine z_istore_n (lo' := [(2, .int (zi v14)), (0, .ref x0), (1, .int (zi x1)), (3, .int (zi x3))]) hC dX12_owedOf_56 rfl (by decide) rfl ?_
      refine z_iinc (lo' := fun v15 => [(3, .int (zi v15)), (2, .int (zi v14)), (0, .ref x0), (1, .int (zi x1))]) hC 3 dX12_owedOf_57 rfl (by decide) (fun _ => rfl) (fun v15 hv15 => ?_)
      refine z_goto (tgt := 14) hC dX12_owedOf_60 (by decide) ?_
      refine z_sub hC [2, 3, 1, 0] (lo' := [(0, .ref x0), (1, .int (zi x1)), (2, .int (zi v14)), (3, .int (zi v15))]) rfl ?_
      exact ih x0 x1 v14 v15 hx1 hv14 hv15
    · refine z_iload_n hC 2 rfl dX12_owedOf_63 rfl ?_
      exact z_iretp hC hx2 hr dX12_owedOf_64
set_option maxRecDepth 100000 in
theorem SM_owedOf {l : Launch} {D : va_G} {aC : Nat → ClassId} (FU : Nat) (this : Nat) (p1 : Int) (hp1 : zInI p1) {G : Hp} {r1 : Int} (h1 : FM_owedOf FU this p1 G = some r1) : Met l yX12_owedOf (Cond.code yX12_owedOf cX12_owedOf 4 (some .int) :: zgood) ({ frames := 1, cells := 0, slots := 0, locals := 24 } : Room) (va_Pc [.ref this, .int (zi p1)] (zU D aC G)) (zQ D aC G (zInI r1) (some (.int (zi r1))) G) 0 0 (zA G) := by
  refine z_met (y := yX12_owedOf) (b := cX12_owedOf) (maxL := 4) (mc := 0) (ms := 0) (ret := (some .int)) (As := [.ref this, .int (zi p1)]) (Q1 := fun r1 => zQ D aC G (zInI r1) (some (.int (zi r1))) G) (X := FM_owedOf FU this p1 G) (by decide) (Nat.le_of_ble_eq_true rfl) ?_ h1
  intro p e s m below meth c hC hr hi
  have hC : zC p m c meth s ([.ref this, .int (zi p1)] : List Value).toArray cX12_owedOf 4 RX12 D aC := hC
  generalize ([.ref this, .int (zi p1)] : List Value).toArray = args at hC ⊢
  show zS p l e ({ frames := 1, cells := 0, slots := 0, locals := 24 } : Room) s m args below meth c D aC G (fun r1 => zfI D aC G below args s 0 0 (r1, G)) 4 0 0 (FM_owedOf FU this p1 G) G 0 [(0, .ref this), (1, .int (zi p1))] []
  unfold FM_owedOf
  refine z_gd ?_
  unfold FM_owedOf_b
  refine z_aload_n hC 0 rfl dX12_owedOf_0 rfl ?_
  refine z_getQ hC zF12_106 rfl dX12_owedOf_1 (fun v1 => ?_)
  refine z_iload_n hC 1 rfl dX12_owedOf_4 rfl ?_
  refine z_iald hC hp1 dX12_owedOf_5 (fun v2 hv2 => ?_)
  refine z_ineg hC dX12_owedOf_6 (fun v3 hv3 => ?_)
  refine z_istore_n (lo' := [(2, .int (zi v3)), (0, .ref this), (1, .int (zi p1))]) hC dX12_owedOf_7 rfl (by decide) rfl ?_
  refine z_sipush hC dX12_owedOf_8 rfl ?_
  refine z_iload_n hC 2 rfl dX12_owedOf_11 rfl ?_
  refine z_imul hC dX12_owedOf_12 (fun v4 hv4 => ?_)
  refine z_istore_n (lo' := [(3, .int (zi v4)), (2, .int (zi v3)), (0, .ref this), (1, .int (zi p1))]) hC dX12_owedOf_13 rfl (by decide) rfl ?_
  refine z_sub hC [2, 3, 1, 0] (lo' := [(0, .ref this), (1, .int (zi p1)), (2, .int (zi v3)), (3, .int (zi v4))]) rfl ?_
  exact SM_owedOf_L14 hC hr FU FU this p1 v3 v4 hp1 hv3 hv4
theorem SM_owedOf_k {FU : Nat} {this : Nat} {p1 : Int} {G : Hp} {r1 : Int} (h1 : FM_owedOf FU this p1 G = some r1) : zk G this = some (12, 0) := zgd_k (k := FM_owedOf_b FU this p1 G) h1

set_option maxRecDepth 100000 in
theorem SM_endNotice {l : Launch} {D : va_G} {aC : Nat → ClassId} (FU : Nat) (this : Nat) (p1 : Int) (p2 : Int) (hp1 : zInI p1) (hp2 : zInI p2) {G : Hp} {r1 : (Unit × Hp)} (h1 : FM_endNotice FU this p1 p2 G = some r1) : Met l yX12_endNotice (Cond.code yX12_endNotice cX12_endNotice 3 none :: zgood) ({ frames := 1, cells := 0, slots := 0, locals := 24 } : Room) (va_Pc [.ref this, .int (zi p1), .int (zi p2)] (zU D aC G)) (zQ D aC G (True) (none) r1.2) 0 0 (zA G) := by
  refine z_met (y := yX12_endNotice) (b := cX12_endNotice) (maxL := 3) (mc := 0) (ms := 0) (ret := none) (As := [.ref this, .int (zi p1), .int (zi p2)]) (Q1 := fun r1 => zQ D aC G (True) (none) r1.2) (X := FM_endNotice FU this p1 p2 G) (by decide) (Nat.le_of_ble_eq_true rfl) ?_ h1
  intro p e s m below meth c hC hr hi
  have hC : zC p m c meth s ([.ref this, .int (zi p1), .int (zi p2)] : List Value).toArray cX12_endNotice 3 RX12 D aC := hC
  generalize ([.ref this, .int (zi p1), .int (zi p2)] : List Value).toArray = args at hC ⊢
  show zS p l e ({ frames := 1, cells := 0, slots := 0, locals := 24 } : Room) s m args below meth c D aC G (zfV D aC G below args s 0 0) 3 0 0 (FM_endNotice FU this p1 p2 G) G 0 [(0, .ref this), (1, .int (zi p1)), (2, .int (zi p2))] []
  unfold FM_endNotice
  refine z_gd ?_
  unfold FM_endNotice_b
  refine z_aload_n hC 0 rfl dX12_endNotice_0 rfl ?_
  refine z_getQ hC zF12_115 rfl dX12_endNotice_1 (fun v1 => ?_)
  refine z_iload_n hC 1 rfl dX12_endNotice_4 rfl ?_
  refine z_iload_n hC 2 rfl dX12_endNotice_5 rfl ?_
  refine z_iast hC hp1 hp2 dX12_endNotice_6 (fun G2 => ?_)
  refine z_aload_n hC 0 rfl dX12_endNotice_7 rfl ?_
  refine z_getQ hC zF12_118 rfl dX12_endNotice_8 (fun v3 => ?_)
  refine z_iload_n hC 1 rfl dX12_endNotice_11 rfl ?_
  refine z_aload_n hC 0 rfl dX12_endNotice_12 rfl ?_
  refine z_getI hC zF12_162 rfl dX12_endNotice_13 (fun v4 hv4 => ?_)
  refine z_iast hC hp1 hv4 dX12_endNotice_16 (fun G5 => ?_)
  exact z_vret hC hr dX12_endNotice_17
theorem SM_endNotice_k {FU : Nat} {this : Nat} {p1 : Int} {p2 : Int} {G : Hp} {r1 : (Unit × Hp)} (h1 : FM_endNotice FU this p1 p2 G = some r1) : zk G this = some (12, 0) := zgd_k (k := FM_endNotice_b FU this p1 p2 G) h1

set_option maxRecDepth 100000 in
theorem SM_days_L44 {p : Program} {l : Launch} {e : Env} {s : State} {m : MethodId} {args : Array Value} {below : List Frame} {meth : Method} {c : Code} {D : va_G} {aC : Nat → ClassId} {G0 : Hp} (hC : zC p m c meth s args cX12_days 4 RX12 D aC) (hr : meth.sig.returnType = (some .int)) (FU : Nat) (kL27 : Nat → Int → Int → Hp → Option (Int × Hp)) (hkL27 : ∀ (a0 : Nat) (a1 : Int) (a2 : Int) (G : Hp), zInI a1 → zInI a2 → zS p l e ({ frames := 2, cells := 0, slots := 0, locals := 47 } : Room) s m args below meth c D aC G0 (zfI D aC G0 below args s 0 0) 4 0 0 (kL27 a0 a1 a2 G) G 27 [(0, .ref a0), (1, .int (zi a1)), (2, .int (zi a2))] []) : ∀ (n : Nat) (x0 : Nat) (x1 : Int) (x2 : Int) (x3 : Int) (G : Hp) (hx1 : zInI x1) (hx2 : zInI x2) (hx3 : zInI x3), zS p l e ({ frames := 2, cells := 0, slots := 0, locals := 47 } : Room) s m args below meth c D aC G0 (zfI D aC G0 below args s 0 0) 4 0 0 (FM_days_L44 FU kL27 n x0 x1 x2 x3 G) G 44 [(0, .ref x0), (1, .int (zi x1)), (2, .int (zi x2)), (3, .int (zi x3))] [] := by
  intro n
  induction n with
  | zero => intros; exact z_none
  | succ n ih =>
    intro x0 x1 x2 x3 G hx1 hx2 hx3
    rw [FM_days_L44]
    refine z_iload_n hC 3 rfl dX12_days_44 rfl ?_
    refine z_aload_n hC 0 rfl dX12_days_45 rfl ?_
    refine z_getI hC zF12_139 rfl dX12_days_46 (fun v1 hv1 => ?_)
    refine z_icmp_ge (tgt := 103) hC hx3 hv1 dX12_days_49 (by decide) (fun _ => ?_) (fun _ => ?_)
    · refine z_aload_n hC 0 rfl dX12_days_52 rfl ?_
      refine z_iload_n hC 3 rfl dX12_days_53 rfl ?_
      refine z_cZp (z_rV (q := x0) (t := 12) (As := [.int (zi x3)]) hC (fun _ h1 => SM_runs FU x0 x3 hx3 h1) (fun _ h1 => SM_runs_k h1) rfl rfl zM12_165 zMv_FM_runs ⟨by decide, by decide⟩ rfl rfl rfl (rest := []) (Nat.le_of_ble_eq_true rfl) ⟨Nat.le_of_ble_eq_true rfl, Nat.le_of_ble_eq_true rfl⟩ rfl dX12_days_54) (fun v2 hv2 => ?_)
      refine z_if_eq (tgt := 97) hC (hv2).i dX12_days_57 (by decide) (fun _ => ?_) (fun _ => ?_)
      · refine z_iinc (lo' := fun v3 => [(3, .int (zi v3)), (0, .ref x0), (1, .int (zi x1)), (2, .int (zi x2))]) hC 3 dX12_days_97 rfl (by decide) (fun _ => rfl) (fun v3 hv3 => ?_)
        refine z_goto (tgt := 44) hC dX12_days_100 (by decide) ?_
        refine z_sub hC [1, 2, 3, 0] (lo' := [(0, .ref x0), (1, .int (zi x1)), (2, .int (zi x2)), (3, .int (zi v3))]) rfl ?_
        exact ih x0 x1 x2 v3 G hx1 hx2 hv3
      · refine z_aload_n hC 0 rfl dX12_days_60 rfl ?_
        refine z_getI hC zF12_162 rfl dX12_days_61 (fun v4 hv4 => ?_)
        refine z_aload_n hC 0 rfl dX12_days_64 rfl ?_
        refine z_getQ hC zF12_112 rfl dX12_days_65 (fun v5 => ?_)
        refine z_iload_n hC 3 rfl dX12_days_68 rfl ?_
        refine z_iald hC hx3 dX12_days_69 (fun v6 hv6 => ?_)
        refine z_icmp_le (tgt := 97) hC hv4 hv6 dX12_days_70 (by decide) (fun _ => ?_) (fun _ => ?_)
        · refine z_iinc (lo' := fun v7 => [(3, .int (zi v7)), (0, .ref x0), (1, .int (zi x1)), (2, .int (zi x2))]) hC 3 dX12_days_97 rfl (by decide) (fun _ => rfl) (fun v7 hv7 => ?_)
          refine z_goto (tgt := 44) hC dX12_days_100 (by decide) ?_
          refine z_sub hC [1, 2, 3, 0] (lo' := [(0, .ref x0), (1, .int (zi x1)), (2, .int (zi x2)), (3, .int (zi v7))]) rfl ?_
          exact ih x0 x1 x2 v7 G hx1 hx2 hv7
        · refine z_aload_n hC 0 rfl dX12_days_73 rfl ?_
          refine z_iload_n hC 3 rfl dX12_days_74 rfl ?_
          refine z_cIp (z_rV (q := x0) (t := 12) (As := [.int (zi x3)]) hC (fun _ h1 => SM_owedOf FU x0 x3 hx3 h1) (fun _ h1 => SM_owedOf_k h1) rfl rfl zM12_168 zMv_FM_owedOf ⟨by decide, by decide⟩ rfl rfl rfl (rest := []) (Nat.le_of_ble_eq_true rfl) ⟨Nat.le_of_ble_eq_true rfl, Nat.le_of_ble_eq_true rfl⟩ rfl dX12_days_75) (fun v8 hv8 => ?_)
          refine z_if_le (tgt := 97) hC hv8 dX12_days_78 (by decide) (fun _ => ?_) (fun _ => ?_)
          · refine z_iinc (lo' := fun v9 => [(3, .int (zi v9)), (0, .ref x0), (1, .int (zi x1)), (2, .int (zi x2))]) hC 3 dX12_days_97 rfl (by decide) (fun _ => rfl) (fun v9 hv9 => ?_)
            refine z_goto (tgt := 44) hC dX12_days_100 (by decide) ?_
            refine z_sub hC [1, 2, 3, 0] (lo' := [(0, .ref x0), (1, .int (zi x1)), (2, .int (zi x2)), (3, .int (zi v9))]) rfl ?_
            exact ih x0 x1 x2 v9 G hx1 hx2 hv9
          · refine z_aload_n hC 0 rfl dX12_days_81 rfl ?_
            refine z_iload_n hC 3 rfl dX12_days_82 rfl ?_
            refine z_iconst hC dX12_days_83 ?_
            refine z_cV (z_rV (q := x0) (t := 12) (As := [.int (zi x3), .int (zi (2))]) hC (fun _ h1 => SM_endNotice FU x0 x3 (2) hx3 (by decide) h1) (fun _ h1 => SM_endNotice_k h1) rfl rfl zM12_172 zMv_FM_endNotice ⟨by decide, by decide⟩ rfl rfl rfl (rest := []) (Nat.le_of_ble_eq_true rfl) ⟨Nat.le_of_ble_eq_true rfl, Nat.le_of_ble_eq_true rfl⟩ rfl dX12_days_84) (fun G10 => ?_)
            refine z_aload_n hC 0 rfl dX12_days_87 rfl ?_
            refine z_getQ hC zF12_38 rfl dX12_days_88 (fun v11 => ?_)
            refine z_iload_n hC 3 rfl dX12_days_91 rfl ?_
            refine z_aload_n hC 0 rfl dX12_days_92 rfl ?_
            refine z_getI hC zF12_162 rfl dX12_days_93 (fun v12 hv12 => ?_)
            refine z_iast hC hx3 hv12 dX12_days_96 (fun G13 => ?_)
            refine z_iinc (lo' := fun v14 => [(3, .int (zi v14)), (0, .ref x0), (1, .int (zi x1)), (2, .int (zi x2))]) hC 3 dX12_days_97 rfl (by decide) (fun _ => rfl) (fun v14 hv14 => ?_)
            refine z_goto (tgt := 44) hC dX12_days_100 (by decide) ?_
            refine z_sub hC [1, 2, 3, 0] (lo' := [(0, .ref x0), (1, .int (zi x1)), (2, .int (zi x2)), (3, .int (zi v14))]) rfl ?_
            exact ih x0 x1 x2 v14 G13 hx1 hx2 hv14
    · refine z_iinc (lo' := fun v15 => [(2, .int (zi v15)), (0, .ref x0), (1, .int (zi x1)), (3, .int (zi x3))]) hC 2 dX12_days_103 rfl (by decide) (fun _ => rfl) (fun v15 hv15 => ?_)
      refine z_goto (tgt := 27) hC dX12_days_106 (by decide) ?_
      refine z_sub hC [1, 2, 0] (lo' := [(0, .ref x0), (1, .int (zi x1)), (2, .int (zi v15))]) rfl ?_
      exact hkL27 x0 x1 v15 G hx1 hv15
set_option maxRecDepth 100000 in
theorem SM_days_L27 {p : Program} {l : Launch} {e : Env} {s : State} {m : MethodId} {args : Array Value} {below : List Frame} {meth : Method} {c : Code} {D : va_G} {aC : Nat → ClassId} {G0 : Hp} (hC : zC p m c meth s args cX12_days 4 RX12 D aC) (hr : meth.sig.returnType = (some .int)) (FU : Nat) : ∀ (n : Nat) (x0 : Nat) (x1 : Int) (x2 : Int) (G : Hp) (hx1 : zInI x1) (hx2 : zInI x2), zS p l e ({ frames := 2, cells := 0, slots := 0, locals := 47 } : Room) s m args below meth c D aC G0 (zfI D aC G0 below args s 0 0) 4 0 0 (FM_days_L27 FU n x0 x1 x2 G) G 27 [(0, .ref x0), (1, .int (zi x1)), (2, .int (zi x2))] [] := by
  intro n
  induction n with
  | zero => intros; exact z_none
  | succ n ih =>
    intro x0 x1 x2 G hx1 hx2
    rw [FM_days_L27]
    refine z_iload_n hC 2 rfl dX12_days_27 rfl ?_
    refine z_iload_n hC 1 rfl dX12_days_28 rfl ?_
    refine z_icmp_ge (tgt := 109) hC hx2 hx1 dX12_days_29 (by decide) (fun _ => ?_) (fun _ => ?_)
    · refine z_aload_n hC 0 rfl dX12_days_32 rfl ?_
      refine z_dup hC rfl dX12_days_33 ?_
      refine z_getI hC zF12_162 rfl dX12_days_34 (fun v1 hv1 => ?_)
      refine z_iconst hC dX12_days_37 ?_
      refine z_iadd hC dX12_days_38 (fun v2 hv2 => ?_)
      refine z_putI hC hv2 zF12_162 rfl rfl dX12_days_39 (fun G3 => ?_)
      refine z_iconst hC dX12_days_42 ?_
      refine z_istore_n (lo' := [(3, .int (zi (0))), (0, .ref x0), (1, .int (zi x1)), (2, .int (zi x2))]) hC dX12_days_43 rfl (by decide) rfl ?_
      refine z_sub hC [1, 2, 3, 0] (lo' := [(0, .ref x0), (1, .int (zi x1)), (2, .int (zi x2)), (3, .int (zi (0)))]) rfl ?_
      exact SM_days_L44 hC hr FU (FM_days_L27 FU n) ih FU x0 x1 x2 (0) G3 hx1 hx2 (by decide)
    · refine z_aload_n hC 0 rfl dX12_days_109 rfl ?_
      refine z_getI hC zF12_162 rfl dX12_days_110 (fun v4 hv4 => ?_)
      exact z_iret hC hv4 hr dX12_days_113
set_option maxRecDepth 100000 in
theorem SM_days {l : Launch} {D : va_G} {aC : Nat → ClassId} (FU : Nat) (this : Nat) (p1 : Int) (hp1 : zInI p1) {G : Hp} {r1 : (Int × Hp)} (h1 : FM_days FU this p1 G = some r1) : Met l yX12_days (Cond.code yX12_days cX12_days 4 (some .int) :: zgood) ({ frames := 2, cells := 0, slots := 0, locals := 47 } : Room) (va_Pc [.ref this, .int (zi p1)] (zU D aC G)) (zQ D aC G (zInI r1.1) (some (.int (zi r1.1))) r1.2) 0 0 (zA G) := by
  refine z_met (y := yX12_days) (b := cX12_days) (maxL := 4) (mc := 0) (ms := 0) (ret := (some .int)) (As := [.ref this, .int (zi p1)]) (Q1 := fun r1 => zQ D aC G (zInI r1.1) (some (.int (zi r1.1))) r1.2) (X := FM_days FU this p1 G) (by decide) (Nat.le_of_ble_eq_true rfl) ?_ h1
  intro p e s m below meth c hC hr hi
  have hC : zC p m c meth s ([.ref this, .int (zi p1)] : List Value).toArray cX12_days 4 RX12 D aC := hC
  generalize ([.ref this, .int (zi p1)] : List Value).toArray = args at hC ⊢
  show zS p l e ({ frames := 2, cells := 0, slots := 0, locals := 47 } : Room) s m args below meth c D aC G (zfI D aC G below args s 0 0) 4 0 0 (FM_days FU this p1 G) G 0 [(0, .ref this), (1, .int (zi p1))] []
  unfold FM_days
  refine z_gd ?_
  unfold FM_days_b
  refine z_iload_n hC 1 rfl dX12_days_0 rfl ?_
  refine z_iconst hC dX12_days_1 ?_
  refine z_sipush hC dX12_days_2 rfl ?_
  refine z_cZp (z_rS (As := [.int (zi p1), .int (zi (1)), .int (zi (360))]) hC (fun _ h1 => SM_within FU p1 (1) (360) hp1 (by decide) (by decide) h1) zM12_142 zMs_FM_within ⟨by decide, by decide⟩ rfl rfl rfl (rest := []) (Nat.le_of_ble_eq_true rfl) ⟨Nat.le_of_ble_eq_true rfl, Nat.le_of_ble_eq_true rfl⟩ rfl dX12_days_5) (fun v1 hv1 => ?_)
  refine z_if_eq (tgt := 23) hC (hv1).i dX12_days_8 (by decide) (fun _ => ?_) (fun _ => ?_)
  · refine z_iconst hC dX12_days_23 ?_
    exact z_iret hC (by decide) hr dX12_days_24
  · refine z_aload_n hC 0 rfl dX12_days_11 rfl ?_
    refine z_getI hC zF12_162 rfl dX12_days_12 (fun v2 hv2 => ?_)
    refine z_iload_n hC 1 rfl dX12_days_15 rfl ?_
    refine z_iadd hC dX12_days_16 (fun v3 hv3 => ?_)
    refine z_sipush hC dX12_days_17 rfl ?_
    refine z_icmp_le (tgt := 25) hC hv3 (by decide) dX12_days_20 (by decide) (fun _ => ?_) (fun _ => ?_)
    · refine z_iconst hC dX12_days_25 ?_
      refine z_istore_n (lo' := [(2, .int (zi (0))), (0, .ref this), (1, .int (zi p1))]) hC dX12_days_26 rfl (by decide) rfl ?_
      refine z_sub hC [1, 2, 0] (lo' := [(0, .ref this), (1, .int (zi p1)), (2, .int (zi (0)))]) rfl ?_
      exact SM_days_L27 hC hr FU FU this p1 (0) G hp1 (by decide)
    · refine z_iconst hC dX12_days_23 ?_
      exact z_iret hC (by decide) hr dX12_days_24
theorem SM_days_k {FU : Nat} {this : Nat} {p1 : Int} {G : Hp} {r1 : (Int × Hp)} (h1 : FM_days FU this p1 G = some r1) : zk G this = some (12, 0) := zgd_k (k := FM_days_b FU this p1 G) h1

set_option maxRecDepth 100000 in
theorem SM_rule_B44 {p : Program} {l : Launch} {e : Env} {s : State} {m : MethodId} {args : Array Value} {below : List Frame} {meth : Method} {c : Code} {D : va_G} {aC : Nat → ClassId} {G0 : Hp} (hC : zC p m c meth s args cX12_rule 4 RX12 D aC) (hr : meth.sig.returnType = (some .int)) (FU : Nat) (x0 : Nat) (x1 : Int) (x2 : Int) (y0 : Int) (G : Hp) (hx1 : zInI x1) (hx2 : zInI x2) (hy0 : zInI y0) : zS p l e ({ frames := 2, cells := 0, slots := 0, locals := 46 } : Room) s m args below meth c D aC G0 (zfI D aC G0 below args s 0 0) 4 0 0 (FM_rule_B44 FU x0 x1 x2 y0 G) G 44 [(0, .ref x0), (1, .int (zi x1)), (2, .int (zi x2))] [.int (zi y0)] := by
  unfold FM_rule_B44
  refine z_istore_n (lo' := [(3, .int (zi y0)), (0, .ref x0), (1, .int (zi x1)), (2, .int (zi x2))]) hC dX12_rule_44 rfl (by decide) rfl ?_
  refine z_iload_n hC 2 rfl dX12_rule_45 rfl ?_
  refine z_if_ne (tgt := 57) hC hx1 dX12_rule_46 (by decide) (fun _ => ?_) (fun _ => ?_)
  · refine z_aload_n hC 1 rfl dX12_rule_49 rfl ?_
    refine z_iload_n hC 3 rfl dX12_rule_50 rfl ?_
    refine z_putI hC hx2 zF12_19 rfl rfl dX12_rule_51 (fun G1 => ?_)
    refine z_goto (tgt := 62) hC dX12_rule_54 (by decide) ?_
    refine z_iload_n hC 0 rfl dX12_rule_62 rfl ?_
    exact z_iret hC hy0 hr dX12_rule_63
  · refine z_aload_n hC 1 rfl dX12_rule_57 rfl ?_
    refine z_iload_n hC 3 rfl dX12_rule_58 rfl ?_
    refine z_putI hC hx2 zF12_23 rfl rfl dX12_rule_59 (fun G2 => ?_)
    refine z_iload_n hC 0 rfl dX12_rule_62 rfl ?_
    exact z_iret hC hy0 hr dX12_rule_63
set_option maxRecDepth 100000 in
theorem SM_rule_B19 {p : Program} {l : Launch} {e : Env} {s : State} {m : MethodId} {args : Array Value} {below : List Frame} {meth : Method} {c : Code} {D : va_G} {aC : Nat → ClassId} {G0 : Hp} (hC : zC p m c meth s args cX12_rule 4 RX12 D aC) (hr : meth.sig.returnType = (some .int)) (FU : Nat) (x0 : Nat) (x1 : Int) (x2 : Int) (y0 : Int) (y1 : Int) (G : Hp) (hx1 : zInI x1) (hx2 : zInI x2) (hy0 : zInI y0) (hy1 : zInI y1) : zS p l e ({ frames := 2, cells := 0, slots := 0, locals := 46 } : Room) s m args below meth c D aC G0 (zfI D aC G0 below args s 0 0) 4 0 0 (FM_rule_B19 FU x0 x1 x2 y0 y1 G) G 19 [(0, .ref x0), (1, .int (zi x1)), (2, .int (zi x2))] [.int (zi y1), .int (zi y0)] := by
  unfold FM_rule_B19
  refine z_bipush hC dX12_rule_19 rfl ?_
  refine z_cZp (z_rS (As := [.int (zi y0), .int (zi y1), .int (zi (99))]) hC (fun _ h1 => SM_within FU y0 y1 (99) hy0 hy1 (by decide) h1) zM12_142 zMs_FM_within ⟨by decide, by decide⟩ rfl rfl rfl (rest := []) (Nat.le_of_ble_eq_true rfl) ⟨Nat.le_of_ble_eq_true rfl, Nat.le_of_ble_eq_true rfl⟩ rfl dX12_rule_21) (fun v1 hv1 => ?_)
  refine z_if_ne (tgt := 29) hC (hv1).i dX12_rule_24 (by decide) (fun _ => ?_) (fun _ => ?_)
  · refine z_iconst hC dX12_rule_27 ?_
    exact z_iret hC (by decide) hr dX12_rule_28
  · refine z_iload_n hC 1 rfl dX12_rule_29 rfl ?_
    refine z_if_ne (tgt := 40) hC hx1 dX12_rule_30 (by decide) (fun _ => ?_) (fun _ => ?_)
    · refine z_aload_n hC 0 rfl dX12_rule_33 rfl ?_
      refine z_getI hC zF12_19 rfl dX12_rule_34 (fun v2 hv2 => ?_)
      refine z_goto (tgt := 44) hC dX12_rule_37 (by decide) ?_
      refine z_sub hC [0, 1, 2] (lo' := [(0, .ref x0), (1, .int (zi x1)), (2, .int (zi x2))]) rfl ?_
      exact SM_rule_B44 hC hr FU x0 x1 x2 v2 G hx1 hx2 hv2
    · refine z_aload_n hC 0 rfl dX12_rule_40 rfl ?_
      refine z_getI hC zF12_23 rfl dX12_rule_41 (fun v3 hv3 => ?_)
      refine z_sub hC [0, 1, 2] (lo' := [(0, .ref x0), (1, .int (zi x1)), (2, .int (zi x2))]) rfl ?_
      exact SM_rule_B44 hC hr FU x0 x1 x2 v3 G hx1 hx2 hv3
set_option maxRecDepth 100000 in
theorem SM_rule {l : Launch} {D : va_G} {aC : Nat → ClassId} (FU : Nat) (this : Nat) (p1 : Int) (p2 : Int) (hp1 : zInI p1) (hp2 : zInI p2) {G : Hp} {r1 : (Int × Hp)} (h1 : FM_rule FU this p1 p2 G = some r1) : Met l yX12_rule (Cond.code yX12_rule cX12_rule 4 (some .int) :: zgood) ({ frames := 2, cells := 0, slots := 0, locals := 46 } : Room) (va_Pc [.ref this, .int (zi p1), .int (zi p2)] (zU D aC G)) (zQ D aC G (zInI r1.1) (some (.int (zi r1.1))) r1.2) 0 0 (zA G) := by
  refine z_met (y := yX12_rule) (b := cX12_rule) (maxL := 4) (mc := 0) (ms := 0) (ret := (some .int)) (As := [.ref this, .int (zi p1), .int (zi p2)]) (Q1 := fun r1 => zQ D aC G (zInI r1.1) (some (.int (zi r1.1))) r1.2) (X := FM_rule FU this p1 p2 G) (by decide) (Nat.le_of_ble_eq_true rfl) ?_ h1
  intro p e s m below meth c hC hr hi
  have hC : zC p m c meth s ([.ref this, .int (zi p1), .int (zi p2)] : List Value).toArray cX12_rule 4 RX12 D aC := hC
  generalize ([.ref this, .int (zi p1), .int (zi p2)] : List Value).toArray = args at hC ⊢
  show zS p l e ({ frames := 2, cells := 0, slots := 0, locals := 46 } : Room) s m args below meth c D aC G (zfI D aC G below args s 0 0) 4 0 0 (FM_rule FU this p1 p2 G) G 0 [(0, .ref this), (1, .int (zi p1)), (2, .int (zi p2))] []
  unfold FM_rule
  refine z_gd ?_
  unfold FM_rule_b
  refine z_iload_n hC 1 rfl dX12_rule_0 rfl ?_
  refine z_iconst hC dX12_rule_1 ?_
  refine z_iconst hC dX12_rule_2 ?_
  refine z_cZp (z_rS (As := [.int (zi p1), .int (zi (0)), .int (zi (1))]) hC (fun _ h1 => SM_within FU p1 (0) (1) hp1 (by decide) (by decide) h1) zM12_142 zMs_FM_within ⟨by decide, by decide⟩ rfl rfl rfl (rest := []) (Nat.le_of_ble_eq_true rfl) ⟨Nat.le_of_ble_eq_true rfl, Nat.le_of_ble_eq_true rfl⟩ rfl dX12_rule_3) (fun v1 hv1 => ?_)
  refine z_if_eq (tgt := 27) hC (hv1).i dX12_rule_6 (by decide) (fun _ => ?_) (fun _ => ?_)
  · refine z_iconst hC dX12_rule_27 ?_
    exact z_iret hC (by decide) hr dX12_rule_28
  · refine z_iload_n hC 2 rfl dX12_rule_9 rfl ?_
    refine z_iload_n hC 1 rfl dX12_rule_10 rfl ?_
    refine z_if_ne (tgt := 18) hC hp1 dX12_rule_11 (by decide) (fun _ => ?_) (fun _ => ?_)
    · refine z_iconst hC dX12_rule_14 ?_
      refine z_goto (tgt := 19) hC dX12_rule_15 (by decide) ?_
      refine z_sub hC [0, 1, 2] (lo' := [(0, .ref this), (1, .int (zi p1)), (2, .int (zi p2))]) rfl ?_
      exact SM_rule_B19 hC hr FU this p1 p2 p2 (1) G hp1 hp2 hp2 (by decide)
    · refine z_iconst hC dX12_rule_18 ?_
      refine z_sub hC [0, 1, 2] (lo' := [(0, .ref this), (1, .int (zi p1)), (2, .int (zi p2))]) rfl ?_
      exact SM_rule_B19 hC hr FU this p1 p2 p2 (0) G hp1 hp2 hp2 (by decide)
theorem SM_rule_k {FU : Nat} {this : Nat} {p1 : Int} {p2 : Int} {G : Hp} {r1 : (Int × Hp)} (h1 : FM_rule FU this p1 p2 G = some r1) : zk G this = some (12, 0) := zgd_k (k := FM_rule_b FU this p1 p2 G) h1

set_option maxRecDepth 100000 in
theorem SM_openAt_L2 {p : Program} {l : Launch} {e : Env} {s : State} {m : MethodId} {args : Array Value} {below : List Frame} {meth : Method} {c : Code} {D : va_G} {aC : Nat → ClassId} {G0 : Hp} (hC : zC p m c meth s args cX12_openAt 3 RX12 D aC) (hr : meth.sig.returnType = (some .int)) (FU : Nat) : ∀ (n : Nat) (x0 : Nat) (x1 : Int) (x2 : Int) (hx1 : zInI x1) (hx2 : zInI x2), zS p l e ({ frames := 2, cells := 0, slots := 0, locals := 45 } : Room) s m args below meth c D aC G0 (fun r1 => zfI D aC G0 below args s 0 0 (r1, G0)) 3 0 0 (FM_openAt_L2 FU n x0 x1 x2 G0) G0 2 [(0, .ref x0), (1, .int (zi x1)), (2, .int (zi x2))] [] := by
  intro n
  induction n with
  | zero => intros; exact z_none
  | succ n ih =>
    intro x0 x1 x2 hx1 hx2
    rw [FM_openAt_L2]
    refine z_iload_n hC 2 rfl dX12_openAt_2 rfl ?_
    refine z_aload_n hC 0 rfl dX12_openAt_3 rfl ?_
    refine z_getI hC zF12_139 rfl dX12_openAt_4 (fun v1 hv1 => ?_)
    refine z_icmp_ge (tgt := 36) hC hx2 hv1 dX12_openAt_7 (by decide) (fun _ => ?_) (fun _ => ?_)
    · refine z_aload_n hC 0 rfl dX12_openAt_10 rfl ?_
      refine z_iload_n hC 2 rfl dX12_openAt_11 rfl ?_
      refine z_cZp (z_rV (q := x0) (t := 12) (As := [.int (zi x2)]) hC (fun _ h1 => SM_isOpen FU x0 x2 hx2 h1) (fun _ h1 => SM_isOpen_k h1) rfl rfl zM12_176 zMv_FM_isOpen ⟨by decide, by decide⟩ rfl rfl rfl (rest := []) (Nat.le_of_ble_eq_true rfl) ⟨Nat.le_of_ble_eq_true rfl, Nat.le_of_ble_eq_true rfl⟩ rfl dX12_openAt_12) (fun v2 hv2 => ?_)
      refine z_if_eq (tgt := 30) hC (hv2).i dX12_openAt_15 (by decide) (fun _ => ?_) (fun _ => ?_)
      · refine z_iinc (lo' := fun v3 => [(2, .int (zi v3)), (0, .ref x0), (1, .int (zi x1))]) hC 2 dX12_openAt_30 rfl (by decide) (fun _ => rfl) (fun v3 hv3 => ?_)
        refine z_goto (tgt := 2) hC dX12_openAt_33 (by decide) ?_
        refine z_sub hC [1, 2, 0] (lo' := [(0, .ref x0), (1, .int (zi x1)), (2, .int (zi v3))]) rfl ?_
        exact ih x0 x1 v3 hx1 hv3
      · refine z_aload_n hC 0 rfl dX12_openAt_18 rfl ?_
        refine z_getQ hC zF12_26 rfl dX12_openAt_19 (fun v4 => ?_)
        refine z_iload_n hC 2 rfl dX12_openAt_22 rfl ?_
        refine z_iald hC hx2 dX12_openAt_23 (fun v5 hv5 => ?_)
        refine z_iload_n hC 1 rfl dX12_openAt_24 rfl ?_
        refine z_icmp_ne (tgt := 30) hC hv5 hx1 dX12_openAt_25 (by decide) (fun _ => ?_) (fun _ => ?_)
        · refine z_iload_n hC 2 rfl dX12_openAt_28 rfl ?_
          exact z_iretp hC hx2 hr dX12_openAt_29
        · refine z_iinc (lo' := fun v6 => [(2, .int (zi v6)), (0, .ref x0), (1, .int (zi x1))]) hC 2 dX12_openAt_30 rfl (by decide) (fun _ => rfl) (fun v6 hv6 => ?_)
          refine z_goto (tgt := 2) hC dX12_openAt_33 (by decide) ?_
          refine z_sub hC [1, 2, 0] (lo' := [(0, .ref x0), (1, .int (zi x1)), (2, .int (zi v6))]) rfl ?_
          exact ih x0 x1 v6 hx1 hv6
    · refine z_iconst hC dX12_openAt_36 ?_
      exact z_iretp hC (by decide) hr dX12_openAt_37
set_option maxRecDepth 100000 in
theorem SM_openAt {l : Launch} {D : va_G} {aC : Nat → ClassId} (FU : Nat) (this : Nat) (p1 : Int) (hp1 : zInI p1) {G : Hp} {r1 : Int} (h1 : FM_openAt FU this p1 G = some r1) : Met l yX12_openAt (Cond.code yX12_openAt cX12_openAt 3 (some .int) :: zgood) ({ frames := 2, cells := 0, slots := 0, locals := 45 } : Room) (va_Pc [.ref this, .int (zi p1)] (zU D aC G)) (zQ D aC G (zInI r1) (some (.int (zi r1))) G) 0 0 (zA G) := by
  refine z_met (y := yX12_openAt) (b := cX12_openAt) (maxL := 3) (mc := 0) (ms := 0) (ret := (some .int)) (As := [.ref this, .int (zi p1)]) (Q1 := fun r1 => zQ D aC G (zInI r1) (some (.int (zi r1))) G) (X := FM_openAt FU this p1 G) (by decide) (Nat.le_of_ble_eq_true rfl) ?_ h1
  intro p e s m below meth c hC hr hi
  have hC : zC p m c meth s ([.ref this, .int (zi p1)] : List Value).toArray cX12_openAt 3 RX12 D aC := hC
  generalize ([.ref this, .int (zi p1)] : List Value).toArray = args at hC ⊢
  show zS p l e ({ frames := 2, cells := 0, slots := 0, locals := 45 } : Room) s m args below meth c D aC G (fun r1 => zfI D aC G below args s 0 0 (r1, G)) 3 0 0 (FM_openAt FU this p1 G) G 0 [(0, .ref this), (1, .int (zi p1))] []
  unfold FM_openAt
  refine z_gd ?_
  unfold FM_openAt_b
  refine z_iconst hC dX12_openAt_0 ?_
  refine z_istore_n (lo' := [(2, .int (zi (0))), (0, .ref this), (1, .int (zi p1))]) hC dX12_openAt_1 rfl (by decide) rfl ?_
  refine z_sub hC [1, 2, 0] (lo' := [(0, .ref this), (1, .int (zi p1)), (2, .int (zi (0)))]) rfl ?_
  exact SM_openAt_L2 hC hr FU FU this p1 (0) hp1 (by decide)
theorem SM_openAt_k {FU : Nat} {this : Nat} {p1 : Int} {G : Hp} {r1 : Int} (h1 : FM_openAt FU this p1 G = some r1) : zk G this = some (12, 0) := zgd_k (k := FM_openAt_b FU this p1 G) h1

set_option maxRecDepth 100000 in
theorem SM_landOf_B83 {p : Program} {l : Launch} {e : Env} {s : State} {m : MethodId} {args : Array Value} {below : List Frame} {meth : Method} {c : Code} {D : va_G} {aC : Nat → ClassId} {G0 : Hp} (hC : zC p m c meth s args cX12_landOf 6 RX12 D aC) (hr : meth.sig.returnType = (some .int)) (FU : Nat) (kL7 : Nat → Int → Int → Int → Int → Hp → Option (Int × Hp)) (hkL7 : ∀ (a0 : Nat) (a1 : Int) (a2 : Int) (a3 : Int) (a4 : Int) (G : Hp), zInI a1 → zInI a2 → zInI a3 → zInI a4 → zS p l e ({ frames := 3, cells := 0, slots := 0, locals := 70 } : Room) s m args below meth c D aC G0 (zfI D aC G0 below args s 0 0) 6 0 0 (kL7 a0 a1 a2 a3 a4 G) G 7 [(0, .ref a0), (1, .int (zi a1)), (2, .int (zi a2)), (3, .int (zi a3)), (4, .int (zi a4))] []) (x0 : Nat) (x1 : Int) (x4 : Int) (x5 : Int) (G : Hp) (hx1 : zInI x1) (hx4 : zInI x4) (hx5 : zInI x5) : zS p l e ({ frames := 3, cells := 0, slots := 0, locals := 70 } : Room) s m args below meth c D aC G0 (zfI D aC G0 below args s 0 0) 6 0 0 (FM_landOf_B83 FU kL7 x0 x1 x4 x5 G) G 83 [(0, .ref x0), (1, .int (zi x1)), (4, .int (zi x4)), (5, .int (zi x5))] [] := by
  unfold FM_landOf_B83
  refine z_iload hC 2 rfl dX12_landOf_83 ?_
  refine z_istore_n (lo' := [(2, .int (zi x4)), (0, .ref x0), (1, .int (zi x1)), (4, .int (zi x4)), (5, .int (zi x5))]) hC dX12_landOf_85 rfl (by decide) rfl ?_
  refine z_iload hC 4 rfl dX12_landOf_86 ?_
  refine z_istore_n (lo' := [(3, .int (zi x5)), (2, .int (zi x4)), (0, .ref x0), (1, .int (zi x1)), (4, .int (zi x4)), (5, .int (zi x5))]) hC dX12_landOf_88 rfl (by decide) rfl ?_
  refine z_iinc (lo' := fun v1 => [(4, .int (zi v1)), (3, .int (zi x5)), (2, .int (zi x4)), (0, .ref x0), (1, .int (zi x1)), (5, .int (zi x5))]) hC 4 dX12_landOf_89 rfl (by decide) (fun _ => rfl) (fun v1 hv1 => ?_)
  refine z_goto (tgt := 7) hC dX12_landOf_92 (by decide) ?_
  refine z_sub hC [3, 4, 2, 1, 0] (lo' := [(0, .ref x0), (1, .int (zi x1)), (2, .int (zi x4)), (3, .int (zi x5)), (4, .int (zi v1))]) rfl ?_
  exact hkL7 x0 x1 x4 x5 v1 G hx1 hx4 hx5 hv1
set_option maxRecDepth 100000 in
theorem SM_landOf_B52 {p : Program} {l : Launch} {e : Env} {s : State} {m : MethodId} {args : Array Value} {below : List Frame} {meth : Method} {c : Code} {D : va_G} {aC : Nat → ClassId} {G0 : Hp} (hC : zC p m c meth s args cX12_landOf 6 RX12 D aC) (hr : meth.sig.returnType = (some .int)) (FU : Nat) (kL7 : Nat → Int → Int → Int → Int → Hp → Option (Int × Hp)) (hkL7 : ∀ (a0 : Nat) (a1 : Int) (a2 : Int) (a3 : Int) (a4 : Int) (G : Hp), zInI a1 → zInI a2 → zInI a3 → zInI a4 → zS p l e ({ frames := 3, cells := 0, slots := 0, locals := 70 } : Room) s m args below meth c D aC G0 (zfI D aC G0 below args s 0 0) 6 0 0 (kL7 a0 a1 a2 a3 a4 G) G 7 [(0, .ref a0), (1, .int (zi a1)), (2, .int (zi a2)), (3, .int (zi a3)), (4, .int (zi a4))] []) (x0 : Nat) (x1 : Int) (x2 : Int) (x3 : Int) (x4 : Int) (y0 : Int) (G : Hp) (hx1 : zInI x1) (hx2 : zInI x2) (hx3 : zInI x3) (hx4 : zInI x4) (hy0 : zInI y0) : zS p l e ({ frames := 3, cells := 0, slots := 0, locals := 70 } : Room) s m args below meth c D aC G0 (zfI D aC G0 below args s 0 0) 6 0 0 (FM_landOf_B52 FU kL7 x0 x1 x2 x3 x4 y0 G) G 52 [(0, .ref x0), (1, .int (zi x1)), (2, .int (zi x2)), (3, .int (zi x3)), (4, .int (zi x4))] [.int (zi y0)] := by
  unfold FM_landOf_B52
  refine z_istore (lo' := [(5, .int (zi y0)), (0, .ref x0), (1, .int (zi x1)), (2, .int (zi x2)), (3, .int (zi x3)), (4, .int (zi x4))]) hC dX12_landOf_52 (by decide) rfl ?_
  refine z_iload hC 0 rfl dX12_landOf_54 ?_
  refine z_ldc (z := 1000000) hC dX12_landOf_56 zc12_154 ?_
  refine z_icmp_ge (tgt := 89) hC hy0 (by decide) dX12_landOf_58 (by decide) (fun _ => ?_) (fun _ => ?_)
  · refine z_iload hC 0 rfl dX12_landOf_61 ?_
    refine z_aload_n hC 1 rfl dX12_landOf_63 rfl ?_
    refine z_getQ hC zF12_41 rfl dX12_landOf_64 (fun v1 => ?_)
    refine z_iload hC 5 rfl dX12_landOf_67 ?_
    refine z_iald hC hx4 dX12_landOf_69 (fun v2 hv2 => ?_)
    refine z_icmp_gt (tgt := 89) hC hy0 hv2 dX12_landOf_70 (by decide) (fun _ => ?_) (fun _ => ?_)
    · refine z_iload_n hC 3 rfl dX12_landOf_73 rfl ?_
      refine z_if_lt (tgt := 83) hC hx2 dX12_landOf_74 (by decide) (fun _ => ?_) (fun _ => ?_)
      · refine z_sub hC [1, 2, 5, 0] (lo' := [(0, .ref x0), (1, .int (zi x1)), (4, .int (zi x4)), (5, .int (zi y0))]) rfl ?_
        exact SM_landOf_B83 hC hr FU kL7 hkL7 x0 x1 x4 y0 G hx1 hx4 hy0
      · refine z_iload hC 0 rfl dX12_landOf_77 ?_
        refine z_iload_n hC 4 rfl dX12_landOf_79 rfl ?_
        refine z_icmp_ge (tgt := 89) hC hy0 hx3 dX12_landOf_80 (by decide) (fun _ => ?_) (fun _ => ?_)
        · refine z_sub hC [1, 2, 5, 0] (lo' := [(0, .ref x0), (1, .int (zi x1)), (4, .int (zi x4)), (5, .int (zi y0))]) rfl ?_
          exact SM_landOf_B83 hC hr FU kL7 hkL7 x0 x1 x4 y0 G hx1 hx4 hy0
        · refine z_iinc (lo' := fun v3 => [(4, .int (zi v3)), (5, .int (zi y0)), (0, .ref x0), (1, .int (zi x1)), (2, .int (zi x2)), (3, .int (zi x3))]) hC 5 dX12_landOf_89 rfl (by decide) (fun _ => rfl) (fun v3 hv3 => ?_)
          refine z_goto (tgt := 7) hC dX12_landOf_92 (by decide) ?_
          refine z_sub hC [2, 3, 4, 5, 0] (lo' := [(0, .ref x0), (1, .int (zi x1)), (2, .int (zi x2)), (3, .int (zi x3)), (4, .int (zi v3))]) rfl ?_
          exact hkL7 x0 x1 x2 x3 v3 G hx1 hx2 hx3 hv3
    · refine z_iinc (lo' := fun v4 => [(4, .int (zi v4)), (5, .int (zi y0)), (0, .ref x0), (1, .int (zi x1)), (2, .int (zi x2)), (3, .int (zi x3))]) hC 5 dX12_landOf_89 rfl (by decide) (fun _ => rfl) (fun v4 hv4 => ?_)
      refine z_goto (tgt := 7) hC dX12_landOf_92 (by decide) ?_
      refine z_sub hC [2, 3, 4, 5, 0] (lo' := [(0, .ref x0), (1, .int (zi x1)), (2, .int (zi x2)), (3, .int (zi x3)), (4, .int (zi v4))]) rfl ?_
      exact hkL7 x0 x1 x2 x3 v4 G hx1 hx2 hx3 hv4
  · refine z_iinc (lo' := fun v5 => [(4, .int (zi v5)), (5, .int (zi y0)), (0, .ref x0), (1, .int (zi x1)), (2, .int (zi x2)), (3, .int (zi x3))]) hC 5 dX12_landOf_89 rfl (by decide) (fun _ => rfl) (fun v5 hv5 => ?_)
    refine z_goto (tgt := 7) hC dX12_landOf_92 (by decide) ?_
    refine z_sub hC [2, 3, 4, 5, 0] (lo' := [(0, .ref x0), (1, .int (zi x1)), (2, .int (zi x2)), (3, .int (zi x3)), (4, .int (zi v5))]) rfl ?_
    exact hkL7 x0 x1 x2 x3 v5 G hx1 hx2 hx3 hv5
set_option maxRecDepth 100000 in
theorem SM_landOf_B50 {p : Program} {l : Launch} {e : Env} {s : State} {m : MethodId} {args : Array Value} {below : List Frame} {meth : Method} {c : Code} {D : va_G} {aC : Nat → ClassId} {G0 : Hp} (hC : zC p m c meth s args cX12_landOf 6 RX12 D aC) (hr : meth.sig.returnType = (some .int)) (FU : Nat) (kL7 : Nat → Int → Int → Int → Int → Hp → Option (Int × Hp)) (hkL7 : ∀ (a0 : Nat) (a1 : Int) (a2 : Int) (a3 : Int) (a4 : Int) (G : Hp), zInI a1 → zInI a2 → zInI a3 → zInI a4 → zS p l e ({ frames := 3, cells := 0, slots := 0, locals := 70 } : Room) s m args below meth c D aC G0 (zfI D aC G0 below args s 0 0) 6 0 0 (kL7 a0 a1 a2 a3 a4 G) G 7 [(0, .ref a0), (1, .int (zi a1)), (2, .int (zi a2)), (3, .int (zi a3)), (4, .int (zi a4))] []) (x0 : Nat) (x1 : Int) (x2 : Int) (x3 : Int) (x4 : Int) (G : Hp) (hx1 : zInI x1) (hx2 : zInI x2) (hx3 : zInI x3) (hx4 : zInI x4) : zS p l e ({ frames := 3, cells := 0, slots := 0, locals := 70 } : Room) s m args below meth c D aC G0 (zfI D aC G0 below args s 0 0) 6 0 0 (FM_landOf_B50 FU kL7 x0 x1 x2 x3 x4 G) G 50 [(0, .ref x0), (1, .int (zi x1)), (2, .int (zi x2)), (3, .int (zi x3)), (4, .int (zi x4))] [] := by
  unfold FM_landOf_B50
  refine z_ldc (z := 1000000) hC dX12_landOf_50 zc12_154 ?_
  refine z_sub hC [0, 1, 2, 3, 4] (lo' := [(0, .ref x0), (1, .int (zi x1)), (2, .int (zi x2)), (3, .int (zi x3)), (4, .int (zi x4))]) rfl ?_
  exact SM_landOf_B52 hC hr FU kL7 hkL7 x0 x1 x2 x3 x4 (1000000) G hx1 hx2 hx3 hx4 (by decide)
set_option maxRecDepth 100000 in
theorem SM_landOf_L7 {p : Program} {l : Launch} {e : Env} {s : State} {m : MethodId} {args : Array Value} {below : List Frame} {meth : Method} {c : Code} {D : va_G} {aC : Nat → ClassId} {G0 : Hp} (hC : zC p m c meth s args cX12_landOf 6 RX12 D aC) (hr : meth.sig.returnType = (some .int)) (FU : Nat) : ∀ (n : Nat) (x0 : Nat) (x1 : Int) (x2 : Int) (x3 : Int) (x4 : Int) (G : Hp) (hx1 : zInI x1) (hx2 : zInI x2) (hx3 : zInI x3) (hx4 : zInI x4), zS p l e ({ frames := 3, cells := 0, slots := 0, locals := 70 } : Room) s m args below meth c D aC G0 (zfI D aC G0 below args s 0 0) 6 0 0 (FM_landOf_L7 FU n x0 x1 x2 x3 x4 G) G 7 [(0, .ref x0), (1, .int (zi x1)), (2, .int (zi x2)), (3, .int (zi x3)), (4, .int (zi x4))] [] := by
  intro n
  induction n with
  | zero => intros; exact z_none
  | succ n ih =>
    intro x0 x1 x2 x3 x4 G hx1 hx2 hx3 hx4
    rw [FM_landOf_L7]
    refine z_iload hC 4 rfl dX12_landOf_7 ?_
    refine z_aload_n hC 0 rfl dX12_landOf_9 rfl ?_
    refine z_getI hC zF12_139 rfl dX12_landOf_10 (fun v1 hv1 => ?_)
    refine z_icmp_ge (tgt := 95) hC hx4 hv1 dX12_landOf_13 (by decide) (fun _ => ?_) (fun _ => ?_)
    · refine z_aload_n hC 0 rfl dX12_landOf_16 rfl ?_
      refine z_iload hC 4 rfl dX12_landOf_17 ?_
      refine z_cZp (z_rV (q := x0) (t := 12) (As := [.int (zi x4)]) hC (fun _ h1 => SM_isOpen FU x0 x4 hx4 h1) (fun _ h1 => SM_isOpen_k h1) rfl rfl zM12_176 zMv_FM_isOpen ⟨by decide, by decide⟩ rfl rfl rfl (rest := []) (Nat.le_of_ble_eq_true rfl) ⟨Nat.le_of_ble_eq_true rfl, Nat.le_of_ble_eq_true rfl⟩ rfl dX12_landOf_19) (fun v2 hv2 => ?_)
      refine z_if_eq (tgt := 50) hC (hv2).i dX12_landOf_22 (by decide) (fun _ => ?_) (fun _ => ?_)
      · refine z_sub hC [0, 1, 2, 3, 4] (lo' := [(0, .ref x0), (1, .int (zi x1)), (2, .int (zi x2)), (3, .int (zi x3)), (4, .int (zi x4))]) rfl ?_
        exact SM_landOf_B50 hC hr FU (FM_landOf_L7 FU n) ih x0 x1 x2 x3 x4 G hx1 hx2 hx3 hx4
      · refine z_aload_n hC 0 rfl dX12_landOf_25 rfl ?_
        refine z_getQ hC zF12_41 rfl dX12_landOf_26 (fun v3 => ?_)
        refine z_iload hC 4 rfl dX12_landOf_29 ?_
        refine z_iald hC hx4 dX12_landOf_31 (fun v4 hv4 => ?_)
        refine z_if_le (tgt := 50) hC hv4 dX12_landOf_32 (by decide) (fun _ => ?_) (fun _ => ?_)
        · refine z_sub hC [0, 1, 2, 3, 4] (lo' := [(0, .ref x0), (1, .int (zi x1)), (2, .int (zi x2)), (3, .int (zi x3)), (4, .int (zi x4))]) rfl ?_
          exact SM_landOf_B50 hC hr FU (FM_landOf_L7 FU n) ih x0 x1 x2 x3 x4 G hx1 hx2 hx3 hx4
        · refine z_aload_n hC 0 rfl dX12_landOf_35 rfl ?_
          refine z_aload_n hC 0 rfl dX12_landOf_36 rfl ?_
          refine z_getQ hC zF12_26 rfl dX12_landOf_37 (fun v5 => ?_)
          refine z_iload hC 4 rfl dX12_landOf_40 ?_
          refine z_iald hC hx4 dX12_landOf_42 (fun v6 hv6 => ?_)
          refine z_iload_n hC 1 rfl dX12_landOf_43 rfl ?_
          refine z_cI (z_rV (q := x0) (t := 12) (As := [.int (zi v6), .int (zi x1)]) hC (fun _ h1 => SM_wayOf FU x0 v6 x1 hv6 hx1 h1) (fun _ h1 => SM_wayOf_k h1) rfl rfl zM12_158 zMv_FM_wayOf ⟨by decide, by decide⟩ rfl rfl rfl (rest := []) (Nat.le_of_ble_eq_true rfl) ⟨Nat.le_of_ble_eq_true rfl, Nat.le_of_ble_eq_true rfl⟩ rfl dX12_landOf_44) (fun v8 G7 hv8 => ?_)
          refine z_goto (tgt := 52) hC dX12_landOf_47 (by decide) ?_
          refine z_sub hC [0, 1, 2, 3, 4] (lo' := [(0, .ref x0), (1, .int (zi x1)), (2, .int (zi x2)), (3, .int (zi x3)), (4, .int (zi x4))]) rfl ?_
          exact SM_landOf_B52 hC hr FU (FM_landOf_L7 FU n) ih x0 x1 x2 x3 x4 v8 G7 hx1 hx2 hx3 hx4 hv8
    · refine z_iload_n hC 2 rfl dX12_landOf_95 rfl ?_
      exact z_iret hC hx2 hr dX12_landOf_96
set_option maxRecDepth 100000 in
theorem SM_landOf {l : Launch} {D : va_G} {aC : Nat → ClassId} (FU : Nat) (this : Nat) (p1 : Int) (hp1 : zInI p1) {G : Hp} {r1 : (Int × Hp)} (h1 : FM_landOf FU this p1 G = some r1) : Met l yX12_landOf (Cond.code yX12_landOf cX12_landOf 6 (some .int) :: zgood) ({ frames := 3, cells := 0, slots := 0, locals := 70 } : Room) (va_Pc [.ref this, .int (zi p1)] (zU D aC G)) (zQ D aC G (zInI r1.1) (some (.int (zi r1.1))) r1.2) 0 0 (zA G) := by
  refine z_met (y := yX12_landOf) (b := cX12_landOf) (maxL := 6) (mc := 0) (ms := 0) (ret := (some .int)) (As := [.ref this, .int (zi p1)]) (Q1 := fun r1 => zQ D aC G (zInI r1.1) (some (.int (zi r1.1))) r1.2) (X := FM_landOf FU this p1 G) (by decide) (Nat.le_of_ble_eq_true rfl) ?_ h1
  intro p e s m below meth c hC hr hi
  have hC : zC p m c meth s ([.ref this, .int (zi p1)] : List Value).toArray cX12_landOf 6 RX12 D aC := hC
  generalize ([.ref this, .int (zi p1)] : List Value).toArray = args at hC ⊢
  show zS p l e ({ frames := 3, cells := 0, slots := 0, locals := 70 } : Room) s m args below meth c D aC G (zfI D aC G below args s 0 0) 6 0 0 (FM_landOf FU this p1 G) G 0 [(0, .ref this), (1, .int (zi p1))] []
  unfold FM_landOf
  refine z_gd ?_
  unfold FM_landOf_b
  refine z_iconst hC dX12_landOf_0 ?_
  refine z_istore_n (lo' := [(2, .int (zi (-1))), (0, .ref this), (1, .int (zi p1))]) hC dX12_landOf_1 rfl (by decide) rfl ?_
  refine z_iconst hC dX12_landOf_2 ?_
  refine z_istore_n (lo' := [(3, .int (zi (0))), (2, .int (zi (-1))), (0, .ref this), (1, .int (zi p1))]) hC dX12_landOf_3 rfl (by decide) rfl ?_
  refine z_iconst hC dX12_landOf_4 ?_
  refine z_istore (lo' := [(4, .int (zi (0))), (3, .int (zi (0))), (2, .int (zi (-1))), (0, .ref this), (1, .int (zi p1))]) hC dX12_landOf_5 (by decide) rfl ?_
  refine z_sub hC [3, 4, 2, 1, 0] (lo' := [(0, .ref this), (1, .int (zi p1)), (2, .int (zi (-1))), (3, .int (zi (0))), (4, .int (zi (0)))]) rfl ?_
  exact SM_landOf_L7 hC hr FU FU this p1 (-1) (0) (0) G hp1 (by decide) (by decide) (by decide)
theorem SM_landOf_k {FU : Nat} {this : Nat} {p1 : Int} {G : Hp} {r1 : (Int × Hp)} (h1 : FM_landOf FU this p1 G = some r1) : zk G this = some (12, 0) := zgd_k (k := FM_landOf_b FU this p1 G) h1

set_option maxRecDepth 100000 in
theorem SM_isOthers {l : Launch} {D : va_G} {aC : Nat → ClassId} (FU : Nat) (this : Nat) (p1 : Int) (p2 : Int) (hp1 : zInI p1) (hp2 : zInI p2) {G : Hp} {r1 : (Int × Hp)} (h1 : FM_isOthers FU this p1 p2 G = some r1) : Met l yX12_isOthers (Cond.code yX12_isOthers cX12_isOthers 4 (some .boolean) :: zgood) ({ frames := 4, cells := 0, slots := 0, locals := 95 } : Room) (va_Pc [.ref this, .int (zi p1), .int (zi p2)] (zU D aC G)) (zQ D aC G (zIn01 r1.1) (some (.int (zi r1.1))) r1.2) 0 0 (zA G) := by
  refine z_met (y := yX12_isOthers) (b := cX12_isOthers) (maxL := 4) (mc := 0) (ms := 0) (ret := (some .boolean)) (As := [.ref this, .int (zi p1), .int (zi p2)]) (Q1 := fun r1 => zQ D aC G (zIn01 r1.1) (some (.int (zi r1.1))) r1.2) (X := FM_isOthers FU this p1 p2 G) (by decide) (Nat.le_of_ble_eq_true rfl) ?_ h1
  intro p e s m below meth c hC hr hi
  have hC : zC p m c meth s ([.ref this, .int (zi p1), .int (zi p2)] : List Value).toArray cX12_isOthers 4 RX12 D aC := hC
  generalize ([.ref this, .int (zi p1), .int (zi p2)] : List Value).toArray = args at hC ⊢
  show zS p l e ({ frames := 4, cells := 0, slots := 0, locals := 95 } : Room) s m args below meth c D aC G (zfZ D aC G below args s 0 0) 4 0 0 (FM_isOthers FU this p1 p2 G) G 0 [(0, .ref this), (1, .int (zi p1)), (2, .int (zi p2))] []
  unfold FM_isOthers
  refine z_gd ?_
  unfold FM_isOthers_b
  refine z_aload_n hC 0 rfl dX12_isOthers_0 rfl ?_
  refine z_iload_n hC 1 rfl dX12_isOthers_1 rfl ?_
  refine z_cI (z_rV (q := this) (t := 12) (As := [.int (zi p1)]) hC (fun _ h1 => SM_landOf FU this p1 hp1 h1) (fun _ h1 => SM_landOf_k h1) rfl rfl zM12_179 zMv_FM_landOf ⟨by decide, by decide⟩ rfl rfl rfl (rest := []) (Nat.le_of_ble_eq_true rfl) ⟨Nat.le_of_ble_eq_true rfl, Nat.le_of_ble_eq_true rfl⟩ rfl dX12_isOthers_2) (fun v2 G1 hv2 => ?_)
  refine z_istore_n (lo' := [(3, .int (zi v2)), (0, .ref this), (1, .int (zi p1)), (2, .int (zi p2))]) hC dX12_isOthers_5 rfl (by decide) rfl ?_
  refine z_iload_n hC 0 rfl dX12_isOthers_6 rfl ?_
  refine z_if_lt (tgt := 24) hC hv2 dX12_isOthers_7 (by decide) (fun _ => ?_) (fun _ => ?_)
  · refine z_iconst hC dX12_isOthers_24 ?_
    exact z_zret hC hr dX12_isOthers_25
  · refine z_aload_n hC 1 rfl dX12_isOthers_10 rfl ?_
    refine z_getQ hC zF12_29 rfl dX12_isOthers_11 (fun v3 => ?_)
    refine z_iload_n hC 0 rfl dX12_isOthers_14 rfl ?_
    refine z_iald hC hv2 dX12_isOthers_15 (fun v4 hv4 => ?_)
    refine z_iload_n hC 3 rfl dX12_isOthers_16 rfl ?_
    refine z_icmp_eq (tgt := 24) hC hv4 hp2 dX12_isOthers_17 (by decide) (fun _ => ?_) (fun _ => ?_)
    · refine z_iconst hC dX12_isOthers_24 ?_
      exact z_zret hC hr dX12_isOthers_25
    · refine z_iconst hC dX12_isOthers_20 ?_
      refine z_goto (tgt := 25) hC dX12_isOthers_21 (by decide) ?_
      exact z_zret hC hr dX12_isOthers_25
theorem SM_isOthers_k {FU : Nat} {this : Nat} {p1 : Int} {p2 : Int} {G : Hp} {r1 : (Int × Hp)} (h1 : FM_isOthers FU this p1 p2 G = some r1) : zk G this = some (12, 0) := zgd_k (k := FM_isOthers_b FU this p1 p2 G) h1

set_option maxRecDepth 100000 in
theorem SM_isWho {l : Launch} {D : va_G} {aC : Nat → ClassId} (FU : Nat) (p1 : Int) (hp1 : zInI p1) {G : Hp} {r1 : Int} (h1 : FM_isWho FU p1 G = some r1) : Met l yX12_isWho (Cond.code yX12_isWho cX12_isWho 1 (some .boolean) :: zgood) ({ frames := 1, cells := 0, slots := 0, locals := 24 } : Room) (va_Pc [.int (zi p1)] (zU D aC G)) (zQ D aC G (zIn01 r1) (some (.int (zi r1))) G) 0 0 (zA G) := by
  refine z_met (y := yX12_isWho) (b := cX12_isWho) (maxL := 1) (mc := 0) (ms := 0) (ret := (some .boolean)) (As := [.int (zi p1)]) (Q1 := fun r1 => zQ D aC G (zIn01 r1) (some (.int (zi r1))) G) (X := FM_isWho FU p1 G) (by decide) (Nat.le_of_ble_eq_true rfl) ?_ h1
  intro p e s m below meth c hC hr hi
  have hC : zC p m c meth s ([.int (zi p1)] : List Value).toArray cX12_isWho 1 RX12 D aC := hC
  generalize ([.int (zi p1)] : List Value).toArray = args at hC ⊢
  show zS p l e ({ frames := 1, cells := 0, slots := 0, locals := 24 } : Room) s m args below meth c D aC G (fun r1 => zfZ D aC G below args s 0 0 (r1, G)) 1 0 0 (FM_isWho FU p1 G) G 0 [(0, .int (zi p1))] []
  unfold FM_isWho
  refine z_iload_n hC 0 rfl dX12_isWho_0 rfl ?_
  refine z_if_lt (tgt := 24) hC hp1 dX12_isWho_1 (by decide) (fun _ => ?_) (fun _ => ?_)
  · refine z_iconst hC dX12_isWho_24 ?_
    exact z_zretp hC hr dX12_isWho_25
  · refine z_iload_n hC 0 rfl dX12_isWho_4 rfl ?_
    refine z_bipush hC dX12_isWho_5 rfl ?_
    refine z_idiv hC hp1 (by decide) dX12_isWho_7 (fun v1 hv1 => ?_)
    refine z_bipush hC dX12_isWho_8 rfl ?_
    refine z_icmp_ge (tgt := 24) hC hv1 (by decide) dX12_isWho_10 (by decide) (fun _ => ?_) (fun _ => ?_)
    · refine z_iload_n hC 0 rfl dX12_isWho_13 rfl ?_
      refine z_bipush hC dX12_isWho_14 rfl ?_
      refine z_irem hC hp1 (by decide) dX12_isWho_16 (fun v2 hv2 => ?_)
      refine z_if_le (tgt := 24) hC hv2 dX12_isWho_17 (by decide) (fun _ => ?_) (fun _ => ?_)
      · refine z_iconst hC dX12_isWho_24 ?_
        exact z_zretp hC hr dX12_isWho_25
      · refine z_iconst hC dX12_isWho_20 ?_
        refine z_goto (tgt := 25) hC dX12_isWho_21 (by decide) ?_
        exact z_zretp hC hr dX12_isWho_25
    · refine z_iconst hC dX12_isWho_24 ?_
      exact z_zretp hC hr dX12_isWho_25

set_option maxRecDepth 100000 in
theorem SM_open {l : Launch} {D : va_G} {aC : Nat → ClassId} (FU : Nat) (this : Nat) (p1 : Int) (p2 : Int) (hp1 : zInI p1) (hp2 : zInI p2) {G : Hp} {r1 : (Int × Hp)} (h1 : FM_open FU this p1 p2 G = some r1) : Met l yX12_open (Cond.code yX12_open cX12_open 3 (some .int) :: zgood) ({ frames := 5, cells := 0, slots := 0, locals := 118 } : Room) (va_Pc [.ref this, .int (zi p1), .int (zi p2)] (zU D aC G)) (zQ D aC G (zInI r1.1) (some (.int (zi r1.1))) r1.2) 0 0 (zA G) := by
  refine z_met (y := yX12_open) (b := cX12_open) (maxL := 3) (mc := 0) (ms := 0) (ret := (some .int)) (As := [.ref this, .int (zi p1), .int (zi p2)]) (Q1 := fun r1 => zQ D aC G (zInI r1.1) (some (.int (zi r1.1))) r1.2) (X := FM_open FU this p1 p2 G) (by decide) (Nat.le_of_ble_eq_true rfl) ?_ h1
  intro p e s m below meth c hC hr hi
  have hC : zC p m c meth s ([.ref this, .int (zi p1), .int (zi p2)] : List Value).toArray cX12_open 3 RX12 D aC := hC
  generalize ([.ref this, .int (zi p1), .int (zi p2)] : List Value).toArray = args at hC ⊢
  show zS p l e ({ frames := 5, cells := 0, slots := 0, locals := 118 } : Room) s m args below meth c D aC G (zfI D aC G below args s 0 0) 3 0 0 (FM_open FU this p1 p2 G) G 0 [(0, .ref this), (1, .int (zi p1)), (2, .int (zi p2))] []
  unfold FM_open
  refine z_gd ?_
  unfold FM_open_b
  refine z_aload_n hC 0 rfl dX12_open_0 rfl ?_
  refine z_iload_n hC 1 rfl dX12_open_1 rfl ?_
  refine z_cZp (z_rV (q := this) (t := 12) (As := [.int (zi p1)]) hC (fun _ h1 => SM_isPlace FU this p1 hp1 h1) (fun _ h1 => SM_isPlace_k h1) rfl rfl zM12_150 zMv_FM_isPlace ⟨by decide, by decide⟩ rfl rfl rfl (rest := []) (Nat.le_of_ble_eq_true rfl) ⟨Nat.le_of_ble_eq_true rfl, Nat.le_of_ble_eq_true rfl⟩ rfl dX12_open_2) (fun v1 hv1 => ?_)
  refine z_if_eq (tgt := 15) hC (hv1).i dX12_open_5 (by decide) (fun _ => ?_) (fun _ => ?_)
  · refine z_iconst hC dX12_open_15 ?_
    exact z_iret hC (by decide) hr dX12_open_16
  · refine z_iload_n hC 2 rfl dX12_open_8 rfl ?_
    refine z_cZp (z_rS (As := [.int (zi p2)]) hC (fun _ h1 => SM_isWho FU p2 hp2 h1) zM12_182 zMs_FM_isWho ⟨by decide, by decide⟩ rfl rfl rfl (rest := []) (Nat.le_of_ble_eq_true rfl) ⟨Nat.le_of_ble_eq_true rfl, Nat.le_of_ble_eq_true rfl⟩ rfl dX12_open_9) (fun v2 hv2 => ?_)
    refine z_if_ne (tgt := 17) hC (hv2).i dX12_open_12 (by decide) (fun _ => ?_) (fun _ => ?_)
    · refine z_iconst hC dX12_open_15 ?_
      exact z_iret hC (by decide) hr dX12_open_16
    · refine z_aload_n hC 0 rfl dX12_open_17 rfl ?_
      refine z_iload_n hC 1 rfl dX12_open_18 rfl ?_
      refine z_cIp (z_rV (q := this) (t := 12) (As := [.int (zi p1)]) hC (fun _ h1 => SM_openAt FU this p1 hp1 h1) (fun _ h1 => SM_openAt_k h1) rfl rfl zM12_185 zMv_FM_openAt ⟨by decide, by decide⟩ rfl rfl rfl (rest := []) (Nat.le_of_ble_eq_true rfl) ⟨Nat.le_of_ble_eq_true rfl, Nat.le_of_ble_eq_true rfl⟩ rfl dX12_open_19) (fun v3 hv3 => ?_)
      refine z_if_ge (tgt := 37) hC hv3 dX12_open_22 (by decide) (fun _ => ?_) (fun _ => ?_)
      · refine z_aload_n hC 0 rfl dX12_open_25 rfl ?_
        refine z_iload_n hC 1 rfl dX12_open_26 rfl ?_
        refine z_iload_n hC 2 rfl dX12_open_27 rfl ?_
        refine z_bipush hC dX12_open_28 rfl ?_
        refine z_idiv hC hp2 (by decide) dX12_open_30 (fun v4 hv4 => ?_)
        refine z_cZ (z_rV (q := this) (t := 12) (As := [.int (zi p1), .int (zi v4)]) hC (fun _ h1 => SM_isOthers FU this p1 v4 hp1 hv4 h1) (fun _ h1 => SM_isOthers_k h1) rfl rfl zM12_188 zMv_FM_isOthers ⟨by decide, by decide⟩ rfl rfl rfl (rest := []) (Nat.le_of_ble_eq_true rfl) ⟨Nat.le_of_ble_eq_true rfl, Nat.le_of_ble_eq_true rfl⟩ rfl dX12_open_31) (fun v6 G5 hv6 => ?_)
        refine z_if_eq (tgt := 40) hC (hv6).i dX12_open_34 (by decide) (fun _ => ?_) (fun _ => ?_)
        · refine z_aload_n hC 0 rfl dX12_open_40 rfl ?_
          refine z_getI hC zF12_139 rfl dX12_open_41 (fun v7 hv7 => ?_)
          refine z_bipush hC dX12_open_44 rfl ?_
          refine z_icmp_ne (tgt := 52) hC hv7 (by decide) dX12_open_46 (by decide) (fun _ => ?_) (fun _ => ?_)
          · refine z_bipush hC dX12_open_49 rfl ?_
            exact z_iret hC (by decide) hr dX12_open_51
          · refine z_aload_n hC 0 rfl dX12_open_52 rfl ?_
            refine z_getQ hC zF12_26 rfl dX12_open_53 (fun v8 => ?_)
            refine z_aload_n hC 0 rfl dX12_open_56 rfl ?_
            refine z_getI hC zF12_139 rfl dX12_open_57 (fun v9 hv9 => ?_)
            refine z_iload_n hC 1 rfl dX12_open_60 rfl ?_
            refine z_iast hC hv9 hp1 dX12_open_61 (fun G10 => ?_)
            refine z_aload_n hC 0 rfl dX12_open_62 rfl ?_
            refine z_getQ hC zF12_29 rfl dX12_open_63 (fun v11 => ?_)
            refine z_aload_n hC 0 rfl dX12_open_66 rfl ?_
            refine z_getI hC zF12_139 rfl dX12_open_67 (fun v12 hv12 => ?_)
            refine z_iload_n hC 2 rfl dX12_open_70 rfl ?_
            refine z_bipush hC dX12_open_71 rfl ?_
            refine z_idiv hC hp2 (by decide) dX12_open_73 (fun v13 hv13 => ?_)
            refine z_iast hC hv12 hv13 dX12_open_74 (fun G14 => ?_)
            refine z_aload_n hC 0 rfl dX12_open_75 rfl ?_
            refine z_getQ hC zF12_32 rfl dX12_open_76 (fun v15 => ?_)
            refine z_aload_n hC 0 rfl dX12_open_79 rfl ?_
            refine z_getI hC zF12_139 rfl dX12_open_80 (fun v16 hv16 => ?_)
            refine z_iload_n hC 2 rfl dX12_open_83 rfl ?_
            refine z_bipush hC dX12_open_84 rfl ?_
            refine z_irem hC hp2 (by decide) dX12_open_86 (fun v17 hv17 => ?_)
            refine z_iast hC hv16 hv17 dX12_open_87 (fun G18 => ?_)
            refine z_aload_n hC 0 rfl dX12_open_88 rfl ?_
            refine z_getQ hC zF12_35 rfl dX12_open_89 (fun v19 => ?_)
            refine z_aload_n hC 0 rfl dX12_open_92 rfl ?_
            refine z_getI hC zF12_139 rfl dX12_open_93 (fun v20 hv20 => ?_)
            refine z_aload_n hC 0 rfl dX12_open_96 rfl ?_
            refine z_getI hC zF12_162 rfl dX12_open_97 (fun v21 hv21 => ?_)
            refine z_iast hC hv20 hv21 dX12_open_100 (fun G22 => ?_)
            refine z_aload_n hC 0 rfl dX12_open_101 rfl ?_
            refine z_dup hC rfl dX12_open_102 ?_
            refine z_getI hC zF12_139 rfl dX12_open_103 (fun v23 hv23 => ?_)
            refine z_iconst hC dX12_open_106 ?_
            refine z_iadd hC dX12_open_107 (fun v24 hv24 => ?_)
            refine z_putI hC hv24 zF12_139 rfl rfl dX12_open_108 (fun G25 => ?_)
            refine z_aload_n hC 0 rfl dX12_open_111 rfl ?_
            refine z_getI hC zF12_139 rfl dX12_open_112 (fun v26 hv26 => ?_)
            refine z_iconst hC dX12_open_115 ?_
            refine z_isub hC dX12_open_116 (fun v27 hv27 => ?_)
            exact z_iret hC hv27 hr dX12_open_117
        · refine z_bipush hC dX12_open_37 rfl ?_
          exact z_iret hC (by decide) hr dX12_open_39
      · refine z_bipush hC dX12_open_37 rfl ?_
        exact z_iret hC (by decide) hr dX12_open_39
theorem SM_open_k {FU : Nat} {this : Nat} {p1 : Int} {p2 : Int} {G : Hp} {r1 : (Int × Hp)} (h1 : FM_open FU this p1 p2 G = some r1) : zk G this = some (12, 0) := zgd_k (k := FM_open_b FU this p1 p2 G) h1

set_option maxRecDepth 100000 in
theorem SM_close_B35 {p : Program} {l : Launch} {e : Env} {s : State} {m : MethodId} {args : Array Value} {below : List Frame} {meth : Method} {c : Code} {D : va_G} {aC : Nat → ClassId} {G0 : Hp} (hC : zC p m c meth s args cX12_close 2 RX12 D aC) (hr : meth.sig.returnType = (some .int)) (FU : Nat) (x0 : Nat) (x1 : Int) (G : Hp) (hx1 : zInI x1) : zS p l e ({ frames := 2, cells := 0, slots := 0, locals := 46 } : Room) s m args below meth c D aC G0 (zfI D aC G0 below args s 0 0) 2 0 0 (FM_close_B35 FU x0 x1 G) G 35 [(0, .ref x0), (1, .int (zi x1))] [] := by
  unfold FM_close_B35
  refine z_aload_n hC 0 rfl dX12_close_35 rfl ?_
  refine z_getQ hC zF12_38 rfl dX12_close_36 (fun v1 => ?_)
  refine z_iload_n hC 1 rfl dX12_close_39 rfl ?_
  refine z_aload_n hC 0 rfl dX12_close_40 rfl ?_
  refine z_getI hC zF12_162 rfl dX12_close_41 (fun v2 hv2 => ?_)
  refine z_iast hC hx1 hv2 dX12_close_44 (fun G3 => ?_)
  refine z_iconst hC dX12_close_45 ?_
  exact z_iret hC (by decide) hr dX12_close_46
set_option maxRecDepth 100000 in
theorem SM_close {l : Launch} {D : va_G} {aC : Nat → ClassId} (FU : Nat) (this : Nat) (p1 : Int) (hp1 : zInI p1) {G : Hp} {r1 : (Int × Hp)} (h1 : FM_close FU this p1 G = some r1) : Met l yX12_close (Cond.code yX12_close cX12_close 2 (some .int) :: zgood) ({ frames := 2, cells := 0, slots := 0, locals := 46 } : Room) (va_Pc [.ref this, .int (zi p1)] (zU D aC G)) (zQ D aC G (zInI r1.1) (some (.int (zi r1.1))) r1.2) 0 0 (zA G) := by
  refine z_met (y := yX12_close) (b := cX12_close) (maxL := 2) (mc := 0) (ms := 0) (ret := (some .int)) (As := [.ref this, .int (zi p1)]) (Q1 := fun r1 => zQ D aC G (zInI r1.1) (some (.int (zi r1.1))) r1.2) (X := FM_close FU this p1 G) (by decide) (Nat.le_of_ble_eq_true rfl) ?_ h1
  intro p e s m below meth c hC hr hi
  have hC : zC p m c meth s ([.ref this, .int (zi p1)] : List Value).toArray cX12_close 2 RX12 D aC := hC
  generalize ([.ref this, .int (zi p1)] : List Value).toArray = args at hC ⊢
  show zS p l e ({ frames := 2, cells := 0, slots := 0, locals := 46 } : Room) s m args below meth c D aC G (zfI D aC G below args s 0 0) 2 0 0 (FM_close FU this p1 G) G 0 [(0, .ref this), (1, .int (zi p1))] []
  unfold FM_close
  refine z_gd ?_
  unfold FM_close_b
  refine z_aload_n hC 0 rfl dX12_close_0 rfl ?_
  refine z_iload_n hC 1 rfl dX12_close_1 rfl ?_
  refine z_cZp (z_rV (q := this) (t := 12) (As := [.int (zi p1)]) hC (fun _ h1 => SM_isShop FU this p1 hp1 h1) (fun _ h1 => SM_isShop_k h1) rfl rfl zM12_192 zMv_FM_isShop ⟨by decide, by decide⟩ rfl rfl rfl (rest := []) (Nat.le_of_ble_eq_true rfl) ⟨Nat.le_of_ble_eq_true rfl, Nat.le_of_ble_eq_true rfl⟩ rfl dX12_close_2) (fun v1 hv1 => ?_)
  refine z_if_ne (tgt := 10) hC (hv1).i dX12_close_5 (by decide) (fun _ => ?_) (fun _ => ?_)
  · refine z_iconst hC dX12_close_8 ?_
    exact z_iret hC (by decide) hr dX12_close_9
  · refine z_aload_n hC 0 rfl dX12_close_10 rfl ?_
    refine z_iload_n hC 1 rfl dX12_close_11 rfl ?_
    refine z_cZp (z_rV (q := this) (t := 12) (As := [.int (zi p1)]) hC (fun _ h1 => SM_isOpen FU this p1 hp1 h1) (fun _ h1 => SM_isOpen_k h1) rfl rfl zM12_176 zMv_FM_isOpen ⟨by decide, by decide⟩ rfl rfl rfl (rest := []) (Nat.le_of_ble_eq_true rfl) ⟨Nat.le_of_ble_eq_true rfl, Nat.le_of_ble_eq_true rfl⟩ rfl dX12_close_12) (fun v2 hv2 => ?_)
    refine z_if_ne (tgt := 21) hC (hv2).i dX12_close_15 (by decide) (fun _ => ?_) (fun _ => ?_)
    · refine z_bipush hC dX12_close_18 rfl ?_
      exact z_iret hC (by decide) hr dX12_close_20
    · refine z_aload_n hC 0 rfl dX12_close_21 rfl ?_
      refine z_iload_n hC 1 rfl dX12_close_22 rfl ?_
      refine z_cZp (z_rV (q := this) (t := 12) (As := [.int (zi p1)]) hC (fun _ h1 => SM_runs FU this p1 hp1 h1) (fun _ h1 => SM_runs_k h1) rfl rfl zM12_165 zMv_FM_runs ⟨by decide, by decide⟩ rfl rfl rfl (rest := []) (Nat.le_of_ble_eq_true rfl) ⟨Nat.le_of_ble_eq_true rfl, Nat.le_of_ble_eq_true rfl⟩ rfl dX12_close_23) (fun v3 hv3 => ?_)
      refine z_if_eq (tgt := 35) hC (hv3).i dX12_close_26 (by decide) (fun _ => ?_) (fun _ => ?_)
      · refine z_sub hC [0, 1] (lo' := [(0, .ref this), (1, .int (zi p1))]) rfl ?_
        exact SM_close_B35 hC hr FU this p1 G hp1
      · refine z_aload_n hC 0 rfl dX12_close_29 rfl ?_
        refine z_iload_n hC 1 rfl dX12_close_30 rfl ?_
        refine z_iconst hC dX12_close_31 ?_
        refine z_cV (z_rV (q := this) (t := 12) (As := [.int (zi p1), .int (zi (3))]) hC (fun _ h1 => SM_endNotice FU this p1 (3) hp1 (by decide) h1) (fun _ h1 => SM_endNotice_k h1) rfl rfl zM12_172 zMv_FM_endNotice ⟨by decide, by decide⟩ rfl rfl rfl (rest := []) (Nat.le_of_ble_eq_true rfl) ⟨Nat.le_of_ble_eq_true rfl, Nat.le_of_ble_eq_true rfl⟩ rfl dX12_close_32) (fun G4 => ?_)
        refine z_sub hC [0, 1] (lo' := [(0, .ref this), (1, .int (zi p1))]) rfl ?_
        exact SM_close_B35 hC hr FU this p1 G4 hp1
theorem SM_close_k {FU : Nat} {this : Nat} {p1 : Int} {G : Hp} {r1 : (Int × Hp)} (h1 : FM_close FU this p1 G = some r1) : zk G this = some (12, 0) := zgd_k (k := FM_close_b FU this p1 G) h1

