set_option maxRecDepth 100000 in
theorem SM_spend_L134 {p : Program} {l : Launch} {e : Env} {s : State} {m : MethodId} {args : Array Value} {below : List Frame} {meth : Method} {c : Code} {D : va_G} {aC : Nat → ClassId} {G0 : Hp} (hC : zC p m c meth s args cX12_spend 12 RX12 D aC) (hr : meth.sig.returnType = (some .int)) (FU : Nat) (kL119 : Nat → Int → Int → Int → Int → Hp → Option (Int × Hp)) (hkL119 : ∀ (a0 : Nat) (a1 : Int) (a2 : Int) (a3 : Int) (a4 : Int) (G : Hp), zInI a1 → zInL a2 → zInI a3 → zInI a4 → zS p l e ({ frames := 2, cells := 0, slots := 0, locals := 48 } : Room) s m args below meth c D aC G0 (zfI D aC G0 below args s 0 0) 12 0 0 (kL119 a0 a1 a2 a3 a4 G) G 119 [(0, .ref a0), (1, .int (zi a1)), (2, .long (zl a2)), (4, .int (zi a3)), (5, .int (zi a4))] []) : ∀ (n : Nat) (x0 : Nat) (x1 : Int) (x2 : Int) (x4 : Int) (x5 : Int) (x6 : Int) (x7 : Int) (G : Hp) (hx1 : zInI x1) (hx2 : zInL x2) (hx4 : zInI x4) (hx5 : zInI x5) (hx6 : zInI x6) (hx7 : zInI x7), zS p l e ({ frames := 2, cells := 0, slots := 0, locals := 48 } : Room) s m args below meth c D aC G0 (zfI D aC G0 below args s 0 0) 12 0 0 (FM_spend_L134 FU kL119 n x0 x1 x2 x4 x5 x6 x7 G) G 134 [(0, .ref x0), (1, .int (zi x1)), (2, .long (zl x2)), (4, .int (zi x4)), (5, .int (zi x5)), (6, .int (zi x6)), (7, .int (zi x7))] [] := by
  intro n
  induction n with
  | zero => intros; exact z_none
  | succ n ih =>
    intro x0 x1 x2 x4 x5 x6 x7 G hx1 hx2 hx4 hx5 hx6 hx7
    rw [FM_spend_L134]
    refine z_iload hC 6 rfl dX12_spend_134 ?_
    refine z_aload_n hC 0 rfl dX12_spend_136 rfl ?_
    refine z_getI hC zF12_139 rfl dX12_spend_137 (fun v1 hv1 => ?_)
    refine z_icmp_ge (tgt := 202) hC hx7 hv1 dX12_spend_140 (by decide) (fun _ => ?_) (fun _ => ?_)
    · refine z_aload_n hC 0 rfl dX12_spend_143 rfl ?_
      refine z_iload hC 6 rfl dX12_spend_144 ?_
      refine z_iload_n hC 1 rfl dX12_spend_146 rfl ?_
      refine z_lload_n hC 2 rfl dX12_spend_147 rfl ?_
      refine z_cLp (z_rV (q := x0) (t := 12) (As := [.int (zi x7), .int (zi x1), .long (zl x2)]) hC (fun _ h1 => SM_restOf FU x0 x7 x1 x2 hx7 hx1 hx2 h1) (fun _ h1 => SM_restOf_k h1) rfl rfl zM12_317 zMv_FM_restOf ⟨by decide, by decide⟩ rfl rfl rfl (rest := []) (Nat.le_of_ble_eq_true rfl) ⟨Nat.le_of_ble_eq_true rfl, Nat.le_of_ble_eq_true rfl⟩ rfl dX12_spend_148) (fun v2 hv2 => ?_)
      refine z_lstore (lo' := [(8, .long (zl v2)), (0, .ref x0), (1, .int (zi x1)), (2, .long (zl x2)), (4, .int (zi x4)), (5, .int (zi x5)), (6, .int (zi x6)), (7, .int (zi x7))]) hC dX12_spend_151 (by decide) rfl ?_
      refine z_aload_n hC 1 rfl dX12_spend_153 rfl ?_
      refine z_iload hC 5 rfl dX12_spend_154 ?_
      refine z_iload_n hC 2 rfl dX12_spend_156 rfl ?_
      refine z_lload_n hC 3 rfl dX12_spend_157 rfl ?_
      refine z_cLp (z_rV (q := x0) (t := 12) (As := [.int (zi x5), .int (zi x1), .long (zl x2)]) hC (fun _ h1 => SM_restOf FU x0 x5 x1 x2 hx5 hx1 hx2 h1) (fun _ h1 => SM_restOf_k h1) rfl rfl zM12_317 zMv_FM_restOf ⟨by decide, by decide⟩ rfl rfl rfl (rest := []) (Nat.le_of_ble_eq_true rfl) ⟨Nat.le_of_ble_eq_true rfl, Nat.le_of_ble_eq_true rfl⟩ rfl dX12_spend_158) (fun v3 hv3 => ?_)
      refine z_lstore (lo' := [(10, .long (zl v3)), (8, .long (zl v2)), (0, .ref x0), (1, .int (zi x1)), (2, .long (zl x2)), (4, .int (zi x4)), (5, .int (zi x5)), (6, .int (zi x6)), (7, .int (zi x7))]) hC dX12_spend_161 (by decide) rfl ?_
      refine z_iload hC 7 rfl dX12_spend_163 ?_
      refine z_lload hC 1 rfl dX12_spend_165 ?_
      refine z_lload hC 0 rfl dX12_spend_167 ?_
      refine z_lcmp hC hv2 hv3 dX12_spend_169 (fun v4 hv4 => ?_)
      refine z_if_gt (tgt := 188) hC hv4 dX12_spend_170 (by decide) (fun _ => ?_) (fun _ => ?_)
      · refine z_lload hC 1 rfl dX12_spend_173 ?_
        refine z_lload hC 0 rfl dX12_spend_175 ?_
        refine z_lcmp hC hv2 hv3 dX12_spend_177 (fun v5 hv5 => ?_)
        refine z_if_ne (tgt := 192) hC hv5 dX12_spend_178 (by decide) (fun _ => ?_) (fun _ => ?_)
        · refine z_iload hC 8 rfl dX12_spend_181 ?_
          refine z_iload hC 6 rfl dX12_spend_183 ?_
          refine z_icmp_ge (tgt := 192) hC hx7 hx5 dX12_spend_185 (by decide) (fun _ => ?_) (fun _ => ?_)
          · refine z_iconst hC dX12_spend_188 ?_
            refine z_goto (tgt := 193) hC dX12_spend_189 (by decide) ?_
            refine z_iadd hC dX12_spend_193 (fun v6 hv6 => ?_)
            refine z_istore (lo' := [(6, .int (zi v6)), (10, .long (zl v3)), (8, .long (zl v2)), (0, .ref x0), (1, .int (zi x1)), (2, .long (zl x2)), (4, .int (zi x4)), (5, .int (zi x5)), (7, .int (zi x7))]) hC dX12_spend_194 (by decide) rfl ?_
            refine z_iinc (lo' := fun v7 => [(7, .int (zi v7)), (6, .int (zi v6)), (10, .long (zl v3)), (8, .long (zl v2)), (0, .ref x0), (1, .int (zi x1)), (2, .long (zl x2)), (4, .int (zi x4)), (5, .int (zi x5))]) hC 8 dX12_spend_196 rfl (by decide) (fun _ => rfl) (fun v7 hv7 => ?_)
            refine z_goto (tgt := 134) hC dX12_spend_199 (by decide) ?_
            refine z_sub hC [4, 5, 6, 7, 8, 1, 0] (lo' := [(0, .ref x0), (1, .int (zi x1)), (2, .long (zl x2)), (4, .int (zi x4)), (5, .int (zi x5)), (6, .int (zi v6)), (7, .int (zi v7))]) rfl ?_
            exact ih x0 x1 x2 x4 x5 v6 v7 G hx1 hx2 hx4 hx5 hv6 hv7
          · refine z_iconst hC dX12_spend_192 ?_
            refine z_iadd hC dX12_spend_193 (fun v8 hv8 => ?_)
            refine z_istore (lo' := [(6, .int (zi v8)), (10, .long (zl v3)), (8, .long (zl v2)), (0, .ref x0), (1, .int (zi x1)), (2, .long (zl x2)), (4, .int (zi x4)), (5, .int (zi x5)), (7, .int (zi x7))]) hC dX12_spend_194 (by decide) rfl ?_
            refine z_iinc (lo' := fun v9 => [(7, .int (zi v9)), (6, .int (zi v8)), (10, .long (zl v3)), (8, .long (zl v2)), (0, .ref x0), (1, .int (zi x1)), (2, .long (zl x2)), (4, .int (zi x4)), (5, .int (zi x5))]) hC 8 dX12_spend_196 rfl (by decide) (fun _ => rfl) (fun v9 hv9 => ?_)
            refine z_goto (tgt := 134) hC dX12_spend_199 (by decide) ?_
            refine z_sub hC [4, 5, 6, 7, 8, 1, 0] (lo' := [(0, .ref x0), (1, .int (zi x1)), (2, .long (zl x2)), (4, .int (zi x4)), (5, .int (zi x5)), (6, .int (zi v8)), (7, .int (zi v9))]) rfl ?_
            exact ih x0 x1 x2 x4 x5 v8 v9 G hx1 hx2 hx4 hx5 hv8 hv9
        · refine z_iconst hC dX12_spend_192 ?_
          refine z_iadd hC dX12_spend_193 (fun v10 hv10 => ?_)
          refine z_istore (lo' := [(6, .int (zi v10)), (10, .long (zl v3)), (8, .long (zl v2)), (0, .ref x0), (1, .int (zi x1)), (2, .long (zl x2)), (4, .int (zi x4)), (5, .int (zi x5)), (7, .int (zi x7))]) hC dX12_spend_194 (by decide) rfl ?_
          refine z_iinc (lo' := fun v11 => [(7, .int (zi v11)), (6, .int (zi v10)), (10, .long (zl v3)), (8, .long (zl v2)), (0, .ref x0), (1, .int (zi x1)), (2, .long (zl x2)), (4, .int (zi x4)), (5, .int (zi x5))]) hC 8 dX12_spend_196 rfl (by decide) (fun _ => rfl) (fun v11 hv11 => ?_)
          refine z_goto (tgt := 134) hC dX12_spend_199 (by decide) ?_
          refine z_sub hC [4, 5, 6, 7, 8, 1, 0] (lo' := [(0, .ref x0), (1, .int (zi x1)), (2, .long (zl x2)), (4, .int (zi x4)), (5, .int (zi x5)), (6, .int (zi v10)), (7, .int (zi v11))]) rfl ?_
          exact ih x0 x1 x2 x4 x5 v10 v11 G hx1 hx2 hx4 hx5 hv10 hv11
      · refine z_iconst hC dX12_spend_188 ?_
        refine z_goto (tgt := 193) hC dX12_spend_189 (by decide) ?_
        refine z_iadd hC dX12_spend_193 (fun v12 hv12 => ?_)
        refine z_istore (lo' := [(6, .int (zi v12)), (10, .long (zl v3)), (8, .long (zl v2)), (0, .ref x0), (1, .int (zi x1)), (2, .long (zl x2)), (4, .int (zi x4)), (5, .int (zi x5)), (7, .int (zi x7))]) hC dX12_spend_194 (by decide) rfl ?_
        refine z_iinc (lo' := fun v13 => [(7, .int (zi v13)), (6, .int (zi v12)), (10, .long (zl v3)), (8, .long (zl v2)), (0, .ref x0), (1, .int (zi x1)), (2, .long (zl x2)), (4, .int (zi x4)), (5, .int (zi x5))]) hC 8 dX12_spend_196 rfl (by decide) (fun _ => rfl) (fun v13 hv13 => ?_)
        refine z_goto (tgt := 134) hC dX12_spend_199 (by decide) ?_
        refine z_sub hC [4, 5, 6, 7, 8, 1, 0] (lo' := [(0, .ref x0), (1, .int (zi x1)), (2, .long (zl x2)), (4, .int (zi x4)), (5, .int (zi x5)), (6, .int (zi v12)), (7, .int (zi v13))]) rfl ?_
        exact ih x0 x1 x2 x4 x5 v12 v13 G hx1 hx2 hx4 hx5 hv12 hv13
    · refine z_aload_n hC 0 rfl dX12_spend_202 rfl ?_
      refine z_getQ hC zF12_44 rfl dX12_spend_203 (fun v14 => ?_)
      refine z_iload hC 4 rfl dX12_spend_206 ?_
      refine z_dup2 hC rfl rfl dX12_spend_208 ?_
      refine z_iald hC hx5 dX12_spend_209 (fun v15 hv15 => ?_)
      refine z_iload hC 5 rfl dX12_spend_210 ?_
      refine z_iload hC 3 rfl dX12_spend_212 ?_
      refine z_icmp_ge (tgt := 221) hC hx6 hx4 dX12_spend_214 (by decide) (fun _ => ?_) (fun _ => ?_)
      · refine z_iconst hC dX12_spend_217 ?_
        refine z_goto (tgt := 222) hC dX12_spend_218 (by decide) ?_
        refine z_iadd hC dX12_spend_222 (fun v16 hv16 => ?_)
        refine z_iast hC hx5 hv16 dX12_spend_223 (fun G17 => ?_)
        refine z_iinc (lo' := fun v18 => [(5, .int (zi v18)), (0, .ref x0), (1, .int (zi x1)), (2, .long (zl x2)), (4, .int (zi x4)), (6, .int (zi x6)), (7, .int (zi x7))]) hC 4 dX12_spend_224 rfl (by decide) (fun _ => rfl) (fun v18 hv18 => ?_)
        refine z_goto (tgt := 119) hC dX12_spend_227 (by decide) ?_
        refine z_sub hC [1, 2, 3, 4, 0] (lo' := [(0, .ref x0), (1, .int (zi x1)), (2, .long (zl x2)), (4, .int (zi x4)), (5, .int (zi v18))]) rfl ?_
        exact hkL119 x0 x1 x2 x4 v18 G17 hx1 hx2 hx4 hv18
      · refine z_iconst hC dX12_spend_221 ?_
        refine z_iadd hC dX12_spend_222 (fun v19 hv19 => ?_)
        refine z_iast hC hx5 hv19 dX12_spend_223 (fun G20 => ?_)
        refine z_iinc (lo' := fun v21 => [(5, .int (zi v21)), (0, .ref x0), (1, .int (zi x1)), (2, .long (zl x2)), (4, .int (zi x4)), (6, .int (zi x6)), (7, .int (zi x7))]) hC 4 dX12_spend_224 rfl (by decide) (fun _ => rfl) (fun v21 hv21 => ?_)
        refine z_goto (tgt := 119) hC dX12_spend_227 (by decide) ?_
        refine z_sub hC [1, 2, 3, 4, 0] (lo' := [(0, .ref x0), (1, .int (zi x1)), (2, .long (zl x2)), (4, .int (zi x4)), (5, .int (zi v21))]) rfl ?_
        exact hkL119 x0 x1 x2 x4 v21 G20 hx1 hx2 hx4 hv21
set_option maxRecDepth 100000 in
theorem SM_spend_L233 {p : Program} {l : Launch} {e : Env} {s : State} {m : MethodId} {args : Array Value} {below : List Frame} {meth : Method} {c : Code} {D : va_G} {aC : Nat → ClassId} {G0 : Hp} (hC : zC p m c meth s args cX12_spend 12 RX12 D aC) (hr : meth.sig.returnType = (some .int)) (FU : Nat) : ∀ (n : Nat) (x0 : Nat) (x1 : Int) (x5 : Int) (G : Hp) (hx1 : zInI x1) (hx5 : zInI x5), zS p l e ({ frames := 2, cells := 0, slots := 0, locals := 48 } : Room) s m args below meth c D aC G0 (zfI D aC G0 below args s 0 0) 12 0 0 (FM_spend_L233 FU n x0 x1 x5 G) G 233 [(0, .ref x0), (1, .int (zi x1)), (5, .int (zi x5))] [] := by
  intro n
  induction n with
  | zero => intros; exact z_none
  | succ n ih =>
    intro x0 x1 x5 G hx1 hx5
    rw [FM_spend_L233]
    refine z_iload hC 2 rfl dX12_spend_233 ?_
    refine z_aload_n hC 0 rfl dX12_spend_235 rfl ?_
    refine z_getI hC zF12_139 rfl dX12_spend_236 (fun v1 hv1 => ?_)
    refine z_icmp_ge (tgt := 256) hC hx5 hv1 dX12_spend_239 (by decide) (fun _ => ?_) (fun _ => ?_)
    · refine z_aload_n hC 0 rfl dX12_spend_242 rfl ?_
      refine z_getQ hC zF12_121 rfl dX12_spend_243 (fun v2 => ?_)
      refine z_iload hC 2 rfl dX12_spend_246 ?_
      refine z_iconst hC dX12_spend_248 ?_
      refine z_iast hC hx5 (by decide) dX12_spend_249 (fun G3 => ?_)
      refine z_iinc (lo' := fun v4 => [(5, .int (zi v4)), (0, .ref x0), (1, .int (zi x1))]) hC 2 dX12_spend_250 rfl (by decide) (fun _ => rfl) (fun v4 hv4 => ?_)
      refine z_goto (tgt := 233) hC dX12_spend_253 (by decide) ?_
      refine z_sub hC [1, 2, 0] (lo' := [(0, .ref x0), (1, .int (zi x1)), (5, .int (zi v4))]) rfl ?_
      exact ih x0 x1 v4 G3 hx1 hv4
    · refine z_aload_n hC 0 rfl dX12_spend_256 rfl ?_
      refine z_dup hC rfl dX12_spend_257 ?_
      refine z_getI hC zF12_310 rfl dX12_spend_258 (fun v5 hv5 => ?_)
      refine z_iload_n hC 1 rfl dX12_spend_261 rfl ?_
      refine z_isub hC dX12_spend_262 (fun v6 hv6 => ?_)
      refine z_putI hC hv6 zF12_310 rfl rfl dX12_spend_263 (fun G7 => ?_)
      refine z_aload_n hC 0 rfl dX12_spend_266 rfl ?_
      refine z_getI hC zF12_310 rfl dX12_spend_267 (fun v8 hv8 => ?_)
      exact z_iret hC hv8 hr dX12_spend_270
set_option maxRecDepth 100000 in
theorem SM_spend_L119 {p : Program} {l : Launch} {e : Env} {s : State} {m : MethodId} {args : Array Value} {below : List Frame} {meth : Method} {c : Code} {D : va_G} {aC : Nat → ClassId} {G0 : Hp} (hC : zC p m c meth s args cX12_spend 12 RX12 D aC) (hr : meth.sig.returnType = (some .int)) (FU : Nat) : ∀ (n : Nat) (x0 : Nat) (x1 : Int) (x2 : Int) (x4 : Int) (x5 : Int) (G : Hp) (hx1 : zInI x1) (hx2 : zInL x2) (hx4 : zInI x4) (hx5 : zInI x5), zS p l e ({ frames := 2, cells := 0, slots := 0, locals := 48 } : Room) s m args below meth c D aC G0 (zfI D aC G0 below args s 0 0) 12 0 0 (FM_spend_L119 FU n x0 x1 x2 x4 x5 G) G 119 [(0, .ref x0), (1, .int (zi x1)), (2, .long (zl x2)), (4, .int (zi x4)), (5, .int (zi x5))] [] := by
  intro n
  induction n with
  | zero => intros; exact z_none
  | succ n ih =>
    intro x0 x1 x2 x4 x5 G hx1 hx2 hx4 hx5
    rw [FM_spend_L119]
    refine z_iload hC 4 rfl dX12_spend_119 ?_
    refine z_aload_n hC 0 rfl dX12_spend_121 rfl ?_
    refine z_getI hC zF12_139 rfl dX12_spend_122 (fun v1 hv1 => ?_)
    refine z_icmp_ge (tgt := 230) hC hx5 hv1 dX12_spend_125 (by decide) (fun _ => ?_) (fun _ => ?_)
    · refine z_iconst hC dX12_spend_128 ?_
      refine z_istore (lo' := [(6, .int (zi (0))), (0, .ref x0), (1, .int (zi x1)), (2, .long (zl x2)), (4, .int (zi x4)), (5, .int (zi x5))]) hC dX12_spend_129 (by decide) rfl ?_
      refine z_iconst hC dX12_spend_131 ?_
      refine z_istore (lo' := [(7, .int (zi (0))), (6, .int (zi (0))), (0, .ref x0), (1, .int (zi x1)), (2, .long (zl x2)), (4, .int (zi x4)), (5, .int (zi x5))]) hC dX12_spend_132 (by decide) rfl ?_
      refine z_sub hC [2, 3, 4, 5, 6, 1, 0] (lo' := [(0, .ref x0), (1, .int (zi x1)), (2, .long (zl x2)), (4, .int (zi x4)), (5, .int (zi x5)), (6, .int (zi (0))), (7, .int (zi (0)))]) rfl ?_
      exact SM_spend_L134 hC hr FU (FM_spend_L119 FU n) ih FU x0 x1 x2 x4 x5 (0) (0) G hx1 hx2 hx4 hx5 (by decide) (by decide)
    · refine z_iconst hC dX12_spend_230 ?_
      refine z_istore (lo' := [(5, .int (zi (0))), (0, .ref x0), (1, .int (zi x1)), (2, .long (zl x2)), (4, .int (zi x4))]) hC dX12_spend_231 (by decide) rfl ?_
      refine z_sub hC [1, 2, 0] (lo' := [(0, .ref x0), (1, .int (zi x1)), (5, .int (zi (0)))]) rfl ?_
      exact SM_spend_L233 hC hr FU FU x0 x1 (0) G hx1 (by decide)
set_option maxRecDepth 100000 in
theorem SM_spend_L66 {p : Program} {l : Launch} {e : Env} {s : State} {m : MethodId} {args : Array Value} {below : List Frame} {meth : Method} {c : Code} {D : va_G} {aC : Nat → ClassId} {G0 : Hp} (hC : zC p m c meth s args cX12_spend 12 RX12 D aC) (hr : meth.sig.returnType = (some .int)) (FU : Nat) : ∀ (n : Nat) (x0 : Nat) (x1 : Int) (x2 : Int) (x4 : Int) (x5 : Int) (G : Hp) (hx1 : zInI x1) (hx2 : zInL x2) (hx4 : zInI x4) (hx5 : zInI x5), zS p l e ({ frames := 2, cells := 0, slots := 0, locals := 48 } : Room) s m args below meth c D aC G0 (zfI D aC G0 below args s 0 0) 12 0 0 (FM_spend_L66 FU n x0 x1 x2 x4 x5 G) G 66 [(0, .ref x0), (1, .int (zi x1)), (2, .long (zl x2)), (4, .int (zi x4)), (5, .int (zi x5))] [] := by
  intro n
  induction n with
  | zero => intros; exact z_none
  | succ n ih =>
    intro x0 x1 x2 x4 x5 G hx1 hx2 hx4 hx5
    rw [FM_spend_L66]
    refine z_iload hC 4 rfl dX12_spend_66 ?_
    refine z_aload_n hC 0 rfl dX12_spend_68 rfl ?_
    refine z_getI hC zF12_139 rfl dX12_spend_69 (fun v1 hv1 => ?_)
    refine z_icmp_ge (tgt := 116) hC hx5 hv1 dX12_spend_72 (by decide) (fun _ => ?_) (fun _ => ?_)
    · refine z_iload_n hC 1 rfl dX12_spend_75 rfl ?_
      refine z_i2l hC hx1 dX12_spend_76 ?_
      refine z_aload_n hC 0 rfl dX12_spend_77 rfl ?_
      refine z_getQ hC zF12_121 rfl dX12_spend_78 (fun v2 => ?_)
      refine z_iload hC 4 rfl dX12_spend_81 ?_
      refine z_iald hC hx5 dX12_spend_83 (fun v3 hv3 => ?_)
      refine z_i2l hC hv3 dX12_spend_84 ?_
      refine z_lmul hC dX12_spend_85 (fun v4 hv4 => ?_)
      refine z_lload_n hC 2 rfl dX12_spend_86 rfl ?_
      refine z_ldiv hC hv4 hx2 dX12_spend_87 (fun v5 hv5 => ?_)
      refine z_l2i hC dX12_spend_88 (fun v6 hv6 => ?_)
      refine z_istore (lo' := [(6, .int (zi v6)), (0, .ref x0), (1, .int (zi x1)), (2, .long (zl x2)), (4, .int (zi x4)), (5, .int (zi x5))]) hC dX12_spend_89 (by decide) rfl ?_
      refine z_aload_n hC 1 rfl dX12_spend_91 rfl ?_
      refine z_getQ hC zF12_44 rfl dX12_spend_92 (fun v7 => ?_)
      refine z_iload hC 5 rfl dX12_spend_95 ?_
      refine z_dup2 hC rfl rfl dX12_spend_97 ?_
      refine z_iald hC hx5 dX12_spend_98 (fun v8 hv8 => ?_)
      refine z_iload hC 0 rfl dX12_spend_99 ?_
      refine z_iadd hC dX12_spend_101 (fun v9 hv9 => ?_)
      refine z_iast hC hx5 hv9 dX12_spend_102 (fun G10 => ?_)
      refine z_iload hC 4 rfl dX12_spend_103 ?_
      refine z_iload hC 0 rfl dX12_spend_105 ?_
      refine z_isub hC dX12_spend_107 (fun v11 hv11 => ?_)
      refine z_istore (lo' := [(4, .int (zi v11)), (6, .int (zi v6)), (0, .ref x0), (1, .int (zi x1)), (2, .long (zl x2)), (5, .int (zi x5))]) hC dX12_spend_108 (by decide) rfl ?_
      refine z_iinc (lo' := fun v12 => [(5, .int (zi v12)), (4, .int (zi v11)), (6, .int (zi v6)), (0, .ref x0), (1, .int (zi x1)), (2, .long (zl x2))]) hC 5 dX12_spend_110 rfl (by decide) (fun _ => rfl) (fun v12 hv12 => ?_)
      refine z_goto (tgt := 66) hC dX12_spend_113 (by decide) ?_
      refine z_sub hC [3, 4, 5, 1, 0] (lo' := [(0, .ref x0), (1, .int (zi x1)), (2, .long (zl x2)), (4, .int (zi v11)), (5, .int (zi v12))]) rfl ?_
      exact ih x0 x1 x2 v11 v12 G10 hx1 hx2 hv11 hv12
    · refine z_iconst hC dX12_spend_116 ?_
      refine z_istore (lo' := [(5, .int (zi (0))), (0, .ref x0), (1, .int (zi x1)), (2, .long (zl x2)), (4, .int (zi x4))]) hC dX12_spend_117 (by decide) rfl ?_
      refine z_sub hC [1, 2, 3, 4, 0] (lo' := [(0, .ref x0), (1, .int (zi x1)), (2, .long (zl x2)), (4, .int (zi x4)), (5, .int (zi (0)))]) rfl ?_
      exact SM_spend_L119 hC hr FU FU x0 x1 x2 x4 (0) G hx1 hx2 hx4 (by decide)
set_option maxRecDepth 100000 in
theorem SM_spend_L17 {p : Program} {l : Launch} {e : Env} {s : State} {m : MethodId} {args : Array Value} {below : List Frame} {meth : Method} {c : Code} {D : va_G} {aC : Nat → ClassId} {G0 : Hp} (hC : zC p m c meth s args cX12_spend 12 RX12 D aC) (hr : meth.sig.returnType = (some .int)) (FU : Nat) : ∀ (n : Nat) (x0 : Nat) (x1 : Int) (x2 : Int) (x4 : Int) (G : Hp) (hx1 : zInI x1) (hx2 : zInL x2) (hx4 : zInI x4), zS p l e ({ frames := 2, cells := 0, slots := 0, locals := 48 } : Room) s m args below meth c D aC G0 (zfI D aC G0 below args s 0 0) 12 0 0 (FM_spend_L17 FU n x0 x1 x2 x4 G) G 17 [(0, .ref x0), (1, .int (zi x1)), (2, .long (zl x2)), (4, .int (zi x4))] [] := by
  intro n
  induction n with
  | zero => intros; exact z_none
  | succ n ih =>
    intro x0 x1 x2 x4 G hx1 hx2 hx4
    rw [FM_spend_L17]
    refine z_iload hC 3 rfl dX12_spend_17 ?_
    refine z_aload_n hC 0 rfl dX12_spend_19 rfl ?_
    refine z_getI hC zF12_139 rfl dX12_spend_20 (fun v1 hv1 => ?_)
    refine z_icmp_ge (tgt := 43) hC hx4 hv1 dX12_spend_23 (by decide) (fun _ => ?_) (fun _ => ?_)
    · refine z_lload_n hC 2 rfl dX12_spend_26 rfl ?_
      refine z_aload_n hC 0 rfl dX12_spend_27 rfl ?_
      refine z_getQ hC zF12_121 rfl dX12_spend_28 (fun v2 => ?_)
      refine z_iload hC 3 rfl dX12_spend_31 ?_
      refine z_iald hC hx4 dX12_spend_33 (fun v3 hv3 => ?_)
      refine z_i2l hC hv3 dX12_spend_34 ?_
      refine z_ladd hC dX12_spend_35 (fun v4 hv4 => ?_)
      refine z_lstore_n (lo' := [(2, .long (zl v4)), (0, .ref x0), (1, .int (zi x1)), (4, .int (zi x4))]) hC dX12_spend_36 rfl (by decide) rfl ?_
      refine z_iinc (lo' := fun v5 => [(4, .int (zi v5)), (2, .long (zl v4)), (0, .ref x0), (1, .int (zi x1))]) hC 3 dX12_spend_37 rfl (by decide) (fun _ => rfl) (fun v5 hv5 => ?_)
      refine z_goto (tgt := 17) hC dX12_spend_40 (by decide) ?_
      refine z_sub hC [2, 3, 1, 0] (lo' := [(0, .ref x0), (1, .int (zi x1)), (2, .long (zl v4)), (4, .int (zi v5))]) rfl ?_
      exact ih x0 x1 v4 v5 G hx1 hv4 hv5
    · refine z_iload_n hC 1 rfl dX12_spend_43 rfl ?_
      refine z_aload_n hC 0 rfl dX12_spend_44 rfl ?_
      refine z_getI hC zF12_310 rfl dX12_spend_45 (fun v6 hv6 => ?_)
      refine z_icmp_gt (tgt := 57) hC hx1 hv6 dX12_spend_48 (by decide) (fun _ => ?_) (fun _ => ?_)
      · refine z_lload_n hC 2 rfl dX12_spend_51 rfl ?_
        refine z_lconst (z := 0) hC dX12_spend_52 rfl ?_
        refine z_lcmp hC hx2 (by decide) dX12_spend_53 (fun v7 hv7 => ?_)
        refine z_if_ne (tgt := 60) hC hv7 dX12_spend_54 (by decide) (fun _ => ?_) (fun _ => ?_)
        · refine z_bipush hC dX12_spend_57 rfl ?_
          exact z_iret hC (by decide) hr dX12_spend_59
        · refine z_iload_n hC 1 rfl dX12_spend_60 rfl ?_
          refine z_istore (lo' := [(4, .int (zi x1)), (0, .ref x0), (1, .int (zi x1)), (2, .long (zl x2))]) hC dX12_spend_61 (by decide) rfl ?_
          refine z_iconst hC dX12_spend_63 ?_
          refine z_istore (lo' := [(5, .int (zi (0))), (4, .int (zi x1)), (0, .ref x0), (1, .int (zi x1)), (2, .long (zl x2))]) hC dX12_spend_64 (by decide) rfl ?_
          refine z_sub hC [2, 3, 4, 1, 0] (lo' := [(0, .ref x0), (1, .int (zi x1)), (2, .long (zl x2)), (4, .int (zi x1)), (5, .int (zi (0)))]) rfl ?_
          exact SM_spend_L66 hC hr FU FU x0 x1 x2 x1 (0) G hx1 hx2 hx1 (by decide)
      · refine z_bipush hC dX12_spend_57 rfl ?_
        exact z_iret hC (by decide) hr dX12_spend_59
set_option maxRecDepth 100000 in
theorem SM_spend {l : Launch} {D : va_G} {aC : Nat → ClassId} (FU : Nat) (this : Nat) (p1 : Int) (hp1 : zInI p1) {G : Hp} {r1 : (Int × Hp)} (h1 : FM_spend FU this p1 G = some r1) : Met l yX12_spend (Cond.code yX12_spend cX12_spend 12 (some .int) :: zgood) ({ frames := 2, cells := 0, slots := 0, locals := 48 } : Room) (va_Pc [.ref this, .int (zi p1)] (zU D aC G)) (zQ D aC G (zInI r1.1) (some (.int (zi r1.1))) r1.2) 0 0 (zA G) := by
  refine z_met (y := yX12_spend) (b := cX12_spend) (maxL := 12) (mc := 0) (ms := 0) (ret := (some .int)) (As := [.ref this, .int (zi p1)]) (Q1 := fun r1 => zQ D aC G (zInI r1.1) (some (.int (zi r1.1))) r1.2) (X := FM_spend FU this p1 G) (by decide) (Nat.le_of_ble_eq_true rfl) ?_ h1
  intro p e s m below meth c hC hr hi
  have hC : zC p m c meth s ([.ref this, .int (zi p1)] : List Value).toArray cX12_spend 12 RX12 D aC := hC
  generalize ([.ref this, .int (zi p1)] : List Value).toArray = args at hC ⊢
  show zS p l e ({ frames := 2, cells := 0, slots := 0, locals := 48 } : Room) s m args below meth c D aC G (zfI D aC G below args s 0 0) 12 0 0 (FM_spend FU this p1 G) G 0 [(0, .ref this), (1, .int (zi p1))] []
  unfold FM_spend
  refine z_gd ?_
  unfold FM_spend_b
  refine z_iload_n hC 1 rfl dX12_spend_0 rfl ?_
  refine z_iconst hC dX12_spend_1 ?_
  refine z_ldc (z := 1000000) hC dX12_spend_2 zc12_154 ?_
  refine z_cZp (z_rS (As := [.int (zi p1), .int (zi (1)), .int (zi (1000000))]) hC (fun _ h1 => SM_within FU p1 (1) (1000000) hp1 (by decide) (by decide) h1) zM12_142 zMs_FM_within ⟨by decide, by decide⟩ rfl rfl rfl (rest := []) (Nat.le_of_ble_eq_true rfl) ⟨Nat.le_of_ble_eq_true rfl, Nat.le_of_ble_eq_true rfl⟩ rfl dX12_spend_4) (fun v1 hv1 => ?_)
  refine z_if_ne (tgt := 12) hC (hv1).i dX12_spend_7 (by decide) (fun _ => ?_) (fun _ => ?_)
  · refine z_iconst hC dX12_spend_10 ?_
    exact z_iret hC (by decide) hr dX12_spend_11
  · refine z_lconst (z := 0) hC dX12_spend_12 rfl ?_
    refine z_lstore_n (lo' := [(2, .long (zl (0))), (0, .ref this), (1, .int (zi p1))]) hC dX12_spend_13 rfl (by decide) rfl ?_
    refine z_iconst hC dX12_spend_14 ?_
    refine z_istore (lo' := [(4, .int (zi (0))), (2, .long (zl (0))), (0, .ref this), (1, .int (zi p1))]) hC dX12_spend_15 (by decide) rfl ?_
    refine z_sub hC [2, 3, 1, 0] (lo' := [(0, .ref this), (1, .int (zi p1)), (2, .long (zl (0))), (4, .int (zi (0)))]) rfl ?_
    exact SM_spend_L17 hC hr FU FU this p1 (0) (0) G hp1 (by decide) (by decide)
theorem SM_spend_k {FU : Nat} {this : Nat} {p1 : Int} {G : Hp} {r1 : (Int × Hp)} (h1 : FM_spend FU this p1 G = some r1) : zk G this = some (12, 0) := zgd_k (k := FM_spend_b FU this p1 G) h1

set_option maxRecDepth 100000 in
theorem SM_load {l : Launch} {D : va_G} {aC : Nat → ClassId} (FU : Nat) (this : Nat) (p1 : Int) (p2 : Int) (hp1 : zInI p1) (hp2 : zInI p2) {G : Hp} {r1 : (Int × Hp)} (h1 : FM_load FU this p1 p2 G = some r1) : Met l yX12_load (Cond.code yX12_load cX12_load 3 (some .int) :: zgood) ({ frames := 2, cells := 0, slots := 0, locals := 46 } : Room) (va_Pc [.ref this, .int (zi p1), .int (zi p2)] (zU D aC G)) (zQ D aC G (zInI r1.1) (some (.int (zi r1.1))) r1.2) 0 0 (zA G) := by
  refine z_met (y := yX12_load) (b := cX12_load) (maxL := 3) (mc := 0) (ms := 0) (ret := (some .int)) (As := [.ref this, .int (zi p1), .int (zi p2)]) (Q1 := fun r1 => zQ D aC G (zInI r1.1) (some (.int (zi r1.1))) r1.2) (X := FM_load FU this p1 p2 G) (by decide) (Nat.le_of_ble_eq_true rfl) ?_ h1
  intro p e s m below meth c hC hr hi
  have hC : zC p m c meth s ([.ref this, .int (zi p1), .int (zi p2)] : List Value).toArray cX12_load 3 RX12 D aC := hC
  generalize ([.ref this, .int (zi p1), .int (zi p2)] : List Value).toArray = args at hC ⊢
  show zS p l e ({ frames := 2, cells := 0, slots := 0, locals := 46 } : Room) s m args below meth c D aC G (zfI D aC G below args s 0 0) 3 0 0 (FM_load FU this p1 p2 G) G 0 [(0, .ref this), (1, .int (zi p1)), (2, .int (zi p2))] []
  unfold FM_load
  refine z_gd ?_
  unfold FM_load_b
  refine z_aload_n hC 0 rfl dX12_load_0 rfl ?_
  refine z_iload_n hC 1 rfl dX12_load_1 rfl ?_
  refine z_cZp (z_rV (q := this) (t := 12) (As := [.int (zi p1)]) hC (fun _ h1 => SM_isShop FU this p1 hp1 h1) (fun _ h1 => SM_isShop_k h1) rfl rfl zM12_192 zMv_FM_isShop ⟨by decide, by decide⟩ rfl rfl rfl (rest := []) (Nat.le_of_ble_eq_true rfl) ⟨Nat.le_of_ble_eq_true rfl, Nat.le_of_ble_eq_true rfl⟩ rfl dX12_load_2) (fun v1 hv1 => ?_)
  refine z_if_eq (tgt := 27) hC (hv1).i dX12_load_5 (by decide) (fun _ => ?_) (fun _ => ?_)
  · refine z_iconst hC dX12_load_27 ?_
    exact z_iret hC (by decide) hr dX12_load_28
  · refine z_iload_n hC 2 rfl dX12_load_8 rfl ?_
    refine z_iconst hC dX12_load_9 ?_
    refine z_bipush hC dX12_load_10 rfl ?_
    refine z_cZp (z_rS (As := [.int (zi p2), .int (zi (1)), .int (zi (99))]) hC (fun _ h1 => SM_within FU p2 (1) (99) hp2 (by decide) (by decide) h1) zM12_142 zMs_FM_within ⟨by decide, by decide⟩ rfl rfl rfl (rest := []) (Nat.le_of_ble_eq_true rfl) ⟨Nat.le_of_ble_eq_true rfl, Nat.le_of_ble_eq_true rfl⟩ rfl dX12_load_12) (fun v2 hv2 => ?_)
    refine z_if_eq (tgt := 27) hC (hv2).i dX12_load_15 (by decide) (fun _ => ?_) (fun _ => ?_)
    · refine z_iconst hC dX12_load_27 ?_
      exact z_iret hC (by decide) hr dX12_load_28
    · refine z_aload_n hC 0 rfl dX12_load_18 rfl ?_
      refine z_getQ hC zF12_124 rfl dX12_load_19 (fun v3 => ?_)
      refine z_iload_n hC 1 rfl dX12_load_22 rfl ?_
      refine z_iald hC hp1 dX12_load_23 (fun v4 hv4 => ?_)
      refine z_if_le (tgt := 29) hC hv4 dX12_load_24 (by decide) (fun _ => ?_) (fun _ => ?_)
      · refine z_aload_n hC 0 rfl dX12_load_29 rfl ?_
        refine z_getI hC zF12_321 rfl dX12_load_30 (fun v5 hv5 => ?_)
        refine z_bipush hC dX12_load_33 rfl ?_
        refine z_icmp_ne (tgt := 41) hC hv5 (by decide) dX12_load_35 (by decide) (fun _ => ?_) (fun _ => ?_)
        · refine z_bipush hC dX12_load_38 rfl ?_
          exact z_iret hC (by decide) hr dX12_load_40
        · refine z_aload_n hC 0 rfl dX12_load_41 rfl ?_
          refine z_getQ hC zF12_124 rfl dX12_load_42 (fun v6 => ?_)
          refine z_iload_n hC 1 rfl dX12_load_45 rfl ?_
          refine z_iload_n hC 2 rfl dX12_load_46 rfl ?_
          refine z_iast hC hp1 hp2 dX12_load_47 (fun G7 => ?_)
          refine z_aload_n hC 0 rfl dX12_load_48 rfl ?_
          refine z_dup hC rfl dX12_load_49 ?_
          refine z_getI hC zF12_321 rfl dX12_load_50 (fun v8 hv8 => ?_)
          refine z_iconst hC dX12_load_53 ?_
          refine z_iadd hC dX12_load_54 (fun v9 hv9 => ?_)
          refine z_putI hC hv9 zF12_321 rfl rfl dX12_load_55 (fun G10 => ?_)
          refine z_aload_n hC 0 rfl dX12_load_58 rfl ?_
          refine z_getI hC zF12_321 rfl dX12_load_59 (fun v11 hv11 => ?_)
          exact z_iret hC hv11 hr dX12_load_62
      · refine z_iconst hC dX12_load_27 ?_
        exact z_iret hC (by decide) hr dX12_load_28
theorem SM_load_k {FU : Nat} {this : Nat} {p1 : Int} {p2 : Int} {G : Hp} {r1 : (Int × Hp)} (h1 : FM_load FU this p1 p2 G = some r1) : zk G this = some (12, 0) := zgd_k (k := FM_load_b FU this p1 p2 G) h1

set_option maxRecDepth 100000 in
theorem SM_pack_B106 {p : Program} {l : Launch} {e : Env} {s : State} {m : MethodId} {args : Array Value} {below : List Frame} {meth : Method} {c : Code} {D : va_G} {aC : Nat → ClassId} {G0 : Hp} (hC : zC p m c meth s args cX12_pack 6 RX12 D aC) (hr : meth.sig.returnType = (some .boolean)) (FU : Nat) (rec : Nat → Int → Int → Int → Hp → Option (Int × Hp)) (rr : Room) (hrr : rr.cells = 0 ∧ rr.slots = 0) (hrec : ∀ (this : Nat) (p1 : Int) (p2 : Int) (p3 : Int), zInI p1 → zInI p2 → zInI p3 → ∀ (G : Hp) (r1 : (Int × Hp)), rec this p1 p2 p3 G = some r1 → Met l yX12_pack (Cond.code yX12_pack cX12_pack 6 (some .boolean) :: zgood) rr (va_Pc [.ref this, .int (zi p1), .int (zi p2), .int (zi p3)] (zU D aC G)) (zQ D aC G (zIn01 r1.1) (some (.int (zi r1.1))) r1.2) 0 0 (zA G)) (hreck : ∀ (this : Nat) (p1 : Int) (p2 : Int) (p3 : Int) (G : Hp) (r1 : (Int × Hp)), rec this p1 p2 p3 G = some r1 → zk G this = some (12, 0)) (kL32 : Nat → Int → Int → Int → Int → Hp → Option (Int × Hp)) (hkL32 : ∀ (a0 : Nat) (a1 : Int) (a2 : Int) (a3 : Int) (a4 : Int) (G : Hp), zInI a1 → zInI a2 → zInI a3 → zInI a4 → zS p l e ({ frames := rr.frames + 1, cells := 0, slots := 0, locals := rr.locals + 25 } : Room) s m args below meth c D aC G0 (zfZ D aC G0 below args s 0 0) 6 0 0 (kL32 a0 a1 a2 a3 a4 G) G 32 [(0, .ref a0), (1, .int (zi a1)), (2, .int (zi a2)), (3, .int (zi a3)), (4, .int (zi a4))] []) (x0 : Nat) (x1 : Int) (x2 : Int) (x3 : Int) (x4 : Int) (y0 : Nat) (y1 : Int) (y2 : Int) (G : Hp) (hx1 : zInI x1) (hx2 : zInI x2) (hx3 : zInI x3) (hx4 : zInI x4) (hy1 : zInI y1) (hy2 : zInI y2) : zS p l e ({ frames := rr.frames + 1, cells := 0, slots := 0, locals := rr.locals + 25 } : Room) s m args below meth c D aC G0 (zfZ D aC G0 below args s 0 0) 6 0 0 (FM_pack_B106 FU rec kL32 x0 x1 x2 x3 x4 y0 y1 y2 G) G 106 [(0, .ref x0), (1, .int (zi x1)), (2, .int (zi x2)), (3, .int (zi x3)), (4, .int (zi x4))] [.int (zi y2), .int (zi y1), .ref y0] := by
  unfold FM_pack_B106
  refine z_iload_n hC 3 rfl dX12_pack_106 rfl ?_
  refine z_cZ (z_rV (q := y0) (t := 12) (As := [.int (zi y1), .int (zi y2), .int (zi x3)]) hC (fun _ h1 => hrec y0 y1 y2 x3 hy1 hy2 hx3 G _ h1) (fun _ h1 => hreck y0 y1 y2 x3 G _ h1) rfl rfl zM12_324 zMv_FM_pack ⟨show rr.frames + 1 ≤ rr.frames + 1 by omega, show 8 + (6 + 11) + rr.locals ≤ rr.locals + 25 by omega⟩ hrr.1 hrr.2 rfl (rest := []) (Nat.le_of_ble_eq_true rfl) ⟨Nat.le_of_ble_eq_true rfl, Nat.le_of_ble_eq_true rfl⟩ rfl dX12_pack_107) (fun v2 G1 hv2 => ?_)
  refine z_istore (lo' := [(5, .int (zi v2)), (0, .ref x0), (1, .int (zi x1)), (2, .int (zi x2)), (3, .int (zi x3)), (4, .int (zi x4))]) hC dX12_pack_110 (by decide) rfl ?_
  refine z_aload_n hC 1 rfl dX12_pack_112 rfl ?_
  refine z_getQ hC zF12_133 rfl dX12_pack_113 (fun v3 => ?_)
  refine z_iload hC 5 rfl dX12_pack_116 ?_
  refine z_dup2 hC rfl rfl dX12_pack_118 ?_
  refine z_iald hC hx4 dX12_pack_119 (fun v4 hv4 => ?_)
  refine z_aload_n hC 1 rfl dX12_pack_120 rfl ?_
  refine z_getQ hC zF12_124 rfl dX12_pack_121 (fun v5 => ?_)
  refine z_iload_n hC 2 rfl dX12_pack_124 rfl ?_
  refine z_iald hC hx1 dX12_pack_125 (fun v6 hv6 => ?_)
  refine z_isub hC dX12_pack_126 (fun v7 hv7 => ?_)
  refine z_iast hC hx4 hv7 dX12_pack_127 (fun G8 => ?_)
  refine z_iload hC 0 rfl dX12_pack_128 ?_
  refine z_if_eq (tgt := 135) hC (hv2).i dX12_pack_130 (by decide) (fun _ => ?_) (fun _ => ?_)
  · refine z_iinc (lo' := fun v9 => [(4, .int (zi v9)), (5, .int (zi v2)), (0, .ref x0), (1, .int (zi x1)), (2, .int (zi x2)), (3, .int (zi x3))]) hC 5 dX12_pack_135 rfl (by decide) (fun _ => rfl) (fun v9 hv9 => ?_)
    refine z_goto (tgt := 32) hC dX12_pack_138 (by decide) ?_
    refine z_sub hC [2, 3, 4, 5, 0] (lo' := [(0, .ref x0), (1, .int (zi x1)), (2, .int (zi x2)), (3, .int (zi x3)), (4, .int (zi v9))]) rfl ?_
    exact hkL32 x0 x1 x2 x3 v9 G8 hx1 hx2 hx3 hv9
  · refine z_iconst hC dX12_pack_133 ?_
    exact z_zret hC hr dX12_pack_134
set_option maxRecDepth 100000 in
theorem SM_pack_L32 {p : Program} {l : Launch} {e : Env} {s : State} {m : MethodId} {args : Array Value} {below : List Frame} {meth : Method} {c : Code} {D : va_G} {aC : Nat → ClassId} {G0 : Hp} (hC : zC p m c meth s args cX12_pack 6 RX12 D aC) (hr : meth.sig.returnType = (some .boolean)) (FU : Nat) (rec : Nat → Int → Int → Int → Hp → Option (Int × Hp)) (rr : Room) (hrr : rr.cells = 0 ∧ rr.slots = 0) (hrec : ∀ (this : Nat) (p1 : Int) (p2 : Int) (p3 : Int), zInI p1 → zInI p2 → zInI p3 → ∀ (G : Hp) (r1 : (Int × Hp)), rec this p1 p2 p3 G = some r1 → Met l yX12_pack (Cond.code yX12_pack cX12_pack 6 (some .boolean) :: zgood) rr (va_Pc [.ref this, .int (zi p1), .int (zi p2), .int (zi p3)] (zU D aC G)) (zQ D aC G (zIn01 r1.1) (some (.int (zi r1.1))) r1.2) 0 0 (zA G)) (hreck : ∀ (this : Nat) (p1 : Int) (p2 : Int) (p3 : Int) (G : Hp) (r1 : (Int × Hp)), rec this p1 p2 p3 G = some r1 → zk G this = some (12, 0)) : ∀ (n : Nat) (x0 : Nat) (x1 : Int) (x2 : Int) (x3 : Int) (x4 : Int) (G : Hp) (hx1 : zInI x1) (hx2 : zInI x2) (hx3 : zInI x3) (hx4 : zInI x4), zS p l e ({ frames := rr.frames + 1, cells := 0, slots := 0, locals := rr.locals + 25 } : Room) s m args below meth c D aC G0 (zfZ D aC G0 below args s 0 0) 6 0 0 (FM_pack_L32 FU rec n x0 x1 x2 x3 x4 G) G 32 [(0, .ref x0), (1, .int (zi x1)), (2, .int (zi x2)), (3, .int (zi x3)), (4, .int (zi x4))] [] := by
  intro n
  induction n with
  | zero => intros; exact z_none
  | succ n ih =>
    intro x0 x1 x2 x3 x4 G hx1 hx2 hx3 hx4
    rw [FM_pack_L32]
    refine z_iload hC 4 rfl dX12_pack_32 ?_
    refine z_iload_n hC 2 rfl dX12_pack_34 rfl ?_
    refine z_icmp_gt (tgt := 141) hC hx4 hx2 dX12_pack_35 (by decide) (fun _ => ?_) (fun _ => ?_)
    · refine z_iload hC 4 rfl dX12_pack_38 ?_
      refine z_iload_n hC 3 rfl dX12_pack_40 rfl ?_
      refine z_icmp_ge (tgt := 141) hC hx4 hx3 dX12_pack_41 (by decide) (fun _ => ?_) (fun _ => ?_)
      · refine z_aload_n hC 0 rfl dX12_pack_44 rfl ?_
        refine z_getQ hC zF12_133 rfl dX12_pack_45 (fun v1 => ?_)
        refine z_iload hC 4 rfl dX12_pack_48 ?_
        refine z_iald hC hx4 dX12_pack_50 (fun v2 hv2 => ?_)
        refine z_aload_n hC 0 rfl dX12_pack_51 rfl ?_
        refine z_getQ hC zF12_124 rfl dX12_pack_52 (fun v3 => ?_)
        refine z_iload_n hC 1 rfl dX12_pack_55 rfl ?_
        refine z_iald hC hx1 dX12_pack_56 (fun v4 hv4 => ?_)
        refine z_iadd hC dX12_pack_57 (fun v5 hv5 => ?_)
        refine z_aload_n hC 0 rfl dX12_pack_58 rfl ?_
        refine z_getI hC zF12_327 rfl dX12_pack_59 (fun v6 hv6 => ?_)
        refine z_icmp_gt (tgt := 135) hC hv5 hv6 dX12_pack_62 (by decide) (fun _ => ?_) (fun _ => ?_)
        · refine z_aload_n hC 0 rfl dX12_pack_65 rfl ?_
          refine z_getQ hC zF12_133 rfl dX12_pack_66 (fun v7 => ?_)
          refine z_iload hC 4 rfl dX12_pack_69 ?_
          refine z_dup2 hC rfl rfl dX12_pack_71 ?_
          refine z_iald hC hx4 dX12_pack_72 (fun v8 hv8 => ?_)
          refine z_aload_n hC 0 rfl dX12_pack_73 rfl ?_
          refine z_getQ hC zF12_124 rfl dX12_pack_74 (fun v9 => ?_)
          refine z_iload_n hC 1 rfl dX12_pack_77 rfl ?_
          refine z_iald hC hx1 dX12_pack_78 (fun v10 hv10 => ?_)
          refine z_iadd hC dX12_pack_79 (fun v11 hv11 => ?_)
          refine z_iast hC hx4 hv11 dX12_pack_80 (fun G12 => ?_)
          refine z_aload_n hC 0 rfl dX12_pack_81 rfl ?_
          refine z_getQ hC zF12_127 rfl dX12_pack_82 (fun v13 => ?_)
          refine z_iload_n hC 1 rfl dX12_pack_85 rfl ?_
          refine z_iload hC 4 rfl dX12_pack_86 ?_
          refine z_iast hC hx1 hx4 dX12_pack_88 (fun G14 => ?_)
          refine z_aload_n hC 0 rfl dX12_pack_89 rfl ?_
          refine z_iload_n hC 1 rfl dX12_pack_90 rfl ?_
          refine z_iconst hC dX12_pack_91 ?_
          refine z_iadd hC dX12_pack_92 (fun v15 hv15 => ?_)
          refine z_iload hC 4 rfl dX12_pack_93 ?_
          refine z_iload_n hC 2 rfl dX12_pack_95 rfl ?_
          refine z_icmp_ne (tgt := 105) hC hx4 hx2 dX12_pack_96 (by decide) (fun _ => ?_) (fun _ => ?_)
          · refine z_iload_n hC 2 rfl dX12_pack_99 rfl ?_
            refine z_iconst hC dX12_pack_100 ?_
            refine z_iadd hC dX12_pack_101 (fun v16 hv16 => ?_)
            refine z_goto (tgt := 106) hC dX12_pack_102 (by decide) ?_
            refine z_sub hC [0, 1, 2, 3, 4] (lo' := [(0, .ref x0), (1, .int (zi x1)), (2, .int (zi x2)), (3, .int (zi x3)), (4, .int (zi x4))]) rfl ?_
            exact SM_pack_B106 hC hr FU rec rr hrr hrec hreck (FM_pack_L32 FU rec n) ih x0 x1 x2 x3 x4 x0 v15 v16 G14 hx1 hx2 hx3 hx4 hv15 hv16
          · refine z_iload_n hC 2 rfl dX12_pack_105 rfl ?_
            refine z_sub hC [0, 1, 2, 3, 4] (lo' := [(0, .ref x0), (1, .int (zi x1)), (2, .int (zi x2)), (3, .int (zi x3)), (4, .int (zi x4))]) rfl ?_
            exact SM_pack_B106 hC hr FU rec rr hrr hrec hreck (FM_pack_L32 FU rec n) ih x0 x1 x2 x3 x4 x0 v15 x2 G14 hx1 hx2 hx3 hx4 hv15 hx2
        · refine z_iinc (lo' := fun v17 => [(4, .int (zi v17)), (0, .ref x0), (1, .int (zi x1)), (2, .int (zi x2)), (3, .int (zi x3))]) hC 4 dX12_pack_135 rfl (by decide) (fun _ => rfl) (fun v17 hv17 => ?_)
          refine z_goto (tgt := 32) hC dX12_pack_138 (by decide) ?_
          refine z_sub hC [1, 2, 3, 4, 0] (lo' := [(0, .ref x0), (1, .int (zi x1)), (2, .int (zi x2)), (3, .int (zi x3)), (4, .int (zi v17))]) rfl ?_
          exact ih x0 x1 x2 x3 v17 G hx1 hx2 hx3 hv17
      · refine z_iconst hC dX12_pack_141 ?_
        exact z_zret hC hr dX12_pack_142
    · refine z_iconst hC dX12_pack_141 ?_
      exact z_zret hC hr dX12_pack_142
set_option maxRecDepth 100000 in
theorem SM_pack {l : Launch} {D : va_G} {aC : Nat → ClassId} (FU : Nat) (rec : Nat → Int → Int → Int → Hp → Option (Int × Hp)) (rr : Room) (hrr : rr.cells = 0 ∧ rr.slots = 0) (hrec : ∀ (this : Nat) (p1 : Int) (p2 : Int) (p3 : Int), zInI p1 → zInI p2 → zInI p3 → ∀ (G : Hp) (r1 : (Int × Hp)), rec this p1 p2 p3 G = some r1 → Met l yX12_pack (Cond.code yX12_pack cX12_pack 6 (some .boolean) :: zgood) rr (va_Pc [.ref this, .int (zi p1), .int (zi p2), .int (zi p3)] (zU D aC G)) (zQ D aC G (zIn01 r1.1) (some (.int (zi r1.1))) r1.2) 0 0 (zA G)) (hreck : ∀ (this : Nat) (p1 : Int) (p2 : Int) (p3 : Int) (G : Hp) (r1 : (Int × Hp)), rec this p1 p2 p3 G = some r1 → zk G this = some (12, 0)) (this : Nat) (p1 : Int) (p2 : Int) (p3 : Int) (hp1 : zInI p1) (hp2 : zInI p2) (hp3 : zInI p3) {G : Hp} {r1 : (Int × Hp)} (h1 : FM_pack FU rec this p1 p2 p3 G = some r1) : Met l yX12_pack (Cond.code yX12_pack cX12_pack 6 (some .boolean) :: zgood) ({ frames := rr.frames + 1, cells := 0, slots := 0, locals := rr.locals + 25 } : Room) (va_Pc [.ref this, .int (zi p1), .int (zi p2), .int (zi p3)] (zU D aC G)) (zQ D aC G (zIn01 r1.1) (some (.int (zi r1.1))) r1.2) 0 0 (zA G) := by
  refine z_met (y := yX12_pack) (b := cX12_pack) (maxL := 6) (mc := 0) (ms := 0) (ret := (some .boolean)) (As := [.ref this, .int (zi p1), .int (zi p2), .int (zi p3)]) (Q1 := fun r1 => zQ D aC G (zIn01 r1.1) (some (.int (zi r1.1))) r1.2) (X := FM_pack FU rec this p1 p2 p3 G) (by decide) (Nat.le_of_ble_eq_true rfl) ?_ h1
  intro p e s m below meth c hC hr hi
  have hC : zC p m c meth s ([.ref this, .int (zi p1), .int (zi p2), .int (zi p3)] : List Value).toArray cX12_pack 6 RX12 D aC := hC
  generalize ([.ref this, .int (zi p1), .int (zi p2), .int (zi p3)] : List Value).toArray = args at hC ⊢
  show zS p l e ({ frames := rr.frames + 1, cells := 0, slots := 0, locals := rr.locals + 25 } : Room) s m args below meth c D aC G (zfZ D aC G below args s 0 0) 6 0 0 (FM_pack FU rec this p1 p2 p3 G) G 0 [(0, .ref this), (1, .int (zi p1)), (2, .int (zi p2)), (3, .int (zi p3))] []
  unfold FM_pack
  refine z_gd ?_
  unfold FM_pack_b
  refine z_iload_n hC 1 rfl dX12_pack_0 rfl ?_
  refine z_aload_n hC 0 rfl dX12_pack_1 rfl ?_
  refine z_getI hC zF12_139 rfl dX12_pack_2 (fun v1 hv1 => ?_)
  refine z_icmp_ne (tgt := 10) hC hp1 hv1 dX12_pack_5 (by decide) (fun _ => ?_) (fun _ => ?_)
  · refine z_iconst hC dX12_pack_8 ?_
    exact z_zret hC hr dX12_pack_9
  · refine z_aload_n hC 0 rfl dX12_pack_10 rfl ?_
    refine z_getQ hC zF12_124 rfl dX12_pack_11 (fun v2 => ?_)
    refine z_iload_n hC 1 rfl dX12_pack_14 rfl ?_
    refine z_iald hC hp1 dX12_pack_15 (fun v3 hv3 => ?_)
    refine z_if_ne (tgt := 29) hC hv3 dX12_pack_16 (by decide) (fun _ => ?_) (fun _ => ?_)
    · refine z_aload_n hC 0 rfl dX12_pack_19 rfl ?_
      refine z_iload_n hC 1 rfl dX12_pack_20 rfl ?_
      refine z_iconst hC dX12_pack_21 ?_
      refine z_iadd hC dX12_pack_22 (fun v4 hv4 => ?_)
      refine z_iload_n hC 2 rfl dX12_pack_23 rfl ?_
      refine z_iload_n hC 3 rfl dX12_pack_24 rfl ?_
      refine z_cZ (z_rV (q := this) (t := 12) (As := [.int (zi v4), .int (zi p2), .int (zi p3)]) hC (fun _ h1 => hrec this v4 p2 p3 hv4 hp2 hp3 G _ h1) (fun _ h1 => hreck this v4 p2 p3 G _ h1) rfl rfl zM12_324 zMv_FM_pack ⟨show rr.frames + 1 ≤ rr.frames + 1 by omega, show 8 + (6 + 11) + rr.locals ≤ rr.locals + 25 by omega⟩ hrr.1 hrr.2 rfl (rest := []) (Nat.le_of_ble_eq_true rfl) ⟨Nat.le_of_ble_eq_true rfl, Nat.le_of_ble_eq_true rfl⟩ rfl dX12_pack_25) (fun v6 G5 hv6 => ?_)
      exact z_zret hC hr dX12_pack_28
    · refine z_iconst hC dX12_pack_29 ?_
      refine z_istore (lo' := [(4, .int (zi (0))), (0, .ref this), (1, .int (zi p1)), (2, .int (zi p2)), (3, .int (zi p3))]) hC dX12_pack_30 (by decide) rfl ?_
      refine z_sub hC [1, 2, 3, 4, 0] (lo' := [(0, .ref this), (1, .int (zi p1)), (2, .int (zi p2)), (3, .int (zi p3)), (4, .int (zi (0)))]) rfl ?_
      exact SM_pack_L32 hC hr FU rec rr hrr hrec hreck FU this p1 p2 p3 (0) G hp1 hp2 hp3 (by decide)
theorem SM_pack_k {FU : Nat} {rec : Nat → Int → Int → Int → Hp → Option (Int × Hp)} {this : Nat} {p1 : Int} {p2 : Int} {p3 : Int} {G : Hp} {r1 : (Int × Hp)} (h1 : FM_pack FU rec this p1 p2 p3 G = some r1) : zk G this = some (12, 0) := zgd_k (k := FM_pack_b FU rec this p1 p2 p3 G) h1
theorem SM_pack_nk {FU d : Nat} {this : Nat} {p1 : Int} {p2 : Int} {p3 : Int} {G : Hp} {r1 : (Int × Hp)} (h1 : FM_pack_n FU d this p1 p2 p3 G = some r1) : zk G this = some (12, 0) := by
  cases d with
  | zero => cases h1
  | succ d => exact SM_pack_k h1
theorem SM_pack_n {l : Launch} {D : va_G} {aC : Nat → ClassId} (FU : Nat) : ∀ (d : Nat) (this : Nat) (p1 : Int) (p2 : Int) (p3 : Int) (hp1 : zInI p1) (hp2 : zInI p2) (hp3 : zInI p3) {G : Hp} {r1 : (Int × Hp)}, FM_pack_n FU d this p1 p2 p3 G = some r1 → Met l yX12_pack (Cond.code yX12_pack cX12_pack 6 (some .boolean) :: zgood) ({ frames := 1 * d, cells := 0, slots := 0, locals := 25 * d } : Room) (va_Pc [.ref this, .int (zi p1), .int (zi p2), .int (zi p3)] (zU D aC G)) (zQ D aC G (zIn01 r1.1) (some (.int (zi r1.1))) r1.2) 0 0 (zA G) := by
  intro d
  induction d with
  | zero => intros; rename_i h; cases h
  | succ d ih =>
    intro this p1 p2 p3 hp1 hp2 hp3 G r1 h1
    exact SM_pack FU (FM_pack_n FU d) ({ frames := 1 * d, cells := 0, slots := 0, locals := 25 * d } : Room) ⟨rfl, rfl⟩ (fun this p1 p2 p3 hp1 hp2 hp3 _ _ h => ih this p1 p2 p3 hp1 hp2 hp3 h) (fun this p1 p2 p3 _ _ h => SM_pack_nk h) this p1 p2 p3 hp1 hp2 hp3 h1

set_option maxRecDepth 100000 in
theorem SM_carts_B131 {p : Program} {l : Launch} {e : Env} {s : State} {m : MethodId} {args : Array Value} {below : List Frame} {meth : Method} {c : Code} {D : va_G} {aC : Nat → ClassId} {G0 : Hp} (hC : zC p m c meth s args cX12_carts 5 RX12 D aC) (hr : meth.sig.returnType = (some .int)) (FU : Nat) (kL90 : Nat → Int → Int → Int → Hp → Option (Int × Hp)) (hkL90 : ∀ (a0 : Nat) (a1 : Int) (a2 : Int) (a3 : Int) (G : Hp), zInI a1 → zInI a2 → zInI a3 → zS p l e ({ frames := 45, cells := 0, slots := 0, locals := 1125 } : Room) s m args below meth c D aC G0 (zfI D aC G0 below args s 0 0) 5 0 0 (kL90 a0 a1 a2 a3 G) G 90 [(0, .ref a0), (2, .int (zi a1)), (3, .int (zi a2)), (4, .int (zi a3))] []) (x0 : Nat) (x2 : Int) (x3 : Int) (x4 : Int) (G : Hp) (hx2 : zInI x2) (hx3 : zInI x3) (hx4 : zInI x4) : zS p l e ({ frames := 45, cells := 0, slots := 0, locals := 1125 } : Room) s m args below meth c D aC G0 (zfI D aC G0 below args s 0 0) 5 0 0 (FM_carts_B131 FU kL90 x0 x2 x3 x4 G) G 131 [(0, .ref x0), (2, .int (zi x2)), (3, .int (zi x3)), (4, .int (zi x4))] [] := by
  unfold FM_carts_B131
  refine z_aload_n hC 0 rfl dX12_carts_131 rfl ?_
  refine z_getQ hC zF12_124 rfl dX12_carts_132 (fun v1 => ?_)
  refine z_iload hC 3 rfl dX12_carts_135 ?_
  refine z_iconst hC dX12_carts_137 ?_
  refine z_iast hC hx4 (by decide) dX12_carts_138 (fun G2 => ?_)
  refine z_iinc (lo' := fun v3 => [(4, .int (zi v3)), (0, .ref x0), (2, .int (zi x2)), (3, .int (zi x3))]) hC 3 dX12_carts_139 rfl (by decide) (fun _ => rfl) (fun v3 hv3 => ?_)
  refine z_goto (tgt := 90) hC dX12_carts_142 (by decide) ?_
  refine z_sub hC [1, 2, 3, 0] (lo' := [(0, .ref x0), (2, .int (zi x2)), (3, .int (zi x3)), (4, .int (zi v3))]) rfl ?_
  exact hkL90 x0 x2 x3 v3 G2 hx2 hx3 hv3
set_option maxRecDepth 100000 in
theorem SM_carts_B130 {p : Program} {l : Launch} {e : Env} {s : State} {m : MethodId} {args : Array Value} {below : List Frame} {meth : Method} {c : Code} {D : va_G} {aC : Nat → ClassId} {G0 : Hp} (hC : zC p m c meth s args cX12_carts 5 RX12 D aC) (hr : meth.sig.returnType = (some .int)) (FU : Nat) (kL90 : Nat → Int → Int → Int → Hp → Option (Int × Hp)) (hkL90 : ∀ (a0 : Nat) (a1 : Int) (a2 : Int) (a3 : Int) (G : Hp), zInI a1 → zInI a2 → zInI a3 → zS p l e ({ frames := 45, cells := 0, slots := 0, locals := 1125 } : Room) s m args below meth c D aC G0 (zfI D aC G0 below args s 0 0) 5 0 0 (kL90 a0 a1 a2 a3 G) G 90 [(0, .ref a0), (2, .int (zi a1)), (3, .int (zi a2)), (4, .int (zi a3))] []) (x0 : Nat) (x2 : Int) (x3 : Int) (x4 : Int) (y0 : Nat) (y1 : Int) (y2 : Int) (G : Hp) (hx2 : zInI x2) (hx3 : zInI x3) (hx4 : zInI x4) (hy1 : zInI y1) (hy2 : zInI y2) : zS p l e ({ frames := 45, cells := 0, slots := 0, locals := 1125 } : Room) s m args below meth c D aC G0 (zfI D aC G0 below args s 0 0) 5 0 0 (FM_carts_B130 FU kL90 x0 x2 x3 x4 y0 y1 y2 G) G 130 [(0, .ref x0), (2, .int (zi x2)), (3, .int (zi x3)), (4, .int (zi x4))] [.int (zi y2), .int (zi y1), .ref y0] := by
  unfold FM_carts_B130
  refine z_iast hC hy1 hy2 dX12_carts_130 (fun G1 => ?_)
  refine z_sub hC [0, 1, 2, 3] (lo' := [(0, .ref x0), (2, .int (zi x2)), (3, .int (zi x3)), (4, .int (zi x4))]) rfl ?_
  exact SM_carts_B131 hC hr FU kL90 hkL90 x0 x2 x3 x4 G1 hx2 hx3 hx4
set_option maxRecDepth 100000 in
theorem SM_carts_L90 {p : Program} {l : Launch} {e : Env} {s : State} {m : MethodId} {args : Array Value} {below : List Frame} {meth : Method} {c : Code} {D : va_G} {aC : Nat → ClassId} {G0 : Hp} (hC : zC p m c meth s args cX12_carts 5 RX12 D aC) (hr : meth.sig.returnType = (some .int)) (FU : Nat) : ∀ (n : Nat) (x0 : Nat) (x2 : Int) (x3 : Int) (x4 : Int) (G : Hp) (hx2 : zInI x2) (hx3 : zInI x3) (hx4 : zInI x4), zS p l e ({ frames := 45, cells := 0, slots := 0, locals := 1125 } : Room) s m args below meth c D aC G0 (zfI D aC G0 below args s 0 0) 5 0 0 (FM_carts_L90 FU n x0 x2 x3 x4 G) G 90 [(0, .ref x0), (2, .int (zi x2)), (3, .int (zi x3)), (4, .int (zi x4))] [] := by
  intro n
  induction n with
  | zero => intros; exact z_none
  | succ n ih =>
    intro x0 x2 x3 x4 G hx2 hx3 hx4
    rw [FM_carts_L90]
    refine z_iload hC 3 rfl dX12_carts_90 ?_
    refine z_aload_n hC 0 rfl dX12_carts_92 rfl ?_
    refine z_getI hC zF12_139 rfl dX12_carts_93 (fun v1 hv1 => ?_)
    refine z_icmp_ge (tgt := 145) hC hx4 hv1 dX12_carts_96 (by decide) (fun _ => ?_) (fun _ => ?_)
    · refine z_iload_n hC 1 rfl dX12_carts_99 rfl ?_
      refine z_if_eq (tgt := 131) hC hx2 dX12_carts_100 (by decide) (fun _ => ?_) (fun _ => ?_)
      · refine z_sub hC [0, 1, 2, 3] (lo' := [(0, .ref x0), (2, .int (zi x2)), (3, .int (zi x3)), (4, .int (zi x4))]) rfl ?_
        exact SM_carts_B131 hC hr FU (FM_carts_L90 FU n) ih x0 x2 x3 x4 G hx2 hx3 hx4
      · refine z_aload_n hC 0 rfl dX12_carts_103 rfl ?_
        refine z_getQ hC zF12_130 rfl dX12_carts_104 (fun v2 => ?_)
        refine z_iload hC 3 rfl dX12_carts_107 ?_
        refine z_aload_n hC 0 rfl dX12_carts_109 rfl ?_
        refine z_getQ hC zF12_124 rfl dX12_carts_110 (fun v3 => ?_)
        refine z_iload hC 3 rfl dX12_carts_113 ?_
        refine z_iald hC hx4 dX12_carts_115 (fun v4 hv4 => ?_)
        refine z_if_le (tgt := 129) hC hv4 dX12_carts_116 (by decide) (fun _ => ?_) (fun _ => ?_)
        · refine z_iconst hC dX12_carts_129 ?_
          refine z_sub hC [0, 1, 2, 3] (lo' := [(0, .ref x0), (2, .int (zi x2)), (3, .int (zi x3)), (4, .int (zi x4))]) rfl ?_
          exact SM_carts_B130 hC hr FU (FM_carts_L90 FU n) ih x0 x2 x3 x4 v2 x4 (-1) G hx2 hx3 hx4 hx4 (by decide)
        · refine z_aload_n hC 0 rfl dX12_carts_119 rfl ?_
          refine z_getQ hC zF12_127 rfl dX12_carts_120 (fun v5 => ?_)
          refine z_iload hC 3 rfl dX12_carts_123 ?_
          refine z_iald hC hx4 dX12_carts_125 (fun v6 hv6 => ?_)
          refine z_goto (tgt := 130) hC dX12_carts_126 (by decide) ?_
          refine z_sub hC [0, 1, 2, 3] (lo' := [(0, .ref x0), (2, .int (zi x2)), (3, .int (zi x3)), (4, .int (zi x4))]) rfl ?_
          exact SM_carts_B130 hC hr FU (FM_carts_L90 FU n) ih x0 x2 x3 x4 v2 x4 v6 G hx2 hx3 hx4 hx4 hv6
    · refine z_aload_n hC 0 rfl dX12_carts_145 rfl ?_
      refine z_iconst hC dX12_carts_146 ?_
      refine z_putI hC (by decide) zF12_321 rfl rfl dX12_carts_147 (fun G7 => ?_)
      refine z_iload_n hC 1 rfl dX12_carts_150 rfl ?_
      refine z_if_eq (tgt := 158) hC hx2 dX12_carts_151 (by decide) (fun _ => ?_) (fun _ => ?_)
      · refine z_bipush hC dX12_carts_158 rfl ?_
        exact z_iret hC (by decide) hr dX12_carts_160
      · refine z_iload_n hC 2 rfl dX12_carts_154 rfl ?_
        refine z_goto (tgt := 160) hC dX12_carts_155 (by decide) ?_
        exact z_iret hC hx3 hr dX12_carts_160
set_option maxRecDepth 100000 in
theorem SM_carts_L67 {p : Program} {l : Launch} {e : Env} {s : State} {m : MethodId} {args : Array Value} {below : List Frame} {meth : Method} {c : Code} {D : va_G} {aC : Nat → ClassId} {G0 : Hp} (hC : zC p m c meth s args cX12_carts 5 RX12 D aC) (hr : meth.sig.returnType = (some .int)) (FU : Nat) : ∀ (n : Nat) (x0 : Nat) (x2 : Int) (x3 : Int) (G : Hp) (hx2 : zInI x2) (hx3 : zInI x3), zS p l e ({ frames := 45, cells := 0, slots := 0, locals := 1125 } : Room) s m args below meth c D aC G0 (zfI D aC G0 below args s 0 0) 5 0 0 (FM_carts_L67 FU n x0 x2 x3 G) G 67 [(0, .ref x0), (2, .int (zi x2)), (3, .int (zi x3))] [] := by
  intro n
  induction n with
  | zero => intros; exact z_none
  | succ n ih =>
    intro x0 x2 x3 G hx2 hx3
    rw [FM_carts_L67]
    refine z_iload_n hC 1 rfl dX12_carts_67 rfl ?_
    refine z_if_eq (tgt := 87) hC hx2 dX12_carts_68 (by decide) (fun _ => ?_) (fun _ => ?_)
    · refine z_iconst hC dX12_carts_87 ?_
      refine z_istore (lo' := [(4, .int (zi (0))), (0, .ref x0), (2, .int (zi x2)), (3, .int (zi x3))]) hC dX12_carts_88 (by decide) rfl ?_
      refine z_sub hC [1, 2, 3, 0] (lo' := [(0, .ref x0), (2, .int (zi x2)), (3, .int (zi x3)), (4, .int (zi (0)))]) rfl ?_
      exact SM_carts_L90 hC hr FU FU x0 x2 x3 (0) G hx2 hx3 (by decide)
    · refine z_aload_n hC 0 rfl dX12_carts_71 rfl ?_
      refine z_iconst hC dX12_carts_72 ?_
      refine z_iconst hC dX12_carts_73 ?_
      refine z_iload_n hC 2 rfl dX12_carts_74 rfl ?_
      refine z_cZ (z_rV (q := x0) (t := 12) (As := [.int (zi (0)), .int (zi (0)), .int (zi x3)]) hC (fun _ h1 => SM_pack_n FU 44 x0 (0) (0) x3 (by decide) (by decide) hx3 h1) (fun _ h1 => SM_pack_nk h1) rfl rfl zM12_324 zMv_FM_pack ⟨by decide, by decide⟩ rfl rfl rfl (rest := []) (Nat.le_of_ble_eq_true rfl) ⟨Nat.le_of_ble_eq_true rfl, Nat.le_of_ble_eq_true rfl⟩ rfl dX12_carts_75) (fun v2 G1 hv2 => ?_)
      refine z_if_ne (tgt := 87) hC (hv2).i dX12_carts_78 (by decide) (fun _ => ?_) (fun _ => ?_)
      · refine z_iinc (lo' := fun v3 => [(3, .int (zi v3)), (0, .ref x0), (2, .int (zi x2))]) hC 2 dX12_carts_81 rfl (by decide) (fun _ => rfl) (fun v3 hv3 => ?_)
        refine z_goto (tgt := 67) hC dX12_carts_84 (by decide) ?_
        refine z_sub hC [1, 2, 0] (lo' := [(0, .ref x0), (2, .int (zi x2)), (3, .int (zi v3))]) rfl ?_
        exact ih x0 x2 v3 G1 hx2 hv3
      · refine z_iconst hC dX12_carts_87 ?_
        refine z_istore (lo' := [(4, .int (zi (0))), (0, .ref x0), (2, .int (zi x2)), (3, .int (zi x3))]) hC dX12_carts_88 (by decide) rfl ?_
        refine z_sub hC [1, 2, 3, 0] (lo' := [(0, .ref x0), (2, .int (zi x2)), (3, .int (zi x3)), (4, .int (zi (0)))]) rfl ?_
        exact SM_carts_L90 hC hr FU FU x0 x2 x3 (0) G1 hx2 hx3 (by decide)
set_option maxRecDepth 100000 in
theorem SM_carts_L31 {p : Program} {l : Launch} {e : Env} {s : State} {m : MethodId} {args : Array Value} {below : List Frame} {meth : Method} {c : Code} {D : va_G} {aC : Nat → ClassId} {G0 : Hp} (hC : zC p m c meth s args cX12_carts 5 RX12 D aC) (hr : meth.sig.returnType = (some .int)) (FU : Nat) : ∀ (n : Nat) (x0 : Nat) (x1 : Int) (x2 : Int) (x3 : Int) (G : Hp) (hx1 : zInI x1) (hx2 : zInI x2) (hx3 : zInI x3), zS p l e ({ frames := 45, cells := 0, slots := 0, locals := 1125 } : Room) s m args below meth c D aC G0 (zfI D aC G0 below args s 0 0) 5 0 0 (FM_carts_L31 FU n x0 x1 x2 x3 G) G 31 [(0, .ref x0), (1, .int (zi x1)), (2, .int (zi x2)), (3, .int (zi x3))] [] := by
  intro n
  induction n with
  | zero => intros; exact z_none
  | succ n ih =>
    intro x0 x1 x2 x3 G hx1 hx2 hx3
    rw [FM_carts_L31]
    refine z_iload_n hC 3 rfl dX12_carts_31 rfl ?_
    refine z_aload_n hC 0 rfl dX12_carts_32 rfl ?_
    refine z_getI hC zF12_139 rfl dX12_carts_33 (fun v1 hv1 => ?_)
    refine z_icmp_ge (tgt := 65) hC hx3 hv1 dX12_carts_36 (by decide) (fun _ => ?_) (fun _ => ?_)
    · refine z_iload_n hC 2 rfl dX12_carts_39 rfl ?_
      refine z_if_eq (tgt := 57) hC hx2 dX12_carts_40 (by decide) (fun _ => ?_) (fun _ => ?_)
      · refine z_iconst hC dX12_carts_57 ?_
        refine z_istore_n (lo' := [(2, .int (zi (0))), (0, .ref x0), (1, .int (zi x1)), (3, .int (zi x3))]) hC dX12_carts_58 rfl (by decide) rfl ?_
        refine z_iinc (lo' := fun v2 => [(3, .int (zi v2)), (2, .int (zi (0))), (0, .ref x0), (1, .int (zi x1))]) hC 3 dX12_carts_59 rfl (by decide) (fun _ => rfl) (fun v2 hv2 => ?_)
        refine z_goto (tgt := 31) hC dX12_carts_62 (by decide) ?_
        refine z_sub hC [2, 3, 1, 0] (lo' := [(0, .ref x0), (1, .int (zi x1)), (2, .int (zi (0))), (3, .int (zi v2))]) rfl ?_
        exact ih x0 x1 (0) v2 G hx1 (by decide) hv2
      · refine z_aload_n hC 0 rfl dX12_carts_43 rfl ?_
        refine z_getQ hC zF12_124 rfl dX12_carts_44 (fun v3 => ?_)
        refine z_iload_n hC 3 rfl dX12_carts_47 rfl ?_
        refine z_iald hC hx3 dX12_carts_48 (fun v4 hv4 => ?_)
        refine z_iload_n hC 1 rfl dX12_carts_49 rfl ?_
        refine z_icmp_gt (tgt := 57) hC hv4 hx1 dX12_carts_50 (by decide) (fun _ => ?_) (fun _ => ?_)
        · refine z_iconst hC dX12_carts_53 ?_
          refine z_goto (tgt := 58) hC dX12_carts_54 (by decide) ?_
          refine z_istore_n (lo' := [(2, .int (zi (1))), (0, .ref x0), (1, .int (zi x1)), (3, .int (zi x3))]) hC dX12_carts_58 rfl (by decide) rfl ?_
          refine z_iinc (lo' := fun v5 => [(3, .int (zi v5)), (2, .int (zi (1))), (0, .ref x0), (1, .int (zi x1))]) hC 3 dX12_carts_59 rfl (by decide) (fun _ => rfl) (fun v5 hv5 => ?_)
          refine z_goto (tgt := 31) hC dX12_carts_62 (by decide) ?_
          refine z_sub hC [2, 3, 1, 0] (lo' := [(0, .ref x0), (1, .int (zi x1)), (2, .int (zi (1))), (3, .int (zi v5))]) rfl ?_
          exact ih x0 x1 (1) v5 G hx1 (by decide) hv5
        · refine z_iconst hC dX12_carts_57 ?_
          refine z_istore_n (lo' := [(2, .int (zi (0))), (0, .ref x0), (1, .int (zi x1)), (3, .int (zi x3))]) hC dX12_carts_58 rfl (by decide) rfl ?_
          refine z_iinc (lo' := fun v6 => [(3, .int (zi v6)), (2, .int (zi (0))), (0, .ref x0), (1, .int (zi x1))]) hC 3 dX12_carts_59 rfl (by decide) (fun _ => rfl) (fun v6 hv6 => ?_)
          refine z_goto (tgt := 31) hC dX12_carts_62 (by decide) ?_
          refine z_sub hC [2, 3, 1, 0] (lo' := [(0, .ref x0), (1, .int (zi x1)), (2, .int (zi (0))), (3, .int (zi v6))]) rfl ?_
          exact ih x0 x1 (0) v6 G hx1 (by decide) hv6
    · refine z_iconst hC dX12_carts_65 ?_
      refine z_istore_n (lo' := [(3, .int (zi (1))), (0, .ref x0), (1, .int (zi x1)), (2, .int (zi x2))]) hC dX12_carts_66 rfl (by decide) rfl ?_
      refine z_sub hC [1, 3, 0] (lo' := [(0, .ref x0), (2, .int (zi x2)), (3, .int (zi (1)))]) rfl ?_
      exact SM_carts_L67 hC hr FU FU x0 x2 (1) G hx2 (by decide)
set_option maxRecDepth 100000 in
theorem SM_carts {l : Launch} {D : va_G} {aC : Nat → ClassId} (FU : Nat) (this : Nat) (p1 : Int) (hp1 : zInI p1) {G : Hp} {r1 : (Int × Hp)} (h1 : FM_carts FU this p1 G = some r1) : Met l yX12_carts (Cond.code yX12_carts cX12_carts 5 (some .int) :: zgood) ({ frames := 45, cells := 0, slots := 0, locals := 1125 } : Room) (va_Pc [.ref this, .int (zi p1)] (zU D aC G)) (zQ D aC G (zInI r1.1) (some (.int (zi r1.1))) r1.2) 0 0 (zA G) := by
  refine z_met (y := yX12_carts) (b := cX12_carts) (maxL := 5) (mc := 0) (ms := 0) (ret := (some .int)) (As := [.ref this, .int (zi p1)]) (Q1 := fun r1 => zQ D aC G (zInI r1.1) (some (.int (zi r1.1))) r1.2) (X := FM_carts FU this p1 G) (by decide) (Nat.le_of_ble_eq_true rfl) ?_ h1
  intro p e s m below meth c hC hr hi
  have hC : zC p m c meth s ([.ref this, .int (zi p1)] : List Value).toArray cX12_carts 5 RX12 D aC := hC
  generalize ([.ref this, .int (zi p1)] : List Value).toArray = args at hC ⊢
  show zS p l e ({ frames := 45, cells := 0, slots := 0, locals := 1125 } : Room) s m args below meth c D aC G (zfI D aC G below args s 0 0) 5 0 0 (FM_carts FU this p1 G) G 0 [(0, .ref this), (1, .int (zi p1))] []
  unfold FM_carts
  refine z_gd ?_
  unfold FM_carts_b
  refine z_iload_n hC 1 rfl dX12_carts_0 rfl ?_
  refine z_iconst hC dX12_carts_1 ?_
  refine z_bipush hC dX12_carts_2 rfl ?_
  refine z_cZp (z_rS (As := [.int (zi p1), .int (zi (1)), .int (zi (99))]) hC (fun _ h1 => SM_within FU p1 (1) (99) hp1 (by decide) (by decide) h1) zM12_142 zMs_FM_within ⟨by decide, by decide⟩ rfl rfl rfl (rest := []) (Nat.le_of_ble_eq_true rfl) ⟨Nat.le_of_ble_eq_true rfl, Nat.le_of_ble_eq_true rfl⟩ rfl dX12_carts_4) (fun v1 hv1 => ?_)
  refine z_if_ne (tgt := 12) hC (hv1).i dX12_carts_7 (by decide) (fun _ => ?_) (fun _ => ?_)
  · refine z_iconst hC dX12_carts_10 ?_
    exact z_iret hC (by decide) hr dX12_carts_11
  · refine z_aload_n hC 0 rfl dX12_carts_12 rfl ?_
    refine z_getI hC zF12_321 rfl dX12_carts_13 (fun v2 hv2 => ?_)
    refine z_if_ne (tgt := 22) hC hv2 dX12_carts_16 (by decide) (fun _ => ?_) (fun _ => ?_)
    · refine z_bipush hC dX12_carts_19 rfl ?_
      exact z_iret hC (by decide) hr dX12_carts_21
    · refine z_aload_n hC 0 rfl dX12_carts_22 rfl ?_
      refine z_iload_n hC 1 rfl dX12_carts_23 rfl ?_
      refine z_putI hC hp1 zF12_327 rfl rfl dX12_carts_24 (fun G3 => ?_)
      refine z_iconst hC dX12_carts_27 ?_
      refine z_istore_n (lo' := [(2, .int (zi (1))), (0, .ref this), (1, .int (zi p1))]) hC dX12_carts_28 rfl (by decide) rfl ?_
      refine z_iconst hC dX12_carts_29 ?_
      refine z_istore_n (lo' := [(3, .int (zi (0))), (2, .int (zi (1))), (0, .ref this), (1, .int (zi p1))]) hC dX12_carts_30 rfl (by decide) rfl ?_
      refine z_sub hC [2, 3, 1, 0] (lo' := [(0, .ref this), (1, .int (zi p1)), (2, .int (zi (1))), (3, .int (zi (0)))]) rfl ?_
      exact SM_carts_L31 hC hr FU FU this p1 (1) (0) G3 hp1 (by decide) (by decide)
theorem SM_carts_k {FU : Nat} {this : Nat} {p1 : Int} {G : Hp} {r1 : (Int × Hp)} (h1 : FM_carts FU this p1 G = some r1) : zk G this = some (12, 0) := zgd_k (k := FM_carts_b FU this p1 G) h1

set_option maxRecDepth 100000 in
theorem SM_cart {l : Launch} {D : va_G} {aC : Nat → ClassId} (FU : Nat) (this : Nat) (p1 : Int) (hp1 : zInI p1) {G : Hp} {r1 : Int} (h1 : FM_cart FU this p1 G = some r1) : Met l yX12_cart (Cond.code yX12_cart cX12_cart 2 (some .int) :: zgood) ({ frames := 2, cells := 0, slots := 0, locals := 45 } : Room) (va_Pc [.ref this, .int (zi p1)] (zU D aC G)) (zQ D aC G (zInI r1) (some (.int (zi r1))) G) 0 0 (zA G) := by
  refine z_met (y := yX12_cart) (b := cX12_cart) (maxL := 2) (mc := 0) (ms := 0) (ret := (some .int)) (As := [.ref this, .int (zi p1)]) (Q1 := fun r1 => zQ D aC G (zInI r1) (some (.int (zi r1))) G) (X := FM_cart FU this p1 G) (by decide) (Nat.le_of_ble_eq_true rfl) ?_ h1
  intro p e s m below meth c hC hr hi
  have hC : zC p m c meth s ([.ref this, .int (zi p1)] : List Value).toArray cX12_cart 2 RX12 D aC := hC
  generalize ([.ref this, .int (zi p1)] : List Value).toArray = args at hC ⊢
  show zS p l e ({ frames := 2, cells := 0, slots := 0, locals := 45 } : Room) s m args below meth c D aC G (fun r1 => zfI D aC G below args s 0 0 (r1, G)) 2 0 0 (FM_cart FU this p1 G) G 0 [(0, .ref this), (1, .int (zi p1))] []
  unfold FM_cart
  refine z_gd ?_
  unfold FM_cart_b
  refine z_aload_n hC 0 rfl dX12_cart_0 rfl ?_
  refine z_iload_n hC 1 rfl dX12_cart_1 rfl ?_
  refine z_cZp (z_rV (q := this) (t := 12) (As := [.int (zi p1)]) hC (fun _ h1 => SM_isShop FU this p1 hp1 h1) (fun _ h1 => SM_isShop_k h1) rfl rfl zM12_192 zMv_FM_isShop ⟨by decide, by decide⟩ rfl rfl rfl (rest := []) (Nat.le_of_ble_eq_true rfl) ⟨Nat.le_of_ble_eq_true rfl, Nat.le_of_ble_eq_true rfl⟩ rfl dX12_cart_2) (fun v1 hv1 => ?_)
  refine z_if_eq (tgt := 17) hC (hv1).i dX12_cart_5 (by decide) (fun _ => ?_) (fun _ => ?_)
  · refine z_iconst hC dX12_cart_17 ?_
    exact z_iretp hC (by decide) hr dX12_cart_18
  · refine z_aload_n hC 0 rfl dX12_cart_8 rfl ?_
    refine z_getQ hC zF12_130 rfl dX12_cart_9 (fun v2 => ?_)
    refine z_iload_n hC 1 rfl dX12_cart_12 rfl ?_
    refine z_iald hC hp1 dX12_cart_13 (fun v3 hv3 => ?_)
    refine z_goto (tgt := 18) hC dX12_cart_14 (by decide) ?_
    exact z_iretp hC hv3 hr dX12_cart_18
theorem SM_cart_k {FU : Nat} {this : Nat} {p1 : Int} {G : Hp} {r1 : Int} (h1 : FM_cart FU this p1 G = some r1) : zk G this = some (12, 0) := zgd_k (k := FM_cart_b FU this p1 G) h1

set_option maxRecDepth 100000 in
theorem SM_count_B31 {p : Program} {l : Launch} {e : Env} {s : State} {m : MethodId} {args : Array Value} {below : List Frame} {meth : Method} {c : Code} {D : va_G} {aC : Nat → ClassId} {G0 : Hp} (hC : zC p m c meth s args cX12_count 5 RX12 D aC) (hr : meth.sig.returnType = (some .int)) (FU : Nat) (kL7 : Nat → Int → Int → Int → Int → Hp → Option Int) (hkL7 : ∀ (a0 : Nat) (a1 : Int) (a2 : Int) (a3 : Int) (a4 : Int), zInI a1 → zInI a2 → zInI a3 → zInI a4 → zS p l e ({ frames := 2, cells := 0, slots := 0, locals := 45 } : Room) s m args below meth c D aC G0 (fun r1 => zfI D aC G0 below args s 0 0 (r1, G0)) 5 0 0 (kL7 a0 a1 a2 a3 a4 G0) G0 7 [(0, .ref a0), (1, .int (zi a1)), (2, .int (zi a2)), (3, .int (zi a3)), (4, .int (zi a4))] []) (x0 : Nat) (x1 : Int) (x3 : Int) (x4 : Int) (y0 : Int) (y1 : Int) (hx1 : zInI x1) (hx3 : zInI x3) (hx4 : zInI x4) (hy0 : zInI y0) (hy1 : zInI y1) : zS p l e ({ frames := 2, cells := 0, slots := 0, locals := 45 } : Room) s m args below meth c D aC G0 (fun r1 => zfI D aC G0 below args s 0 0 (r1, G0)) 5 0 0 (FM_count_B31 FU kL7 x0 x1 x3 x4 y0 y1 G0) G0 31 [(0, .ref x0), (1, .int (zi x1)), (3, .int (zi x3)), (4, .int (zi x4))] [.int (zi y1), .int (zi y0)] := by
  unfold FM_count_B31
  refine z_iadd hC dX12_count_31 (fun v1 hv1 => ?_)
  refine z_istore_n (lo' := [(2, .int (zi v1)), (0, .ref x0), (1, .int (zi x1)), (3, .int (zi x3)), (4, .int (zi x4))]) hC dX12_count_32 rfl (by decide) rfl ?_
  refine z_iload_n hC 3 rfl dX12_count_33 rfl ?_
  refine z_aload_n hC 1 rfl dX12_count_34 rfl ?_
  refine z_iload hC 4 rfl dX12_count_35 ?_
  refine z_cZp (z_rV (q := x0) (t := 12) (As := [.int (zi x4)]) hC (fun _ h1 => SM_runs FU x0 x4 hx4 h1) (fun _ h1 => SM_runs_k h1) rfl rfl zM12_165 zMv_FM_runs ⟨by decide, by decide⟩ rfl rfl rfl (rest := [.int (zi x3)]) (Nat.le_of_ble_eq_true rfl) ⟨Nat.le_of_ble_eq_true rfl, Nat.le_of_ble_eq_true rfl⟩ rfl dX12_count_37) (fun v2 hv2 => ?_)
  refine z_if_eq (tgt := 47) hC (hv2).i dX12_count_40 (by decide) (fun _ => ?_) (fun _ => ?_)
  · refine z_iconst hC dX12_count_47 ?_
    refine z_iadd hC dX12_count_48 (fun v3 hv3 => ?_)
    refine z_istore_n (lo' := [(3, .int (zi v3)), (2, .int (zi v1)), (0, .ref x0), (1, .int (zi x1)), (4, .int (zi x4))]) hC dX12_count_49 rfl (by decide) rfl ?_
    refine z_iinc (lo' := fun v4 => [(4, .int (zi v4)), (3, .int (zi v3)), (2, .int (zi v1)), (0, .ref x0), (1, .int (zi x1))]) hC 4 dX12_count_50 rfl (by decide) (fun _ => rfl) (fun v4 hv4 => ?_)
    refine z_goto (tgt := 7) hC dX12_count_53 (by decide) ?_
    refine z_sub hC [3, 4, 2, 1, 0] (lo' := [(0, .ref x0), (1, .int (zi x1)), (2, .int (zi v1)), (3, .int (zi v3)), (4, .int (zi v4))]) rfl ?_
    exact hkL7 x0 x1 v1 v3 v4 hx1 hv1 hv3 hv4
  · refine z_iconst hC dX12_count_43 ?_
    refine z_goto (tgt := 48) hC dX12_count_44 (by decide) ?_
    refine z_iadd hC dX12_count_48 (fun v5 hv5 => ?_)
    refine z_istore_n (lo' := [(3, .int (zi v5)), (2, .int (zi v1)), (0, .ref x0), (1, .int (zi x1)), (4, .int (zi x4))]) hC dX12_count_49 rfl (by decide) rfl ?_
    refine z_iinc (lo' := fun v6 => [(4, .int (zi v6)), (3, .int (zi v5)), (2, .int (zi v1)), (0, .ref x0), (1, .int (zi x1))]) hC 4 dX12_count_50 rfl (by decide) (fun _ => rfl) (fun v6 hv6 => ?_)
    refine z_goto (tgt := 7) hC dX12_count_53 (by decide) ?_
    refine z_sub hC [3, 4, 2, 1, 0] (lo' := [(0, .ref x0), (1, .int (zi x1)), (2, .int (zi v1)), (3, .int (zi v5)), (4, .int (zi v6))]) rfl ?_
    exact hkL7 x0 x1 v1 v5 v6 hx1 hv1 hv5 hv6
set_option maxRecDepth 100000 in
theorem SM_count_L7 {p : Program} {l : Launch} {e : Env} {s : State} {m : MethodId} {args : Array Value} {below : List Frame} {meth : Method} {c : Code} {D : va_G} {aC : Nat → ClassId} {G0 : Hp} (hC : zC p m c meth s args cX12_count 5 RX12 D aC) (hr : meth.sig.returnType = (some .int)) (FU : Nat) : ∀ (n : Nat) (x0 : Nat) (x1 : Int) (x2 : Int) (x3 : Int) (x4 : Int) (hx1 : zInI x1) (hx2 : zInI x2) (hx3 : zInI x3) (hx4 : zInI x4), zS p l e ({ frames := 2, cells := 0, slots := 0, locals := 45 } : Room) s m args below meth c D aC G0 (fun r1 => zfI D aC G0 below args s 0 0 (r1, G0)) 5 0 0 (FM_count_L7 FU n x0 x1 x2 x3 x4 G0) G0 7 [(0, .ref x0), (1, .int (zi x1)), (2, .int (zi x2)), (3, .int (zi x3)), (4, .int (zi x4))] [] := by
  intro n
  induction n with
  | zero => intros; exact z_none
  | succ n ih =>
    intro x0 x1 x2 x3 x4 hx1 hx2 hx3 hx4
    rw [FM_count_L7]
    refine z_iload hC 4 rfl dX12_count_7 ?_
    refine z_aload_n hC 0 rfl dX12_count_9 rfl ?_
    refine z_getI hC zF12_139 rfl dX12_count_10 (fun v1 hv1 => ?_)
    refine z_icmp_ge (tgt := 56) hC hx4 hv1 dX12_count_13 (by decide) (fun _ => ?_) (fun _ => ?_)
    · refine z_iload_n hC 2 rfl dX12_count_16 rfl ?_
      refine z_aload_n hC 0 rfl dX12_count_17 rfl ?_
      refine z_iload hC 4 rfl dX12_count_18 ?_
      refine z_cZp (z_rV (q := x0) (t := 12) (As := [.int (zi x4)]) hC (fun _ h1 => SM_isOpen FU x0 x4 hx4 h1) (fun _ h1 => SM_isOpen_k h1) rfl rfl zM12_176 zMv_FM_isOpen ⟨by decide, by decide⟩ rfl rfl rfl (rest := [.int (zi x2)]) (Nat.le_of_ble_eq_true rfl) ⟨Nat.le_of_ble_eq_true rfl, Nat.le_of_ble_eq_true rfl⟩ rfl dX12_count_20) (fun v2 hv2 => ?_)
      refine z_if_eq (tgt := 30) hC (hv2).i dX12_count_23 (by decide) (fun _ => ?_) (fun _ => ?_)
      · refine z_iconst hC dX12_count_30 ?_
        refine z_sub hC [0, 1, 3, 4] (lo' := [(0, .ref x0), (1, .int (zi x1)), (3, .int (zi x3)), (4, .int (zi x4))]) rfl ?_
        exact SM_count_B31 hC hr FU (FM_count_L7 FU n) ih x0 x1 x3 x4 x2 (0) hx1 hx3 hx4 hx2 (by decide)
      · refine z_iconst hC dX12_count_26 ?_
        refine z_goto (tgt := 31) hC dX12_count_27 (by decide) ?_
        refine z_sub hC [0, 1, 3, 4] (lo' := [(0, .ref x0), (1, .int (zi x1)), (3, .int (zi x3)), (4, .int (zi x4))]) rfl ?_
        exact SM_count_B31 hC hr FU (FM_count_L7 FU n) ih x0 x1 x3 x4 x2 (1) hx1 hx3 hx4 hx2 (by decide)
    · refine z_iload_n hC 1 rfl dX12_count_56 rfl ?_
      refine z_tabIf (tgt := 108) hC hx1 dX12_count_57 0 ⟨by decide, by decide⟩ rfl (by decide) (fun _ => ?_) (fun hsw0 => ?_)
      · refine z_aload_n hC 0 rfl dX12_count_108 rfl ?_
        refine z_getI hC zF12_136 rfl dX12_count_109 (fun v3 hv3 => ?_)
        exact z_iretp hC hv3 hr dX12_count_112
      refine z_tabIf (tgt := 113) hC hx1 dX12_count_57 1 ⟨by decide, by decide⟩ rfl (by decide) (fun _ => ?_) (fun hsw1 => ?_)
      · refine z_aload_n hC 0 rfl dX12_count_113 rfl ?_
        refine z_getI hC zF12_139 rfl dX12_count_114 (fun v4 hv4 => ?_)
        exact z_iretp hC hv4 hr dX12_count_117
      refine z_tabIf (tgt := 118) hC hx1 dX12_count_57 2 ⟨by decide, by decide⟩ rfl (by decide) (fun _ => ?_) (fun hsw2 => ?_)
      · refine z_iload_n hC 2 rfl dX12_count_118 rfl ?_
        exact z_iretp hC hx2 hr dX12_count_119
      refine z_tabIf (tgt := 120) hC hx1 dX12_count_57 3 ⟨by decide, by decide⟩ rfl (by decide) (fun _ => ?_) (fun hsw3 => ?_)
      · refine z_aload_n hC 0 rfl dX12_count_120 rfl ?_
        refine z_getI hC zF12_162 rfl dX12_count_121 (fun v5 hv5 => ?_)
        exact z_iretp hC hv5 hr dX12_count_124
      refine z_tabIf (tgt := 125) hC hx1 dX12_count_57 4 ⟨by decide, by decide⟩ rfl (by decide) (fun _ => ?_) (fun hsw4 => ?_)
      · refine z_aload_n hC 0 rfl dX12_count_125 rfl ?_
        refine z_getI hC zF12_280 rfl dX12_count_126 (fun v6 hv6 => ?_)
        exact z_iretp hC hv6 hr dX12_count_129
      refine z_tabIf (tgt := 130) hC hx1 dX12_count_57 5 ⟨by decide, by decide⟩ rfl (by decide) (fun _ => ?_) (fun hsw5 => ?_)
      · refine z_aload_n hC 0 rfl dX12_count_130 rfl ?_
        refine z_getI hC zF12_217 rfl dX12_count_131 (fun v7 hv7 => ?_)
        exact z_iretp hC hv7 hr dX12_count_134
      refine z_tabIf (tgt := 135) hC hx1 dX12_count_57 6 ⟨by decide, by decide⟩ rfl (by decide) (fun _ => ?_) (fun hsw6 => ?_)
      · refine z_aload_n hC 0 rfl dX12_count_135 rfl ?_
        refine z_getI hC zF12_310 rfl dX12_count_136 (fun v8 hv8 => ?_)
        exact z_iretp hC hv8 hr dX12_count_139
      refine z_tabIf (tgt := 140) hC hx1 dX12_count_57 7 ⟨by decide, by decide⟩ rfl (by decide) (fun _ => ?_) (fun hsw7 => ?_)
      · refine z_aload_n hC 0 rfl dX12_count_140 rfl ?_
        refine z_getI hC zF12_237 rfl dX12_count_141 (fun v9 hv9 => ?_)
        exact z_iretp hC hv9 hr dX12_count_144
      refine z_tabIf (tgt := 145) hC hx1 dX12_count_57 8 ⟨by decide, by decide⟩ rfl (by decide) (fun _ => ?_) (fun hsw8 => ?_)
      · refine z_iload_n hC 3 rfl dX12_count_145 rfl ?_
        exact z_iretp hC hx3 hr dX12_count_146
      refine z_tabDef (tgt := 147) hC hx1 dX12_count_57 (by omega) (by decide) ?_
      refine z_iconst hC dX12_count_147 ?_
      exact z_iretp hC (by decide) hr dX12_count_148
set_option maxRecDepth 100000 in
theorem SM_count {l : Launch} {D : va_G} {aC : Nat → ClassId} (FU : Nat) (this : Nat) (p1 : Int) (hp1 : zInI p1) {G : Hp} {r1 : Int} (h1 : FM_count FU this p1 G = some r1) : Met l yX12_count (Cond.code yX12_count cX12_count 5 (some .int) :: zgood) ({ frames := 2, cells := 0, slots := 0, locals := 45 } : Room) (va_Pc [.ref this, .int (zi p1)] (zU D aC G)) (zQ D aC G (zInI r1) (some (.int (zi r1))) G) 0 0 (zA G) := by
  refine z_met (y := yX12_count) (b := cX12_count) (maxL := 5) (mc := 0) (ms := 0) (ret := (some .int)) (As := [.ref this, .int (zi p1)]) (Q1 := fun r1 => zQ D aC G (zInI r1) (some (.int (zi r1))) G) (X := FM_count FU this p1 G) (by decide) (Nat.le_of_ble_eq_true rfl) ?_ h1
  intro p e s m below meth c hC hr hi
  have hC : zC p m c meth s ([.ref this, .int (zi p1)] : List Value).toArray cX12_count 5 RX12 D aC := hC
  generalize ([.ref this, .int (zi p1)] : List Value).toArray = args at hC ⊢
  show zS p l e ({ frames := 2, cells := 0, slots := 0, locals := 45 } : Room) s m args below meth c D aC G (fun r1 => zfI D aC G below args s 0 0 (r1, G)) 5 0 0 (FM_count FU this p1 G) G 0 [(0, .ref this), (1, .int (zi p1))] []
  unfold FM_count
  refine z_gd ?_
  unfold FM_count_b
  refine z_iconst hC dX12_count_0 ?_
  refine z_istore_n (lo' := [(2, .int (zi (0))), (0, .ref this), (1, .int (zi p1))]) hC dX12_count_1 rfl (by decide) rfl ?_
  refine z_iconst hC dX12_count_2 ?_
  refine z_istore_n (lo' := [(3, .int (zi (0))), (2, .int (zi (0))), (0, .ref this), (1, .int (zi p1))]) hC dX12_count_3 rfl (by decide) rfl ?_
  refine z_iconst hC dX12_count_4 ?_
  refine z_istore (lo' := [(4, .int (zi (0))), (3, .int (zi (0))), (2, .int (zi (0))), (0, .ref this), (1, .int (zi p1))]) hC dX12_count_5 (by decide) rfl ?_
  refine z_sub hC [3, 4, 2, 1, 0] (lo' := [(0, .ref this), (1, .int (zi p1)), (2, .int (zi (0))), (3, .int (zi (0))), (4, .int (zi (0)))]) rfl ?_
  exact SM_count_L7 hC hr FU FU this p1 (0) (0) (0) hp1 (by decide) (by decide) (by decide)
theorem SM_count_k {FU : Nat} {this : Nat} {p1 : Int} {G : Hp} {r1 : Int} (h1 : FM_count FU this p1 G = some r1) : zk G this = some (12, 0) := zgd_k (k := FM_count_b FU this p1 G) h1

set_option maxRecDepth 100000 in
theorem SB_init {l : Launch} {D : va_G} {aC : Nat → ClassId} (FU : Nat) (this : Nat) {G : Hp} {r1 : (Unit × Hp)} (h1 : FB_init FU this G = some r1) : Met l yX11_init (Cond.code yX11_init cX11_init 1 none :: zgood) ({ frames := 3, cells := 133, slots := 3818, locals := 65 } : Room) (va_Pc [.ref this] (zU D aC G)) (zQ D aC G (True) (none) r1.2) 133 3818 (zA G) := by
  refine z_met (y := yX11_init) (b := cX11_init) (maxL := 1) (mc := 133) (ms := 3818) (ret := none) (As := [.ref this]) (Q1 := fun r1 => zQ D aC G (True) (none) r1.2) (X := FB_init FU this G) (by decide) (Nat.le_of_ble_eq_true rfl) ?_ h1
  intro p e s m below meth c hC hr hi
  have hC : zC p m c meth s ([.ref this] : List Value).toArray cX11_init 1 RX11 D aC := hC
  generalize ([.ref this] : List Value).toArray = args at hC ⊢
  show zS p l e ({ frames := 3, cells := 133, slots := 3818, locals := 65 } : Room) s m args below meth c D aC G (zfV D aC G below args s 133 3818) 1 0 0 (FB_init FU this G) G 0 [(0, .ref this)] []
  unfold FB_init
  refine z_aload_n hC 0 rfl dX11_init_0 rfl ?_
  refine z_objInit hC zO11_3 ⟨by decide, by decide⟩ ⟨by decide, by decide⟩ dX11_init_1 ?_
  refine z_aload_n hC 0 rfl dX11_init_4 rfl ?_
  refine z_iconst hC dX11_init_5 ?_
  refine z_putI hC (by decide) zF11_9 rfl rfl dX11_init_6 (fun G1 => ?_)
  refine z_aload_n hC 0 rfl dX11_init_9 rfl ?_
  refine z_new (t := 10) hC rfl (zgood_in 124 (by decide +kernel) (by decide +kernel)) (zgood_in 125 (by decide +kernel) (by decide +kernel)) (zgood_in 103 (by decide +kernel) (by decide +kernel)) (by decide) (by decide) dX11_init_10 (fun a2 G3 => ?_)
  refine z_widen (k := 1) (n := 6) (by decide) (by decide) ?_
  refine z_dup hC rfl dX11_init_13 ?_
  refine z_cV (z_rI (q := a2) (As := []) hC (fun _ h1 => STown_init FU a2 h1) zM11_15 zMi_FTown_init ⟨by decide, by decide⟩ rfl rfl rfl (rest := [.ref a2, .ref this]) (Nat.le_of_ble_eq_true rfl) ⟨Nat.le_of_ble_eq_true rfl, Nat.le_of_ble_eq_true rfl⟩ rfl dX11_init_14) (fun G4 => ?_)
  refine z_widen (k := 65) (n := 1906) (by decide) (by decide) ?_
  refine z_putFR hC (t := 11) (k := 0) rfl (by decide) rfl (zgood_in 375 (by decide +kernel) (by decide +kernel)) rfl rfl hi rfl dX11_init_17 (fun G5 => ?_)
  refine z_aload_n hC 0 rfl dX11_init_20 rfl ?_
  refine z_new (t := 0) hC rfl (zgood_in 156 (by decide +kernel) (by decide +kernel)) (zgood_in 157 (by decide +kernel) (by decide +kernel)) (zgood_in 104 (by decide +kernel) (by decide +kernel)) (by decide) (by decide) dX11_init_21 (fun a6 G7 => ?_)
  refine z_widen (k := 66) (n := 1909) (by decide) (by decide) ?_
  refine z_dup hC rfl dX11_init_24 ?_
  refine z_aload_n hC 0 rfl dX11_init_25 rfl ?_
  refine z_getQ hC zF11_16 rfl dX11_init_26 (fun v8 => ?_)
  refine z_cV (z_rI (q := a6) (As := [.ref v8]) hC (fun _ h1 => SChain_init FU a6 v8 h1) zM11_22 zMi_FChain_init ⟨by decide, by decide⟩ rfl rfl rfl (rest := [.ref a6, .ref this]) (Nat.le_of_ble_eq_true rfl) ⟨Nat.le_of_ble_eq_true rfl, Nat.le_of_ble_eq_true rfl⟩ rfl dX11_init_29) (fun G9 => ?_)
  refine z_widen (k := 67) (n := 1949) (by decide) (by decide) ?_
  refine z_putFR hC (t := 11) (k := 1) rfl (by decide) rfl (zgood_in 376 (by decide +kernel) (by decide +kernel)) rfl rfl hi rfl dX11_init_32 (fun G10 => ?_)
  refine z_aload_n hC 0 rfl dX11_init_35 rfl ?_
  refine z_new (t := 2) hC rfl (zgood_in 178 (by decide +kernel) (by decide +kernel)) (zgood_in 179 (by decide +kernel) (by decide +kernel)) (zgood_in 105 (by decide +kernel) (by decide +kernel)) (by decide) (by decide) dX11_init_36 (fun a11 G12 => ?_)
  refine z_widen (k := 68) (n := 1955) (by decide) (by decide) ?_
  refine z_dup hC rfl dX11_init_39 ?_
  refine z_aload_n hC 0 rfl dX11_init_40 rfl ?_
  refine z_getQ hC zF11_16 rfl dX11_init_41 (fun v13 => ?_)
  refine z_cV (z_rI (q := a11) (As := [.ref v13]) hC (fun _ h1 => SMarket_init FU a11 v13 h1) zM11_31 zMi_FMarket_init ⟨by decide, by decide⟩ rfl rfl rfl (rest := [.ref a11, .ref this]) (Nat.le_of_ble_eq_true rfl) ⟨Nat.le_of_ble_eq_true rfl, Nat.le_of_ble_eq_true rfl⟩ rfl dX11_init_44) (fun G14 => ?_)
  refine z_widen (k := 114) (n := 3361) (by decide) (by decide) ?_
  refine z_putFR hC (t := 11) (k := 2) rfl (by decide) rfl (zgood_in 377 (by decide +kernel) (by decide +kernel)) rfl rfl hi rfl dX11_init_47 (fun G15 => ?_)
  refine z_aload_n hC 0 rfl dX11_init_50 rfl ?_
  refine z_new (t := 8) hC rfl (zgood_in 205 (by decide +kernel) (by decide +kernel)) (zgood_in 206 (by decide +kernel) (by decide +kernel)) (zgood_in 106 (by decide +kernel) (by decide +kernel)) (by decide) (by decide) dX11_init_51 (fun a16 G17 => ?_)
  refine z_widen (k := 115) (n := 3375) (by decide) (by decide) ?_
  refine z_dup hC rfl dX11_init_54 ?_
  refine z_aload_n hC 0 rfl dX11_init_55 rfl ?_
  refine z_getQ hC zF11_16 rfl dX11_init_56 (fun v18 => ?_)
  refine z_aload_n hC 0 rfl dX11_init_59 rfl ?_
  refine z_getQ hC zF11_25 rfl dX11_init_60 (fun v19 => ?_)
  refine z_aload_n hC 0 rfl dX11_init_63 rfl ?_
  refine z_getQ hC zF11_32 rfl dX11_init_64 (fun v20 => ?_)
  refine z_cV (z_rI (q := a16) (As := [.ref v18, .ref v19, .ref v20]) hC (fun _ h1 => SSearch_init FU a16 v18 v19 v20 h1) zM11_38 zMi_FSearch_init ⟨by decide, by decide⟩ rfl rfl rfl (rest := [.ref a16, .ref this]) (Nat.le_of_ble_eq_true rfl) ⟨Nat.le_of_ble_eq_true rfl, Nat.le_of_ble_eq_true rfl⟩ rfl dX11_init_67) (fun G21 => ?_)
  refine z_widen (k := 119) (n := 3431) (by decide) (by decide) ?_
  refine z_putFR hC (t := 11) (k := 3) rfl (by decide) rfl (zgood_in 378 (by decide +kernel) (by decide +kernel)) rfl rfl hi rfl dX11_init_70 (fun G22 => ?_)
  refine z_aload_n hC 0 rfl dX11_init_73 rfl ?_
  refine z_new (t := 6) hC rfl (zgood_in 254 (by decide +kernel) (by decide +kernel)) (zgood_in 255 (by decide +kernel) (by decide +kernel)) (zgood_in 107 (by decide +kernel) (by decide +kernel)) (by decide) (by decide) dX11_init_74 (fun a23 G24 => ?_)
  refine z_widen (k := 120) (n := 3437) (by decide) (by decide) ?_
  refine z_dup hC rfl dX11_init_77 ?_
  refine z_aload_n hC 0 rfl dX11_init_78 rfl ?_
  refine z_getQ hC zF11_25 rfl dX11_init_79 (fun v25 => ?_)
  refine z_cV (z_rI (q := a23) (As := [.ref v25]) hC (fun _ h1 => SShelf_init FU a23 v25 h1) zM11_47 zMi_FShelf_init ⟨by decide, by decide⟩ rfl rfl rfl (rest := [.ref a23, .ref this]) (Nat.le_of_ble_eq_true rfl) ⟨Nat.le_of_ble_eq_true rfl, Nat.le_of_ble_eq_true rfl⟩ rfl dX11_init_82) (fun G26 => ?_)
  refine z_widen (k := 124) (n := 3706) (by decide) (by decide) ?_
  refine z_putFR hC (t := 11) (k := 4) rfl (by decide) rfl (zgood_in 379 (by decide +kernel) (by decide +kernel)) rfl rfl hi rfl dX11_init_85 (fun G27 => ?_)
  refine z_aload_n hC 0 rfl dX11_init_88 rfl ?_
  refine z_new (t := 1) hC rfl (zgood_in 324 (by decide +kernel) (by decide +kernel)) (zgood_in 325 (by decide +kernel) (by decide +kernel)) (zgood_in 109 (by decide +kernel) (by decide +kernel)) (by decide) (by decide) dX11_init_89 (fun a28 G29 => ?_)
  refine z_widen (k := 125) (n := 3709) (by decide) (by decide) ?_
  refine z_dup hC rfl dX11_init_92 ?_
  refine z_aload_n hC 0 rfl dX11_init_93 rfl ?_
  refine z_getQ hC zF11_25 rfl dX11_init_94 (fun v30 => ?_)
  refine z_cV (z_rI (q := a28) (As := [.ref v30]) hC (fun _ h1 => SFund_init FU a28 v30 h1) zM11_56 zMi_FFund_init ⟨by decide, by decide⟩ rfl rfl rfl (rest := [.ref a28, .ref this]) (Nat.le_of_ble_eq_true rfl) ⟨Nat.le_of_ble_eq_true rfl, Nat.le_of_ble_eq_true rfl⟩ rfl dX11_init_97) (fun G31 => ?_)
  refine z_widen (k := 126) (n := 3749) (by decide) (by decide) ?_
  refine z_putFR hC (t := 11) (k := 5) rfl (by decide) rfl (zgood_in 380 (by decide +kernel) (by decide +kernel)) rfl rfl hi rfl dX11_init_100 (fun G32 => ?_)
  refine z_aload_n hC 0 rfl dX11_init_103 rfl ?_
  refine z_new (t := 4) hC rfl (zgood_in 341 (by decide +kernel) (by decide +kernel)) (zgood_in 342 (by decide +kernel) (by decide +kernel)) (zgood_in 110 (by decide +kernel) (by decide +kernel)) (by decide) (by decide) dX11_init_104 (fun a33 G34 => ?_)
  refine z_widen (k := 127) (n := 3758) (by decide) (by decide) ?_
  refine z_dup hC rfl dX11_init_107 ?_
  refine z_cV (z_rI (q := a33) (As := []) hC (fun _ h1 => SPacker_init FU a33 h1) zM11_63 zMi_FPacker_init ⟨by decide, by decide⟩ rfl rfl rfl (rest := [.ref a33, .ref this]) (Nat.le_of_ble_eq_true rfl) ⟨Nat.le_of_ble_eq_true rfl, Nat.le_of_ble_eq_true rfl⟩ rfl dX11_init_108) (fun G35 => ?_)
  refine z_widen (k := 133) (n := 3818) (by decide) (by decide) ?_
  refine z_putFR hC (t := 11) (k := 6) rfl (by decide) rfl (zgood_in 381 (by decide +kernel) (by decide +kernel)) rfl rfl hi rfl dX11_init_111 (fun G36 => ?_)
  exact z_vret hC hr dX11_init_114

set_option maxRecDepth 100000 in
theorem SB_isWithin {l : Launch} {D : va_G} {aC : Nat → ClassId} (FU : Nat) (p1 : Int) (p2 : Int) (p3 : Int) (hp1 : zInI p1) (hp2 : zInI p2) (hp3 : zInI p3) {G : Hp} {r1 : Int} (h1 : FB_isWithin FU p1 p2 p3 G = some r1) : Met l yX11_isWithin (Cond.code yX11_isWithin cX11_isWithin 3 (some .boolean) :: zgood) ({ frames := 1, cells := 0, slots := 0, locals := 24 } : Room) (va_Pc [.int (zi p1), .int (zi p2), .int (zi p3)] (zU D aC G)) (zQ D aC G (zIn01 r1) (some (.int (zi r1))) G) 0 0 (zA G) := by
  refine z_met (y := yX11_isWithin) (b := cX11_isWithin) (maxL := 3) (mc := 0) (ms := 0) (ret := (some .boolean)) (As := [.int (zi p1), .int (zi p2), .int (zi p3)]) (Q1 := fun r1 => zQ D aC G (zIn01 r1) (some (.int (zi r1))) G) (X := FB_isWithin FU p1 p2 p3 G) (by decide) (Nat.le_of_ble_eq_true rfl) ?_ h1
  intro p e s m below meth c hC hr hi
  have hC : zC p m c meth s ([.int (zi p1), .int (zi p2), .int (zi p3)] : List Value).toArray cX11_isWithin 3 RX11 D aC := hC
  generalize ([.int (zi p1), .int (zi p2), .int (zi p3)] : List Value).toArray = args at hC ⊢
  show zS p l e ({ frames := 1, cells := 0, slots := 0, locals := 24 } : Room) s m args below meth c D aC G (fun r1 => zfZ D aC G below args s 0 0 (r1, G)) 3 0 0 (FB_isWithin FU p1 p2 p3 G) G 0 [(0, .int (zi p1)), (1, .int (zi p2)), (2, .int (zi p3))] []
  unfold FB_isWithin
  refine z_iload_n hC 0 rfl dX11_isWithin_0 rfl ?_
  refine z_iload_n hC 1 rfl dX11_isWithin_1 rfl ?_
  refine z_icmp_lt (tgt := 14) hC hp1 hp2 dX11_isWithin_2 (by decide) (fun _ => ?_) (fun _ => ?_)
  · refine z_iconst hC dX11_isWithin_14 ?_
    exact z_zretp hC hr dX11_isWithin_15
  · refine z_iload_n hC 0 rfl dX11_isWithin_5 rfl ?_
    refine z_iload_n hC 2 rfl dX11_isWithin_6 rfl ?_
    refine z_icmp_gt (tgt := 14) hC hp1 hp3 dX11_isWithin_7 (by decide) (fun _ => ?_) (fun _ => ?_)
    · refine z_iconst hC dX11_isWithin_10 ?_
      refine z_goto (tgt := 15) hC dX11_isWithin_11 (by decide) ?_
      exact z_zretp hC hr dX11_isWithin_15
    · refine z_iconst hC dX11_isWithin_14 ?_
      exact z_zretp hC hr dX11_isWithin_15

set_option maxRecDepth 100000 in
theorem SB_place {l : Launch} {D : va_G} {aC : Nat → ClassId} (FU : Nat) (this : Nat) (p1 : Int) (hp1 : zInI p1) {G : Hp} {r1 : (Int × Hp)} (h1 : FB_place FU this p1 G = some r1) : Met l yX11_place (Cond.code yX11_place cX11_place 2 (some .int) :: zgood) ({ frames := 3, cells := 0, slots := 0, locals := 67 } : Room) (va_Pc [.ref this, .int (zi p1)] (zU D aC G)) (zQ D aC G (zInI r1.1) (some (.int (zi r1.1))) r1.2) 0 0 (zA G) := by
  refine z_met (y := yX11_place) (b := cX11_place) (maxL := 2) (mc := 0) (ms := 0) (ret := (some .int)) (As := [.ref this, .int (zi p1)]) (Q1 := fun r1 => zQ D aC G (zInI r1.1) (some (.int (zi r1.1))) r1.2) (X := FB_place FU this p1 G) (by decide) (Nat.le_of_ble_eq_true rfl) ?_ h1
  intro p e s m below meth c hC hr hi
  have hC : zC p m c meth s ([.ref this, .int (zi p1)] : List Value).toArray cX11_place 2 RX11 D aC := hC
  generalize ([.ref this, .int (zi p1)] : List Value).toArray = args at hC ⊢
  show zS p l e ({ frames := 3, cells := 0, slots := 0, locals := 67 } : Room) s m args below meth c D aC G (zfI D aC G below args s 0 0) 2 0 0 (FB_place FU this p1 G) G 0 [(0, .ref this), (1, .int (zi p1))] []
  unfold FB_place
  refine z_gd ?_
  unfold FB_place_b
  refine z_iload_n hC 1 rfl dX11_place_0 rfl ?_
  refine z_iconst hC dX11_place_1 ?_
  refine z_sipush hC dX11_place_2 rfl ?_
  refine z_cZp (z_rS (As := [.int (zi p1), .int (zi (0)), .int (zi (999))]) hC (fun _ h1 => SB_isWithin FU p1 (0) (999) hp1 (by decide) (by decide) h1) zM11_68 zMs_FB_isWithin ⟨by decide, by decide⟩ rfl rfl rfl (rest := []) (Nat.le_of_ble_eq_true rfl) ⟨Nat.le_of_ble_eq_true rfl, Nat.le_of_ble_eq_true rfl⟩ rfl dX11_place_5) (fun v1 hv1 => ?_)
  refine z_if_ne (tgt := 13) hC (hv1).i dX11_place_8 (by decide) (fun _ => ?_) (fun _ => ?_)
  · refine z_iconst hC dX11_place_11 ?_
    exact z_iret hC (by decide) hr dX11_place_12
  · refine z_aload_n hC 0 rfl dX11_place_13 rfl ?_
    refine z_getQ hC zF11_16 rfl dX11_place_14 (fun v2 => ?_)
    refine z_iload_n hC 1 rfl dX11_place_17 rfl ?_
    refine z_cI (z_rV (q := v2) (t := 10) (As := [.int (zi p1)]) hC (fun _ h1 => STown_addPlace FU v2 p1 hp1 h1) (fun _ h1 => STown_addPlace_k h1) rfl rfl zM11_72 zMv_FTown_addPlace ⟨by decide, by decide⟩ rfl rfl rfl (rest := []) (Nat.le_of_ble_eq_true rfl) ⟨Nat.le_of_ble_eq_true rfl, Nat.le_of_ble_eq_true rfl⟩ rfl dX11_place_18) (fun v4 G3 hv4 => ?_)
    exact z_iret hC hv4 hr dX11_place_21
theorem SB_place_k {FU : Nat} {this : Nat} {p1 : Int} {G : Hp} {r1 : (Int × Hp)} (h1 : FB_place FU this p1 G = some r1) : zk G this = some (11, 0) := zgd_k (k := FB_place_b FU this p1 G) h1

