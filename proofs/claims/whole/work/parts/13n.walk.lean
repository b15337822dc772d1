set_option maxRecDepth 100000 in
theorem SB_gives {l : Launch} {D : va_G} {aC : Nat → ClassId} (FU : Nat) (this : Nat) (p1 : Int) (p2 : Int) (p3 : Int) (hp1 : zInI p1) (hp2 : zInI p2) (hp3 : zInI p3) {G : Hp} {r1 : (Int × Hp)} (h1 : FB_gives FU this p1 p2 p3 G = some r1) : Met l yX11_gives (Cond.code yX11_gives cX11_gives 5 (some .int) :: zgood) ({ frames := 63, cells := 0, slots := 0, locals := 1458 } : Room) (va_Pc [.ref this, .int (zi p1), .int (zi p2), .int (zi p3)] (zU D aC G)) (zQ D aC G (zInI r1.1) (some (.int (zi r1.1))) r1.2) 0 0 (zA G) := by
  refine z_met (y := yX11_gives) (b := cX11_gives) (maxL := 5) (mc := 0) (ms := 0) (ret := (some .int)) (As := [.ref this, .int (zi p1), .int (zi p2), .int (zi p3)]) (Q1 := fun r1 => zQ D aC G (zInI r1.1) (some (.int (zi r1.1))) r1.2) (X := FB_gives FU this p1 p2 p3 G) (by decide) (Nat.le_of_ble_eq_true rfl) ?_ h1
  intro p e s m below meth c hC hr hi
  have hC : zC p m c meth s ([.ref this, .int (zi p1), .int (zi p2), .int (zi p3)] : List Value).toArray cX11_gives 5 RX11 D aC := hC
  generalize ([.ref this, .int (zi p1), .int (zi p2), .int (zi p3)] : List Value).toArray = args at hC ⊢
  show zS p l e ({ frames := 63, cells := 0, slots := 0, locals := 1458 } : Room) s m args below meth c D aC G (zfI D aC G below args s 0 0) 5 0 0 (FB_gives FU this p1 p2 p3 G) G 0 [(0, .ref this), (1, .int (zi p1)), (2, .int (zi p2)), (3, .int (zi p3))] []
  unfold FB_gives
  refine z_gd ?_
  unfold FB_gives_b
  refine z_aload_n hC 0 rfl dX11_gives_0 rfl ?_
  refine z_getQ hC zF11_25 rfl dX11_gives_1 (fun v1 => ?_)
  refine z_iload_n hC 2 rfl dX11_gives_4 rfl ?_
  refine z_cAp (z_rV (q := v1) (t := 0) (As := [.int (zi p2)]) hC (fun _ h1 => SChain_shopAt FU v1 p2 hp2 h1) (fun _ h1 => SChain_shopAt_k h1) rfl rfl zM11_126 zMv_FChain_shopAt ⟨by decide, by decide⟩ rfl rfl rfl (rest := []) (Nat.le_of_ble_eq_true rfl) ⟨Nat.le_of_ble_eq_true rfl, Nat.le_of_ble_eq_true rfl⟩ rfl dX11_gives_5) (fun v2 => ?_)
  refine z_qstore (lo' := [(4, va_rf v2), (0, .ref this), (1, .int (zi p1)), (2, .int (zi p2)), (3, .int (zi p3))]) hC dX11_gives_8 (by decide) rfl ?_
  refine z_aload_n hC 1 rfl dX11_gives_10 rfl ?_
  refine z_getQ hC zF11_50 rfl dX11_gives_11 (fun v3 => ?_)
  refine z_iload_n hC 2 rfl dX11_gives_14 rfl ?_
  refine z_cAp (z_rV (q := v3) (t := 6) (As := [.int (zi p1)]) hC (fun _ h1 => SShelf_textAt FU v3 p1 hp1 h1) (fun _ h1 => SShelf_textAt_k h1) rfl rfl zM11_205 zMv_FShelf_textAt ⟨by decide, by decide⟩ rfl rfl rfl (rest := []) (Nat.le_of_ble_eq_true rfl) ⟨Nat.le_of_ble_eq_true rfl, Nat.le_of_ble_eq_true rfl⟩ rfl dX11_gives_15) (fun v4 => ?_)
  refine z_ifnull (tgt := 33) hC dX11_gives_18 (by decide) (fun h0 => ?_) (fun a5 h0 => ?_)
  · subst h0
    refine z_iconst hC dX11_gives_33 ?_
    exact z_iret hC (by decide) hr dX11_gives_34
  · subst h0
    refine z_qload hC 0 rfl dX11_gives_21 ?_
    refine z_ifnull (tgt := 33) hC dX11_gives_23 (by decide) (fun h0 => ?_) (fun a6 h0 => ?_)
    · subst h0
      refine z_iconst hC dX11_gives_33 ?_
      exact z_iret hC (by decide) hr dX11_gives_34
    · subst h0
      refine z_iload_n hC 4 rfl dX11_gives_26 rfl ?_
      refine z_cZp (z_rS (As := [.int (zi p3)]) hC (fun _ h1 => SB_isMonth FU p3 hp3 h1) zM11_209 zMs_FB_isMonth ⟨by decide, by decide⟩ rfl rfl rfl (rest := []) (Nat.le_of_ble_eq_true rfl) ⟨Nat.le_of_ble_eq_true rfl, Nat.le_of_ble_eq_true rfl⟩ rfl dX11_gives_27) (fun v7 hv7 => ?_)
      refine z_if_ne (tgt := 35) hC (hv7).i dX11_gives_30 (by decide) (fun _ => ?_) (fun _ => ?_)
      · refine z_iconst hC dX11_gives_33 ?_
        exact z_iret hC (by decide) hr dX11_gives_34
      · refine z_aload_n hC 1 rfl dX11_gives_35 rfl ?_
        refine z_getQ hC zF11_50 rfl dX11_gives_36 (fun v8 => ?_)
        refine z_iload_n hC 2 rfl dX11_gives_39 rfl ?_
        refine z_aload hC 0 rfl dX11_gives_40 ?_
        refine z_iload_n hC 4 rfl dX11_gives_42 rfl ?_
        refine z_cIp (z_rS (As := [.int (zi p3)]) hC (fun _ h1 => SB_lastDayOf FU p3 hp3 h1) zM11_212 zMs_FB_lastDayOf ⟨by decide, by decide⟩ rfl rfl rfl (rest := [.ref a6, .int (zi p1), .ref v8]) (Nat.le_of_ble_eq_true rfl) ⟨Nat.le_of_ble_eq_true rfl, Nat.le_of_ble_eq_true rfl⟩ rfl dX11_gives_43) (fun v9 hv9 => ?_)
        refine z_cI (z_rV (q := v8) (t := 6) (As := [.int (zi p1), .ref a6, .int (zi v9)]) hC (fun _ h1 => SShelf_worth FU v8 p1 a6 v9 hp1 hv9 h1) (fun _ h1 => SShelf_worth_k h1) rfl rfl zM11_215 zMv_FShelf_worth ⟨by decide, by decide⟩ rfl rfl rfl (rest := []) (Nat.le_of_ble_eq_true rfl) ⟨Nat.le_of_ble_eq_true rfl, Nat.le_of_ble_eq_true rfl⟩ rfl dX11_gives_46) (fun v11 G10 hv11 => ?_)
        exact z_iret hC hv11 hr dX11_gives_49
theorem SB_gives_k {FU : Nat} {this : Nat} {p1 : Int} {p2 : Int} {p3 : Int} {G : Hp} {r1 : (Int × Hp)} (h1 : FB_gives FU this p1 p2 p3 G = some r1) : zk G this = some (11, 0) := zgd_k (k := FB_gives_b FU this p1 p2 p3 G) h1

set_option maxRecDepth 100000 in
theorem SB_month {l : Launch} {D : va_G} {aC : Nat → ClassId} (FU : Nat) (this : Nat) (p1 : Int) (p2 : Int) (p3 : Int) (p4 : Int) (p5 : Int) (hp1 : zInI p1) (hp2 : zInI p2) (hp3 : zInI p3) (hp4 : zInI p4) (hp5 : zInI p5) {G : Hp} {r1 : (Int × Hp)} (h1 : FB_month FU this p1 p2 p3 p4 p5 G = some r1) : Met l yX11_month (Cond.code yX11_month cX11_month 11 (some .int) :: zgood) ({ frames := 63, cells := 1, slots := 7, locals := 1458 } : Room) (va_Pc [.ref this, .int (zi p1), .int (zi p2), .int (zi p3), .int (zi p4), .int (zi p5)] (zU D aC G)) (zQ D aC G (zInI r1.1) (some (.int (zi r1.1))) r1.2) 1 7 (zA G) := by
  refine z_met (y := yX11_month) (b := cX11_month) (maxL := 11) (mc := 1) (ms := 7) (ret := (some .int)) (As := [.ref this, .int (zi p1), .int (zi p2), .int (zi p3), .int (zi p4), .int (zi p5)]) (Q1 := fun r1 => zQ D aC G (zInI r1.1) (some (.int (zi r1.1))) r1.2) (X := FB_month FU this p1 p2 p3 p4 p5 G) (by decide) (Nat.le_of_ble_eq_true rfl) ?_ h1
  intro p e s m below meth c hC hr hi
  have hC : zC p m c meth s ([.ref this, .int (zi p1), .int (zi p2), .int (zi p3), .int (zi p4), .int (zi p5)] : List Value).toArray cX11_month 11 RX11 D aC := hC
  generalize ([.ref this, .int (zi p1), .int (zi p2), .int (zi p3), .int (zi p4), .int (zi p5)] : List Value).toArray = args at hC ⊢
  show zS p l e ({ frames := 63, cells := 1, slots := 7, locals := 1458 } : Room) s m args below meth c D aC G (zfI D aC G below args s 1 7) 11 0 0 (FB_month FU this p1 p2 p3 p4 p5 G) G 0 [(0, .ref this), (1, .int (zi p1)), (2, .int (zi p2)), (3, .int (zi p3)), (4, .int (zi p4)), (5, .int (zi p5))] []
  unfold FB_month
  refine z_gd ?_
  unfold FB_month_b
  refine z_aload_n hC 0 rfl dX11_month_0 rfl ?_
  refine z_getQ hC zF11_25 rfl dX11_month_1 (fun v1 => ?_)
  refine z_iload_n hC 1 rfl dX11_month_4 rfl ?_
  refine z_cAp (z_rV (q := v1) (t := 0) (As := [.int (zi p1)]) hC (fun _ h1 => SChain_shopAt FU v1 p1 hp1 h1) (fun _ h1 => SChain_shopAt_k h1) rfl rfl zM11_126 zMv_FChain_shopAt ⟨by decide, by decide⟩ rfl rfl rfl (rest := []) (Nat.le_of_ble_eq_true rfl) ⟨Nat.le_of_ble_eq_true rfl, Nat.le_of_ble_eq_true rfl⟩ rfl dX11_month_5) (fun v2 => ?_)
  refine z_qstore (lo' := [(6, va_rf v2), (0, .ref this), (1, .int (zi p1)), (2, .int (zi p2)), (3, .int (zi p3)), (4, .int (zi p4)), (5, .int (zi p5))]) hC dX11_month_8 (by decide) rfl ?_
  refine z_qload hC 0 rfl dX11_month_10 ?_
  refine z_ifnull (tgt := 32) hC dX11_month_12 (by decide) (fun h0 => ?_) (fun a3 h0 => ?_)
  · subst h0
    refine z_iconst hC dX11_month_32 ?_
    refine z_widen (k := 1) (n := 7) (by decide) (by decide) ?_
    exact z_iret hC (by decide) hr dX11_month_33
  · subst h0
    refine z_iload_n hC 3 rfl dX11_month_15 rfl ?_
    refine z_cZp (z_rS (As := [.int (zi p2)]) hC (fun _ h1 => SB_isMonth FU p2 hp2 h1) zM11_209 zMs_FB_isMonth ⟨by decide, by decide⟩ rfl rfl rfl (rest := []) (Nat.le_of_ble_eq_true rfl) ⟨Nat.le_of_ble_eq_true rfl, Nat.le_of_ble_eq_true rfl⟩ rfl dX11_month_16) (fun v4 hv4 => ?_)
    refine z_if_eq (tgt := 32) hC (hv4).i dX11_month_19 (by decide) (fun _ => ?_) (fun _ => ?_)
    · refine z_iconst hC dX11_month_32 ?_
      refine z_widen (k := 1) (n := 7) (by decide) (by decide) ?_
      exact z_iret hC (by decide) hr dX11_month_33
    · refine z_iload_n hC 4 rfl dX11_month_22 rfl ?_
      refine z_iconst hC dX11_month_23 ?_
      refine z_ldc (z := 99999) hC dX11_month_24 zc11_219 ?_
      refine z_cZp (z_rS (As := [.int (zi p3), .int (zi (0)), .int (zi (99999))]) hC (fun _ h1 => SB_isWithin FU p3 (0) (99999) hp3 (by decide) (by decide) h1) zM11_68 zMs_FB_isWithin ⟨by decide, by decide⟩ rfl rfl rfl (rest := []) (Nat.le_of_ble_eq_true rfl) ⟨Nat.le_of_ble_eq_true rfl, Nat.le_of_ble_eq_true rfl⟩ rfl dX11_month_26) (fun v5 hv5 => ?_)
      refine z_if_ne (tgt := 34) hC (hv5).i dX11_month_29 (by decide) (fun _ => ?_) (fun _ => ?_)
      · refine z_iconst hC dX11_month_32 ?_
        refine z_widen (k := 1) (n := 7) (by decide) (by decide) ?_
        exact z_iret hC (by decide) hr dX11_month_33
      · refine z_iload hC 5 rfl dX11_month_34 ?_
        refine z_iconst hC dX11_month_36 ?_
        refine z_sipush hC dX11_month_37 rfl ?_
        refine z_cZp (z_rS (As := [.int (zi p4), .int (zi (0)), .int (zi (9999))]) hC (fun _ h1 => SB_isWithin FU p4 (0) (9999) hp4 (by decide) (by decide) h1) zM11_68 zMs_FB_isWithin ⟨by decide, by decide⟩ rfl rfl rfl (rest := []) (Nat.le_of_ble_eq_true rfl) ⟨Nat.le_of_ble_eq_true rfl, Nat.le_of_ble_eq_true rfl⟩ rfl dX11_month_40) (fun v6 hv6 => ?_)
        refine z_if_eq (tgt := 58) hC (hv6).i dX11_month_43 (by decide) (fun _ => ?_) (fun _ => ?_)
        · refine z_iconst hC dX11_month_58 ?_
          refine z_widen (k := 1) (n := 7) (by decide) (by decide) ?_
          exact z_iret hC (by decide) hr dX11_month_59
        · refine z_iload hC 6 rfl dX11_month_46 ?_
          refine z_iconst hC dX11_month_48 ?_
          refine z_sipush hC dX11_month_49 rfl ?_
          refine z_cZp (z_rS (As := [.int (zi p5), .int (zi (0)), .int (zi (9999))]) hC (fun _ h1 => SB_isWithin FU p5 (0) (9999) hp5 (by decide) (by decide) h1) zM11_68 zMs_FB_isWithin ⟨by decide, by decide⟩ rfl rfl rfl (rest := []) (Nat.le_of_ble_eq_true rfl) ⟨Nat.le_of_ble_eq_true rfl, Nat.le_of_ble_eq_true rfl⟩ rfl dX11_month_52) (fun v7 hv7 => ?_)
          refine z_if_ne (tgt := 60) hC (hv7).i dX11_month_55 (by decide) (fun _ => ?_) (fun _ => ?_)
          · refine z_iconst hC dX11_month_58 ?_
            refine z_widen (k := 1) (n := 7) (by decide) (by decide) ?_
            exact z_iret hC (by decide) hr dX11_month_59
          · refine z_iload_n hC 3 rfl dX11_month_60 rfl ?_
            refine z_cIp (z_rS (As := [.int (zi p2)]) hC (fun _ h1 => SB_lastDayOf FU p2 hp2 h1) zM11_212 zMs_FB_lastDayOf ⟨by decide, by decide⟩ rfl rfl rfl (rest := []) (Nat.le_of_ble_eq_true rfl) ⟨Nat.le_of_ble_eq_true rfl, Nat.le_of_ble_eq_true rfl⟩ rfl dX11_month_61) (fun v8 hv8 => ?_)
            refine z_istore (lo' := [(7, .int (zi v8)), (6, .ref a3), (0, .ref this), (1, .int (zi p1)), (2, .int (zi p2)), (3, .int (zi p3)), (4, .int (zi p4)), (5, .int (zi p5))]) hC dX11_month_64 (by decide) rfl ?_
            refine z_aload hC 1 rfl dX11_month_66 ?_
            refine z_iload_n hC 4 rfl dX11_month_68 rfl ?_
            refine z_cAp (z_rV (q := a3) (t := 7) (As := [.int (zi p2)]) hC (fun _ h1 => SShop_monthAt FU a3 p2 hp2 h1) (fun _ h1 => SShop_monthAt_k h1) rfl rfl zM11_220 zMv_FShop_monthAt ⟨by decide, by decide⟩ rfl rfl rfl (rest := []) (Nat.le_of_ble_eq_true rfl) ⟨Nat.le_of_ble_eq_true rfl, Nat.le_of_ble_eq_true rfl⟩ rfl dX11_month_69) (fun v9 => ?_)
            refine z_ifnonnull (tgt := 94) hC dX11_month_72 (by decide) (fun h0 => ?_) (fun a10 h0 => ?_)
            · subst h0
              refine z_iload hC 0 rfl dX11_month_75 ?_
              refine z_aload_n hC 2 rfl dX11_month_77 rfl ?_
              refine z_getI hC zF11_88 rfl dX11_month_78 (fun v11 hv11 => ?_)
              refine z_icmp_ge (tgt := 94) hC hv8 hv11 dX11_month_81 (by decide) (fun _ => ?_) (fun _ => ?_)
              · refine z_aload hC 1 rfl dX11_month_84 ?_
                refine z_iload hC 0 rfl dX11_month_86 ?_
                refine z_cZp (z_rV (q := a3) (t := 7) (As := [.int (zi v8)]) hC (fun _ h1 => SShop_wasOpenOn FU a3 v8 hv8 h1) (fun _ h1 => SShop_wasOpenOn_k h1) rfl rfl zM11_224 zMv_FShop_wasOpenOn ⟨by decide, by decide⟩ rfl rfl rfl (rest := []) (Nat.le_of_ble_eq_true rfl) ⟨Nat.le_of_ble_eq_true rfl, Nat.le_of_ble_eq_true rfl⟩ rfl dX11_month_88) (fun v12 hv12 => ?_)
                refine z_if_ne (tgt := 97) hC (hv12).i dX11_month_91 (by decide) (fun _ => ?_) (fun _ => ?_)
                · refine z_bipush hC dX11_month_94 rfl ?_
                  refine z_widen (k := 1) (n := 7) (by decide) (by decide) ?_
                  exact z_iret hC (by decide) hr dX11_month_96
                · refine z_new (t := 3) hC rfl (zgood_in 863 (by decide +kernel) (by decide +kernel)) (zgood_in 864 (by decide +kernel) (by decide +kernel)) (zgood_in 115 (by decide +kernel) (by decide +kernel)) (by decide) (by decide) dX11_month_97 (fun a13 G14 => ?_)
                  refine z_widen (k := 1) (n := 7) (by decide) (by decide) ?_
                  refine z_dup hC rfl dX11_month_100 ?_
                  refine z_iload_n hC 5 rfl dX11_month_101 rfl ?_
                  refine z_iload hC 6 rfl dX11_month_102 ?_
                  refine z_iload hC 7 rfl dX11_month_104 ?_
                  refine z_cV (z_rI (q := a13) (As := [.int (zi p3), .int (zi p4), .int (zi p5)]) hC (fun _ h1 => SMonth_init FU a13 p3 p4 p5 hp3 hp4 hp5 h1) zM11_229 zMi_FMonth_init ⟨by decide, by decide⟩ rfl rfl rfl (rest := [.ref a13]) (Nat.le_of_ble_eq_true rfl) ⟨Nat.le_of_ble_eq_true rfl, Nat.le_of_ble_eq_true rfl⟩ rfl dX11_month_106) (fun G15 => ?_)
                  refine z_astore (lo' := [(8, .ref a13), (7, .int (zi v8)), (6, .ref a3), (0, .ref this), (1, .int (zi p1)), (2, .int (zi p2)), (3, .int (zi p3)), (4, .int (zi p4)), (5, .int (zi p5))]) hC dX11_month_109 (by decide) rfl ?_
                  refine z_aload hC 2 rfl dX11_month_111 ?_
                  refine z_iload_n hC 5 rfl dX11_month_113 rfl ?_
                  refine z_aload hC 0 rfl dX11_month_114 ?_
                  refine z_cV (z_rV (q := a3) (t := 7) (As := [.int (zi p2), .ref a13]) hC (fun _ h1 => SShop_keepMonth FU a3 p2 a13 hp2 h1) (fun _ h1 => SShop_keepMonth_k h1) rfl rfl zM11_231 zMv_FShop_keepMonth ⟨by decide, by decide⟩ rfl rfl rfl (rest := []) (Nat.le_of_ble_eq_true rfl) ⟨Nat.le_of_ble_eq_true rfl, Nat.le_of_ble_eq_true rfl⟩ rfl dX11_month_116) (fun G16 => ?_)
                  refine z_aload_n hC 3 rfl dX11_month_119 rfl ?_
                  refine z_getQ hC zF11_50 rfl dX11_month_120 (fun v17 => ?_)
                  refine z_aload_n hC 3 rfl dX11_month_123 rfl ?_
                  refine z_getQ hC zF11_50 rfl dX11_month_124 (fun v18 => ?_)
                  refine z_iconst hC dX11_month_127 ?_
                  refine z_iload hC 1 rfl dX11_month_128 ?_
                  refine z_aload_n hC 3 rfl dX11_month_130 rfl ?_
                  refine z_getI hC zF11_88 rfl dX11_month_131 (fun v19 hv19 => ?_)
                  refine z_cIp (z_rV (q := v18) (t := 6) (As := [.int (zi (0)), .int (zi v8), .int (zi v19)]) hC (fun _ h1 => SShelf_numberInForce FU v18 (0) v8 v19 (by decide) hv8 hv19 h1) (fun _ h1 => SShelf_numberInForce_k h1) rfl rfl zM11_202 zMv_FShelf_numberInForce ⟨by decide, by decide⟩ rfl rfl rfl (rest := [.ref v17]) (Nat.le_of_ble_eq_true rfl) ⟨Nat.le_of_ble_eq_true rfl, Nat.le_of_ble_eq_true rfl⟩ rfl dX11_month_134) (fun v20 hv20 => ?_)
                  refine z_aload hC 2 rfl dX11_month_137 ?_
                  refine z_iload hC 1 rfl dX11_month_139 ?_
                  refine z_cI (z_rV (q := v17) (t := 6) (As := [.int (zi v20), .ref a3, .int (zi v8)]) hC (fun _ h1 => SShelf_worth FU v17 v20 a3 v8 hv20 hv8 h1) (fun _ h1 => SShelf_worth_k h1) rfl rfl zM11_215 zMv_FShelf_worth ⟨by decide, by decide⟩ rfl rfl rfl (rest := []) (Nat.le_of_ble_eq_true rfl) ⟨Nat.le_of_ble_eq_true rfl, Nat.le_of_ble_eq_true rfl⟩ rfl dX11_month_141) (fun v22 G21 hv22 => ?_)
                  refine z_istore (lo' := [(9, .int (zi v22)), (8, .ref a13), (7, .int (zi v8)), (6, .ref a3), (0, .ref this), (1, .int (zi p1)), (2, .int (zi p2)), (3, .int (zi p3)), (4, .int (zi p4)), (5, .int (zi p5))]) hC dX11_month_144 (by decide) rfl ?_
                  refine z_aload_n hC 4 rfl dX11_month_146 rfl ?_
                  refine z_getQ hC zF11_50 rfl dX11_month_147 (fun v23 => ?_)
                  refine z_aload_n hC 4 rfl dX11_month_150 rfl ?_
                  refine z_getQ hC zF11_50 rfl dX11_month_151 (fun v24 => ?_)
                  refine z_iconst hC dX11_month_154 ?_
                  refine z_iload hC 2 rfl dX11_month_155 ?_
                  refine z_aload_n hC 4 rfl dX11_month_157 rfl ?_
                  refine z_getI hC zF11_88 rfl dX11_month_158 (fun v25 hv25 => ?_)
                  refine z_cIp (z_rV (q := v24) (t := 6) (As := [.int (zi (1)), .int (zi v8), .int (zi v25)]) hC (fun _ h1 => SShelf_numberInForce FU v24 (1) v8 v25 (by decide) hv8 hv25 h1) (fun _ h1 => SShelf_numberInForce_k h1) rfl rfl zM11_202 zMv_FShelf_numberInForce ⟨by decide, by decide⟩ rfl rfl rfl (rest := [.ref v23]) (Nat.le_of_ble_eq_true rfl) ⟨Nat.le_of_ble_eq_true rfl, Nat.le_of_ble_eq_true rfl⟩ rfl dX11_month_161) (fun v26 hv26 => ?_)
                  refine z_aload hC 3 rfl dX11_month_164 ?_
                  refine z_iload hC 2 rfl dX11_month_166 ?_
                  refine z_cI (z_rV (q := v23) (t := 6) (As := [.int (zi v26), .ref a3, .int (zi v8)]) hC (fun _ h1 => SShelf_worth FU v23 v26 a3 v8 hv26 hv8 h1) (fun _ h1 => SShelf_worth_k h1) rfl rfl zM11_215 zMv_FShelf_worth ⟨by decide, by decide⟩ rfl rfl rfl (rest := []) (Nat.le_of_ble_eq_true rfl) ⟨Nat.le_of_ble_eq_true rfl, Nat.le_of_ble_eq_true rfl⟩ rfl dX11_month_168) (fun v28 G27 hv28 => ?_)
                  refine z_istore (lo' := [(10, .int (zi v28)), (9, .int (zi v22)), (8, .ref a13), (7, .int (zi v8)), (6, .ref a3), (0, .ref this), (1, .int (zi p1)), (2, .int (zi p2)), (3, .int (zi p3)), (4, .int (zi p4)), (5, .int (zi p5))]) hC dX11_month_171 (by decide) rfl ?_
                  refine z_aload hC 4 rfl dX11_month_173 ?_
                  refine z_aload hC 2 rfl dX11_month_175 ?_
                  refine z_iload hC 1 rfl dX11_month_177 ?_
                  refine z_iload hC 0 rfl dX11_month_179 ?_
                  refine z_cV (z_rV (q := a3) (t := 7) (As := [.ref a13, .int (zi v22), .int (zi v28)]) hC (fun _ h1 => SShop_charge FU a3 a13 v22 v28 hv22 hv28 h1) (fun _ h1 => SShop_charge_k h1) rfl rfl zM11_235 zMv_FShop_charge ⟨by decide, by decide⟩ rfl rfl rfl (rest := []) (Nat.le_of_ble_eq_true rfl) ⟨Nat.le_of_ble_eq_true rfl, Nat.le_of_ble_eq_true rfl⟩ rfl dX11_month_181) (fun G29 => ?_)
                  refine z_aload_n hC 5 rfl dX11_month_184 rfl ?_
                  refine z_getQ hC zF11_57 rfl dX11_month_185 (fun v30 => ?_)
                  refine z_dup hC rfl dX11_month_188 ?_
                  refine z_getI hC zF11_239 rfl dX11_month_189 (fun v31 hv31 => ?_)
                  refine z_aload hC 4 rfl dX11_month_192 ?_
                  refine z_iconst hC dX11_month_194 ?_
                  refine z_aload_n hC 5 rfl dX11_month_195 rfl ?_
                  refine z_getI hC zF11_88 rfl dX11_month_196 (fun v32 hv32 => ?_)
                  refine z_cI (z_rV (q := a3) (t := 7) (As := [.int (zi (0)), .int (zi v32)]) hC (fun _ h1 => SShop_settle FU a3 (0) v32 (by decide) hv32 h1) (fun _ h1 => SShop_settle_k h1) rfl rfl zM11_242 zMv_FShop_settle ⟨by decide, by decide⟩ rfl rfl rfl (rest := [.int (zi v31), .ref v30]) (Nat.le_of_ble_eq_true rfl) ⟨Nat.le_of_ble_eq_true rfl, Nat.le_of_ble_eq_true rfl⟩ rfl dX11_month_199) (fun v34 G33 hv34 => ?_)
                  refine z_iadd hC dX11_month_202 (fun v35 hv35 => ?_)
                  refine z_putI hC hv35 zF11_239 rfl rfl dX11_month_203 (fun G36 => ?_)
                  refine z_iload hC 1 rfl dX11_month_206 ?_
                  refine z_iload hC 0 rfl dX11_month_208 ?_
                  refine z_iadd hC dX11_month_210 (fun v37 hv37 => ?_)
                  exact z_iret hC hv37 hr dX11_month_211
              · refine z_bipush hC dX11_month_94 rfl ?_
                refine z_widen (k := 1) (n := 7) (by decide) (by decide) ?_
                exact z_iret hC (by decide) hr dX11_month_96
            · subst h0
              refine z_bipush hC dX11_month_94 rfl ?_
              refine z_widen (k := 1) (n := 7) (by decide) (by decide) ?_
              exact z_iret hC (by decide) hr dX11_month_96
theorem SB_month_k {FU : Nat} {this : Nat} {p1 : Int} {p2 : Int} {p3 : Int} {p4 : Int} {p5 : Int} {G : Hp} {r1 : (Int × Hp)} (h1 : FB_month FU this p1 p2 p3 p4 p5 G = some r1) : zk G this = some (11, 0) := zgd_k (k := FB_month_b FU this p1 p2 p3 p4 p5 G) h1

set_option maxRecDepth 100000 in
theorem SB_isShort {l : Launch} {D : va_G} {aC : Nat → ClassId} (FU : Nat) (this : Nat) (p1 : Int) (p2 : Int) (hp1 : zInI p1) (hp2 : zInI p2) {G : Hp} {r1 : Int} (h1 : FB_isShort FU this p1 p2 G = some r1) : Met l yX11_isShort (Cond.code yX11_isShort cX11_isShort 5 (some .int) :: zgood) ({ frames := 2, cells := 0, slots := 0, locals := 45 } : Room) (va_Pc [.ref this, .int (zi p1), .int (zi p2)] (zU D aC G)) (zQ D aC G (zInI r1) (some (.int (zi r1))) G) 0 0 (zA G) := by
  refine z_met (y := yX11_isShort) (b := cX11_isShort) (maxL := 5) (mc := 0) (ms := 0) (ret := (some .int)) (As := [.ref this, .int (zi p1), .int (zi p2)]) (Q1 := fun r1 => zQ D aC G (zInI r1) (some (.int (zi r1))) G) (X := FB_isShort FU this p1 p2 G) (by decide) (Nat.le_of_ble_eq_true rfl) ?_ h1
  intro p e s m below meth c hC hr hi
  have hC : zC p m c meth s ([.ref this, .int (zi p1), .int (zi p2)] : List Value).toArray cX11_isShort 5 RX11 D aC := hC
  generalize ([.ref this, .int (zi p1), .int (zi p2)] : List Value).toArray = args at hC ⊢
  show zS p l e ({ frames := 2, cells := 0, slots := 0, locals := 45 } : Room) s m args below meth c D aC G (fun r1 => zfI D aC G below args s 0 0 (r1, G)) 5 0 0 (FB_isShort FU this p1 p2 G) G 0 [(0, .ref this), (1, .int (zi p1)), (2, .int (zi p2))] []
  unfold FB_isShort
  refine z_gd ?_
  unfold FB_isShort_b
  refine z_aload_n hC 0 rfl dX11_isShort_0 rfl ?_
  refine z_getQ hC zF11_25 rfl dX11_isShort_1 (fun v1 => ?_)
  refine z_iload_n hC 1 rfl dX11_isShort_4 rfl ?_
  refine z_cAp (z_rV (q := v1) (t := 0) (As := [.int (zi p1)]) hC (fun _ h1 => SChain_shopAt FU v1 p1 hp1 h1) (fun _ h1 => SChain_shopAt_k h1) rfl rfl zM11_126 zMv_FChain_shopAt ⟨by decide, by decide⟩ rfl rfl rfl (rest := []) (Nat.le_of_ble_eq_true rfl) ⟨Nat.le_of_ble_eq_true rfl, Nat.le_of_ble_eq_true rfl⟩ rfl dX11_isShort_5) (fun v2 => ?_)
  refine z_qstore_n (lo' := [(3, va_rf v2), (0, .ref this), (1, .int (zi p1)), (2, .int (zi p2))]) hC dX11_isShort_8 rfl (by decide) rfl ?_
  refine z_qload_n hC 0 rfl dX11_isShort_9 rfl ?_
  refine z_ifnonnull (tgt := 15) hC dX11_isShort_10 (by decide) (fun h0 => ?_) (fun a3 h0 => ?_)
  · subst h0
    refine z_iconst hC dX11_isShort_13 ?_
    exact z_iretp hC (by decide) hr dX11_isShort_14
  · subst h0
    refine z_aload_n hC 0 rfl dX11_isShort_15 rfl ?_
    refine z_iload_n hC 3 rfl dX11_isShort_16 rfl ?_
    refine z_cAp (z_rV (q := a3) (t := 7) (As := [.int (zi p2)]) hC (fun _ h1 => SShop_monthAt FU a3 p2 hp2 h1) (fun _ h1 => SShop_monthAt_k h1) rfl rfl zM11_220 zMv_FShop_monthAt ⟨by decide, by decide⟩ rfl rfl rfl (rest := []) (Nat.le_of_ble_eq_true rfl) ⟨Nat.le_of_ble_eq_true rfl, Nat.le_of_ble_eq_true rfl⟩ rfl dX11_isShort_17) (fun v4 => ?_)
    refine z_qstore (lo' := [(4, va_rf v4), (3, .ref a3), (0, .ref this), (1, .int (zi p1)), (2, .int (zi p2))]) hC dX11_isShort_20 (by decide) rfl ?_
    refine z_qload hC 0 rfl dX11_isShort_22 ?_
    refine z_ifnonnull (tgt := 29) hC dX11_isShort_24 (by decide) (fun h0 => ?_) (fun a5 h0 => ?_)
    · subst h0
      refine z_iconst hC dX11_isShort_27 ?_
      exact z_iretp hC (by decide) hr dX11_isShort_28
    · subst h0
      refine z_aload hC 0 rfl dX11_isShort_29 ?_
      refine z_aload_n hC 2 rfl dX11_isShort_31 rfl ?_
      refine z_getI hC zF11_9 rfl dX11_isShort_32 (fun v6 hv6 => ?_)
      refine z_cZp (z_rV (q := a5) (t := 3) (As := [.int (zi v6)]) hC (fun _ h1 => SMonth_fallsShort FU a5 v6 hv6 h1) (fun _ h1 => SMonth_fallsShort_k h1) rfl rfl zM11_245 zMv_FMonth_fallsShort ⟨by decide, by decide⟩ rfl rfl rfl (rest := []) (Nat.le_of_ble_eq_true rfl) ⟨Nat.le_of_ble_eq_true rfl, Nat.le_of_ble_eq_true rfl⟩ rfl dX11_isShort_35) (fun v7 hv7 => ?_)
      refine z_if_eq (tgt := 45) hC (hv7).i dX11_isShort_38 (by decide) (fun _ => ?_) (fun _ => ?_)
      · refine z_iconst hC dX11_isShort_45 ?_
        exact z_iretp hC (by decide) hr dX11_isShort_46
      · refine z_iconst hC dX11_isShort_41 ?_
        refine z_goto (tgt := 46) hC dX11_isShort_42 (by decide) ?_
        exact z_iretp hC (by decide) hr dX11_isShort_46
theorem SB_isShort_k {FU : Nat} {this : Nat} {p1 : Int} {p2 : Int} {G : Hp} {r1 : Int} (h1 : FB_isShort FU this p1 p2 G = some r1) : zk G this = some (11, 0) := zgd_k (k := FB_isShort_b FU this p1 p2 G) h1

set_option maxRecDepth 100000 in
theorem SB_under {l : Launch} {D : va_G} {aC : Nat → ClassId} (FU : Nat) (this : Nat) (p1 : Int) (p2 : Int) (hp1 : zInI p1) (hp2 : zInI p2) {G : Hp} {r1 : Int} (h1 : FB_under FU this p1 p2 G = some r1) : Met l yX11_under (Cond.code yX11_under cX11_under 4 (some .int) :: zgood) ({ frames := 3, cells := 0, slots := 0, locals := 71 } : Room) (va_Pc [.ref this, .int (zi p1), .int (zi p2)] (zU D aC G)) (zQ D aC G (zInI r1) (some (.int (zi r1))) G) 0 0 (zA G) := by
  refine z_met (y := yX11_under) (b := cX11_under) (maxL := 4) (mc := 0) (ms := 0) (ret := (some .int)) (As := [.ref this, .int (zi p1), .int (zi p2)]) (Q1 := fun r1 => zQ D aC G (zInI r1) (some (.int (zi r1))) G) (X := FB_under FU this p1 p2 G) (by decide) (Nat.le_of_ble_eq_true rfl) ?_ h1
  intro p e s m below meth c hC hr hi
  have hC : zC p m c meth s ([.ref this, .int (zi p1), .int (zi p2)] : List Value).toArray cX11_under 4 RX11 D aC := hC
  generalize ([.ref this, .int (zi p1), .int (zi p2)] : List Value).toArray = args at hC ⊢
  show zS p l e ({ frames := 3, cells := 0, slots := 0, locals := 71 } : Room) s m args below meth c D aC G (fun r1 => zfI D aC G below args s 0 0 (r1, G)) 4 0 0 (FB_under FU this p1 p2 G) G 0 [(0, .ref this), (1, .int (zi p1)), (2, .int (zi p2))] []
  unfold FB_under
  refine z_gd ?_
  unfold FB_under_b
  refine z_aload_n hC 0 rfl dX11_under_0 rfl ?_
  refine z_getQ hC zF11_25 rfl dX11_under_1 (fun v1 => ?_)
  refine z_iload_n hC 1 rfl dX11_under_4 rfl ?_
  refine z_cAp (z_rV (q := v1) (t := 0) (As := [.int (zi p1)]) hC (fun _ h1 => SChain_shopAt FU v1 p1 hp1 h1) (fun _ h1 => SChain_shopAt_k h1) rfl rfl zM11_126 zMv_FChain_shopAt ⟨by decide, by decide⟩ rfl rfl rfl (rest := []) (Nat.le_of_ble_eq_true rfl) ⟨Nat.le_of_ble_eq_true rfl, Nat.le_of_ble_eq_true rfl⟩ rfl dX11_under_5) (fun v2 => ?_)
  refine z_qstore_n (lo' := [(3, va_rf v2), (0, .ref this), (1, .int (zi p1)), (2, .int (zi p2))]) hC dX11_under_8 rfl (by decide) rfl ?_
  refine z_qload_n hC 0 rfl dX11_under_9 rfl ?_
  refine z_ifnull (tgt := 20) hC dX11_under_10 (by decide) (fun h0 => ?_) (fun a3 h0 => ?_)
  · subst h0
    refine z_iconst hC dX11_under_20 ?_
    exact z_iretp hC (by decide) hr dX11_under_21
  · subst h0
    refine z_iload_n hC 3 rfl dX11_under_13 rfl ?_
    refine z_cZp (z_rS (As := [.int (zi p2)]) hC (fun _ h1 => SB_isMonth FU p2 hp2 h1) zM11_209 zMs_FB_isMonth ⟨by decide, by decide⟩ rfl rfl rfl (rest := []) (Nat.le_of_ble_eq_true rfl) ⟨Nat.le_of_ble_eq_true rfl, Nat.le_of_ble_eq_true rfl⟩ rfl dX11_under_14) (fun v4 hv4 => ?_)
    refine z_if_ne (tgt := 22) hC (hv4).i dX11_under_17 (by decide) (fun _ => ?_) (fun _ => ?_)
    · refine z_iconst hC dX11_under_20 ?_
      exact z_iretp hC (by decide) hr dX11_under_21
    · refine z_aload_n hC 0 rfl dX11_under_22 rfl ?_
      refine z_iload_n hC 3 rfl dX11_under_23 rfl ?_
      refine z_aload_n hC 1 rfl dX11_under_24 rfl ?_
      refine z_getI hC zF11_9 rfl dX11_under_25 (fun v5 hv5 => ?_)
      refine z_cIp (z_rV (q := a3) (t := 7) (As := [.int (zi p2), .int (zi v5)]) hC (fun _ h1 => SShop_shortMonthsUpTo FU a3 p2 v5 hp2 hv5 h1) (fun _ h1 => SShop_shortMonthsUpTo_k h1) rfl rfl zM11_248 zMv_FShop_shortMonthsUpTo ⟨by decide, by decide⟩ rfl rfl rfl (rest := []) (Nat.le_of_ble_eq_true rfl) ⟨Nat.le_of_ble_eq_true rfl, Nat.le_of_ble_eq_true rfl⟩ rfl dX11_under_28) (fun v6 hv6 => ?_)
      refine z_iconst hC dX11_under_31 ?_
      refine z_icmp_lt (tgt := 39) hC hv6 (by decide) dX11_under_32 (by decide) (fun _ => ?_) (fun _ => ?_)
      · refine z_iconst hC dX11_under_39 ?_
        exact z_iretp hC (by decide) hr dX11_under_40
      · refine z_iconst hC dX11_under_35 ?_
        refine z_goto (tgt := 40) hC dX11_under_36 (by decide) ?_
        exact z_iretp hC (by decide) hr dX11_under_40
theorem SB_under_k {FU : Nat} {this : Nat} {p1 : Int} {p2 : Int} {G : Hp} {r1 : Int} (h1 : FB_under FU this p1 p2 G = some r1) : zk G this = some (11, 0) := zgd_k (k := FB_under_b FU this p1 p2 G) h1

set_option maxRecDepth 100000 in
theorem SB_pay {l : Launch} {D : va_G} {aC : Nat → ClassId} (FU : Nat) (this : Nat) (p1 : Int) (p2 : Int) (hp1 : zInI p1) (hp2 : zInI p2) {G : Hp} {r1 : (Int × Hp)} (h1 : FB_pay FU this p1 p2 G = some r1) : Met l yX11_pay (Cond.code yX11_pay cX11_pay 4 (some .int) :: zgood) ({ frames := 4, cells := 0, slots := 0, locals := 93 } : Room) (va_Pc [.ref this, .int (zi p1), .int (zi p2)] (zU D aC G)) (zQ D aC G (zInI r1.1) (some (.int (zi r1.1))) r1.2) 0 0 (zA G) := by
  refine z_met (y := yX11_pay) (b := cX11_pay) (maxL := 4) (mc := 0) (ms := 0) (ret := (some .int)) (As := [.ref this, .int (zi p1), .int (zi p2)]) (Q1 := fun r1 => zQ D aC G (zInI r1.1) (some (.int (zi r1.1))) r1.2) (X := FB_pay FU this p1 p2 G) (by decide) (Nat.le_of_ble_eq_true rfl) ?_ h1
  intro p e s m below meth c hC hr hi
  have hC : zC p m c meth s ([.ref this, .int (zi p1), .int (zi p2)] : List Value).toArray cX11_pay 4 RX11 D aC := hC
  generalize ([.ref this, .int (zi p1), .int (zi p2)] : List Value).toArray = args at hC ⊢
  show zS p l e ({ frames := 4, cells := 0, slots := 0, locals := 93 } : Room) s m args below meth c D aC G (zfI D aC G below args s 0 0) 4 0 0 (FB_pay FU this p1 p2 G) G 0 [(0, .ref this), (1, .int (zi p1)), (2, .int (zi p2))] []
  unfold FB_pay
  refine z_gd ?_
  unfold FB_pay_b
  refine z_aload_n hC 0 rfl dX11_pay_0 rfl ?_
  refine z_getQ hC zF11_25 rfl dX11_pay_1 (fun v1 => ?_)
  refine z_iload_n hC 1 rfl dX11_pay_4 rfl ?_
  refine z_cAp (z_rV (q := v1) (t := 0) (As := [.int (zi p1)]) hC (fun _ h1 => SChain_shopAt FU v1 p1 hp1 h1) (fun _ h1 => SChain_shopAt_k h1) rfl rfl zM11_126 zMv_FChain_shopAt ⟨by decide, by decide⟩ rfl rfl rfl (rest := []) (Nat.le_of_ble_eq_true rfl) ⟨Nat.le_of_ble_eq_true rfl, Nat.le_of_ble_eq_true rfl⟩ rfl dX11_pay_5) (fun v2 => ?_)
  refine z_qstore_n (lo' := [(3, va_rf v2), (0, .ref this), (1, .int (zi p1)), (2, .int (zi p2))]) hC dX11_pay_8 rfl (by decide) rfl ?_
  refine z_qload_n hC 0 rfl dX11_pay_9 rfl ?_
  refine z_ifnull (tgt := 23) hC dX11_pay_10 (by decide) (fun h0 => ?_) (fun a3 h0 => ?_)
  · subst h0
    refine z_ldc (z := -2000000000) hC dX11_pay_23 zc11_252 ?_
    exact z_iret hC (by decide) hr dX11_pay_25
  · subst h0
    refine z_iload_n hC 3 rfl dX11_pay_13 rfl ?_
    refine z_iconst hC dX11_pay_14 ?_
    refine z_ldc (z := 1000000) hC dX11_pay_15 zc11_251 ?_
    refine z_cZp (z_rS (As := [.int (zi p2), .int (zi (1)), .int (zi (1000000))]) hC (fun _ h1 => SB_isWithin FU p2 (1) (1000000) hp2 (by decide) (by decide) h1) zM11_68 zMs_FB_isWithin ⟨by decide, by decide⟩ rfl rfl rfl (rest := []) (Nat.le_of_ble_eq_true rfl) ⟨Nat.le_of_ble_eq_true rfl, Nat.le_of_ble_eq_true rfl⟩ rfl dX11_pay_17) (fun v4 hv4 => ?_)
    refine z_if_ne (tgt := 26) hC (hv4).i dX11_pay_20 (by decide) (fun _ => ?_) (fun _ => ?_)
    · refine z_ldc (z := -2000000000) hC dX11_pay_23 zc11_252 ?_
      exact z_iret hC (by decide) hr dX11_pay_25
    · refine z_aload_n hC 1 rfl dX11_pay_26 rfl ?_
      refine z_getQ hC zF11_57 rfl dX11_pay_27 (fun v5 => ?_)
      refine z_dup hC rfl dX11_pay_30 ?_
      refine z_getI hC zF11_239 rfl dX11_pay_31 (fun v6 hv6 => ?_)
      refine z_aload_n hC 0 rfl dX11_pay_34 rfl ?_
      refine z_iload_n hC 3 rfl dX11_pay_35 rfl ?_
      refine z_aload_n hC 1 rfl dX11_pay_36 rfl ?_
      refine z_getI hC zF11_88 rfl dX11_pay_37 (fun v7 hv7 => ?_)
      refine z_cI (z_rV (q := a3) (t := 7) (As := [.int (zi p2), .int (zi v7)]) hC (fun _ h1 => SShop_settle FU a3 p2 v7 hp2 hv7 h1) (fun _ h1 => SShop_settle_k h1) rfl rfl zM11_242 zMv_FShop_settle ⟨by decide, by decide⟩ rfl rfl rfl (rest := [.int (zi v6), .ref v5]) (Nat.le_of_ble_eq_true rfl) ⟨Nat.le_of_ble_eq_true rfl, Nat.le_of_ble_eq_true rfl⟩ rfl dX11_pay_40) (fun v9 G8 hv9 => ?_)
      refine z_iadd hC dX11_pay_43 (fun v10 hv10 => ?_)
      refine z_putI hC hv10 zF11_239 rfl rfl dX11_pay_44 (fun G11 => ?_)
      refine z_aload_n hC 0 rfl dX11_pay_47 rfl ?_
      refine z_cIp (z_rV (q := a3) (t := 7) (As := []) hC (fun _ h1 => SShop_balance FU a3 h1) (fun _ h1 => SShop_balance_k h1) rfl rfl zM11_253 zMv_FShop_balance ⟨by decide, by decide⟩ rfl rfl rfl (rest := []) (Nat.le_of_ble_eq_true rfl) ⟨Nat.le_of_ble_eq_true rfl, Nat.le_of_ble_eq_true rfl⟩ rfl dX11_pay_48) (fun v12 hv12 => ?_)
      exact z_iret hC hv12 hr dX11_pay_51
theorem SB_pay_k {FU : Nat} {this : Nat} {p1 : Int} {p2 : Int} {G : Hp} {r1 : (Int × Hp)} (h1 : FB_pay FU this p1 p2 G = some r1) : zk G this = some (11, 0) := zgd_k (k := FB_pay_b FU this p1 p2 G) h1

set_option maxRecDepth 100000 in
theorem SB_owed {l : Launch} {D : va_G} {aC : Nat → ClassId} (FU : Nat) (this : Nat) (p1 : Int) (hp1 : zInI p1) {G : Hp} {r1 : Int} (h1 : FB_owed FU this p1 G = some r1) : Met l yX11_owed (Cond.code yX11_owed cX11_owed 3 (some .int) :: zgood) ({ frames := 2, cells := 0, slots := 0, locals := 45 } : Room) (va_Pc [.ref this, .int (zi p1)] (zU D aC G)) (zQ D aC G (zInI r1) (some (.int (zi r1))) G) 0 0 (zA G) := by
  refine z_met (y := yX11_owed) (b := cX11_owed) (maxL := 3) (mc := 0) (ms := 0) (ret := (some .int)) (As := [.ref this, .int (zi p1)]) (Q1 := fun r1 => zQ D aC G (zInI r1) (some (.int (zi r1))) G) (X := FB_owed FU this p1 G) (by decide) (Nat.le_of_ble_eq_true rfl) ?_ h1
  intro p e s m below meth c hC hr hi
  have hC : zC p m c meth s ([.ref this, .int (zi p1)] : List Value).toArray cX11_owed 3 RX11 D aC := hC
  generalize ([.ref this, .int (zi p1)] : List Value).toArray = args at hC ⊢
  show zS p l e ({ frames := 2, cells := 0, slots := 0, locals := 45 } : Room) s m args below meth c D aC G (fun r1 => zfI D aC G below args s 0 0 (r1, G)) 3 0 0 (FB_owed FU this p1 G) G 0 [(0, .ref this), (1, .int (zi p1))] []
  unfold FB_owed
  refine z_gd ?_
  unfold FB_owed_b
  refine z_aload_n hC 0 rfl dX11_owed_0 rfl ?_
  refine z_getQ hC zF11_25 rfl dX11_owed_1 (fun v1 => ?_)
  refine z_iload_n hC 1 rfl dX11_owed_4 rfl ?_
  refine z_cAp (z_rV (q := v1) (t := 0) (As := [.int (zi p1)]) hC (fun _ h1 => SChain_shopAt FU v1 p1 hp1 h1) (fun _ h1 => SChain_shopAt_k h1) rfl rfl zM11_126 zMv_FChain_shopAt ⟨by decide, by decide⟩ rfl rfl rfl (rest := []) (Nat.le_of_ble_eq_true rfl) ⟨Nat.le_of_ble_eq_true rfl, Nat.le_of_ble_eq_true rfl⟩ rfl dX11_owed_5) (fun v2 => ?_)
  refine z_qstore_n (lo' := [(2, va_rf v2), (0, .ref this), (1, .int (zi p1))]) hC dX11_owed_8 rfl (by decide) rfl ?_
  refine z_qload_n hC 0 rfl dX11_owed_9 rfl ?_
  refine z_ifnonnull (tgt := 18) hC dX11_owed_10 (by decide) (fun h0 => ?_) (fun a3 h0 => ?_)
  · subst h0
    refine z_ldc (z := -2000000000) hC dX11_owed_13 zc11_252 ?_
    refine z_goto (tgt := 22) hC dX11_owed_15 (by decide) ?_
    exact z_iretp hC (by decide) hr dX11_owed_22
  · subst h0
    refine z_aload_n hC 0 rfl dX11_owed_18 rfl ?_
    refine z_cIp (z_rV (q := a3) (t := 7) (As := []) hC (fun _ h1 => SShop_balance FU a3 h1) (fun _ h1 => SShop_balance_k h1) rfl rfl zM11_253 zMv_FShop_balance ⟨by decide, by decide⟩ rfl rfl rfl (rest := []) (Nat.le_of_ble_eq_true rfl) ⟨Nat.le_of_ble_eq_true rfl, Nat.le_of_ble_eq_true rfl⟩ rfl dX11_owed_19) (fun v4 hv4 => ?_)
    exact z_iretp hC hv4 hr dX11_owed_22
theorem SB_owed_k {FU : Nat} {this : Nat} {p1 : Int} {G : Hp} {r1 : Int} (h1 : FB_owed FU this p1 G = some r1) : zk G this = some (11, 0) := zgd_k (k := FB_owed_b FU this p1 G) h1

set_option maxRecDepth 100000 in
theorem SB_led {l : Launch} {D : va_G} {aC : Nat → ClassId} (FU : Nat) (this : Nat) (p1 : Int) (p2 : Int) (p3 : Int) (hp1 : zInI p1) (hp2 : zInI p2) (hp3 : zInI p3) {G : Hp} {r1 : Int} (h1 : FB_led FU this p1 p2 p3 G = some r1) : Met l yX11_led (Cond.code yX11_led cX11_led 6 (some .int) :: zgood) ({ frames := 2, cells := 0, slots := 0, locals := 45 } : Room) (va_Pc [.ref this, .int (zi p1), .int (zi p2), .int (zi p3)] (zU D aC G)) (zQ D aC G (zInI r1) (some (.int (zi r1))) G) 0 0 (zA G) := by
  refine z_met (y := yX11_led) (b := cX11_led) (maxL := 6) (mc := 0) (ms := 0) (ret := (some .int)) (As := [.ref this, .int (zi p1), .int (zi p2), .int (zi p3)]) (Q1 := fun r1 => zQ D aC G (zInI r1) (some (.int (zi r1))) G) (X := FB_led FU this p1 p2 p3 G) (by decide) (Nat.le_of_ble_eq_true rfl) ?_ h1
  intro p e s m below meth c hC hr hi
  have hC : zC p m c meth s ([.ref this, .int (zi p1), .int (zi p2), .int (zi p3)] : List Value).toArray cX11_led 6 RX11 D aC := hC
  generalize ([.ref this, .int (zi p1), .int (zi p2), .int (zi p3)] : List Value).toArray = args at hC ⊢
  show zS p l e ({ frames := 2, cells := 0, slots := 0, locals := 45 } : Room) s m args below meth c D aC G (fun r1 => zfI D aC G below args s 0 0 (r1, G)) 6 0 0 (FB_led FU this p1 p2 p3 G) G 0 [(0, .ref this), (1, .int (zi p1)), (2, .int (zi p2)), (3, .int (zi p3))] []
  unfold FB_led
  refine z_gd ?_
  unfold FB_led_b
  refine z_aload_n hC 0 rfl dX11_led_0 rfl ?_
  refine z_getQ hC zF11_25 rfl dX11_led_1 (fun v1 => ?_)
  refine z_iload_n hC 1 rfl dX11_led_4 rfl ?_
  refine z_cAp (z_rV (q := v1) (t := 0) (As := [.int (zi p1)]) hC (fun _ h1 => SChain_shopAt FU v1 p1 hp1 h1) (fun _ h1 => SChain_shopAt_k h1) rfl rfl zM11_126 zMv_FChain_shopAt ⟨by decide, by decide⟩ rfl rfl rfl (rest := []) (Nat.le_of_ble_eq_true rfl) ⟨Nat.le_of_ble_eq_true rfl, Nat.le_of_ble_eq_true rfl⟩ rfl dX11_led_5) (fun v2 => ?_)
  refine z_qstore (lo' := [(4, va_rf v2), (0, .ref this), (1, .int (zi p1)), (2, .int (zi p2)), (3, .int (zi p3))]) hC dX11_led_8 (by decide) rfl ?_
  refine z_qload hC 0 rfl dX11_led_10 ?_
  refine z_ifnonnull (tgt := 17) hC dX11_led_12 (by decide) (fun h0 => ?_) (fun a3 h0 => ?_)
  · subst h0
    refine z_iconst hC dX11_led_15 ?_
    exact z_iretp hC (by decide) hr dX11_led_16
  · subst h0
    refine z_aload hC 0 rfl dX11_led_17 ?_
    refine z_iload_n hC 3 rfl dX11_led_19 rfl ?_
    refine z_cAp (z_rV (q := a3) (t := 7) (As := [.int (zi p2)]) hC (fun _ h1 => SShop_monthAt FU a3 p2 hp2 h1) (fun _ h1 => SShop_monthAt_k h1) rfl rfl zM11_220 zMv_FShop_monthAt ⟨by decide, by decide⟩ rfl rfl rfl (rest := []) (Nat.le_of_ble_eq_true rfl) ⟨Nat.le_of_ble_eq_true rfl, Nat.le_of_ble_eq_true rfl⟩ rfl dX11_led_20) (fun v4 => ?_)
    refine z_qstore (lo' := [(5, va_rf v4), (4, .ref a3), (0, .ref this), (1, .int (zi p1)), (2, .int (zi p2)), (3, .int (zi p3))]) hC dX11_led_23 (by decide) rfl ?_
    refine z_qload hC 0 rfl dX11_led_25 ?_
    refine z_ifnonnull (tgt := 32) hC dX11_led_27 (by decide) (fun h0 => ?_) (fun a5 h0 => ?_)
    · subst h0
      refine z_iconst hC dX11_led_30 ?_
      exact z_iretp hC (by decide) hr dX11_led_31
    · subst h0
      refine z_iload_n hC 5 rfl dX11_led_32 rfl ?_
      refine z_tabIf (tgt := 64) hC hp3 dX11_led_33 0 ⟨by decide, by decide⟩ rfl (by decide) (fun _ => ?_) (fun hsw0 => ?_)
      · refine z_aload hC 0 rfl dX11_led_64 ?_
        refine z_getI hC zF11_257 rfl dX11_led_66 (fun v6 hv6 => ?_)
        exact z_iretp hC hv6 hr dX11_led_69
      refine z_tabIf (tgt := 70) hC hp3 dX11_led_33 1 ⟨by decide, by decide⟩ rfl (by decide) (fun _ => ?_) (fun hsw1 => ?_)
      · refine z_aload hC 0 rfl dX11_led_70 ?_
        refine z_getI hC zF11_260 rfl dX11_led_72 (fun v7 hv7 => ?_)
        exact z_iretp hC hv7 hr dX11_led_75
      refine z_tabIf (tgt := 76) hC hp3 dX11_led_33 2 ⟨by decide, by decide⟩ rfl (by decide) (fun _ => ?_) (fun hsw2 => ?_)
      · refine z_aload hC 0 rfl dX11_led_76 ?_
        refine z_getI hC zF11_262 rfl dX11_led_78 (fun v8 hv8 => ?_)
        exact z_iretp hC hv8 hr dX11_led_81
      refine z_tabIf (tgt := 82) hC hp3 dX11_led_33 3 ⟨by decide, by decide⟩ rfl (by decide) (fun _ => ?_) (fun hsw3 => ?_)
      · refine z_aload hC 0 rfl dX11_led_82 ?_
        refine z_getI hC zF11_265 rfl dX11_led_84 (fun v9 hv9 => ?_)
        exact z_iretp hC hv9 hr dX11_led_87
      refine z_tabDef (tgt := 88) hC hp3 dX11_led_33 (by omega) (by decide) ?_
      refine z_iconst hC dX11_led_88 ?_
      exact z_iretp hC (by decide) hr dX11_led_89
theorem SB_led_k {FU : Nat} {this : Nat} {p1 : Int} {p2 : Int} {p3 : Int} {G : Hp} {r1 : Int} (h1 : FB_led FU this p1 p2 p3 G = some r1) : zk G this = some (11, 0) := zgd_k (k := FB_led_b FU this p1 p2 p3 G) h1

set_option maxRecDepth 100000 in
theorem SB_notice {l : Launch} {D : va_G} {aC : Nat → ClassId} (FU : Nat) (this : Nat) (p1 : Int) (hp1 : zInI p1) {G : Hp} {r1 : (Int × Hp)} (h1 : FB_notice FU this p1 G = some r1) : Met l yX11_notice (Cond.code yX11_notice cX11_notice 4 (some .int) :: zgood) ({ frames := 63, cells := 0, slots := 0, locals := 1458 } : Room) (va_Pc [.ref this, .int (zi p1)] (zU D aC G)) (zQ D aC G (zInI r1.1) (some (.int (zi r1.1))) r1.2) 0 0 (zA G) := by
  refine z_met (y := yX11_notice) (b := cX11_notice) (maxL := 4) (mc := 0) (ms := 0) (ret := (some .int)) (As := [.ref this, .int (zi p1)]) (Q1 := fun r1 => zQ D aC G (zInI r1.1) (some (.int (zi r1.1))) r1.2) (X := FB_notice FU this p1 G) (by decide) (Nat.le_of_ble_eq_true rfl) ?_ h1
  intro p e s m below meth c hC hr hi
  have hC : zC p m c meth s ([.ref this, .int (zi p1)] : List Value).toArray cX11_notice 4 RX11 D aC := hC
  generalize ([.ref this, .int (zi p1)] : List Value).toArray = args at hC ⊢
  show zS p l e ({ frames := 63, cells := 0, slots := 0, locals := 1458 } : Room) s m args below meth c D aC G (zfI D aC G below args s 0 0) 4 0 0 (FB_notice FU this p1 G) G 0 [(0, .ref this), (1, .int (zi p1))] []
  unfold FB_notice
  refine z_gd ?_
  unfold FB_notice_b
  refine z_aload_n hC 0 rfl dX11_notice_0 rfl ?_
  refine z_getQ hC zF11_25 rfl dX11_notice_1 (fun v1 => ?_)
  refine z_iload_n hC 1 rfl dX11_notice_4 rfl ?_
  refine z_cAp (z_rV (q := v1) (t := 0) (As := [.int (zi p1)]) hC (fun _ h1 => SChain_shopAt FU v1 p1 hp1 h1) (fun _ h1 => SChain_shopAt_k h1) rfl rfl zM11_126 zMv_FChain_shopAt ⟨by decide, by decide⟩ rfl rfl rfl (rest := []) (Nat.le_of_ble_eq_true rfl) ⟨Nat.le_of_ble_eq_true rfl, Nat.le_of_ble_eq_true rfl⟩ rfl dX11_notice_5) (fun v2 => ?_)
  refine z_qstore_n (lo' := [(2, va_rf v2), (0, .ref this), (1, .int (zi p1))]) hC dX11_notice_8 rfl (by decide) rfl ?_
  refine z_qload_n hC 0 rfl dX11_notice_9 rfl ?_
  refine z_ifnonnull (tgt := 15) hC dX11_notice_10 (by decide) (fun h0 => ?_) (fun a3 h0 => ?_)
  · subst h0
    refine z_iconst hC dX11_notice_13 ?_
    exact z_iret hC (by decide) hr dX11_notice_14
  · subst h0
    refine z_aload_n hC 0 rfl dX11_notice_15 rfl ?_
    refine z_cIp (z_rV (q := a3) (t := 7) (As := []) hC (fun _ h1 => SShop_balance FU a3 h1) (fun _ h1 => SShop_balance_k h1) rfl rfl zM11_253 zMv_FShop_balance ⟨by decide, by decide⟩ rfl rfl rfl (rest := []) (Nat.le_of_ble_eq_true rfl) ⟨Nat.le_of_ble_eq_true rfl, Nat.le_of_ble_eq_true rfl⟩ rfl dX11_notice_16) (fun v4 hv4 => ?_)
    refine z_if_le (tgt := 36) hC hv4 dX11_notice_19 (by decide) (fun _ => ?_) (fun _ => ?_)
    · refine z_bipush hC dX11_notice_36 rfl ?_
      exact z_iret hC (by decide) hr dX11_notice_38
    · refine z_aload_n hC 0 rfl dX11_notice_22 rfl ?_
      refine z_cZp (z_rV (q := a3) (t := 7) (As := []) hC (fun _ h1 => SShop_hasRunningNotice FU a3 h1) (fun _ h1 => SShop_hasRunningNotice_k h1) rfl rfl zM11_268 zMv_FShop_hasRunningNotice ⟨by decide, by decide⟩ rfl rfl rfl (rest := []) (Nat.le_of_ble_eq_true rfl) ⟨Nat.le_of_ble_eq_true rfl, Nat.le_of_ble_eq_true rfl⟩ rfl dX11_notice_23) (fun v5 hv5 => ?_)
      refine z_if_ne (tgt := 36) hC (hv5).i dX11_notice_26 (by decide) (fun _ => ?_) (fun _ => ?_)
      · refine z_aload_n hC 0 rfl dX11_notice_29 rfl ?_
        refine z_cZp (z_rV (q := a3) (t := 7) (As := []) hC (fun _ h1 => SShop_isOpen FU a3 h1) (fun _ h1 => SShop_isOpen_k h1) rfl rfl zM11_130 zMv_FShop_isOpen ⟨by decide, by decide⟩ rfl rfl rfl (rest := []) (Nat.le_of_ble_eq_true rfl) ⟨Nat.le_of_ble_eq_true rfl, Nat.le_of_ble_eq_true rfl⟩ rfl dX11_notice_30) (fun v6 hv6 => ?_)
        refine z_if_ne (tgt := 39) hC (hv6).i dX11_notice_33 (by decide) (fun _ => ?_) (fun _ => ?_)
        · refine z_bipush hC dX11_notice_36 rfl ?_
          exact z_iret hC (by decide) hr dX11_notice_38
        · refine z_aload_n hC 1 rfl dX11_notice_39 rfl ?_
          refine z_getQ hC zF11_50 rfl dX11_notice_40 (fun v7 => ?_)
          refine z_aload_n hC 1 rfl dX11_notice_43 rfl ?_
          refine z_getQ hC zF11_50 rfl dX11_notice_44 (fun v8 => ?_)
          refine z_iconst hC dX11_notice_47 ?_
          refine z_aload_n hC 1 rfl dX11_notice_48 rfl ?_
          refine z_getI hC zF11_88 rfl dX11_notice_49 (fun v9 hv9 => ?_)
          refine z_aload_n hC 1 rfl dX11_notice_52 rfl ?_
          refine z_getI hC zF11_88 rfl dX11_notice_53 (fun v10 hv10 => ?_)
          refine z_cIp (z_rV (q := v8) (t := 6) (As := [.int (zi (2)), .int (zi v9), .int (zi v10)]) hC (fun _ h1 => SShelf_numberInForce FU v8 (2) v9 v10 (by decide) hv9 hv10 h1) (fun _ h1 => SShelf_numberInForce_k h1) rfl rfl zM11_202 zMv_FShelf_numberInForce ⟨by decide, by decide⟩ rfl rfl rfl (rest := [.ref v7]) (Nat.le_of_ble_eq_true rfl) ⟨Nat.le_of_ble_eq_true rfl, Nat.le_of_ble_eq_true rfl⟩ rfl dX11_notice_56) (fun v11 hv11 => ?_)
          refine z_aload_n hC 0 rfl dX11_notice_59 rfl ?_
          refine z_aload_n hC 1 rfl dX11_notice_60 rfl ?_
          refine z_getI hC zF11_88 rfl dX11_notice_61 (fun v12 hv12 => ?_)
          refine z_cI (z_rV (q := v7) (t := 6) (As := [.int (zi v11), .ref a3, .int (zi v12)]) hC (fun _ h1 => SShelf_worth FU v7 v11 a3 v12 hv11 hv12 h1) (fun _ h1 => SShelf_worth_k h1) rfl rfl zM11_215 zMv_FShelf_worth ⟨by decide, by decide⟩ rfl rfl rfl (rest := []) (Nat.le_of_ble_eq_true rfl) ⟨Nat.le_of_ble_eq_true rfl, Nat.le_of_ble_eq_true rfl⟩ rfl dX11_notice_64) (fun v14 G13 hv14 => ?_)
          refine z_istore_n (lo' := [(3, .int (zi v14)), (2, .ref a3), (0, .ref this), (1, .int (zi p1))]) hC dX11_notice_67 rfl (by decide) rfl ?_
          refine z_aload_n hC 1 rfl dX11_notice_68 rfl ?_
          refine z_aload_n hC 2 rfl dX11_notice_69 rfl ?_
          refine z_getI hC zF11_88 rfl dX11_notice_70 (fun v15 hv15 => ?_)
          refine z_aload_n hC 2 rfl dX11_notice_73 rfl ?_
          refine z_getI hC zF11_88 rfl dX11_notice_74 (fun v16 hv16 => ?_)
          refine z_iload_n hC 0 rfl dX11_notice_77 rfl ?_
          refine z_iadd hC dX11_notice_78 (fun v17 hv17 => ?_)
          refine z_cV (z_rV (q := a3) (t := 7) (As := [.int (zi v15), .int (zi v17)]) hC (fun _ h1 => SShop_giveNotice FU a3 v15 v17 hv15 hv17 h1) (fun _ h1 => SShop_giveNotice_k h1) rfl rfl zM11_271 zMv_FShop_giveNotice ⟨by decide, by decide⟩ rfl rfl rfl (rest := []) (Nat.le_of_ble_eq_true rfl) ⟨Nat.le_of_ble_eq_true rfl, Nat.le_of_ble_eq_true rfl⟩ rfl dX11_notice_79) (fun G18 => ?_)
          refine z_aload_n hC 1 rfl dX11_notice_82 rfl ?_
          refine z_getI hC zF11_274 rfl dX11_notice_83 (fun v19 hv19 => ?_)
          exact z_iret hC hv19 hr dX11_notice_86
      · refine z_bipush hC dX11_notice_36 rfl ?_
        exact z_iret hC (by decide) hr dX11_notice_38
theorem SB_notice_k {FU : Nat} {this : Nat} {p1 : Int} {G : Hp} {r1 : (Int × Hp)} (h1 : FB_notice FU this p1 G = some r1) : zk G this = some (11, 0) := zgd_k (k := FB_notice_b FU this p1 G) h1

set_option maxRecDepth 100000 in
theorem SB_ofNotice {l : Launch} {D : va_G} {aC : Nat → ClassId} (FU : Nat) (this : Nat) (p1 : Int) (p2 : Int) (hp1 : zInI p1) (hp2 : zInI p2) {G : Hp} {r1 : Int} (h1 : FB_ofNotice FU this p1 p2 G = some r1) : Met l yX11_ofNotice (Cond.code yX11_ofNotice cX11_ofNotice 4 (some .int) :: zgood) ({ frames := 2, cells := 0, slots := 0, locals := 45 } : Room) (va_Pc [.ref this, .int (zi p1), .int (zi p2)] (zU D aC G)) (zQ D aC G (zInI r1) (some (.int (zi r1))) G) 0 0 (zA G) := by
  refine z_met (y := yX11_ofNotice) (b := cX11_ofNotice) (maxL := 4) (mc := 0) (ms := 0) (ret := (some .int)) (As := [.ref this, .int (zi p1), .int (zi p2)]) (Q1 := fun r1 => zQ D aC G (zInI r1) (some (.int (zi r1))) G) (X := FB_ofNotice FU this p1 p2 G) (by decide) (Nat.le_of_ble_eq_true rfl) ?_ h1
  intro p e s m below meth c hC hr hi
  have hC : zC p m c meth s ([.ref this, .int (zi p1), .int (zi p2)] : List Value).toArray cX11_ofNotice 4 RX11 D aC := hC
  generalize ([.ref this, .int (zi p1), .int (zi p2)] : List Value).toArray = args at hC ⊢
  show zS p l e ({ frames := 2, cells := 0, slots := 0, locals := 45 } : Room) s m args below meth c D aC G (fun r1 => zfI D aC G below args s 0 0 (r1, G)) 4 0 0 (FB_ofNotice FU this p1 p2 G) G 0 [(0, .ref this), (1, .int (zi p1)), (2, .int (zi p2))] []
  unfold FB_ofNotice
  refine z_gd ?_
  unfold FB_ofNotice_b
  refine z_aload_n hC 0 rfl dX11_ofNotice_0 rfl ?_
  refine z_getQ hC zF11_25 rfl dX11_ofNotice_1 (fun v1 => ?_)
  refine z_iload_n hC 1 rfl dX11_ofNotice_4 rfl ?_
  refine z_cAp (z_rV (q := v1) (t := 0) (As := [.int (zi p1)]) hC (fun _ h1 => SChain_shopAt FU v1 p1 hp1 h1) (fun _ h1 => SChain_shopAt_k h1) rfl rfl zM11_126 zMv_FChain_shopAt ⟨by decide, by decide⟩ rfl rfl rfl (rest := []) (Nat.le_of_ble_eq_true rfl) ⟨Nat.le_of_ble_eq_true rfl, Nat.le_of_ble_eq_true rfl⟩ rfl dX11_ofNotice_5) (fun v2 => ?_)
  refine z_qstore_n (lo' := [(3, va_rf v2), (0, .ref this), (1, .int (zi p1)), (2, .int (zi p2))]) hC dX11_ofNotice_8 rfl (by decide) rfl ?_
  refine z_qload_n hC 0 rfl dX11_ofNotice_9 rfl ?_
  refine z_ifnonnull (tgt := 15) hC dX11_ofNotice_10 (by decide) (fun h0 => ?_) (fun a3 h0 => ?_)
  · subst h0
    refine z_iconst hC dX11_ofNotice_13 ?_
    exact z_iretp hC (by decide) hr dX11_ofNotice_14
  · subst h0
    refine z_aload_n hC 0 rfl dX11_ofNotice_15 rfl ?_
    refine z_getI hC zF11_277 rfl dX11_ofNotice_16 (fun v4 hv4 => ?_)
    refine z_iconst hC dX11_ofNotice_19 ?_
    refine z_icmp_ne (tgt := 25) hC hv4 (by decide) dX11_ofNotice_20 (by decide) (fun _ => ?_) (fun _ => ?_)
    · refine z_iconst hC dX11_ofNotice_23 ?_
      exact z_iretp hC (by decide) hr dX11_ofNotice_24
    · refine z_iload_n hC 3 rfl dX11_ofNotice_25 rfl ?_
      refine z_tabIf (tgt := 56) hC hp2 dX11_ofNotice_26 0 ⟨by decide, by decide⟩ rfl (by decide) (fun _ => ?_) (fun hsw0 => ?_)
      · refine z_aload_n hC 0 rfl dX11_ofNotice_56 rfl ?_
        refine z_getI hC zF11_277 rfl dX11_ofNotice_57 (fun v5 hv5 => ?_)
        exact z_iretp hC hv5 hr dX11_ofNotice_60
      refine z_tabIf (tgt := 61) hC hp2 dX11_ofNotice_26 1 ⟨by decide, by decide⟩ rfl (by decide) (fun _ => ?_) (fun hsw1 => ?_)
      · refine z_aload_n hC 0 rfl dX11_ofNotice_61 rfl ?_
        refine z_getI hC zF11_274 rfl dX11_ofNotice_62 (fun v6 hv6 => ?_)
        exact z_iretp hC hv6 hr dX11_ofNotice_65
      refine z_tabIf (tgt := 66) hC hp2 dX11_ofNotice_26 2 ⟨by decide, by decide⟩ rfl (by decide) (fun _ => ?_) (fun hsw2 => ?_)
      · refine z_aload_n hC 0 rfl dX11_ofNotice_66 rfl ?_
        refine z_getI hC zF11_280 rfl dX11_ofNotice_67 (fun v7 hv7 => ?_)
        exact z_iretp hC hv7 hr dX11_ofNotice_70
      refine z_tabIf (tgt := 71) hC hp2 dX11_ofNotice_26 3 ⟨by decide, by decide⟩ rfl (by decide) (fun _ => ?_) (fun hsw3 => ?_)
      · refine z_aload_n hC 0 rfl dX11_ofNotice_71 rfl ?_
        refine z_getI hC zF11_283 rfl dX11_ofNotice_72 (fun v8 hv8 => ?_)
        exact z_iretp hC hv8 hr dX11_ofNotice_75
      refine z_tabDef (tgt := 76) hC hp2 dX11_ofNotice_26 (by omega) (by decide) ?_
      refine z_iconst hC dX11_ofNotice_76 ?_
      exact z_iretp hC (by decide) hr dX11_ofNotice_77
theorem SB_ofNotice_k {FU : Nat} {this : Nat} {p1 : Int} {p2 : Int} {G : Hp} {r1 : Int} (h1 : FB_ofNotice FU this p1 p2 G = some r1) : zk G this = some (11, 0) := zgd_k (k := FB_ofNotice_b FU this p1 p2 G) h1

set_option maxRecDepth 100000 in
theorem SB_gain {l : Launch} {D : va_G} {aC : Nat → ClassId} (FU : Nat) (this : Nat) (p1 : Int) (p2 : Int) (hp1 : zInI p1) (hp2 : zInI p2) {G : Hp} {r1 : (Int × Hp)} (h1 : FB_gain FU this p1 p2 G = some r1) : Met l yX11_gain (Cond.code yX11_gain cX11_gain 5 (some .int) :: zgood) ({ frames := 2, cells := 0, slots := 0, locals := 46 } : Room) (va_Pc [.ref this, .int (zi p1), .int (zi p2)] (zU D aC G)) (zQ D aC G (zInI r1.1) (some (.int (zi r1.1))) r1.2) 0 0 (zA G) := by
  refine z_met (y := yX11_gain) (b := cX11_gain) (maxL := 5) (mc := 0) (ms := 0) (ret := (some .int)) (As := [.ref this, .int (zi p1), .int (zi p2)]) (Q1 := fun r1 => zQ D aC G (zInI r1.1) (some (.int (zi r1.1))) r1.2) (X := FB_gain FU this p1 p2 G) (by decide) (Nat.le_of_ble_eq_true rfl) ?_ h1
  intro p e s m below meth c hC hr hi
  have hC : zC p m c meth s ([.ref this, .int (zi p1), .int (zi p2)] : List Value).toArray cX11_gain 5 RX11 D aC := hC
  generalize ([.ref this, .int (zi p1), .int (zi p2)] : List Value).toArray = args at hC ⊢
  show zS p l e ({ frames := 2, cells := 0, slots := 0, locals := 46 } : Room) s m args below meth c D aC G (zfI D aC G below args s 0 0) 5 0 0 (FB_gain FU this p1 p2 G) G 0 [(0, .ref this), (1, .int (zi p1)), (2, .int (zi p2))] []
  unfold FB_gain
  refine z_gd ?_
  unfold FB_gain_b
  refine z_aload_n hC 0 rfl dX11_gain_0 rfl ?_
  refine z_getQ hC zF11_25 rfl dX11_gain_1 (fun v1 => ?_)
  refine z_iload_n hC 1 rfl dX11_gain_4 rfl ?_
  refine z_cAp (z_rV (q := v1) (t := 0) (As := [.int (zi p1)]) hC (fun _ h1 => SChain_shopAt FU v1 p1 hp1 h1) (fun _ h1 => SChain_shopAt_k h1) rfl rfl zM11_126 zMv_FChain_shopAt ⟨by decide, by decide⟩ rfl rfl rfl (rest := []) (Nat.le_of_ble_eq_true rfl) ⟨Nat.le_of_ble_eq_true rfl, Nat.le_of_ble_eq_true rfl⟩ rfl dX11_gain_5) (fun v2 => ?_)
  refine z_qstore_n (lo' := [(3, va_rf v2), (0, .ref this), (1, .int (zi p1)), (2, .int (zi p2))]) hC dX11_gain_8 rfl (by decide) rfl ?_
  refine z_qload_n hC 0 rfl dX11_gain_9 rfl ?_
  refine z_ifnull (tgt := 24) hC dX11_gain_10 (by decide) (fun h0 => ?_) (fun a3 h0 => ?_)
  · subst h0
    refine z_iconst hC dX11_gain_24 ?_
    exact z_iret hC (by decide) hr dX11_gain_25
  · subst h0
    refine z_iload_n hC 3 rfl dX11_gain_13 rfl ?_
    refine z_iconst hC dX11_gain_14 ?_
    refine z_sipush hC dX11_gain_15 rfl ?_
    refine z_cZp (z_rS (As := [.int (zi p2), .int (zi (0)), .int (zi (999))]) hC (fun _ h1 => SB_isWithin FU p2 (0) (999) hp2 (by decide) (by decide) h1) zM11_68 zMs_FB_isWithin ⟨by decide, by decide⟩ rfl rfl rfl (rest := []) (Nat.le_of_ble_eq_true rfl) ⟨Nat.le_of_ble_eq_true rfl, Nat.le_of_ble_eq_true rfl⟩ rfl dX11_gain_18) (fun v4 hv4 => ?_)
    refine z_if_ne (tgt := 26) hC (hv4).i dX11_gain_21 (by decide) (fun _ => ?_) (fun _ => ?_)
    · refine z_iconst hC dX11_gain_24 ?_
      exact z_iret hC (by decide) hr dX11_gain_25
    · refine z_aload_n hC 0 rfl dX11_gain_26 rfl ?_
      refine z_getI hC zF11_286 rfl dX11_gain_27 (fun v5 hv5 => ?_)
      refine z_istore (lo' := [(4, .int (zi v5)), (3, .ref a3), (0, .ref this), (1, .int (zi p1)), (2, .int (zi p2))]) hC dX11_gain_30 (by decide) rfl ?_
      refine z_aload_n hC 1 rfl dX11_gain_32 rfl ?_
      refine z_iload_n hC 4 rfl dX11_gain_33 rfl ?_
      refine z_putI hC hp2 zF11_286 rfl rfl dX11_gain_34 (fun G6 => ?_)
      refine z_iload hC 0 rfl dX11_gain_37 ?_
      exact z_iret hC hv5 hr dX11_gain_39
theorem SB_gain_k {FU : Nat} {this : Nat} {p1 : Int} {p2 : Int} {G : Hp} {r1 : (Int × Hp)} (h1 : FB_gain FU this p1 p2 G = some r1) : zk G this = some (11, 0) := zgd_k (k := FB_gain_b FU this p1 p2 G) h1

set_option maxRecDepth 100000 in
theorem SB_spend {l : Launch} {D : va_G} {aC : Nat → ClassId} (FU : Nat) (this : Nat) (p1 : Int) (hp1 : zInI p1) {G : Hp} {r1 : (Int × Hp)} (h1 : FB_spend FU this p1 G = some r1) : Met l yX11_spend (Cond.code yX11_spend cX11_spend 2 (some .int) :: zgood) ({ frames := 4, cells := 0, slots := 0, locals := 98 } : Room) (va_Pc [.ref this, .int (zi p1)] (zU D aC G)) (zQ D aC G (zInI r1.1) (some (.int (zi r1.1))) r1.2) 0 0 (zA G) := by
  refine z_met (y := yX11_spend) (b := cX11_spend) (maxL := 2) (mc := 0) (ms := 0) (ret := (some .int)) (As := [.ref this, .int (zi p1)]) (Q1 := fun r1 => zQ D aC G (zInI r1.1) (some (.int (zi r1.1))) r1.2) (X := FB_spend FU this p1 G) (by decide) (Nat.le_of_ble_eq_true rfl) ?_ h1
  intro p e s m below meth c hC hr hi
  have hC : zC p m c meth s ([.ref this, .int (zi p1)] : List Value).toArray cX11_spend 2 RX11 D aC := hC
  generalize ([.ref this, .int (zi p1)] : List Value).toArray = args at hC ⊢
  show zS p l e ({ frames := 4, cells := 0, slots := 0, locals := 98 } : Room) s m args below meth c D aC G (zfI D aC G below args s 0 0) 2 0 0 (FB_spend FU this p1 G) G 0 [(0, .ref this), (1, .int (zi p1))] []
  unfold FB_spend
  refine z_gd ?_
  unfold FB_spend_b
  refine z_iload_n hC 1 rfl dX11_spend_0 rfl ?_
  refine z_iconst hC dX11_spend_1 ?_
  refine z_ldc (z := 1000000) hC dX11_spend_2 zc11_251 ?_
  refine z_cZp (z_rS (As := [.int (zi p1), .int (zi (1)), .int (zi (1000000))]) hC (fun _ h1 => SB_isWithin FU p1 (1) (1000000) hp1 (by decide) (by decide) h1) zM11_68 zMs_FB_isWithin ⟨by decide, by decide⟩ rfl rfl rfl (rest := []) (Nat.le_of_ble_eq_true rfl) ⟨Nat.le_of_ble_eq_true rfl, Nat.le_of_ble_eq_true rfl⟩ rfl dX11_spend_4) (fun v1 hv1 => ?_)
  refine z_if_ne (tgt := 12) hC (hv1).i dX11_spend_7 (by decide) (fun _ => ?_) (fun _ => ?_)
  · refine z_iconst hC dX11_spend_10 ?_
    exact z_iret hC (by decide) hr dX11_spend_11
  · refine z_aload_n hC 0 rfl dX11_spend_12 rfl ?_
    refine z_getQ hC zF11_57 rfl dX11_spend_13 (fun v2 => ?_)
    refine z_iload_n hC 1 rfl dX11_spend_16 rfl ?_
    refine z_cI (z_rV (q := v2) (t := 1) (As := [.int (zi p1)]) hC (fun _ h1 => SFund_partOut FU v2 p1 hp1 h1) (fun _ h1 => SFund_partOut_k h1) rfl rfl zM11_289 zMv_FFund_partOut ⟨by decide, by decide⟩ rfl rfl rfl (rest := []) (Nat.le_of_ble_eq_true rfl) ⟨Nat.le_of_ble_eq_true rfl, Nat.le_of_ble_eq_true rfl⟩ rfl dX11_spend_17) (fun v4 G3 hv4 => ?_)
    exact z_iret hC hv4 hr dX11_spend_20
theorem SB_spend_k {FU : Nat} {this : Nat} {p1 : Int} {G : Hp} {r1 : (Int × Hp)} (h1 : FB_spend FU this p1 G = some r1) : zk G this = some (11, 0) := zgd_k (k := FB_spend_b FU this p1 G) h1

set_option maxRecDepth 100000 in
theorem SB_load {l : Launch} {D : va_G} {aC : Nat → ClassId} (FU : Nat) (this : Nat) (p1 : Int) (p2 : Int) (hp1 : zInI p1) (hp2 : zInI p2) {G : Hp} {r1 : (Int × Hp)} (h1 : FB_load FU this p1 p2 G = some r1) : Met l yX11_load (Cond.code yX11_load cX11_load 3 (some .int) :: zgood) ({ frames := 3, cells := 0, slots := 0, locals := 69 } : Room) (va_Pc [.ref this, .int (zi p1), .int (zi p2)] (zU D aC G)) (zQ D aC G (zInI r1.1) (some (.int (zi r1.1))) r1.2) 0 0 (zA G) := by
  refine z_met (y := yX11_load) (b := cX11_load) (maxL := 3) (mc := 0) (ms := 0) (ret := (some .int)) (As := [.ref this, .int (zi p1), .int (zi p2)]) (Q1 := fun r1 => zQ D aC G (zInI r1.1) (some (.int (zi r1.1))) r1.2) (X := FB_load FU this p1 p2 G) (by decide) (Nat.le_of_ble_eq_true rfl) ?_ h1
  intro p e s m below meth c hC hr hi
  have hC : zC p m c meth s ([.ref this, .int (zi p1), .int (zi p2)] : List Value).toArray cX11_load 3 RX11 D aC := hC
  generalize ([.ref this, .int (zi p1), .int (zi p2)] : List Value).toArray = args at hC ⊢
  show zS p l e ({ frames := 3, cells := 0, slots := 0, locals := 69 } : Room) s m args below meth c D aC G (zfI D aC G below args s 0 0) 3 0 0 (FB_load FU this p1 p2 G) G 0 [(0, .ref this), (1, .int (zi p1)), (2, .int (zi p2))] []
  unfold FB_load
  refine z_gd ?_
  unfold FB_load_b
  refine z_aload_n hC 0 rfl dX11_load_0 rfl ?_
  refine z_getQ hC zF11_25 rfl dX11_load_1 (fun v1 => ?_)
  refine z_iload_n hC 1 rfl dX11_load_4 rfl ?_
  refine z_cAp (z_rV (q := v1) (t := 0) (As := [.int (zi p1)]) hC (fun _ h1 => SChain_shopAt FU v1 p1 hp1 h1) (fun _ h1 => SChain_shopAt_k h1) rfl rfl zM11_126 zMv_FChain_shopAt ⟨by decide, by decide⟩ rfl rfl rfl (rest := []) (Nat.le_of_ble_eq_true rfl) ⟨Nat.le_of_ble_eq_true rfl, Nat.le_of_ble_eq_true rfl⟩ rfl dX11_load_5) (fun v2 => ?_)
  refine z_ifnull (tgt := 32) hC dX11_load_8 (by decide) (fun h0 => ?_) (fun a3 h0 => ?_)
  · subst h0
    refine z_iconst hC dX11_load_32 ?_
    exact z_iret hC (by decide) hr dX11_load_33
  · subst h0
    refine z_iload_n hC 2 rfl dX11_load_11 rfl ?_
    refine z_iconst hC dX11_load_12 ?_
    refine z_bipush hC dX11_load_13 rfl ?_
    refine z_cZp (z_rS (As := [.int (zi p2), .int (zi (1)), .int (zi (99))]) hC (fun _ h1 => SB_isWithin FU p2 (1) (99) hp2 (by decide) (by decide) h1) zM11_68 zMs_FB_isWithin ⟨by decide, by decide⟩ rfl rfl rfl (rest := []) (Nat.le_of_ble_eq_true rfl) ⟨Nat.le_of_ble_eq_true rfl, Nat.le_of_ble_eq_true rfl⟩ rfl dX11_load_15) (fun v4 hv4 => ?_)
    refine z_if_eq (tgt := 32) hC (hv4).i dX11_load_18 (by decide) (fun _ => ?_) (fun _ => ?_)
    · refine z_iconst hC dX11_load_32 ?_
      exact z_iret hC (by decide) hr dX11_load_33
    · refine z_aload_n hC 0 rfl dX11_load_21 rfl ?_
      refine z_getQ hC zF11_64 rfl dX11_load_22 (fun v5 => ?_)
      refine z_iload_n hC 1 rfl dX11_load_25 rfl ?_
      refine z_cZp (z_rV (q := v5) (t := 4) (As := [.int (zi p1)]) hC (fun _ h1 => SPacker_isListed FU v5 p1 hp1 h1) (fun _ h1 => SPacker_isListed_k h1) rfl rfl zM11_292 zMv_FPacker_isListed ⟨by decide, by decide⟩ rfl rfl rfl (rest := []) (Nat.le_of_ble_eq_true rfl) ⟨Nat.le_of_ble_eq_true rfl, Nat.le_of_ble_eq_true rfl⟩ rfl dX11_load_26) (fun v6 hv6 => ?_)
      refine z_if_eq (tgt := 34) hC (hv6).i dX11_load_29 (by decide) (fun _ => ?_) (fun _ => ?_)
      · refine z_aload_n hC 0 rfl dX11_load_34 rfl ?_
        refine z_getQ hC zF11_64 rfl dX11_load_35 (fun v7 => ?_)
        refine z_iload_n hC 1 rfl dX11_load_38 rfl ?_
        refine z_iload_n hC 2 rfl dX11_load_39 rfl ?_
        refine z_cI (z_rV (q := v7) (t := 4) (As := [.int (zi p1), .int (zi p2)]) hC (fun _ h1 => SPacker_addLoad FU v7 p1 p2 hp1 hp2 h1) (fun _ h1 => SPacker_addLoad_k h1) rfl rfl zM11_295 zMv_FPacker_addLoad ⟨by decide, by decide⟩ rfl rfl rfl (rest := []) (Nat.le_of_ble_eq_true rfl) ⟨Nat.le_of_ble_eq_true rfl, Nat.le_of_ble_eq_true rfl⟩ rfl dX11_load_40) (fun v9 G8 hv9 => ?_)
        exact z_iret hC hv9 hr dX11_load_43
      · refine z_iconst hC dX11_load_32 ?_
        exact z_iret hC (by decide) hr dX11_load_33
theorem SB_load_k {FU : Nat} {this : Nat} {p1 : Int} {p2 : Int} {G : Hp} {r1 : (Int × Hp)} (h1 : FB_load FU this p1 p2 G = some r1) : zk G this = some (11, 0) := zgd_k (k := FB_load_b FU this p1 p2 G) h1

set_option maxRecDepth 100000 in
theorem SB_carts {l : Launch} {D : va_G} {aC : Nat → ClassId} (FU : Nat) (this : Nat) (p1 : Int) (hp1 : zInI p1) {G : Hp} {r1 : (Int × Hp)} (h1 : FB_carts FU this p1 G = some r1) : Met l yX11_carts (Cond.code yX11_carts cX11_carts 2 (some .int) :: zgood) ({ frames := 31, cells := 0, slots := 0, locals := 713 } : Room) (va_Pc [.ref this, .int (zi p1)] (zU D aC G)) (zQ D aC G (zInI r1.1) (some (.int (zi r1.1))) r1.2) 0 0 (zA G) := by
  refine z_met (y := yX11_carts) (b := cX11_carts) (maxL := 2) (mc := 0) (ms := 0) (ret := (some .int)) (As := [.ref this, .int (zi p1)]) (Q1 := fun r1 => zQ D aC G (zInI r1.1) (some (.int (zi r1.1))) r1.2) (X := FB_carts FU this p1 G) (by decide) (Nat.le_of_ble_eq_true rfl) ?_ h1
  intro p e s m below meth c hC hr hi
  have hC : zC p m c meth s ([.ref this, .int (zi p1)] : List Value).toArray cX11_carts 2 RX11 D aC := hC
  generalize ([.ref this, .int (zi p1)] : List Value).toArray = args at hC ⊢
  show zS p l e ({ frames := 31, cells := 0, slots := 0, locals := 713 } : Room) s m args below meth c D aC G (zfI D aC G below args s 0 0) 2 0 0 (FB_carts FU this p1 G) G 0 [(0, .ref this), (1, .int (zi p1))] []
  unfold FB_carts
  refine z_gd ?_
  unfold FB_carts_b
  refine z_iload_n hC 1 rfl dX11_carts_0 rfl ?_
  refine z_iconst hC dX11_carts_1 ?_
  refine z_bipush hC dX11_carts_2 rfl ?_
  refine z_cZp (z_rS (As := [.int (zi p1), .int (zi (1)), .int (zi (99))]) hC (fun _ h1 => SB_isWithin FU p1 (1) (99) hp1 (by decide) (by decide) h1) zM11_68 zMs_FB_isWithin ⟨by decide, by decide⟩ rfl rfl rfl (rest := []) (Nat.le_of_ble_eq_true rfl) ⟨Nat.le_of_ble_eq_true rfl, Nat.le_of_ble_eq_true rfl⟩ rfl dX11_carts_4) (fun v1 hv1 => ?_)
  refine z_if_ne (tgt := 12) hC (hv1).i dX11_carts_7 (by decide) (fun _ => ?_) (fun _ => ?_)
  · refine z_iconst hC dX11_carts_10 ?_
    exact z_iret hC (by decide) hr dX11_carts_11
  · refine z_aload_n hC 0 rfl dX11_carts_12 rfl ?_
    refine z_getQ hC zF11_64 rfl dX11_carts_13 (fun v2 => ?_)
    refine z_iload_n hC 1 rfl dX11_carts_16 rfl ?_
    refine z_cI (z_rV (q := v2) (t := 4) (As := [.int (zi p1)]) hC (fun _ h1 => SPacker_pack FU v2 p1 hp1 h1) (fun _ h1 => SPacker_pack_k h1) rfl rfl zM11_298 zMv_FPacker_pack ⟨by decide, by decide⟩ rfl rfl rfl (rest := []) (Nat.le_of_ble_eq_true rfl) ⟨Nat.le_of_ble_eq_true rfl, Nat.le_of_ble_eq_true rfl⟩ rfl dX11_carts_17) (fun v4 G3 hv4 => ?_)
    exact z_iret hC hv4 hr dX11_carts_20
theorem SB_carts_k {FU : Nat} {this : Nat} {p1 : Int} {G : Hp} {r1 : (Int × Hp)} (h1 : FB_carts FU this p1 G = some r1) : zk G this = some (11, 0) := zgd_k (k := FB_carts_b FU this p1 G) h1

set_option maxRecDepth 100000 in
theorem SB_cart {l : Launch} {D : va_G} {aC : Nat → ClassId} (FU : Nat) (this : Nat) (p1 : Int) (hp1 : zInI p1) {G : Hp} {r1 : Int} (h1 : FB_cart FU this p1 G = some r1) : Met l yX11_cart (Cond.code yX11_cart cX11_cart 2 (some .int) :: zgood) ({ frames := 3, cells := 0, slots := 0, locals := 67 } : Room) (va_Pc [.ref this, .int (zi p1)] (zU D aC G)) (zQ D aC G (zInI r1) (some (.int (zi r1))) G) 0 0 (zA G) := by
  refine z_met (y := yX11_cart) (b := cX11_cart) (maxL := 2) (mc := 0) (ms := 0) (ret := (some .int)) (As := [.ref this, .int (zi p1)]) (Q1 := fun r1 => zQ D aC G (zInI r1) (some (.int (zi r1))) G) (X := FB_cart FU this p1 G) (by decide) (Nat.le_of_ble_eq_true rfl) ?_ h1
  intro p e s m below meth c hC hr hi
  have hC : zC p m c meth s ([.ref this, .int (zi p1)] : List Value).toArray cX11_cart 2 RX11 D aC := hC
  generalize ([.ref this, .int (zi p1)] : List Value).toArray = args at hC ⊢
  show zS p l e ({ frames := 3, cells := 0, slots := 0, locals := 67 } : Room) s m args below meth c D aC G (fun r1 => zfI D aC G below args s 0 0 (r1, G)) 2 0 0 (FB_cart FU this p1 G) G 0 [(0, .ref this), (1, .int (zi p1))] []
  unfold FB_cart
  refine z_gd ?_
  unfold FB_cart_b
  refine z_aload_n hC 0 rfl dX11_cart_0 rfl ?_
  refine z_getQ hC zF11_64 rfl dX11_cart_1 (fun v1 => ?_)
  refine z_iload_n hC 1 rfl dX11_cart_4 rfl ?_
  refine z_cIp (z_rV (q := v1) (t := 4) (As := [.int (zi p1)]) hC (fun _ h1 => SPacker_cartOf FU v1 p1 hp1 h1) (fun _ h1 => SPacker_cartOf_k h1) rfl rfl zM11_301 zMv_FPacker_cartOf ⟨by decide, by decide⟩ rfl rfl rfl (rest := []) (Nat.le_of_ble_eq_true rfl) ⟨Nat.le_of_ble_eq_true rfl, Nat.le_of_ble_eq_true rfl⟩ rfl dX11_cart_5) (fun v2 hv2 => ?_)
  exact z_iretp hC hv2 hr dX11_cart_8
theorem SB_cart_k {FU : Nat} {this : Nat} {p1 : Int} {G : Hp} {r1 : Int} (h1 : FB_cart FU this p1 G = some r1) : zk G this = some (11, 0) := zgd_k (k := FB_cart_b FU this p1 G) h1

set_option maxRecDepth 100000 in
theorem SB_count {l : Launch} {D : va_G} {aC : Nat → ClassId} (FU : Nat) (this : Nat) (p1 : Int) (hp1 : zInI p1) {G : Hp} {r1 : Int} (h1 : FB_count FU this p1 G = some r1) : Met l yX11_count (Cond.code yX11_count cX11_count 2 (some .int) :: zgood) ({ frames := 3, cells := 0, slots := 0, locals := 68 } : Room) (va_Pc [.ref this, .int (zi p1)] (zU D aC G)) (zQ D aC G (zInI r1) (some (.int (zi r1))) G) 0 0 (zA G) := by
  refine z_met (y := yX11_count) (b := cX11_count) (maxL := 2) (mc := 0) (ms := 0) (ret := (some .int)) (As := [.ref this, .int (zi p1)]) (Q1 := fun r1 => zQ D aC G (zInI r1) (some (.int (zi r1))) G) (X := FB_count FU this p1 G) (by decide) (Nat.le_of_ble_eq_true rfl) ?_ h1
  intro p e s m below meth c hC hr hi
  have hC : zC p m c meth s ([.ref this, .int (zi p1)] : List Value).toArray cX11_count 2 RX11 D aC := hC
  generalize ([.ref this, .int (zi p1)] : List Value).toArray = args at hC ⊢
  show zS p l e ({ frames := 3, cells := 0, slots := 0, locals := 68 } : Room) s m args below meth c D aC G (fun r1 => zfI D aC G below args s 0 0 (r1, G)) 2 0 0 (FB_count FU this p1 G) G 0 [(0, .ref this), (1, .int (zi p1))] []
  unfold FB_count
  refine z_gd ?_
  unfold FB_count_b
  refine z_iload_n hC 1 rfl dX11_count_0 rfl ?_
  refine z_tabIf (tgt := 52) hC hp1 dX11_count_1 0 ⟨by decide, by decide⟩ rfl (by decide) (fun _ => ?_) (fun hsw0 => ?_)
  · refine z_aload_n hC 0 rfl dX11_count_52 rfl ?_
    refine z_getQ hC zF11_16 rfl dX11_count_53 (fun v1 => ?_)
    refine z_getI hC zF11_304 rfl dX11_count_56 (fun v2 hv2 => ?_)
    exact z_iretp hC hv2 hr dX11_count_59
  refine z_tabIf (tgt := 60) hC hp1 dX11_count_1 1 ⟨by decide, by decide⟩ rfl (by decide) (fun _ => ?_) (fun hsw1 => ?_)
  · refine z_aload_n hC 0 rfl dX11_count_60 rfl ?_
    refine z_getQ hC zF11_25 rfl dX11_count_61 (fun v3 => ?_)
    refine z_getI hC zF11_111 rfl dX11_count_64 (fun v4 hv4 => ?_)
    exact z_iretp hC hv4 hr dX11_count_67
  refine z_tabIf (tgt := 68) hC hp1 dX11_count_1 2 ⟨by decide, by decide⟩ rfl (by decide) (fun _ => ?_) (fun hsw2 => ?_)
  · refine z_aload_n hC 0 rfl dX11_count_68 rfl ?_
    refine z_getQ hC zF11_25 rfl dX11_count_69 (fun v5 => ?_)
    refine z_cIp (z_rV (q := v5) (t := 0) (As := []) hC (fun _ h1 => SChain_openCount FU v5 h1) (fun _ h1 => SChain_openCount_k h1) rfl rfl zM11_307 zMv_FChain_openCount ⟨by decide, by decide⟩ rfl rfl rfl (rest := []) (Nat.le_of_ble_eq_true rfl) ⟨Nat.le_of_ble_eq_true rfl, Nat.le_of_ble_eq_true rfl⟩ rfl dX11_count_72) (fun v6 hv6 => ?_)
    exact z_iretp hC hv6 hr dX11_count_75
  refine z_tabIf (tgt := 76) hC hp1 dX11_count_1 3 ⟨by decide, by decide⟩ rfl (by decide) (fun _ => ?_) (fun hsw3 => ?_)
  · refine z_aload_n hC 0 rfl dX11_count_76 rfl ?_
    refine z_getI hC zF11_88 rfl dX11_count_77 (fun v7 hv7 => ?_)
    exact z_iretp hC hv7 hr dX11_count_80
  refine z_tabIf (tgt := 81) hC hp1 dX11_count_1 4 ⟨by decide, by decide⟩ rfl (by decide) (fun _ => ?_) (fun hsw4 => ?_)
  · refine z_aload_n hC 0 rfl dX11_count_81 rfl ?_
    refine z_getQ hC zF11_50 rfl dX11_count_82 (fun v8 => ?_)
    refine z_getI hC zF11_310 rfl dX11_count_85 (fun v9 hv9 => ?_)
    exact z_iretp hC hv9 hr dX11_count_88
  refine z_tabIf (tgt := 89) hC hp1 dX11_count_1 5 ⟨by decide, by decide⟩ rfl (by decide) (fun _ => ?_) (fun hsw5 => ?_)
  · refine z_aload_n hC 0 rfl dX11_count_89 rfl ?_
    refine z_getQ hC zF11_16 rfl dX11_count_90 (fun v10 => ?_)
    refine z_getI hC zF11_313 rfl dX11_count_93 (fun v11 hv11 => ?_)
    exact z_iretp hC hv11 hr dX11_count_96
  refine z_tabIf (tgt := 97) hC hp1 dX11_count_1 6 ⟨by decide, by decide⟩ rfl (by decide) (fun _ => ?_) (fun hsw6 => ?_)
  · refine z_aload_n hC 0 rfl dX11_count_97 rfl ?_
    refine z_getQ hC zF11_57 rfl dX11_count_98 (fun v12 => ?_)
    refine z_getI hC zF11_239 rfl dX11_count_101 (fun v13 hv13 => ?_)
    exact z_iretp hC hv13 hr dX11_count_104
  refine z_tabIf (tgt := 105) hC hp1 dX11_count_1 7 ⟨by decide, by decide⟩ rfl (by decide) (fun _ => ?_) (fun hsw7 => ?_)
  · refine z_aload_n hC 0 rfl dX11_count_105 rfl ?_
    refine z_getQ hC zF11_50 rfl dX11_count_106 (fun v14 => ?_)
    refine z_getI hC zF11_316 rfl dX11_count_109 (fun v15 hv15 => ?_)
    exact z_iretp hC hv15 hr dX11_count_112
  refine z_tabIf (tgt := 113) hC hp1 dX11_count_1 8 ⟨by decide, by decide⟩ rfl (by decide) (fun _ => ?_) (fun hsw8 => ?_)
  · refine z_aload_n hC 0 rfl dX11_count_113 rfl ?_
    refine z_getQ hC zF11_25 rfl dX11_count_114 (fun v16 => ?_)
    refine z_cIp (z_rV (q := v16) (t := 0) (As := []) hC (fun _ h1 => SChain_runningNotices FU v16 h1) (fun _ h1 => SChain_runningNotices_k h1) rfl rfl zM11_319 zMv_FChain_runningNotices ⟨by decide, by decide⟩ rfl rfl rfl (rest := []) (Nat.le_of_ble_eq_true rfl) ⟨Nat.le_of_ble_eq_true rfl, Nat.le_of_ble_eq_true rfl⟩ rfl dX11_count_117) (fun v17 hv17 => ?_)
    exact z_iretp hC hv17 hr dX11_count_120
  refine z_tabDef (tgt := 121) hC hp1 dX11_count_1 (by omega) (by decide) ?_
  refine z_iconst hC dX11_count_121 ?_
  exact z_iretp hC (by decide) hr dX11_count_122
theorem SB_count_k {FU : Nat} {this : Nat} {p1 : Int} {G : Hp} {r1 : Int} (h1 : FB_count FU this p1 G = some r1) : zk G this = some (11, 0) := zgd_k (k := FB_count_b FU this p1 G) h1

