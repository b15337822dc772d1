/-! ===== the beginning: the constructors ===== -/
def rxN : Nat → Nat → Option Nat := fun _ _ => none
def gx0 : Nat → Nat → Int := gu (fun _ _ => 0) 0 8 4
theorem kfM3 (i : Nat) (hi : i < 30) : kfix (3 + 1 + i) = some (20, 30) := by
  unfold kfix
  rw [if_pos (by omega)]
theorem kfM34 (i : Nat) (hi : i < 30) : kfix (34 + 1 + i) = some (20, 30) := by
  unfold kfix
  rw [if_neg (by omega), if_pos (by omega)]
theorem kfM69 (i : Nat) (hi : i < 43) : kfix (69 + 1 + i) = some (20, 30) := by
  unfold kfix
  rw [if_neg (by omega), if_neg (by omega), if_pos (by omega)]
def gxT : Nat → Nat → Int := wJ gx0 0
def rxT : Nat → Nat → Option Nat := rk2 (rk2 (rkm (rk2 (rkm (rk2 rxN 1 0 2) 3 30) 1 1 3) 34 30) 1 2 34) 1 3 65
theorem eTown_init {x : Nat} (h : YH 2 rxN gx0) : FTown_init zFU (x + 1) (zY x 2 rxN gx0) = some ((), zY x 66 rxT gxT) ∧ YH 66 rxT gxT := by
  unfold FTown_init
  rw [yA (j := 2) h rfl]
  have k1 := YH_up h (j' := 3) (by decide)
  rw [yR (j := 3) (o := 1) (v := 2) (by decide) rfl]
  have k2 := YH_rk (j := 3) (o := 1) (k := 0) (v := 2) k1 (by decide)
  rw [yM (j := 3) (n := 30) (k := 30) k2 rfl kfM3]
  have k3 := YH_rm (n := 30) k2
  rw [yR (j := 34) (o := 1) (v := 3) (by decide) rfl]
  have k4 := YH_rk (j := 34) (o := 1) (k := 1) (v := 3) k3 (by decide)
  rw [yM (j := 34) (n := 30) (k := 30) k4 rfl kfM34]
  have k5 := YH_rm (n := 30) k4
  rw [yR (j := 65) (o := 1) (v := 34) (by decide) rfl]
  have k6 := YH_rk (j := 65) (o := 1) (k := 2) (v := 34) k5 (by decide)
  rw [yA (j := 65) k6 rfl]
  have k7 := YH_up k6 (j' := 66) (by decide)
  rw [yR (j := 66) (o := 1) (v := 65) (by decide) rfl]
  have k8 := YH_rk (j := 66) (o := 1) (k := 3) (v := 65) k7 (by decide)
  have q34 : ∀ a, a < 30 → rxT 34 a = some (35 + a) := fun a ha => by
    show (if a < 30 then some (34 + 1 + a) else none) = some (35 + a)
    rw [if_pos ha]
  have l := mat_loop (x := x) (j := 66) (r := rxT) (FU := zFU) (by unfold zFU; omega) (by decide) rfl q34 30 0 zFU gx0 (by omega) (by unfold zFU; omega)
  exact ⟨l, k8.1, fun o i z => by
    show (if 35 + 0 ≤ o ∧ o < 65 ∧ i < 30 then (if o = 35 + i then 0 else -1) else gx0 o i) = 0
    rw [if_neg (by omega)]
    exact k8.2 o i z⟩
def rx0 : Nat → Nat → Option Nat := rk2 rxT 0 0 1
def rxC : Nat → Nat → Option Nat := rk2 (rk2 rx0 66 1 67) 66 0 1
theorem eChain_init {x : Nat} (h : YH 67 rx0 gxT) : FChain_init zFU (x + 66) (x + 1) (zY x 67 rx0 gxT) = some ((), zY x 68 rxC gxT) ∧ YH 68 rxC gxT := by
  unfold FChain_init
  rw [yA (j := 67) h rfl]
  have k1 := YH_up h (j' := 68) (by decide)
  rw [yR (j := 68) (o := 66) (v := 67) (by decide) rfl]
  have k2 := YH_rk (j := 68) (o := 66) (k := 1) (v := 67) k1 (by decide)
  rw [yR (j := 68) (o := 66) (v := 1) (by decide) rfl]
  have k3 := YH_rk (j := 68) (o := 66) (k := 0) (v := 1) k2 (by decide)
  exact ⟨rfl, k3⟩
def rx1 : Nat → Nat → Option Nat := rk2 rxC 0 1 66
def gxM : Nat → Nat → Int := gu gxT 68 5 10
def rxM : Nat → Nat → Option Nat := rk2 (rk2 (rk2 (rk2 (rkm rx1 69 43) 68 1 69) 68 2 113) 68 3 114) 68 0 1
theorem eMarket_init {x : Nat} (h : YH 69 rx1 gxT) : FMarket_init zFU (x + 68) (x + 1) (zY x 69 rx1 gxT) = some ((), zY x 115 rxM gxM) ∧ YH 115 rxM gxM := by
  unfold FMarket_init
  rw [yM (j := 69) (n := 43) (k := 30) h rfl kfM69]
  have k1 := YH_rm (n := 43) h
  rw [yR (j := 113) (o := 68) (v := 69) (by decide) rfl]
  have k2 := YH_rk (j := 113) (o := 68) (k := 1) (v := 69) k1 (by decide)
  rw [yA (j := 113) k2 rfl]
  have k3 := YH_up k2 (j' := 114) (by decide)
  rw [yR (j := 114) (o := 68) (v := 113) (by decide) rfl]
  have k4 := YH_rk (j := 114) (o := 68) (k := 2) (v := 113) k3 (by decide)
  rw [yA (j := 114) k4 rfl]
  have k5 := YH_up k4 (j' := 115) (by decide)
  rw [yR (j := 115) (o := 68) (v := 114) (by decide) rfl]
  have k6 := YH_rk (j := 115) (o := 68) (k := 3) (v := 114) k5 (by decide)
  rw [yI (j := 115) (o := 68) (by decide) rfl]
  have k7 := YH_gv (j := 115) (o := 68) (k := 5) (v := 10) k6 (by decide)
  rw [yR (j := 115) (o := 68) (v := 1) (by decide) rfl]
  have k8 := YH_rk (j := 115) (o := 68) (k := 0) (v := 1) k7 (by decide)
  exact ⟨rfl, k8⟩
def rx2 : Nat → Nat → Option Nat := rk2 rxM 0 2 68
def rxS : Nat → Nat → Option Nat := rk2 (rk2 (rk2 (rk2 (rk2 (rk2 (rk2 rx2 115 3 116) 115 4 117) 115 5 118) 115 6 119) 115 0 1) 115 1 66) 115 2 68
theorem eSearch_init {x : Nat} (h : YH 116 rx2 gxM) : FSearch_init zFU (x + 115) (x + 1) (x + 66) (x + 68) (zY x 116 rx2 gxM) = some ((), zY x 120 rxS gxM) ∧ YH 120 rxS gxM := by
  unfold FSearch_init
  rw [yA (j := 116) h rfl]
  have k1 := YH_up h (j' := 117) (by decide)
  rw [yR (j := 117) (o := 115) (v := 116) (by decide) rfl]
  have k2 := YH_rk (j := 117) (o := 115) (k := 3) (v := 116) k1 (by decide)
  rw [yA (j := 117) k2 rfl]
  have k3 := YH_up k2 (j' := 118) (by decide)
  rw [yR (j := 118) (o := 115) (v := 117) (by decide) rfl]
  have k4 := YH_rk (j := 118) (o := 115) (k := 4) (v := 117) k3 (by decide)
  rw [yA (j := 118) k4 rfl]
  have k5 := YH_up k4 (j' := 119) (by decide)
  rw [yR (j := 119) (o := 115) (v := 118) (by decide) rfl]
  have k6 := YH_rk (j := 119) (o := 115) (k := 5) (v := 118) k5 (by decide)
  rw [yA (j := 119) k6 rfl]
  have k7 := YH_up k6 (j' := 120) (by decide)
  rw [yR (j := 120) (o := 115) (v := 119) (by decide) rfl]
  have k8 := YH_rk (j := 120) (o := 115) (k := 6) (v := 119) k7 (by decide)
  rw [yR (j := 120) (o := 115) (v := 1) (by decide) rfl]
  have k9 := YH_rk (j := 120) (o := 115) (k := 0) (v := 1) k8 (by decide)
  rw [yR (j := 120) (o := 115) (v := 66) (by decide) rfl]
  have k10 := YH_rk (j := 120) (o := 115) (k := 1) (v := 66) k9 (by decide)
  rw [yR (j := 120) (o := 115) (v := 68) (by decide) rfl]
  have k11 := YH_rk (j := 120) (o := 115) (k := 2) (v := 68) k10 (by decide)
  exact ⟨rfl, k11⟩
def rx3 : Nat → Nat → Option Nat := rk2 rxS 0 3 115
def rxH : Nat → Nat → Option Nat := rk2 (rk2 (rk2 (rk2 (rk2 rx3 121 0 122) 120 1 121) 120 2 123) 120 3 124) 120 0 66
theorem eShelf_init {x : Nat} (h : YH 121 rx3 gxM) : FShelf_init zFU (x + 120) (x + 66) (zY x 121 rx3 gxM) = some ((), zY x 125 rxH gxM) ∧ YH 125 rxH gxM := by
  unfold FShelf_init
  rw [yA (j := 121) h rfl]
  have k1 := YH_up h (j' := 122) (by decide)
  unfold FReader_init
  rw [yA (j := 122) k1 rfl]
  have k2 := YH_up k1 (j' := 123) (by decide)
  rw [yR (j := 123) (o := 121) (v := 122) (by decide) rfl]
  have k3 := YH_rk (j := 123) (o := 121) (k := 0) (v := 122) k2 (by decide)
  rw [zb_some]
  rw [yR (j := 123) (o := 120) (v := 121) (by decide) rfl]
  have k4 := YH_rk (j := 123) (o := 120) (k := 1) (v := 121) k3 (by decide)
  rw [yA (j := 123) k4 rfl]
  have k5 := YH_up k4 (j' := 124) (by decide)
  rw [yR (j := 124) (o := 120) (v := 123) (by decide) rfl]
  have k6 := YH_rk (j := 124) (o := 120) (k := 2) (v := 123) k5 (by decide)
  rw [yA (j := 124) k6 rfl]
  have k7 := YH_up k6 (j' := 125) (by decide)
  rw [yR (j := 125) (o := 120) (v := 124) (by decide) rfl]
  have k8 := YH_rk (j := 125) (o := 120) (k := 3) (v := 124) k7 (by decide)
  rw [yR (j := 125) (o := 120) (v := 66) (by decide) rfl]
  have k9 := YH_rk (j := 125) (o := 120) (k := 0) (v := 66) k8 (by decide)
  exact ⟨rfl, k9⟩
def rx4 : Nat → Nat → Option Nat := rk2 rxH 0 4 120
def rxF : Nat → Nat → Option Nat := rk2 (rk2 rx4 125 1 126) 125 0 66
theorem eFund_init {x : Nat} (h : YH 126 rx4 gxM) : FFund_init zFU (x + 125) (x + 66) (zY x 126 rx4 gxM) = some ((), zY x 127 rxF gxM) ∧ YH 127 rxF gxM := by
  unfold FFund_init
  rw [yA (j := 126) h rfl]
  have k1 := YH_up h (j' := 127) (by decide)
  rw [yR (j := 127) (o := 125) (v := 126) (by decide) rfl]
  have k2 := YH_rk (j := 127) (o := 125) (k := 1) (v := 126) k1 (by decide)
  rw [yR (j := 127) (o := 125) (v := 66) (by decide) rfl]
  have k3 := YH_rk (j := 127) (o := 125) (k := 0) (v := 66) k2 (by decide)
  exact ⟨rfl, k3⟩
def rx5 : Nat → Nat → Option Nat := rk2 rxF 0 5 125
def rxP : Nat → Nat → Option Nat := rk2 (rk2 (rk2 (rk2 (rk2 (rk2 rx5 127 0 128) 127 1 129) 127 2 130) 127 3 131) 127 4 132) 127 5 133
theorem ePacker_init {x : Nat} (h : YH 128 rx5 gxM) : FPacker_init zFU (x + 127) (zY x 128 rx5 gxM) = some ((), zY x 134 rxP gxM) ∧ YH 134 rxP gxM := by
  unfold FPacker_init
  rw [yA (j := 128) h rfl]
  have k1 := YH_up h (j' := 129) (by decide)
  rw [yR (j := 129) (o := 127) (v := 128) (by decide) rfl]
  have k2 := YH_rk (j := 129) (o := 127) (k := 0) (v := 128) k1 (by decide)
  rw [yA (j := 129) k2 rfl]
  have k3 := YH_up k2 (j' := 130) (by decide)
  rw [yR (j := 130) (o := 127) (v := 129) (by decide) rfl]
  have k4 := YH_rk (j := 130) (o := 127) (k := 1) (v := 129) k3 (by decide)
  rw [yA (j := 130) k4 rfl]
  have k5 := YH_up k4 (j' := 131) (by decide)
  rw [yR (j := 131) (o := 127) (v := 130) (by decide) rfl]
  have k6 := YH_rk (j := 131) (o := 127) (k := 2) (v := 130) k5 (by decide)
  rw [yA (j := 131) k6 rfl]
  have k7 := YH_up k6 (j' := 132) (by decide)
  rw [yR (j := 132) (o := 127) (v := 131) (by decide) rfl]
  have k8 := YH_rk (j := 132) (o := 127) (k := 3) (v := 131) k7 (by decide)
  rw [yA (j := 132) k8 rfl]
  have k9 := YH_up k8 (j' := 133) (by decide)
  rw [yR (j := 133) (o := 127) (v := 132) (by decide) rfl]
  have k10 := YH_rk (j := 133) (o := 127) (k := 4) (v := 132) k9 (by decide)
  rw [yA (j := 133) k10 rfl]
  have k11 := YH_up k10 (j' := 134) (by decide)
  rw [yR (j := 134) (o := 127) (v := 133) (by decide) rfl]
  have k12 := YH_rk (j := 134) (o := 127) (k := 5) (v := 133) k11 (by decide)
  exact ⟨rfl, k12⟩
def rx6 : Nat → Nat → Option Nat := rk2 rxP 0 6 127
theorem eB_init (x : Nat) : FB_init zFU (x + 0) (zY x 1 rxN (fun _ _ => 0)) = some ((), zY x 134 rx6 gxM) ∧ YH 134 rx6 gxM := by
  have h : YH 1 rxN (fun _ _ => 0) := ⟨fun _ _ _ => rfl, fun _ _ _ => rfl⟩
  unfold FB_init
  rw [yI (j := 1) (o := 0) (by decide) rfl]
  have k1 := YH_gv (j := 1) (o := 0) (k := 8) (v := 4) h (by decide)
  rw [show gu (fun _ _ => 0) 0 8 4 = gx0 from rfl]
  have k2 : YH 1 rxN gx0 := k1
  rw [yA (j := 1) k2 rfl]
  have k3 := YH_up k2 (j' := 2) (by decide)
  rw [(eTown_init (x := x) k3).1, zb_some]
  have k4 := (eTown_init (x := x) k3).2
  rw [yR (j := 66) (o := 0) (v := 1) (by decide) rfl]
  have k5 := YH_rk (j := 66) (o := 0) (k := 0) (v := 1) k4 (by decide)
  rw [show rk2 rxT 0 0 1 = rx0 from rfl]
  have k6 : YH 66 rx0 gxT := k5
  rw [yA (j := 66) k6 rfl]
  have k7 := YH_up k6 (j' := 67) (by decide)
  rw [yQ (j := 67) (o := 0) (v := 1) (by decide) rfl rfl]
  rw [(eChain_init (x := x) k7).1, zb_some]
  have k8 := (eChain_init (x := x) k7).2
  rw [yR (j := 68) (o := 0) (v := 66) (by decide) rfl]
  have k9 := YH_rk (j := 68) (o := 0) (k := 1) (v := 66) k8 (by decide)
  rw [show rk2 rxC 0 1 66 = rx1 from rfl]
  have k10 : YH 68 rx1 gxT := k9
  rw [yA (j := 68) k10 rfl]
  have k11 := YH_up k10 (j' := 69) (by decide)
  rw [yQ (j := 69) (o := 0) (v := 1) (by decide) rfl rfl]
  rw [(eMarket_init (x := x) k11).1, zb_some]
  have k12 := (eMarket_init (x := x) k11).2
  rw [yR (j := 115) (o := 0) (v := 68) (by decide) rfl]
  have k13 := YH_rk (j := 115) (o := 0) (k := 2) (v := 68) k12 (by decide)
  rw [show rk2 rxM 0 2 68 = rx2 from rfl]
  have k14 : YH 115 rx2 gxM := k13
  rw [yA (j := 115) k14 rfl]
  have k15 := YH_up k14 (j' := 116) (by decide)
  rw [yQ (j := 116) (o := 0) (v := 1) (by decide) rfl rfl]
  rw [yQ (j := 116) (o := 0) (v := 66) (by decide) rfl rfl]
  rw [yQ (j := 116) (o := 0) (v := 68) (by decide) rfl rfl]
  rw [(eSearch_init (x := x) k15).1, zb_some]
  have k16 := (eSearch_init (x := x) k15).2
  rw [yR (j := 120) (o := 0) (v := 115) (by decide) rfl]
  have k17 := YH_rk (j := 120) (o := 0) (k := 3) (v := 115) k16 (by decide)
  rw [show rk2 rxS 0 3 115 = rx3 from rfl]
  have k18 : YH 120 rx3 gxM := k17
  rw [yA (j := 120) k18 rfl]
  have k19 := YH_up k18 (j' := 121) (by decide)
  rw [yQ (j := 121) (o := 0) (v := 66) (by decide) rfl rfl]
  rw [(eShelf_init (x := x) k19).1, zb_some]
  have k20 := (eShelf_init (x := x) k19).2
  rw [yR (j := 125) (o := 0) (v := 120) (by decide) rfl]
  have k21 := YH_rk (j := 125) (o := 0) (k := 4) (v := 120) k20 (by decide)
  rw [show rk2 rxH 0 4 120 = rx4 from rfl]
  have k22 : YH 125 rx4 gxM := k21
  rw [yA (j := 125) k22 rfl]
  have k23 := YH_up k22 (j' := 126) (by decide)
  rw [yQ (j := 126) (o := 0) (v := 66) (by decide) rfl rfl]
  rw [(eFund_init (x := x) k23).1, zb_some]
  have k24 := (eFund_init (x := x) k23).2
  rw [yR (j := 127) (o := 0) (v := 125) (by decide) rfl]
  have k25 := YH_rk (j := 127) (o := 0) (k := 5) (v := 125) k24 (by decide)
  rw [show rk2 rxF 0 5 125 = rx5 from rfl]
  have k26 : YH 127 rx5 gxM := k25
  rw [yA (j := 127) k26 rfl]
  have k27 := YH_up k26 (j' := 128) (by decide)
  rw [(ePacker_init (x := x) k27).1, zb_some]
  have k28 := (ePacker_init (x := x) k27).2
  rw [yR (j := 134) (o := 0) (v := 127) (by decide) rfl]
  have k29 := YH_rk (j := 134) (o := 0) (k := 6) (v := 127) k28 (by decide)
  exact ⟨rfl, k29⟩
