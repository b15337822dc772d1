def FChain_init (FU : Nat) (this : Nat) (p1 : Nat) (G : Hp) : Option (Unit × Hp) :=
  zbA G 23 40 fun a1 G2 =>
  (zpR G2 this 0 1 a1).bind fun G3 =>
  (zpR G3 this 0 0 p1).bind fun G4 =>
  some ((), G4)

def FChain_shopAt_b (FU : Nat) (this : Nat) (p1 : Int) (G : Hp) : Option (Option Nat) :=
  if p1 < 0 then
    some none
  else
    (zgI G this 0 2).bind fun v1 =>
    if p1 < v1 then
      (zgQ G this 0 1).bind fun v2 =>
      (zaN G v2 23).bind fun v3 =>
      if p1 < v3 then
        (zgQ G this 0 1).bind fun v4 =>
        (zaR G v4 23 p1).bind fun v5 =>
        some v5
      else
        some none
    else
      some none
def FChain_shopAt (FU : Nat) (this : Nat) (p1 : Int) (G : Hp) : Option (Option Nat) := zgd G this 0 (FChain_shopAt_b FU this p1 G)

def FChain_addShop_b (FU : Nat) (this : Nat) (p1 : Nat) (G : Hp) : Option (Int × Hp) :=
  (zgI G this 0 2).bind fun v1 =>
  if v1 < 0 then
    some ((-2), G)
  else
    (zgI G this 0 2).bind fun v2 =>
    (zgQ G this 0 1).bind fun v3 =>
    (zaN G v3 23).bind fun v4 =>
    if v2 < v4 then
      (zgQ G this 0 1).bind fun v5 =>
      (zgI G this 0 2).bind fun v6 =>
      (zaSR G v5 23 7 v6 p1).bind fun G7 =>
      (zgI G7 this 0 2).bind fun v8 =>
      (zck (v8 + (1))).bind fun v9 =>
      (zpI G7 this 0 2 v9).bind fun G10 =>
      (zgI G10 this 0 2).bind fun v11 =>
      (zck (v11 - (1))).bind fun v12 =>
      some (v12, G10)
    else
      some ((-2), G)
def FChain_addShop (FU : Nat) (this : Nat) (p1 : Nat) (G : Hp) : Option (Int × Hp) := zgd G this 0 (FChain_addShop_b FU this p1 G)

def FShop_isOpen_b (FU : Nat) (this : Nat) (G : Hp) : Option Int :=
  (zgI G this 7 5).bind fun v1 =>
  if v1 = (-1) then
    zrz (1)
  else
    zrz (0)
def FShop_isOpen (FU : Nat) (this : Nat) (G : Hp) : Option Int := zgd G this 7 (FShop_isOpen_b FU this G)

def FChain_isTaken_L2 (FU : Nat) : Nat → Nat → Int → Int → Hp → Option Int
  | 0, _, _, _, _ => none
  | n + 1, x0, x1, x2, G => (zgI G x0 0 2).bind fun v1 =>
    if x2 < v1 then
      (FChain_shopAt FU x0 x2 G).bind fun v2 =>
      zcase v2
        ((zck (x2 + (1))).bind fun v4 =>
         FChain_isTaken_L2 FU n x0 x1 v4 G)
        (fun a3 => (FShop_isOpen FU a3 G).bind fun v5 =>
         if v5 = 0 then
           (zck (x2 + (1))).bind fun v6 =>
           FChain_isTaken_L2 FU n x0 x1 v6 G
         else
           (zgI G a3 7 0).bind fun v7 =>
           if v7 = x1 then
             zrz (1)
           else
             (zck (x2 + (1))).bind fun v8 =>
             FChain_isTaken_L2 FU n x0 x1 v8 G)
    else
      zrz (0)
def FChain_isTaken_b (FU : Nat) (this : Nat) (p1 : Int) (G : Hp) : Option Int :=
  FChain_isTaken_L2 FU FU this p1 (0) G
def FChain_isTaken (FU : Nat) (this : Nat) (p1 : Int) (G : Hp) : Option Int := zgd G this 0 (FChain_isTaken_b FU this p1 G)

def FTown_cell (FU : Nat) (p1 : Nat) (p2 : Int) (p3 : Int) (G : Hp) : Option Int :=
  if p2 < 0 then
    some (-1)
  else
    (zaN G p1 26).bind fun v1 =>
    if p2 < v1 then
      (zaQ G p1 26 p2).bind fun v2 =>
      if p3 < 0 then
        some (-1)
      else
        (zaN G v2 20).bind fun v3 =>
        if p3 < v3 then
          (zaI G v2 20 p3).bind fun v4 =>
          some v4
        else
          some (-1)
    else
      some (-1)

def FTown_wayBetween_b (FU : Nat) (this : Nat) (p1 : Int) (p2 : Int) (G : Hp) : Option Int :=
  (zgQ G this 10 2).bind fun v1 =>
  (FTown_cell FU v1 p1 p2 G).bind fun v2 =>
  some v2
def FTown_wayBetween (FU : Nat) (this : Nat) (p1 : Int) (p2 : Int) (G : Hp) : Option Int := zgd G this 10 (FTown_wayBetween_b FU this p1 p2 G)

def FChain_landHolder_B92 (FU : Nat) (kL7 : Nat → Int → Int → Int → Int → Hp → Option Int) (x0 : Nat) (x1 : Int) (x4 : Int) (x6 : Int) (G : Hp) : Option Int :=
  (zck (x4 + (1))).bind fun v1 =>
  kL7 x0 x1 x4 x6 v1 G
def FChain_landHolder_L7 (FU : Nat) : Nat → Nat → Int → Int → Int → Int → Hp → Option Int
  | 0, _, _, _, _, _, _ => none
  | n + 1, x0, x1, x2, x3, x4, G => (zgI G x0 0 2).bind fun v1 =>
    if x4 < v1 then
      (FChain_shopAt FU x0 x4 G).bind fun v2 =>
      zcase v2
        ((zck (x4 + (1))).bind fun v4 =>
         FChain_landHolder_L7 FU n x0 x1 x2 x3 v4 G)
        (fun a3 => (FShop_isOpen FU a3 G).bind fun v5 =>
         if v5 = 0 then
           (zck (x4 + (1))).bind fun v6 =>
           FChain_landHolder_L7 FU n x0 x1 x2 x3 v6 G
         else
           (zgI G a3 7 6).bind fun v7 =>
           if v7 = 0 then
             (zck (x4 + (1))).bind fun v8 =>
             FChain_landHolder_L7 FU n x0 x1 x2 x3 v8 G
           else
             (zgQ G x0 0 0).bind fun v9 =>
             (zgI G a3 7 0).bind fun v10 =>
             (FTown_wayBetween FU v9 x1 v10 G).bind fun v11 =>
             if v11 < 0 then
               (zck (x4 + (1))).bind fun v12 =>
               FChain_landHolder_L7 FU n x0 x1 x2 x3 v12 G
             else
               (zgI G a3 7 6).bind fun v13 =>
               if v11 ≤ v13 then
                 if x2 = (-1) then
                   FChain_landHolder_B92 FU (FChain_landHolder_L7 FU n) x0 x1 x4 v11 G
                 else
                   if v11 < x3 then
                     FChain_landHolder_B92 FU (FChain_landHolder_L7 FU n) x0 x1 x4 v11 G
                   else
                     (zck (x4 + (1))).bind fun v14 =>
                     FChain_landHolder_L7 FU n x0 x1 x2 x3 v14 G
               else
                 (zck (x4 + (1))).bind fun v15 =>
                 FChain_landHolder_L7 FU n x0 x1 x2 x3 v15 G)
    else
      some x2
def FChain_landHolder_b (FU : Nat) (this : Nat) (p1 : Int) (G : Hp) : Option Int :=
  FChain_landHolder_L7 FU FU this p1 (-1) (0) (0) G
def FChain_landHolder (FU : Nat) (this : Nat) (p1 : Int) (G : Hp) : Option Int := zgd G this 0 (FChain_landHolder_b FU this p1 G)

def FChain_isBarred_b (FU : Nat) (this : Nat) (p1 : Int) (p2 : Int) (G : Hp) : Option Int :=
  (FChain_landHolder FU this p1 G).bind fun v1 =>
  (FChain_shopAt FU this v1 G).bind fun v2 =>
  zcase v2
    (zrz (0))
    (fun a3 => (zgI G a3 7 1).bind fun v4 =>
     if v4 = p2 then
       zrz (0)
     else
       zrz (1))
def FChain_isBarred (FU : Nat) (this : Nat) (p1 : Int) (p2 : Int) (G : Hp) : Option Int := zgd G this 0 (FChain_isBarred_b FU this p1 p2 G)

def FChain_landSize_L4 (FU : Nat) : Nat → Nat → Int → Int → Int → Hp → Option Int
  | 0, _, _, _, _, _ => none
  | n + 1, x0, x1, x2, x3, G => (zgQ G x0 0 0).bind fun v1 =>
    (zgI G v1 10 4).bind fun v2 =>
    if x3 < v2 then
      (FChain_landHolder FU x0 x3 G).bind fun v3 =>
      if v3 = x1 then
        (zck (x2 + (1))).bind fun v4 =>
        (zck (x3 + (1))).bind fun v5 =>
        FChain_landSize_L4 FU n x0 x1 v4 v5 G
      else
        (zck (x3 + (1))).bind fun v6 =>
        FChain_landSize_L4 FU n x0 x1 x2 v6 G
    else
      some x2
def FChain_landSize_b (FU : Nat) (this : Nat) (p1 : Int) (G : Hp) : Option Int :=
  FChain_landSize_L4 FU FU this p1 (0) (0) G
def FChain_landSize (FU : Nat) (this : Nat) (p1 : Int) (G : Hp) : Option Int := zgd G this 0 (FChain_landSize_b FU this p1 G)

def FChain_openCount_L4 (FU : Nat) : Nat → Nat → Int → Int → Hp → Option Int
  | 0, _, _, _, _ => none
  | n + 1, x0, x1, x2, G => (zgI G x0 0 2).bind fun v1 =>
    if x2 < v1 then
      (FChain_shopAt FU x0 x2 G).bind fun v2 =>
      zcase v2
        ((zck (x2 + (1))).bind fun v4 =>
         FChain_openCount_L4 FU n x0 x1 v4 G)
        (fun a3 => (FShop_isOpen FU a3 G).bind fun v5 =>
         if v5 = 0 then
           (zck (x2 + (1))).bind fun v6 =>
           FChain_openCount_L4 FU n x0 x1 v6 G
         else
           (zck (x1 + (1))).bind fun v7 =>
           (zck (x2 + (1))).bind fun v8 =>
           FChain_openCount_L4 FU n x0 v7 v8 G)
    else
      some x1
def FChain_openCount_b (FU : Nat) (this : Nat) (G : Hp) : Option Int :=
  FChain_openCount_L4 FU FU this (0) (0) G
def FChain_openCount (FU : Nat) (this : Nat) (G : Hp) : Option Int := zgd G this 0 (FChain_openCount_b FU this G)

def FShop_wasOpenOn_b (FU : Nat) (this : Nat) (p1 : Int) (G : Hp) : Option Int :=
  (zgI G this 7 3).bind fun v1 =>
  if v1 ≤ p1 then
    (zgI G this 7 5).bind fun v2 =>
    if v2 = (-1) then
      zrz (1)
    else
      (zgI G this 7 5).bind fun v3 =>
      if v3 ≤ p1 then
        zrz (0)
      else
        zrz (1)
  else
    zrz (0)
def FShop_wasOpenOn (FU : Nat) (this : Nat) (p1 : Int) (G : Hp) : Option Int := zgd G this 7 (FShop_wasOpenOn_b FU this p1 G)

def FChain_openOn_L5 (FU : Nat) : Nat → Nat → Int → Int → Int → Int → Hp → Option Int
  | 0, _, _, _, _, _, _ => none
  | n + 1, x0, x1, x2, x3, x4, G => (zgI G x0 0 2).bind fun v1 =>
    if x4 < v1 then
      (FChain_shopAt FU x0 x4 G).bind fun v2 =>
      zcase v2
        ((zck (x4 + (1))).bind fun v4 =>
         FChain_openOn_L5 FU n x0 x1 x2 x3 v4 G)
        (fun a3 => (zgI G a3 7 1).bind fun v5 =>
         if v5 = x1 then
           (FShop_wasOpenOn FU a3 x2 G).bind fun v6 =>
           if v6 = 0 then
             (zck (x4 + (1))).bind fun v7 =>
             FChain_openOn_L5 FU n x0 x1 x2 x3 v7 G
           else
             (zck (x3 + (1))).bind fun v8 =>
             (zck (x4 + (1))).bind fun v9 =>
             FChain_openOn_L5 FU n x0 x1 x2 v8 v9 G
         else
           (zck (x4 + (1))).bind fun v10 =>
           FChain_openOn_L5 FU n x0 x1 x2 x3 v10 G)
    else
      some x3
def FChain_openOn_b (FU : Nat) (this : Nat) (p1 : Int) (p2 : Int) (G : Hp) : Option Int :=
  FChain_openOn_L5 FU FU this p1 p2 (0) (0) G
def FChain_openOn (FU : Nat) (this : Nat) (p1 : Int) (p2 : Int) (G : Hp) : Option Int := zgd G this 0 (FChain_openOn_b FU this p1 p2 G)

def FShop_hasRunningNotice_b (FU : Nat) (this : Nat) (G : Hp) : Option Int :=
  (zgI G this 7 11).bind fun v1 =>
  if v1 = (-1) then
    zrz (0)
  else
    (zgI G this 7 13).bind fun v2 =>
    if v2 = 0 then
      zrz (1)
    else
      zrz (0)
def FShop_hasRunningNotice (FU : Nat) (this : Nat) (G : Hp) : Option Int := zgd G this 7 (FShop_hasRunningNotice_b FU this G)

def FChain_runningNotices_L4 (FU : Nat) : Nat → Nat → Int → Int → Hp → Option Int
  | 0, _, _, _, _ => none
  | n + 1, x0, x1, x2, G => (zgI G x0 0 2).bind fun v1 =>
    if x2 < v1 then
      (FChain_shopAt FU x0 x2 G).bind fun v2 =>
      zcase v2
        ((zck (x2 + (1))).bind fun v4 =>
         FChain_runningNotices_L4 FU n x0 x1 v4 G)
        (fun a3 => (FShop_hasRunningNotice FU a3 G).bind fun v5 =>
         if v5 = 0 then
           (zck (x2 + (1))).bind fun v6 =>
           FChain_runningNotices_L4 FU n x0 x1 v6 G
         else
           (zck (x1 + (1))).bind fun v7 =>
           (zck (x2 + (1))).bind fun v8 =>
           FChain_runningNotices_L4 FU n x0 v7 v8 G)
    else
      some x1
def FChain_runningNotices_b (FU : Nat) (this : Nat) (G : Hp) : Option Int :=
  FChain_runningNotices_L4 FU FU this (0) (0) G
def FChain_runningNotices (FU : Nat) (this : Nat) (G : Hp) : Option Int := zgd G this 0 (FChain_runningNotices_b FU this G)

def FShop_endNotice_b (FU : Nat) (this : Nat) (p1 : Int) (p2 : Int) (G : Hp) : Option (Unit × Hp) :=
  (FShop_hasRunningNotice FU this G).bind fun v1 =>
  if v1 = 0 then
    some ((), G)
  else
    (zpI G this 7 13 p1).bind fun G2 =>
    (zpI G2 this 7 14 p2).bind fun G3 =>
    some ((), G3)
def FShop_endNotice (FU : Nat) (this : Nat) (p1 : Int) (p2 : Int) (G : Hp) : Option (Unit × Hp) := zgd G this 7 (FShop_endNotice_b FU this p1 p2 G)

def FShop_shut_b (FU : Nat) (this : Nat) (p1 : Int) (p2 : Int) (G : Hp) : Option (Unit × Hp) :=
  (zpI G this 7 5 p1).bind fun G1 =>
  zb (FShop_endNotice FU this p2 p1 G1) fun _ G2 =>
  some ((), G2)
def FShop_shut (FU : Nat) (this : Nat) (p1 : Int) (p2 : Int) (G : Hp) : Option (Unit × Hp) := zgd G this 7 (FShop_shut_b FU this p1 p2 G)

def FChain_lapseNotices_L2 (FU : Nat) : Nat → Nat → Int → Int → Hp → Option (Unit × Hp)
  | 0, _, _, _, _ => none
  | n + 1, x0, x1, x2, G => (zgI G x0 0 2).bind fun v1 =>
    if x2 < v1 then
      (FChain_shopAt FU x0 x2 G).bind fun v2 =>
      zcase v2
        ((zck (x2 + (1))).bind fun v4 =>
         FChain_lapseNotices_L2 FU n x0 x1 v4 G)
        (fun a3 => (FShop_hasRunningNotice FU a3 G).bind fun v5 =>
         if v5 = 0 then
           (zck (x2 + (1))).bind fun v6 =>
           FChain_lapseNotices_L2 FU n x0 x1 v6 G
         else
           (zgI G a3 7 12).bind fun v7 =>
           if x1 ≤ v7 then
             (zck (x2 + (1))).bind fun v8 =>
             FChain_lapseNotices_L2 FU n x0 x1 v8 G
           else
             zb (FShop_shut FU a3 x1 (2) G) fun _ G9 =>
             (zck (x2 + (1))).bind fun v10 =>
             FChain_lapseNotices_L2 FU n x0 x1 v10 G9)
    else
      some ((), G)
def FChain_lapseNotices_b (FU : Nat) (this : Nat) (p1 : Int) (G : Hp) : Option (Unit × Hp) :=
  FChain_lapseNotices_L2 FU FU this p1 (0) G
def FChain_lapseNotices (FU : Nat) (this : Nat) (p1 : Int) (G : Hp) : Option (Unit × Hp) := zgd G this 0 (FChain_lapseNotices_b FU this p1 G)

def FFund_init (FU : Nat) (this : Nat) (p1 : Nat) (G : Hp) : Option (Unit × Hp) :=
  zbA G 20 40 fun a1 G2 =>
  (zpR G2 this 1 1 a1).bind fun G3 =>
  (zpR G3 this 1 0 p1).bind fun G4 =>
  some ((), G4)

def FFund_allGains_L4 (FU : Nat) : Nat → Nat → Int → Int → Hp → Option Int
  | 0, _, _, _, _ => none
  | n + 1, x0, x1, x2, G => (zgQ G x0 1 0).bind fun v1 =>
    (zgI G v1 0 2).bind fun v2 =>
    if x2 < v2 then
      (zgQ G x0 1 0).bind fun v3 =>
      (FChain_shopAt FU v3 x2 G).bind fun v4 =>
      zcase v4
        ((zck (x2 + (1))).bind fun v6 =>
         FFund_allGains_L4 FU n x0 x1 v6 G)
        (fun a5 => (zgI G a5 7 7).bind fun v7 =>
         (zck (x1 + v7)).bind fun v8 =>
         (zck (x2 + (1))).bind fun v9 =>
         FFund_allGains_L4 FU n x0 v8 v9 G)
    else
      some x1
def FFund_allGains_b (FU : Nat) (this : Nat) (G : Hp) : Option Int :=
  FFund_allGains_L4 FU FU this (0) (0) G
def FFund_allGains (FU : Nat) (this : Nat) (G : Hp) : Option Int := zgd G this 1 (FFund_allGains_b FU this G)

def FB_put (FU : Nat) (p1 : Nat) (p2 : Int) (p3 : Int) (G : Hp) : Option (Unit × Hp) :=
  if p2 < 0 then
    some ((), G)
  else
    (zaN G p1 20).bind fun v1 =>
    if p2 < v1 then
      (zaS G p1 20 p2 p3).bind fun G2 =>
      some ((), G2)
    else
      some ((), G)

def FFund_giveWholeParts_L11 (FU : Nat) : Nat → Nat → Int → Int → Int → Int → Hp → Option (Int × Hp)
  | 0, _, _, _, _, _, _ => none
  | n + 1, x0, x1, x2, x3, x4, G => (zgQ G x0 1 0).bind fun v1 =>
    (zgI G v1 0 2).bind fun v2 =>
    if x4 < v2 then
      (zgQ G x0 1 0).bind fun v3 =>
      (FChain_shopAt FU v3 x4 G).bind fun v4 =>
      zcase v4
        ((zck (x4 + (1))).bind fun v6 =>
         FFund_giveWholeParts_L11 FU n x0 x1 x2 x3 v6 G)
        (fun a5 => (zgI G a5 7 7).bind fun v7 =>
         (zckL (x1 * v7)).bind fun v8 =>
         (zdvL v8 x2).bind fun v9 =>
         (zck v9).bind fun v10 =>
         (zgQ G x0 1 1).bind fun v11 =>
         (zrm v8 x2).bind fun v12 =>
         (zck v12).bind fun v13 =>
         zb (FB_put FU v11 x4 v13 G) fun _ G14 =>
         (zgI G14 a5 7 8).bind fun v15 =>
         (zck (v15 + v10)).bind fun v16 =>
         (zpI G14 a5 7 8 v16).bind fun G17 =>
         (zpI G17 a5 7 7 (0)).bind fun G18 =>
         (zck (x3 + v10)).bind fun v19 =>
         (zck (x4 + (1))).bind fun v20 =>
         FFund_giveWholeParts_L11 FU n x0 x1 x2 v19 v20 G18)
    else
      some (x3, G)
def FFund_giveWholeParts_b (FU : Nat) (this : Nat) (p1 : Int) (p2 : Int) (G : Hp) : Option (Int × Hp) :=
  if p2 ≤ 0 then
    some ((0), G)
  else
    FFund_giveWholeParts_L11 FU FU this p1 p2 (0) (0) G
def FFund_giveWholeParts (FU : Nat) (this : Nat) (p1 : Int) (p2 : Int) (G : Hp) : Option (Int × Hp) := zgd G this 1 (FFund_giveWholeParts_b FU this p1 p2 G)

def FB_at (FU : Nat) (p1 : Nat) (p2 : Int) (G : Hp) : Option Int :=
  if p2 < 0 then
    some (0)
  else
    (zaN G p1 20).bind fun v1 =>
    if p2 < v1 then
      (zaI G p1 20 p2).bind fun v2 =>
      some v2
    else
      some (0)

def FFund_giveToGreatestRest_L4 (FU : Nat) : Nat → Nat → Int → Int → Hp → Option (Unit × Hp)
  | 0, _, _, _, _ => none
  | n + 1, x0, x1, x2, G => (zgQ G x0 1 0).bind fun v1 =>
    (zgI G v1 0 2).bind fun v2 =>
    if x2 < v2 then
      (zgQ G x0 1 1).bind fun v3 =>
      (FB_at FU v3 x2 G).bind fun v4 =>
      (zgQ G x0 1 1).bind fun v5 =>
      (FB_at FU v5 x1 G).bind fun v6 =>
      if v4 ≤ v6 then
        (zck (x2 + (1))).bind fun v7 =>
        FFund_giveToGreatestRest_L4 FU n x0 x1 v7 G
      else
        (zck (x2 + (1))).bind fun v8 =>
        FFund_giveToGreatestRest_L4 FU n x0 x2 v8 G
    else
      (zgQ G x0 1 0).bind fun v9 =>
      (FChain_shopAt FU v9 x1 G).bind fun v10 =>
      zcase v10
        (some ((), G))
        (fun a11 => (zgI G a11 7 8).bind fun v12 =>
         (zck (v12 + (1))).bind fun v13 =>
         (zpI G a11 7 8 v13).bind fun G14 =>
         (zgQ G14 x0 1 1).bind fun v15 =>
         zb (FB_put FU v15 x1 (0) G14) fun _ G16 =>
         some ((), G16))
def FFund_giveToGreatestRest_b (FU : Nat) (this : Nat) (G : Hp) : Option (Unit × Hp) :=
  FFund_giveToGreatestRest_L4 FU FU this (0) (1) G
def FFund_giveToGreatestRest (FU : Nat) (this : Nat) (G : Hp) : Option (Unit × Hp) := zgd G this 1 (FFund_giveToGreatestRest_b FU this G)

def FFund_partOut_B56 (FU : Nat) (x0 : Nat) (x1 : Int) (G : Hp) : Option (Int × Hp) :=
  (zgI G x0 1 2).bind fun v1 =>
  (zck (v1 - x1)).bind fun v2 =>
  (zpI G x0 1 2 v2).bind fun G3 =>
  (zgI G3 x0 1 2).bind fun v4 =>
  some (v4, G3)
def FFund_partOut_L32 (FU : Nat) : Nat → Nat → Int → Int → Int → Hp → Option (Int × Hp)
  | 0, _, _, _, _, _ => none
  | n + 1, x0, x1, x3, x4, G => if x4 < (40) then
      if x3 ≤ 0 then
        FFund_partOut_B56 FU x0 x1 G
      else
        zb (FFund_giveToGreatestRest FU x0 G) fun _ G1 =>
        (zck (x3 + (-1))).bind fun v2 =>
        (zck (x4 + (1))).bind fun v3 =>
        FFund_partOut_L32 FU n x0 x1 v2 v3 G1
    else
      FFund_partOut_B56 FU x0 x1 G
def FFund_partOut_b (FU : Nat) (this : Nat) (p1 : Int) (G : Hp) : Option (Int × Hp) :=
  (FFund_allGains FU this G).bind fun v1 =>
  (zgI G this 1 2).bind fun v2 =>
  if p1 ≤ v2 then
    if v1 ≤ 0 then
      some ((-3), G)
    else
      zb (FFund_giveWholeParts FU this p1 v1 G) fun v4 G3 =>
      (zck (p1 - v4)).bind fun v5 =>
      FFund_partOut_L32 FU FU this p1 v5 (0) G3
  else
    some ((-3), G)
def FFund_partOut (FU : Nat) (this : Nat) (p1 : Int) (G : Hp) : Option (Int × Hp) := zgd G this 1 (FFund_partOut_b FU this p1 G)

def FMarket_init (FU : Nat) (this : Nat) (p1 : Nat) (G : Hp) : Option (Unit × Hp) :=
  zbM G 43 30 fun a1 G2 =>
  (zpR G2 this 2 1 a1).bind fun G3 =>
  zbA G3 20 43 fun a4 G5 =>
  (zpR G5 this 2 2 a4).bind fun G6 =>
  zbA G6 20 30 fun a7 G8 =>
  (zpR G8 this 2 3 a7).bind fun G9 =>
  (zpI G9 this 2 5 (10)).bind fun G10 =>
  (zpR G10 this 2 0 p1).bind fun G11 =>
  some ((), G11)

def FMarket_pullOf (FU : Nat) (p1 : Int) (p2 : Int) (G : Hp) : Option Int :=
  if p2 < 0 then
    some (0)
  else
    (zck (p1 * (1000))).bind fun v1 =>
    (zck ((1) + p2)).bind fun v2 =>
    (zdv v1 v2).bind fun v3 =>
    some v3

def FMarket_addStall_B92 (FU : Nat) (x0 : Nat) (x3 : Int) (G : Hp) : Option (Unit × Hp) :=
  (zgQ G x0 2 2).bind fun v1 =>
  (zgI G x0 2 4).bind fun v2 =>
  zb (FB_put FU v1 v2 x3 G) fun _ G3 =>
  (zgI G3 x0 2 4).bind fun v4 =>
  (zck (v4 + (1))).bind fun v5 =>
  (zpI G3 x0 2 4 v5).bind fun G6 =>
  some ((), G6)
def FMarket_addStall_L34 (FU : Nat) : Nat → Nat → Int → Int → Int → Nat → Int → Hp → Option (Unit × Hp)
  | 0, _, _, _, _, _, _, _ => none
  | n + 1, x0, x1, x2, x3, x4, x5, G => (zaN G x4 20).bind fun v1 =>
    if x5 < v1 then
      (zgQ G x0 2 3).bind fun v2 =>
      (zaN G v2 20).bind fun v3 =>
      if x5 < v3 then
        (zgQ G x0 2 0).bind fun v4 =>
        (FTown_wayBetween FU v4 x5 x1 G).bind fun v5 =>
        (FMarket_pullOf FU x2 v5 G).bind fun v6 =>
        (zaS G x4 20 x5 v6).bind fun G7 =>
        (zgQ G7 x0 2 3).bind fun v8 =>
        (zaI G7 v8 20 x5).bind fun v9 =>
        (zaI G7 x4 20 x5).bind fun v10 =>
        (zck (v9 + v10)).bind fun v11 =>
        (zaS G7 v8 20 x5 v11).bind fun G12 =>
        (zck (x5 + (1))).bind fun v13 =>
        FMarket_addStall_L34 FU n x0 x1 x2 x3 x4 v13 G12
      else
        FMarket_addStall_B92 FU x0 x3 G
    else
      FMarket_addStall_B92 FU x0 x3 G
def FMarket_addStall_b (FU : Nat) (this : Nat) (p1 : Int) (p2 : Int) (p3 : Int) (G : Hp) : Option (Unit × Hp) :=
  (zgI G this 2 4).bind fun v1 =>
  if v1 < 0 then
    some ((), G)
  else
    (zgI G this 2 4).bind fun v2 =>
    (zgQ G this 2 1).bind fun v3 =>
    (zaN G v3 26).bind fun v4 =>
    if v2 < v4 then
      (zgQ G this 2 1).bind fun v5 =>
      (zgI G this 2 4).bind fun v6 =>
      (zaQ G v5 26 v6).bind fun v7 =>
      FMarket_addStall_L34 FU FU this p1 p2 p3 v7 (0) G
    else
      some ((), G)
def FMarket_addStall (FU : Nat) (this : Nat) (p1 : Int) (p2 : Int) (p3 : Int) (G : Hp) : Option (Unit × Hp) := zgd G this 2 (FMarket_addStall_b FU this p1 p2 p3 G)

def FMarket_fillFrom_B72 (FU : Nat) (kL31 : Nat → Nat → Int → Hp → Option (Unit × Hp)) (x0 : Nat) (x1 : Nat) (x2 : Int) (x3 : Nat) (y0 : Nat) (y1 : Int) (y2 : Int) (G : Hp) : Option (Unit × Hp) :=
  (zgI G x3 7 1).bind fun v1 =>
  zb (FMarket_addStall FU y0 y1 y2 v1 G) fun _ G2 =>
  (zck (x2 + (1))).bind fun v3 =>
  kL31 x0 x1 v3 G2
def FMarket_fillFrom_L31 (FU : Nat) : Nat → Nat → Nat → Int → Hp → Option (Unit × Hp)
  | 0, _, _, _, _ => none
  | n + 1, x0, x1, x2, G => (zgI G x1 0 2).bind fun v1 =>
    if x2 < v1 then
      (FChain_shopAt FU x1 x2 G).bind fun v2 =>
      zcase v2
        ((zck (x2 + (1))).bind fun v4 =>
         FMarket_fillFrom_L31 FU n x0 x1 v4 G)
        (fun a3 => (zgI G a3 7 0).bind fun v5 =>
         (FShop_isOpen FU a3 G).bind fun v6 =>
         if v6 = 0 then
           FMarket_fillFrom_B72 FU (FMarket_fillFrom_L31 FU n) x0 x1 x2 a3 x0 v5 (0) G
         else
           (zgI G a3 7 2).bind fun v7 =>
           FMarket_fillFrom_B72 FU (FMarket_fillFrom_L31 FU n) x0 x1 x2 a3 x0 v5 v7 G)
    else
      some ((), G)
def FMarket_fillFrom_L7 (FU : Nat) : Nat → Nat → Nat → Int → Hp → Option (Unit × Hp)
  | 0, _, _, _, _ => none
  | n + 1, x0, x1, x2, G => (zgQ G x0 2 3).bind fun v1 =>
    (zaN G v1 20).bind fun v2 =>
    if x2 < v2 then
      (zgQ G x0 2 3).bind fun v3 =>
      (zaS G v3 20 x2 (0)).bind fun G4 =>
      (zck (x2 + (1))).bind fun v5 =>
      FMarket_fillFrom_L7 FU n x0 x1 v5 G4
    else
      FMarket_fillFrom_L31 FU FU x0 x1 (0) G
def FMarket_fillFrom_b (FU : Nat) (this : Nat) (p1 : Nat) (G : Hp) : Option (Unit × Hp) :=
  (zpI G this 2 4 (0)).bind fun G1 =>
  FMarket_fillFrom_L7 FU FU this p1 (0) G1
def FMarket_fillFrom (FU : Nat) (this : Nat) (p1 : Nat) (G : Hp) : Option (Unit × Hp) := zgd G this 2 (FMarket_fillFrom_b FU this p1 G)

def FMarket_dropStall_L42 (FU : Nat) : Nat → Nat → Nat → Int → Hp → Option (Unit × Hp)
  | 0, _, _, _, _ => none
  | n + 1, x0, x1, x2, G => (zaN G x1 20).bind fun v1 =>
    if x2 < v1 then
      (zgQ G x0 2 3).bind fun v2 =>
      (zaN G v2 20).bind fun v3 =>
      if x2 < v3 then
        (zgQ G x0 2 3).bind fun v4 =>
        (zaI G v4 20 x2).bind fun v5 =>
        (zaI G x1 20 x2).bind fun v6 =>
        (zck (v5 - v6)).bind fun v7 =>
        (zaS G v4 20 x2 v7).bind fun G8 =>
        (zck (x2 + (1))).bind fun v9 =>
        FMarket_dropStall_L42 FU n x0 x1 v9 G8
      else
        some ((), G)
    else
      some ((), G)
def FMarket_dropStall_b (FU : Nat) (this : Nat) (G : Hp) : Option (Unit × Hp) :=
  (zgI G this 2 4).bind fun v1 =>
  if v1 ≤ 0 then
    some ((), G)
  else
    (zgI G this 2 4).bind fun v2 =>
    (zgQ G this 2 1).bind fun v3 =>
    (zaN G v3 26).bind fun v4 =>
    if v2 ≤ v4 then
      (zgI G this 2 4).bind fun v5 =>
      (zck (v5 - (1))).bind fun v6 =>
      (zpI G this 2 4 v6).bind fun G7 =>
      (zgQ G7 this 2 1).bind fun v8 =>
      (zgI G7 this 2 4).bind fun v9 =>
      (zaQ G7 v8 26 v9).bind fun v10 =>
      FMarket_dropStall_L42 FU FU this v10 (0) G7
    else
      some ((), G)
def FMarket_dropStall (FU : Nat) (this : Nat) (G : Hp) : Option (Unit × Hp) := zgd G this 2 (FMarket_dropStall_b FU this G)

def FTown_doorsOf_b (FU : Nat) (this : Nat) (p1 : Int) (G : Hp) : Option Int :=
  (zgQ G this 10 0).bind fun v1 =>
  (FB_at FU v1 p1 G).bind fun v2 =>
  some v2
def FTown_doorsOf (FU : Nat) (this : Nat) (p1 : Int) (G : Hp) : Option Int := zgd G this 10 (FTown_doorsOf_b FU this p1 G)

def FMarket_takingsOf_L35 (FU : Nat) : Nat → Nat → Nat → Int → Int → Hp → Option Int
  | 0, _, _, _, _, _ => none
  | n + 1, x0, x2, x3, x4, G => (zaN G x2 20).bind fun v1 =>
    if x4 < v1 then
      (zgQ G x0 2 3).bind fun v2 =>
      (zaN G v2 20).bind fun v3 =>
      if x4 < v3 then
        (zgQ G x0 2 3).bind fun v4 =>
        (zaI G v4 20 x4).bind fun v5 =>
        (zaI G x2 20 x4).bind fun v6 =>
        if v6 = 0 then
          (zck (x4 + (1))).bind fun v7 =>
          FMarket_takingsOf_L35 FU n x0 x2 x3 v7 G
        else
          if v5 ≤ 0 then
            (zck (x4 + (1))).bind fun v8 =>
            FMarket_takingsOf_L35 FU n x0 x2 x3 v8 G
          else
            (zgQ G x0 2 0).bind fun v9 =>
            (FTown_doorsOf FU v9 x4 G).bind fun v10 =>
            (zgI G x0 2 5).bind fun v11 =>
            (zckL (v10 * v11)).bind fun v12 =>
            (zaI G x2 20 x4).bind fun v13 =>
            (zckL (v12 * v13)).bind fun v14 =>
            (zdvL v14 v5).bind fun v15 =>
            (zck v15).bind fun v16 =>
            (zck (x3 + v16)).bind fun v17 =>
            (zck (x4 + (1))).bind fun v18 =>
            FMarket_takingsOf_L35 FU n x0 x2 v17 v18 G
      else
        some x3
    else
      some x3
def FMarket_takingsOf_b (FU : Nat) (this : Nat) (p1 : Int) (G : Hp) : Option Int :=
  if p1 < 0 then
    some (0)
  else
    (zgI G this 2 4).bind fun v1 =>
    if p1 < v1 then
      (zgQ G this 2 1).bind fun v2 =>
      (zaN G v2 26).bind fun v3 =>
      if p1 < v3 then
        (zgQ G this 2 1).bind fun v4 =>
        (zaQ G v4 26 p1).bind fun v5 =>
        FMarket_takingsOf_L35 FU FU this v5 (0) (0) G
      else
        some (0)
    else
      some (0)
def FMarket_takingsOf (FU : Nat) (this : Nat) (p1 : Int) (G : Hp) : Option Int := zgd G this 2 (FMarket_takingsOf_b FU this p1 G)

def FMarket_takingsOfOwner_L4 (FU : Nat) : Nat → Nat → Int → Int → Int → Hp → Option Int
  | 0, _, _, _, _, _ => none
  | n + 1, x0, x1, x2, x3, G => (zgI G x0 2 4).bind fun v1 =>
    if x3 < v1 then
      (zgQ G x0 2 2).bind fun v2 =>
      (FB_at FU v2 x3 G).bind fun v3 =>
      if v3 = x1 then
        (FMarket_takingsOf FU x0 x3 G).bind fun v4 =>
        (zck (x2 + v4)).bind fun v5 =>
        (zck (x3 + (1))).bind fun v6 =>
        FMarket_takingsOfOwner_L4 FU n x0 x1 v5 v6 G
      else
        (zck (x3 + (1))).bind fun v7 =>
        FMarket_takingsOfOwner_L4 FU n x0 x1 x2 v7 G
    else
      some x2
def FMarket_takingsOfOwner_b (FU : Nat) (this : Nat) (p1 : Int) (G : Hp) : Option Int :=
  FMarket_takingsOfOwner_L4 FU FU this p1 (0) (0) G
def FMarket_takingsOfOwner (FU : Nat) (this : Nat) (p1 : Int) (G : Hp) : Option Int := zgd G this 2 (FMarket_takingsOfOwner_b FU this p1 G)

def FMonth_init (FU : Nat) (this : Nat) (p1 : Int) (p2 : Int) (p3 : Int) (G : Hp) : Option (Unit × Hp) :=
  (zpI G this 3 0 p1).bind fun G1 =>
  (zpI G1 this 3 1 p2).bind fun G2 =>
  (zpI G2 this 3 2 p3).bind fun G3 =>
  some ((), G3)

def FMonth_fallsShort_b (FU : Nat) (this : Nat) (p1 : Int) (G : Hp) : Option Int :=
  (zgI G this 3 0).bind fun v1 =>
  (zgI G this 3 1).bind fun v2 =>
  (zck (v2 * p1)).bind fun v3 =>
  if v1 < v3 then
    zrz (1)
  else
    (zgI G this 3 0).bind fun v4 =>
    (zgI G this 3 2).bind fun v5 =>
    if v4 < v5 then
      zrz (1)
    else
      zrz (0)
def FMonth_fallsShort (FU : Nat) (this : Nat) (p1 : Int) (G : Hp) : Option Int := zgd G this 3 (FMonth_fallsShort_b FU this p1 G)

def FMonth_payRoyalty_b (FU : Nat) (this : Nat) (p1 : Int) (G : Hp) : Option (Int × Hp) :=
  (zgI G this 3 3).bind fun v1 =>
  (zgI G this 3 5).bind fun v2 =>
  (zck (v1 - v2)).bind fun v3 =>
  (some (zmin p1 v3)).bind fun v4 =>
  (zgI G this 3 5).bind fun v5 =>
  (zck (v5 + v4)).bind fun v6 =>
  (zpI G this 3 5 v6).bind fun G7 =>
  some (v4, G7)
def FMonth_payRoyalty (FU : Nat) (this : Nat) (p1 : Int) (G : Hp) : Option (Int × Hp) := zgd G this 3 (FMonth_payRoyalty_b FU this p1 G)

def FMonth_payFund_b (FU : Nat) (this : Nat) (p1 : Int) (G : Hp) : Option (Int × Hp) :=
  (zgI G this 3 4).bind fun v1 =>
  (zgI G this 3 6).bind fun v2 =>
  (zck (v1 - v2)).bind fun v3 =>
  (some (zmin p1 v3)).bind fun v4 =>
  (zgI G this 3 6).bind fun v5 =>
  (zck (v5 + v4)).bind fun v6 =>
  (zpI G this 3 6 v6).bind fun G7 =>
  some (v4, G7)
def FMonth_payFund (FU : Nat) (this : Nat) (p1 : Int) (G : Hp) : Option (Int × Hp) := zgd G this 3 (FMonth_payFund_b FU this p1 G)

def FPacker_init (FU : Nat) (this : Nat) (G : Hp) : Option (Unit × Hp) :=
  zbA G 20 10 fun a1 G2 =>
  (zpR G2 this 4 0 a1).bind fun G3 =>
  zbA G3 20 10 fun a4 G5 =>
  (zpR G5 this 4 1 a4).bind fun G6 =>
  zbA G6 20 10 fun a7 G8 =>
  (zpR G8 this 4 2 a7).bind fun G9 =>
  zbA G9 20 10 fun a10 G11 =>
  (zpR G11 this 4 3 a10).bind fun G12 =>
  zbA G12 20 10 fun a13 G14 =>
  (zpR G14 this 4 4 a13).bind fun G15 =>
  zbA G15 20 10 fun a16 G17 =>
  (zpR G17 this 4 5 a16).bind fun G18 =>
  some ((), G18)

def FPacker_isListed_L2 (FU : Nat) : Nat → Nat → Int → Int → Hp → Option Int
  | 0, _, _, _, _ => none
  | n + 1, x0, x1, x2, G => (zgI G x0 4 6).bind fun v1 =>
    if x2 < v1 then
      (zgQ G x0 4 0).bind fun v2 =>
      (FB_at FU v2 x2 G).bind fun v3 =>
      if v3 = x1 then
        zrz (1)
      else
        (zck (x2 + (1))).bind fun v4 =>
        FPacker_isListed_L2 FU n x0 x1 v4 G
    else
      zrz (0)
def FPacker_isListed_b (FU : Nat) (this : Nat) (p1 : Int) (G : Hp) : Option Int :=
  FPacker_isListed_L2 FU FU this p1 (0) G
def FPacker_isListed (FU : Nat) (this : Nat) (p1 : Int) (G : Hp) : Option Int := zgd G this 4 (FPacker_isListed_b FU this p1 G)

def FPacker_addLoad_B77 (FU : Nat) (x0 : Nat) (x1 : Int) (x2 : Int) (x3 : Int) (G : Hp) : Option (Int × Hp) :=
  (zgQ G x0 4 0).bind fun v1 =>
  zb (FB_put FU v1 x3 x1 G) fun _ G2 =>
  (zgQ G2 x0 4 1).bind fun v3 =>
  zb (FB_put FU v3 x3 x2 G2) fun _ G4 =>
  (zgI G4 x0 4 6).bind fun v5 =>
  (zck (v5 + (1))).bind fun v6 =>
  (zpI G4 x0 4 6 v6).bind fun G7 =>
  (zgI G7 x0 4 6).bind fun v8 =>
  some (v8, G7)
def FPacker_addLoad_L17 (FU : Nat) : Nat → Nat → Int → Int → Int → Hp → Option (Int × Hp)
  | 0, _, _, _, _, _ => none
  | n + 1, x0, x1, x2, x3, G => if x3 ≤ 0 then
      FPacker_addLoad_B77 FU x0 x1 x2 x3 G
    else
      (zgQ G x0 4 0).bind fun v1 =>
      (zck (x3 - (1))).bind fun v2 =>
      (FB_at FU v1 v2 G).bind fun v3 =>
      if v3 ≤ x1 then
        FPacker_addLoad_B77 FU x0 x1 x2 x3 G
      else
        (zgQ G x0 4 0).bind fun v4 =>
        (zgQ G x0 4 0).bind fun v5 =>
        (zck (x3 - (1))).bind fun v6 =>
        (FB_at FU v5 v6 G).bind fun v7 =>
        zb (FB_put FU v4 x3 v7 G) fun _ G8 =>
        (zgQ G8 x0 4 1).bind fun v9 =>
        (zgQ G8 x0 4 1).bind fun v10 =>
        (zck (x3 - (1))).bind fun v11 =>
        (FB_at FU v10 v11 G8).bind fun v12 =>
        zb (FB_put FU v9 x3 v12 G8) fun _ G13 =>
        (zck (x3 + (-1))).bind fun v14 =>
        FPacker_addLoad_L17 FU n x0 x1 x2 v14 G13
def FPacker_addLoad_b (FU : Nat) (this : Nat) (p1 : Int) (p2 : Int) (G : Hp) : Option (Int × Hp) :=
  (zgI G this 4 6).bind fun v1 =>
  if v1 < (10) then
    (zgI G this 4 6).bind fun v2 =>
    FPacker_addLoad_L17 FU FU this p1 p2 v2 G
  else
    some ((-2), G)
def FPacker_addLoad (FU : Nat) (this : Nat) (p1 : Int) (p2 : Int) (G : Hp) : Option (Int × Hp) := zgd G this 4 (FPacker_addLoad_b FU this p1 p2 G)

def FPacker_canPack_L29 (FU : Nat) (rec : Nat → Int → Int → Int → Hp → Option (Int × Hp)) : Nat → Nat → Int → Int → Int → Int → Int → Hp → Option (Int × Hp)
  | 0, _, _, _, _, _, _, _ => none
  | n + 1, x0, x1, x2, x3, x4, x5, G => if x5 ≤ x2 then
      if x5 < x3 then
        (zgQ G x0 4 3).bind fun v1 =>
        (FB_at FU v1 x5 G).bind fun v2 =>
        (zck (v2 + x4)).bind fun v3 =>
        (zgI G x0 4 8).bind fun v4 =>
        if v3 ≤ v4 then
          (zgQ G x0 4 3).bind fun v5 =>
          (zgQ G x0 4 3).bind fun v6 =>
          (FB_at FU v6 x5 G).bind fun v7 =>
          (zck (v7 + x4)).bind fun v8 =>
          zb (FB_put FU v5 x5 v8 G) fun _ G9 =>
          (zgQ G9 x0 4 2).bind fun v10 =>
          zb (FB_put FU v10 x1 x5 G9) fun _ G11 =>
          (zck (x1 + (1))).bind fun v12 =>
          (zck (x5 + (1))).bind fun v13 =>
          (some (zmax x2 v13)).bind fun v14 =>
          zb (rec x0 v12 v14 x3 G11) fun v16 G15 =>
          if v16 = 0 then
            (zgQ G15 x0 4 3).bind fun v17 =>
            (zgQ G15 x0 4 3).bind fun v18 =>
            (FB_at FU v18 x5 G15).bind fun v19 =>
            (zck (v19 - x4)).bind fun v20 =>
            zb (FB_put FU v17 x5 v20 G15) fun _ G21 =>
            (zck (x5 + (1))).bind fun v22 =>
            FPacker_canPack_L29 FU rec n x0 x1 x2 x3 x4 v22 G21
          else
            (zrz (1)).bind fun v0 => some (v0, G15)
        else
          (zck (x5 + (1))).bind fun v23 =>
          FPacker_canPack_L29 FU rec n x0 x1 x2 x3 x4 v23 G
      else
        (zrz (0)).bind fun v0 => some (v0, G)
    else
      (zrz (0)).bind fun v0 => some (v0, G)
def FPacker_canPack_b (FU : Nat) (rec : Nat → Int → Int → Int → Hp → Option (Int × Hp)) (this : Nat) (p1 : Int) (p2 : Int) (p3 : Int) (G : Hp) : Option (Int × Hp) :=
  (zgI G this 4 6).bind fun v1 =>
  if p1 < v1 then
    if p1 < (10) then
      (zgQ G this 4 1).bind fun v2 =>
      (FB_at FU v2 p1 G).bind fun v3 =>
      FPacker_canPack_L29 FU rec FU this p1 p2 p3 v3 (0) G
    else
      (zrz (1)).bind fun v0 => some (v0, G)
  else
    (zrz (1)).bind fun v0 => some (v0, G)
def FPacker_canPack (FU : Nat) (rec : Nat → Int → Int → Int → Hp → Option (Int × Hp)) (this : Nat) (p1 : Int) (p2 : Int) (p3 : Int) (G : Hp) : Option (Int × Hp) := zgd G this 4 (FPacker_canPack_b FU rec this p1 p2 p3 G)
def FPacker_canPack_n (FU : Nat) : Nat → Nat → Int → Int → Int → Hp → Option (Int × Hp)
  | 0, _, _, _, _, _ => none
  | d + 1, this, p1, p2, p3, G => FPacker_canPack FU (FPacker_canPack_n FU d) this p1 p2 p3 G

def FPacker_fewestCarts_L12 (FU : Nat) (kL2 : Nat → Int → Hp → Option (Int × Hp)) : Nat → Nat → Int → Int → Hp → Option (Int × Hp)
  | 0, _, _, _, _ => none
  | n + 1, x0, x1, x2, G => (zgQ G x0 4 3).bind fun v1 =>
    (zaN G v1 20).bind fun v2 =>
    if x2 < v2 then
      (zgQ G x0 4 3).bind fun v3 =>
      (zaS G v3 20 x2 (0)).bind fun G4 =>
      (zck (x2 + (1))).bind fun v5 =>
      FPacker_fewestCarts_L12 FU kL2 n x0 x1 v5 G4
    else
      zb (FPacker_canPack_n FU 14 x0 (0) (0) x1 G) fun v7 G6 =>
      if v7 = 0 then
        (zck (x1 + (1))).bind fun v8 =>
        kL2 x0 v8 G6
      else
        some (x1, G6)
def FPacker_fewestCarts_L2 (FU : Nat) : Nat → Nat → Int → Hp → Option (Int × Hp)
  | 0, _, _, _ => none
  | n + 1, x0, x1, G => (zgI G x0 4 6).bind fun v1 =>
    if x1 ≤ v1 then
      FPacker_fewestCarts_L12 FU (FPacker_fewestCarts_L2 FU n) FU x0 x1 (0) G
    else
      some ((-4), G)
def FPacker_fewestCarts_b (FU : Nat) (this : Nat) (G : Hp) : Option (Int × Hp) :=
  FPacker_fewestCarts_L2 FU FU this (1) G
def FPacker_fewestCarts (FU : Nat) (this : Nat) (G : Hp) : Option (Int × Hp) := zgd G this 4 (FPacker_fewestCarts_b FU this G)

def FPacker_keepPacking_L10 (FU : Nat) : Nat → Nat → Int → Hp → Option (Unit × Hp)
  | 0, _, _, _ => none
  | n + 1, x0, x1, G => (zgI G x0 4 6).bind fun v1 =>
    if x1 < v1 then
      (zgQ G x0 4 4).bind fun v2 =>
      (zgQ G x0 4 0).bind fun v3 =>
      (FB_at FU v3 x1 G).bind fun v4 =>
      zb (FB_put FU v2 x1 v4 G) fun _ G5 =>
      (zgQ G5 x0 4 5).bind fun v6 =>
      (zgQ G5 x0 4 2).bind fun v7 =>
      (FB_at FU v7 x1 G5).bind fun v8 =>
      zb (FB_put FU v6 x1 v8 G5) fun _ G9 =>
      (zck (x1 + (1))).bind fun v10 =>
      FPacker_keepPacking_L10 FU n x0 v10 G9
    else
      some ((), G)
def FPacker_keepPacking_b (FU : Nat) (this : Nat) (G : Hp) : Option (Unit × Hp) :=
  (zgI G this 4 6).bind fun v1 =>
  (zpI G this 4 7 v1).bind fun G2 =>
  FPacker_keepPacking_L10 FU FU this (0) G2
def FPacker_keepPacking (FU : Nat) (this : Nat) (G : Hp) : Option (Unit × Hp) := zgd G this 4 (FPacker_keepPacking_b FU this G)

def FPacker_pack_b (FU : Nat) (this : Nat) (p1 : Int) (G : Hp) : Option (Int × Hp) :=
  (zgI G this 4 6).bind fun v1 =>
  if v1 = 0 then
    some ((-3), G)
  else
    (zpI G this 4 8 p1).bind fun G2 =>
    zb (FPacker_fewestCarts FU this G2) fun v4 G3 =>
    if v4 = (-4) then
      (zpI G3 this 4 6 (0)).bind fun G5 =>
      some (v4, G5)
    else
      zb (FPacker_keepPacking FU this G3) fun _ G6 =>
      (zpI G6 this 4 6 (0)).bind fun G7 =>
      some (v4, G7)
def FPacker_pack (FU : Nat) (this : Nat) (p1 : Int) (G : Hp) : Option (Int × Hp) := zgd G this 4 (FPacker_pack_b FU this p1 G)

def FPacker_cartOf_L2 (FU : Nat) : Nat → Nat → Int → Int → Hp → Option Int
  | 0, _, _, _, _ => none
  | n + 1, x0, x1, x2, G => (zgI G x0 4 7).bind fun v1 =>
    if x2 < v1 then
      (zgQ G x0 4 4).bind fun v2 =>
      (FB_at FU v2 x2 G).bind fun v3 =>
      if v3 = x1 then
        (zgQ G x0 4 5).bind fun v4 =>
        (FB_at FU v4 x2 G).bind fun v5 =>
        some v5
      else
        (zck (x2 + (1))).bind fun v6 =>
        FPacker_cartOf_L2 FU n x0 x1 v6 G
    else
      some (-1)
def FPacker_cartOf_b (FU : Nat) (this : Nat) (p1 : Int) (G : Hp) : Option Int :=
  FPacker_cartOf_L2 FU FU this p1 (0) G
def FPacker_cartOf (FU : Nat) (this : Nat) (p1 : Int) (G : Hp) : Option Int := zgd G this 4 (FPacker_cartOf_b FU this p1 G)

def FReader_init (FU : Nat) (this : Nat) (G : Hp) : Option (Unit × Hp) :=
  zbA G 20 120 fun a1 G2 =>
  (zpR G2 this 5 0 a1).bind fun G3 =>
  some ((), G3)

def FReader_next_b (FU : Nat) (this : Nat) (G : Hp) : Option Int :=
  (zgI G this 5 2).bind fun v1 =>
  if v1 < 0 then
    some (-1)
  else
    (zgI G this 5 2).bind fun v2 =>
    (zgI G this 5 1).bind fun v3 =>
    if v2 < v3 then
      (zgI G this 5 2).bind fun v4 =>
      (zgQ G this 5 0).bind fun v5 =>
      (zaN G v5 20).bind fun v6 =>
      if v4 < v6 then
        (zgQ G this 5 0).bind fun v7 =>
        (zgI G this 5 2).bind fun v8 =>
        (zaI G v7 20 v8).bind fun v9 =>
        some v9
      else
        some (-1)
    else
      some (-1)
def FReader_next (FU : Nat) (this : Nat) (G : Hp) : Option Int := zgd G this 5 (FReader_next_b FU this G)

def FReader_readNumber_L4 (FU : Nat) : Nat → Nat → Int → Int → Hp → Option (Int × Hp)
  | 0, _, _, _, _ => none
  | n + 1, x0, x1, x2, G => if x2 < (6) then
      (FReader_next FU x0 G).bind fun v1 =>
      if v1 < (48) then
        some (x1, G)
      else
        if v1 ≤ (57) then
          (some (zwr (x1 * (10)))).bind fun v2 =>
          (some (zwr (v2 + v1))).bind fun v3 =>
          (some (zwr (v3 - (48)))).bind fun v4 =>
          (zgI G x0 5 2).bind fun v5 =>
          (zck (v5 + (1))).bind fun v6 =>
          (zpI G x0 5 2 v6).bind fun G7 =>
          (zck (x2 + (1))).bind fun v8 =>
          FReader_readNumber_L4 FU n x0 v4 v8 G7
        else
          some (x1, G)
    else
      some (x1, G)
def FReader_readNumber_b (FU : Nat) (this : Nat) (G : Hp) : Option (Int × Hp) :=
  FReader_readNumber_L4 FU FU this (0) (0) G
def FReader_readNumber (FU : Nat) (this : Nat) (G : Hp) : Option (Int × Hp) := zgd G this 5 (FReader_readNumber_b FU this G)

def FReader_expect_b (FU : Nat) (this : Nat) (p1 : Int) (G : Hp) : Option (Unit × Hp) :=
  (zgI G this 5 3).bind fun v1 =>
  if v1 = 0 then
    (FReader_next FU this G).bind fun v2 =>
    if v2 = p1 then
      (zgI G this 5 2).bind fun v3 =>
      (zck (v3 + (1))).bind fun v4 =>
      (zpI G this 5 2 v4).bind fun G5 =>
      some ((), G5)
    else
      (zpZ G this 5 3 (1)).bind fun G6 =>
      some ((), G6)
  else
    some ((), G)
def FReader_expect (FU : Nat) (this : Nat) (p1 : Int) (G : Hp) : Option (Unit × Hp) := zgd G this 5 (FReader_expect_b FU this p1 G)

def FReader_readName_b (FU : Nat) (this : Nat) (p1 : Int) (G : Hp) : Option (Int × Hp) :=
  (zgI G this 5 2).bind fun v1 =>
  (zck (v1 + (1))).bind fun v2 =>
  (zpI G this 5 2 v2).bind fun G3 =>
  if p1 = 102 then
    (zgI G3 this 5 5).bind fun v4 =>
    some (v4, G3)
  else if p1 = 109 then
    (zgI G3 this 5 6).bind fun v5 =>
    some (v5, G3)
  else if p1 = 115 then
    (zgI G3 this 5 8).bind fun v6 =>
    some (v6, G3)
  else if p1 = 116 then
    (zgI G3 this 5 4).bind fun v7 =>
    some (v7, G3)
  else if p1 = 121 then
    (zgI G3 this 5 7).bind fun v8 =>
    some (v8, G3)
  else 
    (zgI G3 this 5 2).bind fun v9 =>
    (zck (v9 - (1))).bind fun v10 =>
    (zpI G3 this 5 2 v10).bind fun G11 =>
    (zpZ G11 this 5 3 (1)).bind fun G12 =>
    some ((0), G12)
def FReader_readName (FU : Nat) (this : Nat) (p1 : Int) (G : Hp) : Option (Int × Hp) := zgd G this 5 (FReader_readName_b FU this p1 G)

def FReader_readOperand_B69 (FU : Nat) (rec : Nat → Int → Hp → Option (Int × Hp)) (x0 : Nat) (x2 : Int) (G : Hp) : Option (Int × Hp) :=
  zb (FReader_readName FU x0 x2 G) fun v2 G1 =>
  some (v2, G1)
def FReader_readOperand_B31 (FU : Nat) (rec : Nat → Int → Hp → Option (Int × Hp)) (x0 : Nat) (x1 : Int) (x2 : Int) (G : Hp) : Option (Int × Hp) :=
  if x2 = (40) then
    if x1 < (8) then
      (zgI G x0 5 2).bind fun v1 =>
      (zck (v1 + (1))).bind fun v2 =>
      (zpI G x0 5 2 v2).bind fun G3 =>
      (zck (x1 + (1))).bind fun v4 =>
      zb (rec x0 v4 G3) fun v6 G5 =>
      zb (FReader_expect FU x0 (41) G5) fun _ G7 =>
      some (v6, G7)
    else
      FReader_readOperand_B69 FU rec x0 x2 G
  else
    FReader_readOperand_B69 FU rec x0 x2 G
def FReader_readOperand_b (FU : Nat) (rec : Nat → Int → Hp → Option (Int × Hp)) (this : Nat) (p1 : Int) (G : Hp) : Option (Int × Hp) :=
  (zgI G this 5 3).bind fun v1 =>
  if v1 = 0 then
    (FReader_next FU this G).bind fun v2 =>
    if v2 < (48) then
      FReader_readOperand_B31 FU rec this p1 v2 G
    else
      if v2 ≤ (57) then
        zb (FReader_readNumber FU this G) fun v4 G3 =>
        some (v4, G3)
      else
        FReader_readOperand_B31 FU rec this p1 v2 G
  else
    some ((0), G)
def FReader_readOperand (FU : Nat) (rec : Nat → Int → Hp → Option (Int × Hp)) (this : Nat) (p1 : Int) (G : Hp) : Option (Int × Hp) := zgd G this 5 (FReader_readOperand_b FU rec this p1 G)

def FReader_divide (FU : Nat) (p1 : Int) (p2 : Int) (G : Hp) : Option Int :=
  if p2 = 0 then
    some (0)
  else
    (zdw p1 p2).bind fun v1 =>
    some v1

def FReader_readProduct_B46 (FU : Nat) (rec : Nat → Int → Hp → Option (Int × Hp)) (kL8 : Nat → Int → Int → Int → Hp → Option (Int × Hp)) (x0 : Nat) (x1 : Int) (x2 : Int) (x3 : Int) (x4 : Int) (G : Hp) : Option (Int × Hp) :=
  (zgI G x0 5 2).bind fun v1 =>
  (zck (v1 + (1))).bind fun v2 =>
  (zpI G x0 5 2 v2).bind fun G3 =>
  zb (FReader_readOperand FU rec x0 x1 G3) fun v5 G4 =>
  if x4 = (42) then
    (some (zwr (x2 * v5))).bind fun v6 =>
    (zck (x3 + (1))).bind fun v7 =>
    kL8 x0 x1 v6 v7 G4
  else
    (FReader_divide FU x2 v5 G4).bind fun v8 =>
    (zck (x3 + (1))).bind fun v9 =>
    kL8 x0 x1 v8 v9 G4
def FReader_readProduct_L8 (FU : Nat) (rec : Nat → Int → Hp → Option (Int × Hp)) : Nat → Nat → Int → Int → Int → Hp → Option (Int × Hp)
  | 0, _, _, _, _, _ => none
  | n + 1, x0, x1, x2, x3, G => (zgI G x0 5 1).bind fun v1 =>
    if x3 < v1 then
      (zgI G x0 5 3).bind fun v2 =>
      if v2 = 0 then
        (FReader_next FU x0 G).bind fun v3 =>
        if v3 = (42) then
          FReader_readProduct_B46 FU rec (FReader_readProduct_L8 FU rec n) x0 x1 x2 x3 v3 G
        else
          if v3 = (47) then
            FReader_readProduct_B46 FU rec (FReader_readProduct_L8 FU rec n) x0 x1 x2 x3 v3 G
          else
            some (x2, G)
      else
        some (x2, G)
    else
      some (x2, G)
def FReader_readProduct_b (FU : Nat) (rec : Nat → Int → Hp → Option (Int × Hp)) (this : Nat) (p1 : Int) (G : Hp) : Option (Int × Hp) :=
  zb (FReader_readOperand FU rec this p1 G) fun v2 G1 =>
  FReader_readProduct_L8 FU rec FU this p1 v2 (0) G1
def FReader_readProduct (FU : Nat) (rec : Nat → Int → Hp → Option (Int × Hp)) (this : Nat) (p1 : Int) (G : Hp) : Option (Int × Hp) := zgd G this 5 (FReader_readProduct_b FU rec this p1 G)

def FReader_readSum_B46 (FU : Nat) (rec : Nat → Int → Hp → Option (Int × Hp)) (kL8 : Nat → Int → Int → Int → Hp → Option (Int × Hp)) (x0 : Nat) (x1 : Int) (x2 : Int) (x3 : Int) (x4 : Int) (G : Hp) : Option (Int × Hp) :=
  (zgI G x0 5 2).bind fun v1 =>
  (zck (v1 + (1))).bind fun v2 =>
  (zpI G x0 5 2 v2).bind fun G3 =>
  zb (FReader_readProduct FU rec x0 x1 G3) fun v5 G4 =>
  if x4 = (43) then
    (some (zwr (x2 + v5))).bind fun v6 =>
    (zck (x3 + (1))).bind fun v7 =>
    kL8 x0 x1 v6 v7 G4
  else
    (some (zwr (x2 - v5))).bind fun v8 =>
    (zck (x3 + (1))).bind fun v9 =>
    kL8 x0 x1 v8 v9 G4
def FReader_readSum_L8 (FU : Nat) (rec : Nat → Int → Hp → Option (Int × Hp)) : Nat → Nat → Int → Int → Int → Hp → Option (Int × Hp)
  | 0, _, _, _, _, _ => none
  | n + 1, x0, x1, x2, x3, G => (zgI G x0 5 1).bind fun v1 =>
    if x3 < v1 then
      (zgI G x0 5 3).bind fun v2 =>
      if v2 = 0 then
        (FReader_next FU x0 G).bind fun v3 =>
        if v3 = (43) then
          FReader_readSum_B46 FU rec (FReader_readSum_L8 FU rec n) x0 x1 x2 x3 v3 G
        else
          if v3 = (45) then
            FReader_readSum_B46 FU rec (FReader_readSum_L8 FU rec n) x0 x1 x2 x3 v3 G
          else
            some (x2, G)
      else
        some (x2, G)
    else
      some (x2, G)
def FReader_readSum_b (FU : Nat) (rec : Nat → Int → Hp → Option (Int × Hp)) (this : Nat) (p1 : Int) (G : Hp) : Option (Int × Hp) :=
  zb (FReader_readProduct FU rec this p1 G) fun v2 G1 =>
  FReader_readSum_L8 FU rec FU this p1 v2 (0) G1
def FReader_readSum (FU : Nat) (rec : Nat → Int → Hp → Option (Int × Hp)) (this : Nat) (p1 : Int) (G : Hp) : Option (Int × Hp) := zgd G this 5 (FReader_readSum_b FU rec this p1 G)
def FReader_readSum_n (FU : Nat) : Nat → Nat → Int → Hp → Option (Int × Hp)
  | 0, _, _, _ => none
  | d + 1, this, p1, G => FReader_readSum FU (FReader_readSum_n FU d) this p1 G

def FReader_compare (FU : Nat) (p1 : Int) (p2 : Int) (p3 : Int) (G : Hp) : Option Int :=
  if p2 = (60) then
    if p1 < p3 then
      zrz (1)
    else
      zrz (0)
  else
    if p2 = (62) then
      if p1 ≤ p3 then
        zrz (0)
      else
        zrz (1)
    else
      if p1 = p3 then
        zrz (1)
      else
        zrz (0)

def FReader_read_B137 (FU : Nat) (kL28 : Nat → Int → Int → Int → Int → Hp → Option (Int × Hp)) (x0 : Nat) (x2 : Int) (x3 : Int) (x4 : Int) (x5 : Int) (G : Hp) : Option (Int × Hp) :=
  (FReader_next FU x0 G).bind fun v1 =>
  if v1 = (-1) then
    some (x4, G)
  else
    zb (FReader_expect FU x0 (59) G) fun _ G2 =>
    (zck (x5 + (1))).bind fun v3 =>
    kL28 x0 x2 x3 x4 v3 G2
def FReader_read_B122 (FU : Nat) (kL28 : Nat → Int → Int → Int → Int → Hp → Option (Int × Hp)) (x0 : Nat) (x2 : Int) (x3 : Int) (x4 : Int) (x5 : Int) (x6 : Int) (x7 : Int) (G : Hp) : Option (Int × Hp) :=
  if x7 = 0 then
    FReader_read_B137 FU kL28 x0 x2 x3 x4 x5 G
  else
    if x3 = 0 then
      FReader_read_B137 FU kL28 x0 x2 (1) x6 x5 G
    else
      FReader_read_B137 FU kL28 x0 x2 x3 x4 x5 G
def FReader_read_B85 (FU : Nat) (kL28 : Nat → Int → Int → Int → Int → Hp → Option (Int × Hp)) (x0 : Nat) (x2 : Int) (x3 : Int) (x4 : Int) (x5 : Int) (x6 : Int) (x8 : Int) (G : Hp) : Option (Int × Hp) :=
  (zgI G x0 5 2).bind fun v1 =>
  (zck (v1 + (1))).bind fun v2 =>
  (zpI G x0 5 2 v2).bind fun G3 =>
  zb (FReader_readSum_n FU 12 x0 (0) G3) fun v5 G4 =>
  (FReader_compare FU x6 x8 v5 G4).bind fun v6 =>
  zb (FReader_expect FU x0 (44) G4) fun _ G7 =>
  zb (FReader_readSum_n FU 12 x0 (0) G7) fun v9 G8 =>
  FReader_read_B122 FU kL28 x0 x2 x3 x4 x5 v9 v6 G8
def FReader_read_L28 (FU : Nat) : Nat → Nat → Int → Int → Int → Int → Hp → Option (Int × Hp)
  | 0, _, _, _, _, _, _ => none
  | n + 1, x0, x2, x3, x4, x5, G => if x5 ≤ x2 then
      (zgI G x0 5 3).bind fun v1 =>
      if v1 = 0 then
        zb (FReader_readSum_n FU 12 x0 (0) G) fun v3 G2 =>
        (FReader_next FU x0 G2).bind fun v4 =>
        (zgI G2 x0 5 3).bind fun v5 =>
        if v5 = 0 then
          if v4 = (60) then
            FReader_read_B85 FU (FReader_read_L28 FU n) x0 x2 x3 x4 x5 v3 v4 G2
          else
            if v4 = (61) then
              FReader_read_B85 FU (FReader_read_L28 FU n) x0 x2 x3 x4 x5 v3 v4 G2
            else
              if v4 = (62) then
                FReader_read_B85 FU (FReader_read_L28 FU n) x0 x2 x3 x4 x5 v3 v4 G2
              else
                FReader_read_B122 FU (FReader_read_L28 FU n) x0 x2 x3 x4 x5 v3 (1) G2
        else
          FReader_read_B122 FU (FReader_read_L28 FU n) x0 x2 x3 x4 x5 v3 (1) G2
      else
        some (x4, G)
    else
      some (x4, G)
def FReader_read_b (FU : Nat) (this : Nat) (p1 : Nat) (p2 : Int) (G : Hp) : Option (Int × Hp) :=
  (zpR G this 5 0 p1).bind fun G1 =>
  (zpI G1 this 5 1 p2).bind fun G2 =>
  (zpI G2 this 5 2 (0)).bind fun G3 =>
  (zpZ G3 this 5 3 (0)).bind fun G4 =>
  FReader_read_L28 FU FU this p2 (0) (0) (0) G4
def FReader_read (FU : Nat) (this : Nat) (p1 : Nat) (p2 : Int) (G : Hp) : Option (Int × Hp) := zgd G this 5 (FReader_read_b FU this p1 p2 G)

def FShelf_init (FU : Nat) (this : Nat) (p1 : Nat) (G : Hp) : Option (Unit × Hp) :=
  zbA G 5 0 fun a1 G2 =>
  zb (FReader_init FU a1 G2) fun _ G3 =>
  (zpR G3 this 6 1 a1).bind fun G4 =>
  zbA G4 25 20 fun a5 G6 =>
  (zpR G6 this 6 2 a5).bind fun G7 =>
  zbA G7 20 120 fun a8 G9 =>
  (zpR G9 this 6 3 a8).bind fun G10 =>
  (zpR G10 this 6 0 p1).bind fun G11 =>
  some ((), G11)

def FShelf_addBytes_L16 (FU : Nat) : Nat → Nat → Int → Int → Int → Hp → Option (Int × Hp)
  | 0, _, _, _, _, _ => none
  | n + 1, x0, x1, x2, x3, G => if x3 < x1 then
      (zgQ G x0 6 3).bind fun v1 =>
      (zgI G x0 6 5).bind fun v2 =>
      (zck ((8) * x3)).bind fun v3 =>
      (some (zushr x2 v3)).bind fun v4 =>
      (some (zand v4 (255))).bind fun v5 =>
      zb (FB_put FU v1 v2 v5 G) fun _ G6 =>
      (zgI G6 x0 6 5).bind fun v7 =>
      (zck (v7 + (1))).bind fun v8 =>
      (zpI G6 x0 6 5 v8).bind fun G9 =>
      (zck (x3 + (1))).bind fun v10 =>
      FShelf_addBytes_L16 FU n x0 x1 x2 v10 G9
    else
      (zgI G x0 6 5).bind fun v11 =>
      some (v11, G)
def FShelf_addBytes_b (FU : Nat) (this : Nat) (p1 : Int) (p2 : Int) (G : Hp) : Option (Int × Hp) :=
  (zgI G this 6 5).bind fun v1 =>
  (zck (v1 + p1)).bind fun v2 =>
  if v2 ≤ (120) then
    FShelf_addBytes_L16 FU FU this p1 p2 (0) G
  else
    some ((-2), G)
def FShelf_addBytes (FU : Nat) (this : Nat) (p1 : Int) (p2 : Int) (G : Hp) : Option (Int × Hp) := zgd G this 6 (FShelf_addBytes_b FU this p1 p2 G)

def FText_init_L36 (FU : Nat) : Nat → Nat → Nat → Int → Int → Hp → Option (Unit × Hp)
  | 0, _, _, _, _, _ => none
  | n + 1, x0, x4, x5, x6, G => if x6 < x5 then
      (zgQ G x0 9 4).bind fun v1 =>
      (FB_at FU x4 x6 G).bind fun v2 =>
      zb (FB_put FU v1 x6 v2 G) fun _ G3 =>
      (zck (x6 + (1))).bind fun v4 =>
      FText_init_L36 FU n x0 x4 x5 v4 G3
    else
      some ((), G)
def FText_init (FU : Nat) (this : Nat) (p1 : Int) (p2 : Int) (p3 : Int) (p4 : Nat) (p5 : Int) (G : Hp) : Option (Unit × Hp) :=
  zbA G 20 120 fun a1 G2 =>
  (zpR G2 this 9 4 a1).bind fun G3 =>
  (zpI G3 this 9 0 p1).bind fun G4 =>
  (zpI G4 this 9 1 p2).bind fun G5 =>
  (zpI G5 this 9 2 p3).bind fun G6 =>
  (zpI G6 this 9 3 p5).bind fun G7 =>
  FText_init_L36 FU FU this p4 p5 (0) G7

def FShelf_makeText_b (FU : Nat) (this : Nat) (p1 : Int) (p2 : Int) (p3 : Int) (G : Hp) : Option (Int × Hp) :=
  (zgI G this 6 4).bind fun v1 =>
  if v1 < 0 then
    some ((-2), G)
  else
    (zgI G this 6 4).bind fun v2 =>
    (zgQ G this 6 2).bind fun v3 =>
    (zaN G v3 25).bind fun v4 =>
    if v2 < v4 then
      (zgI G this 6 5).bind fun v5 =>
      (zpI G this 6 5 (0)).bind fun G6 =>
      (zgQ G6 this 6 1).bind fun v7 =>
      (zgQ G6 this 6 3).bind fun v8 =>
      zb (FReader_read FU v7 v8 v5 G6) fun v10 G9 =>
      (zgQ G9 this 6 1).bind fun v11 =>
      (zgI G9 v11 5 3).bind fun v12 =>
      if v12 = 0 then
        (zgQ G9 this 6 2).bind fun v13 =>
        (zgI G9 this 6 4).bind fun v14 =>
        zbA G9 9 0 fun a15 G16 =>
        (zgQ G16 this 6 3).bind fun v17 =>
        zb (FText_init FU a15 p1 p2 p3 v17 v5 G16) fun _ G18 =>
        (zaSR G18 v13 25 9 v14 a15).bind fun G19 =>
        (zgI G19 this 6 4).bind fun v20 =>
        (zck (v20 + (1))).bind fun v21 =>
        (zpI G19 this 6 4 v21).bind fun G22 =>
        (zgI G22 this 6 4).bind fun v23 =>
        (zck (v23 - (1))).bind fun v24 =>
        some (v24, G22)
      else
        (zgQ G9 this 6 1).bind fun v25 =>
        (zgI G9 v25 5 2).bind fun v26 =>
        (zck ((-100) - v26)).bind fun v27 =>
        some (v27, G9)
    else
      some ((-2), G)
def FShelf_makeText (FU : Nat) (this : Nat) (p1 : Int) (p2 : Int) (p3 : Int) (G : Hp) : Option (Int × Hp) := zgd G this 6 (FShelf_makeText_b FU this p1 p2 p3 G)

def FShelf_textAt_b (FU : Nat) (this : Nat) (p1 : Int) (G : Hp) : Option (Option Nat) :=
  if p1 < 0 then
    some none
  else
    (zgI G this 6 4).bind fun v1 =>
    if p1 < v1 then
      (zgQ G this 6 2).bind fun v2 =>
      (zaN G v2 25).bind fun v3 =>
      if p1 < v3 then
        (zgQ G this 6 2).bind fun v4 =>
        (zaR G v4 25 p1).bind fun v5 =>
        some v5
      else
        some none
    else
      some none
def FShelf_textAt (FU : Nat) (this : Nat) (p1 : Int) (G : Hp) : Option (Option Nat) := zgd G this 6 (FShelf_textAt_b FU this p1 G)

def FShelf_numberInForce_L8 (FU : Nat) : Nat → Nat → Int → Int → Int → Int → Hp → Option Int
  | 0, _, _, _, _, _, _ => none
  | n + 1, x0, x1, x2, x3, x4, G => if x4 < 0 then
      some (-1)
    else
      (FShelf_textAt FU x0 x4 G).bind fun v1 =>
      zcase v1
        ((zck (x4 + (-1))).bind fun v3 =>
         FShelf_numberInForce_L8 FU n x0 x1 x2 x3 v3 G)
        (fun a2 => (zgI G a2 9 0).bind fun v4 =>
         if v4 = x1 then
           (zgI G a2 9 2).bind fun v5 =>
           if v5 ≤ x3 then
             (zgI G a2 9 1).bind fun v6 =>
             if v6 ≤ x2 then
               some x4
             else
               (zck (x4 + (-1))).bind fun v7 =>
               FShelf_numberInForce_L8 FU n x0 x1 x2 x3 v7 G
           else
             (zck (x4 + (-1))).bind fun v8 =>
             FShelf_numberInForce_L8 FU n x0 x1 x2 x3 v8 G
         else
           (zck (x4 + (-1))).bind fun v9 =>
           FShelf_numberInForce_L8 FU n x0 x1 x2 x3 v9 G)
def FShelf_numberInForce_b (FU : Nat) (this : Nat) (p1 : Int) (p2 : Int) (p3 : Int) (G : Hp) : Option Int :=
  (zgI G this 6 4).bind fun v1 =>
  (zck (v1 - (1))).bind fun v2 =>
  FShelf_numberInForce_L8 FU FU this p1 p2 p3 v2 G
def FShelf_numberInForce (FU : Nat) (this : Nat) (p1 : Int) (p2 : Int) (p3 : Int) (G : Hp) : Option Int := zgd G this 6 (FShelf_numberInForce_b FU this p1 p2 p3 G)

def FShop_monthAt_b (FU : Nat) (this : Nat) (p1 : Int) (G : Hp) : Option (Option Nat) :=
  if p1 < 0 then
    some none
  else
    (zgQ G this 7 4).bind fun v1 =>
    (zaN G v1 24).bind fun v2 =>
    if p1 < v2 then
      (zgQ G this 7 4).bind fun v3 =>
      (zaR G v3 24 p1).bind fun v4 =>
      some v4
    else
      some none
def FShop_monthAt (FU : Nat) (this : Nat) (p1 : Int) (G : Hp) : Option (Option Nat) := zgd G this 7 (FShop_monthAt_b FU this p1 G)

def FShelf_worth_B103 (FU : Nat) (x0 : Nat) (x2 : Nat) (x3 : Int) (x4 : Nat) (y0 : Nat) (y1 : Int) (G : Hp) : Option (Int × Hp) :=
  (zpI G y0 5 7 y1).bind fun G1 =>
  (zgQ G1 x0 6 1).bind fun v2 =>
  (zgQ G1 x0 6 0).bind fun v3 =>
  (zgI G1 x2 7 1).bind fun v4 =>
  (FChain_openOn FU v3 v4 x3 G1).bind fun v5 =>
  (zpI G1 v2 5 8 v5).bind fun G6 =>
  (zgQ G6 x0 6 1).bind fun v7 =>
  (zgQ G6 x4 9 4).bind fun v8 =>
  (zgI G6 x4 9 3).bind fun v9 =>
  zb (FReader_read FU v7 v8 v9 G6) fun v11 G10 =>
  (some (zmin (1000000) v11)).bind fun v12 =>
  (some (zmax (0) v12)).bind fun v13 =>
  some (v13, G10)
def FShelf_worth_B63 (FU : Nat) (x0 : Nat) (x2 : Nat) (x3 : Int) (x4 : Nat) (y0 : Nat) (y1 : Int) (G : Hp) : Option (Int × Hp) :=
  (zpI G y0 5 5 y1).bind fun G1 =>
  (zgQ G1 x0 6 1).bind fun v2 =>
  (zdv x3 (30)).bind fun v3 =>
  (zpI G1 v2 5 6 v3).bind fun G4 =>
  (zgQ G4 x0 6 1).bind fun v5 =>
  (zgI G4 x2 7 3).bind fun v6 =>
  if x3 < v6 then
    FShelf_worth_B103 FU x0 x2 x3 x4 v5 (0) G4
  else
    (zgI G4 x2 7 3).bind fun v7 =>
    (zck (x3 - v7)).bind fun v8 =>
    (zdv v8 (360)).bind fun v9 =>
    FShelf_worth_B103 FU x0 x2 x3 x4 v5 v9 G4
def FShelf_worth_B42 (FU : Nat) (x0 : Nat) (x2 : Nat) (x3 : Int) (x4 : Nat) (x5 : Option Nat) (y0 : Nat) (y1 : Int) (G : Hp) : Option (Int × Hp) :=
  (zpI G y0 5 4 y1).bind fun G1 =>
  (zgQ G1 x0 6 1).bind fun v2 =>
  zcase x5
    (FShelf_worth_B63 FU x0 x2 x3 x4 v2 (0) G1)
    (fun a3 => (zgI G1 a3 3 1).bind fun v4 =>
     FShelf_worth_B63 FU x0 x2 x3 x4 v2 v4 G1)
def FShelf_worth_b (FU : Nat) (this : Nat) (p1 : Int) (p2 : Nat) (p3 : Int) (G : Hp) : Option (Int × Hp) :=
  (FShelf_textAt FU this p1 G).bind fun v1 =>
  zcase v1
    (some ((0), G))
    (fun a2 => (zdv p3 (30)).bind fun v3 =>
     (FShop_monthAt FU p2 v3 G).bind fun v4 =>
     (zgQ G this 6 1).bind fun v5 =>
     zcase v4
       (FShelf_worth_B42 FU this p2 p3 a2 none v5 (0) G)
       (fun a6 => (zgI G a6 3 0).bind fun v7 =>
        FShelf_worth_B42 FU this p2 p3 a2 (some a6) v5 v7 G))
def FShelf_worth (FU : Nat) (this : Nat) (p1 : Int) (p2 : Nat) (p3 : Int) (G : Hp) : Option (Int × Hp) := zgd G this 6 (FShelf_worth_b FU this p1 p2 p3 G)

def FShop_init (FU : Nat) (this : Nat) (p1 : Int) (p2 : Int) (p3 : Int) (p4 : Int) (G : Hp) : Option (Unit × Hp) :=
  zbA G 24 333 fun a1 G2 =>
  (zpR G2 this 7 4 a1).bind fun G3 =>
  (zpI G3 this 7 5 (-1)).bind fun G4 =>
  (zpI G4 this 7 11 (-1)).bind fun G5 =>
  (zpI G5 this 7 0 p1).bind fun G6 =>
  (zpI G6 this 7 1 p2).bind fun G7 =>
  (zpI G7 this 7 2 p3).bind fun G8 =>
  (zpI G8 this 7 3 p4).bind fun G9 =>
  some ((), G9)

def FShop_keepMonth_b (FU : Nat) (this : Nat) (p1 : Int) (p2 : Nat) (G : Hp) : Option (Unit × Hp) :=
  if p1 < 0 then
    some ((), G)
  else
    (zgQ G this 7 4).bind fun v1 =>
    (zaN G v1 24).bind fun v2 =>
    if p1 < v2 then
      (zgQ G this 7 4).bind fun v3 =>
      (zaSR G v3 24 3 p1 p2).bind fun G4 =>
      some ((), G4)
    else
      some ((), G)
def FShop_keepMonth (FU : Nat) (this : Nat) (p1 : Int) (p2 : Nat) (G : Hp) : Option (Unit × Hp) := zgd G this 7 (FShop_keepMonth_b FU this p1 p2 G)

def FShop_charge_b (FU : Nat) (this : Nat) (p1 : Nat) (p2 : Int) (p3 : Int) (G : Hp) : Option (Unit × Hp) :=
  (zpI G p1 3 3 p2).bind fun G1 =>
  (zpI G1 p1 3 4 p3).bind fun G2 =>
  (zgI G2 this 7 9).bind fun v3 =>
  (zck (p2 + p3)).bind fun v4 =>
  (zck (v3 + v4)).bind fun v5 =>
  (zpI G2 this 7 9 v5).bind fun G6 =>
  some ((), G6)
def FShop_charge (FU : Nat) (this : Nat) (p1 : Nat) (p2 : Int) (p3 : Int) (G : Hp) : Option (Unit × Hp) := zgd G this 7 (FShop_charge_b FU this p1 p2 p3 G)

def FShop_settle_B113 (FU : Nat) (x0 : Nat) (x2 : Int) (x3 : Int) (G : Hp) : Option (Int × Hp) :=
  (zgI G x0 7 9).bind fun v1 =>
  if v1 = 0 then
    zb (FShop_endNotice FU x0 (1) x2 G) fun _ G2 =>
    some (x3, G2)
  else
    some (x3, G)
def FShop_settle_L15 (FU : Nat) : Nat → Nat → Int → Int → Int → Hp → Option (Int × Hp)
  | 0, _, _, _, _, _ => none
  | n + 1, x0, x2, x3, x4, G => (zgQ G x0 7 4).bind fun v1 =>
    (zaN G v1 24).bind fun v2 =>
    if x4 < v2 then
      (zgI G x0 7 10).bind fun v3 =>
      if v3 ≤ 0 then
        FShop_settle_B113 FU x0 x2 x3 G
      else
        (zgQ G x0 7 4).bind fun v4 =>
        (zaR G v4 24 x4).bind fun v5 =>
        zcase v5
          ((zck (x4 + (1))).bind fun v7 =>
           FShop_settle_L15 FU n x0 x2 x3 v7 G)
          (fun a6 => (zgI G x0 7 10).bind fun v8 =>
           zb (FMonth_payRoyalty FU a6 v8 G) fun v10 G9 =>
           (zgI G9 x0 7 10).bind fun v11 =>
           (zck (v11 - v10)).bind fun v12 =>
           zb (FMonth_payFund FU a6 v12 G9) fun v14 G13 =>
           (zgI G13 x0 7 10).bind fun v15 =>
           (zck (v10 + v14)).bind fun v16 =>
           (zck (v15 - v16)).bind fun v17 =>
           (zpI G13 x0 7 10 v17).bind fun G18 =>
           (zgI G18 x0 7 9).bind fun v19 =>
           (zck (v10 + v14)).bind fun v20 =>
           (zck (v19 - v20)).bind fun v21 =>
           (zpI G18 x0 7 9 v21).bind fun G22 =>
           (zck (x3 + v14)).bind fun v23 =>
           (zck (x4 + (1))).bind fun v24 =>
           FShop_settle_L15 FU n x0 x2 v23 v24 G22)
    else
      FShop_settle_B113 FU x0 x2 x3 G
def FShop_settle_b (FU : Nat) (this : Nat) (p1 : Int) (p2 : Int) (G : Hp) : Option (Int × Hp) :=
  (zgI G this 7 10).bind fun v1 =>
  (zck (v1 + p1)).bind fun v2 =>
  (zpI G this 7 10 v2).bind fun G3 =>
  FShop_settle_L15 FU FU this p2 (0) (0) G3
def FShop_settle (FU : Nat) (this : Nat) (p1 : Int) (p2 : Int) (G : Hp) : Option (Int × Hp) := zgd G this 7 (FShop_settle_b FU this p1 p2 G)

def FShop_balance_b (FU : Nat) (this : Nat) (G : Hp) : Option Int :=
  (zgI G this 7 9).bind fun v1 =>
  (zgI G this 7 10).bind fun v2 =>
  (zck (v1 - v2)).bind fun v3 =>
  some v3
def FShop_balance (FU : Nat) (this : Nat) (G : Hp) : Option Int := zgd G this 7 (FShop_balance_b FU this G)

def FShop_shortMonthsUpTo_L8 (FU : Nat) : Nat → Nat → Int → Int → Int → Int → Hp → Option Int
  | 0, _, _, _, _, _, _ => none
  | n + 1, x0, x2, x3, x4, x5, G => if x5 < 0 then
      some x4
    else
      if x3 < (6) then
        (FShop_monthAt FU x0 x5 G).bind fun v1 =>
        zcase v1
          ((zck (x5 + (-1))).bind fun v3 =>
           FShop_shortMonthsUpTo_L8 FU n x0 x2 x3 x4 v3 G)
          (fun a2 => (zck (x3 + (1))).bind fun v4 =>
           (FMonth_fallsShort FU a2 x2 G).bind fun v5 =>
           if v5 = 0 then
             (zck (x5 + (-1))).bind fun v6 =>
             FShop_shortMonthsUpTo_L8 FU n x0 x2 v4 x4 v6 G
           else
             (zck (x4 + (1))).bind fun v7 =>
             (zck (x5 + (-1))).bind fun v8 =>
             FShop_shortMonthsUpTo_L8 FU n x0 x2 v4 v7 v8 G)
      else
        some x4
def FShop_shortMonthsUpTo_b (FU : Nat) (this : Nat) (p1 : Int) (p2 : Int) (G : Hp) : Option Int :=
  FShop_shortMonthsUpTo_L8 FU FU this p2 (0) (0) p1 G
def FShop_shortMonthsUpTo (FU : Nat) (this : Nat) (p1 : Int) (p2 : Int) (G : Hp) : Option Int := zgd G this 7 (FShop_shortMonthsUpTo_b FU this p1 p2 G)

def FShop_giveNotice_b (FU : Nat) (this : Nat) (p1 : Int) (p2 : Int) (G : Hp) : Option (Unit × Hp) :=
  (zpI G this 7 11 p1).bind fun G1 =>
  (zpI G1 this 7 12 p2).bind fun G2 =>
  (zpI G2 this 7 13 (0)).bind fun G3 =>
  (zpI G3 this 7 14 (-1)).bind fun G4 =>
  some ((), G4)
def FShop_giveNotice (FU : Nat) (this : Nat) (p1 : Int) (p2 : Int) (G : Hp) : Option (Unit × Hp) := zgd G this 7 (FShop_giveNotice_b FU this p1 p2 G)

def FSearch_init (FU : Nat) (this : Nat) (p1 : Nat) (p2 : Nat) (p3 : Nat) (G : Hp) : Option (Unit × Hp) :=
  zbA G 20 10 fun a1 G2 =>
  (zpR G2 this 8 3 a1).bind fun G3 =>
  zbA G3 20 40 fun a4 G5 =>
  (zpR G5 this 8 4 a4).bind fun G6 =>
  zbA G6 20 3 fun a7 G8 =>
  (zpR G8 this 8 5 a7).bind fun G9 =>
  zbA G9 20 3 fun a10 G11 =>
  (zpR G11 this 8 6 a10).bind fun G12 =>
  (zpR G12 this 8 0 p1).bind fun G13 =>
  (zpR G13 this 8 1 p2).bind fun G14 =>
  (zpR G14 this 8 2 p3).bind fun G15 =>
  some ((), G15)

def FSearch_foundAt_b (FU : Nat) (this : Nat) (p1 : Int) (G : Hp) : Option Int :=
  if p1 < 0 then
    some (-1)
  else
    (zgI G this 8 8).bind fun v1 =>
    if p1 < v1 then
      (zgQ G this 8 6).bind fun v2 =>
      (FB_at FU v2 p1 G).bind fun v3 =>
      some v3
    else
      some (-1)
def FSearch_foundAt (FU : Nat) (this : Nat) (p1 : Int) (G : Hp) : Option Int := zgd G this 8 (FSearch_foundAt_b FU this p1 G)

def FB_ownerIn (FU : Nat) (p1 : Int) (G : Hp) : Option Int :=
  (zdv p1 (100)).bind fun v1 =>
  some v1

def FB_likeIn (FU : Nat) (p1 : Int) (G : Hp) : Option Int :=
  (zrm p1 (100)).bind fun v1 =>
  some v1

def FTown_siteAt_b (FU : Nat) (this : Nat) (p1 : Int) (G : Hp) : Option Int :=
  (zgQ G this 10 3).bind fun v1 =>
  (FB_at FU v1 p1 G).bind fun v2 =>
  some v2
def FTown_siteAt (FU : Nat) (this : Nat) (p1 : Int) (G : Hp) : Option Int := zgd G this 10 (FTown_siteAt_b FU this p1 G)

def FSearch_collectFree_L7 (FU : Nat) : Nat → Nat → Int → Hp → Option (Unit × Hp)
  | 0, _, _, _ => none
  | n + 1, x0, x1, G => (zgQ G x0 8 0).bind fun v1 =>
    (zgI G v1 10 5).bind fun v2 =>
    if x1 < v2 then
      (zgQ G x0 8 0).bind fun v3 =>
      (FTown_siteAt FU v3 x1 G).bind fun v4 =>
      (zgQ G x0 8 1).bind fun v5 =>
      (FChain_isTaken FU v5 v4 G).bind fun v6 =>
      if v6 = 0 then
        (zgQ G x0 8 1).bind fun v7 =>
        (zgI G x0 8 10).bind fun v8 =>
        (FChain_isBarred FU v7 v4 v8 G).bind fun v9 =>
        if v9 = 0 then
          (zgQ G x0 8 3).bind fun v10 =>
          (zgI G x0 8 7).bind fun v11 =>
          zb (FB_put FU v10 v11 v4 G) fun _ G12 =>
          (zgI G12 x0 8 7).bind fun v13 =>
          (zck (v13 + (1))).bind fun v14 =>
          (zpI G12 x0 8 7 v14).bind fun G15 =>
          (zck (x1 + (1))).bind fun v16 =>
          FSearch_collectFree_L7 FU n x0 v16 G15
        else
          (zck (x1 + (1))).bind fun v17 =>
          FSearch_collectFree_L7 FU n x0 v17 G
      else
        (zck (x1 + (1))).bind fun v18 =>
        FSearch_collectFree_L7 FU n x0 v18 G
    else
      some ((), G)
def FSearch_collectFree_b (FU : Nat) (this : Nat) (G : Hp) : Option (Unit × Hp) :=
  (zpI G this 8 7 (0)).bind fun G1 =>
  FSearch_collectFree_L7 FU FU this (0) G1
def FSearch_collectFree (FU : Nat) (this : Nat) (G : Hp) : Option (Unit × Hp) := zgd G this 8 (FSearch_collectFree_b FU this G)

def FB_lossInThousandths (FU : Nat) (p1 : Int) (p2 : Int) (G : Hp) : Option Int :=
  if p1 ≤ 0 then
    some (0)
  else
    if p2 < p1 then
      (zck (p1 - p2)).bind fun v1 =>
      (zckL (v1 * (1000))).bind fun v2 =>
      (zckL (v2 + p1)).bind fun v3 =>
      (zckL (v3 - (1))).bind fun v4 =>
      (zdvL v4 p1).bind fun v5 =>
      (zck v5).bind fun v6 =>
      some v6
    else
      some (0)

def FSearch_harmsTooMuch_L2 (FU : Nat) : Nat → Nat → Int → Hp → Option Int
  | 0, _, _, _ => none
  | n + 1, x0, x1, G => (zgQ G x0 8 1).bind fun v1 =>
    (zgI G v1 0 2).bind fun v2 =>
    if x1 < v2 then
      (zgQ G x0 8 1).bind fun v3 =>
      (FChain_shopAt FU v3 x1 G).bind fun v4 =>
      zcase v4
        ((zck (x1 + (1))).bind fun v6 =>
         FSearch_harmsTooMuch_L2 FU n x0 v6 G)
        (fun a5 => (zgI G a5 7 1).bind fun v7 =>
         (zgI G x0 8 10).bind fun v8 =>
         if v7 = v8 then
           (zck (x1 + (1))).bind fun v9 =>
           FSearch_harmsTooMuch_L2 FU n x0 v9 G
         else
           (zgQ G x0 8 4).bind fun v10 =>
           (FB_at FU v10 x1 G).bind fun v11 =>
           (zgQ G x0 8 2).bind fun v12 =>
           (FMarket_takingsOf FU v12 x1 G).bind fun v13 =>
           (FB_lossInThousandths FU v11 v13 G).bind fun v14 =>
           (zgI G x0 8 12).bind fun v15 =>
           if v14 ≤ v15 then
             (zck (x1 + (1))).bind fun v16 =>
             FSearch_harmsTooMuch_L2 FU n x0 v16 G
           else
             zrz (1))
    else
      zrz (0)
def FSearch_harmsTooMuch_b (FU : Nat) (this : Nat) (G : Hp) : Option Int :=
  FSearch_harmsTooMuch_L2 FU FU this (0) G
def FSearch_harmsTooMuch (FU : Nat) (this : Nat) (G : Hp) : Option Int := zgd G this 8 (FSearch_harmsTooMuch_b FU this G)

def FSearch_weigh_L44 (FU : Nat) : Nat → Nat → Int → Hp → Option (Unit × Hp)
  | 0, _, _, _ => none
  | n + 1, x0, x2, G => (zgI G x0 8 9).bind fun v1 =>
    if x2 < v1 then
      (zgQ G x0 8 6).bind fun v2 =>
      (zgQ G x0 8 5).bind fun v3 =>
      (FB_at FU v3 x2 G).bind fun v4 =>
      zb (FB_put FU v2 x2 v4 G) fun _ G5 =>
      (zck (x2 + (1))).bind fun v6 =>
      FSearch_weigh_L44 FU n x0 v6 G5
    else
      some ((), G)
def FSearch_weigh_b (FU : Nat) (this : Nat) (G : Hp) : Option (Unit × Hp) :=
  (FSearch_harmsTooMuch FU this G).bind fun v1 =>
  if v1 = 0 then
    (zgQ G this 8 2).bind fun v2 =>
    (zgI G this 8 10).bind fun v3 =>
    (FMarket_takingsOfOwner FU v2 v3 G).bind fun v4 =>
    (zgI G this 8 13).bind fun v5 =>
    if v4 ≤ v5 then
      some ((), G)
    else
      (zpI G this 8 13 v4).bind fun G6 =>
      (zgI G6 this 8 9).bind fun v7 =>
      (zpI G6 this 8 8 v7).bind fun G8 =>
      FSearch_weigh_L44 FU FU this (0) G8
  else
    some ((), G)
def FSearch_weigh (FU : Nat) (this : Nat) (G : Hp) : Option (Unit × Hp) := zgd G this 8 (FSearch_weigh_b FU this G)

def FSearch_choose_L20 (FU : Nat) (rec : Nat → Int → Int → Hp → Option (Unit × Hp)) : Nat → Nat → Int → Int → Hp → Option (Unit × Hp)
  | 0, _, _, _, _ => none
  | n + 1, x0, x1, x3, G => (zgI G x0 8 7).bind fun v1 =>
    if x3 < v1 then
      (zgQ G x0 8 3).bind fun v2 =>
      (FB_at FU v2 x3 G).bind fun v3 =>
      (zgQ G x0 8 5).bind fun v4 =>
      zb (FB_put FU v4 x1 v3 G) fun _ G5 =>
      (zgQ G5 x0 8 2).bind fun v6 =>
      (zgI G5 x0 8 11).bind fun v7 =>
      (zgI G5 x0 8 10).bind fun v8 =>
      zb (FMarket_addStall FU v6 v3 v7 v8 G5) fun _ G9 =>
      (zck (x1 + (1))).bind fun v10 =>
      (zck (x3 + (1))).bind fun v11 =>
      zb (rec x0 v10 v11 G9) fun _ G12 =>
      (zgQ G12 x0 8 2).bind fun v13 =>
      zb (FMarket_dropStall FU v13 G12) fun _ G14 =>
      (zck (x3 + (1))).bind fun v15 =>
      FSearch_choose_L20 FU rec n x0 x1 v15 G14
    else
      some ((), G)
def FSearch_choose_B13 (FU : Nat) (rec : Nat → Int → Int → Hp → Option (Unit × Hp)) (x0 : Nat) (G : Hp) : Option (Unit × Hp) :=
  zb (FSearch_weigh FU x0 G) fun _ G1 =>
  some ((), G1)
def FSearch_choose_b (FU : Nat) (rec : Nat → Int → Int → Hp → Option (Unit × Hp)) (this : Nat) (p1 : Int) (p2 : Int) (G : Hp) : Option (Unit × Hp) :=
  (zgI G this 8 9).bind fun v1 =>
  if p1 < v1 then
    if p1 < (3) then
      FSearch_choose_L20 FU rec FU this p1 p2 G
    else
      FSearch_choose_B13 FU rec this G
  else
    FSearch_choose_B13 FU rec this G
def FSearch_choose (FU : Nat) (rec : Nat → Int → Int → Hp → Option (Unit × Hp)) (this : Nat) (p1 : Int) (p2 : Int) (G : Hp) : Option (Unit × Hp) := zgd G this 8 (FSearch_choose_b FU rec this p1 p2 G)
def FSearch_choose_n (FU : Nat) : Nat → Nat → Int → Int → Hp → Option (Unit × Hp)
  | 0, _, _, _, _ => none
  | d + 1, this, p1, p2, G => FSearch_choose FU (FSearch_choose_n FU d) this p1 p2 G

def FSearch_findBest_L46 (FU : Nat) : Nat → Nat → Int → Hp → Option (Int × Hp)
  | 0, _, _, _ => none
  | n + 1, x0, x4, G => (zgQ G x0 8 4).bind fun v1 =>
    (zaN G v1 20).bind fun v2 =>
    if x4 < v2 then
      (zgQ G x0 8 4).bind fun v3 =>
      (zgQ G x0 8 2).bind fun v4 =>
      (FMarket_takingsOf FU v4 x4 G).bind fun v5 =>
      (zaS G v3 20 x4 v5).bind fun G6 =>
      (zck (x4 + (1))).bind fun v7 =>
      FSearch_findBest_L46 FU n x0 v7 G6
    else
      zb (FSearch_collectFree FU x0 G) fun _ G8 =>
      zb (FSearch_choose_n FU 8 x0 (0) (0) G8) fun _ G9 =>
      (zgI G9 x0 8 13).bind fun v10 =>
      some (v10, G9)
def FSearch_findBest_b (FU : Nat) (this : Nat) (p1 : Int) (p2 : Int) (p3 : Int) (G : Hp) : Option (Int × Hp) :=
  (zpI G this 8 9 p1).bind fun G1 =>
  (FB_ownerIn FU p2 G1).bind fun v2 =>
  (zpI G1 this 8 10 v2).bind fun G3 =>
  (FB_likeIn FU p2 G3).bind fun v4 =>
  (zpI G3 this 8 11 v4).bind fun G5 =>
  (zpI G5 this 8 12 p3).bind fun G6 =>
  (zpI G6 this 8 13 (-4)).bind fun G7 =>
  (zgQ G7 this 8 2).bind fun v8 =>
  (zgQ G7 this 8 1).bind fun v9 =>
  zb (FMarket_fillFrom FU v8 v9 G7) fun _ G10 =>
  FSearch_findBest_L46 FU FU this (0) G10
def FSearch_findBest (FU : Nat) (this : Nat) (p1 : Int) (p2 : Int) (p3 : Int) (G : Hp) : Option (Int × Hp) := zgd G this 8 (FSearch_findBest_b FU this p1 p2 p3 G)

def FTown_init_L64 (FU : Nat) (kL46 : Nat → Int → Hp → Option (Unit × Hp)) : Nat → Nat → Int → Nat → Int → Hp → Option (Unit × Hp)
  | 0, _, _, _, _, _ => none
  | n + 1, x0, x1, x2, x3, G => (zaN G x2 20).bind fun v1 =>
    if x3 < v1 then
      if x1 = x3 then
        (zaS G x2 20 x3 (0)).bind fun G2 =>
        (zck (x3 + (1))).bind fun v3 =>
        FTown_init_L64 FU kL46 n x0 x1 x2 v3 G2
      else
        (zaS G x2 20 x3 (-1)).bind fun G4 =>
        (zck (x3 + (1))).bind fun v5 =>
        FTown_init_L64 FU kL46 n x0 x1 x2 v5 G4
    else
      (zck (x1 + (1))).bind fun v6 =>
      kL46 x0 v6 G
def FTown_init_L46 (FU : Nat) : Nat → Nat → Int → Hp → Option (Unit × Hp)
  | 0, _, _, _ => none
  | n + 1, x0, x1, G => (zgQ G x0 10 2).bind fun v1 =>
    (zaN G v1 26).bind fun v2 =>
    if x1 < v2 then
      (zgQ G x0 10 2).bind fun v3 =>
      (zaQ G v3 26 x1).bind fun v4 =>
      FTown_init_L64 FU (FTown_init_L46 FU n) FU x0 x1 v4 (0) G
    else
      some ((), G)
def FTown_init (FU : Nat) (this : Nat) (G : Hp) : Option (Unit × Hp) :=
  zbA G 20 30 fun a1 G2 =>
  (zpR G2 this 10 0 a1).bind fun G3 =>
  zbM G3 30 30 fun a4 G5 =>
  (zpR G5 this 10 1 a4).bind fun G6 =>
  zbM G6 30 30 fun a7 G8 =>
  (zpR G8 this 10 2 a7).bind fun G9 =>
  zbA G9 20 10 fun a10 G11 =>
  (zpR G11 this 10 3 a10).bind fun G12 =>
  FTown_init_L46 FU FU this (0) G12

def FTown_hasPlace_b (FU : Nat) (this : Nat) (p1 : Int) (G : Hp) : Option Int :=
  if p1 < 0 then
    zrz (0)
  else
    (zgI G this 10 4).bind fun v1 =>
    if p1 < v1 then
      zrz (1)
    else
      zrz (0)
def FTown_hasPlace (FU : Nat) (this : Nat) (p1 : Int) (G : Hp) : Option Int := zgd G this 10 (FTown_hasPlace_b FU this p1 G)

def FTown_addPlace_b (FU : Nat) (this : Nat) (p1 : Int) (G : Hp) : Option (Int × Hp) :=
  (zgI G this 10 4).bind fun v1 =>
  if v1 < (30) then
    (zgQ G this 10 0).bind fun v2 =>
    (zgI G this 10 4).bind fun v3 =>
    zb (FB_put FU v2 v3 p1 G) fun _ G4 =>
    (zgI G4 this 10 4).bind fun v5 =>
    (zck (v5 + (1))).bind fun v6 =>
    (zpI G4 this 10 4 v6).bind fun G7 =>
    (zgI G7 this 10 4).bind fun v8 =>
    (zck (v8 - (1))).bind fun v9 =>
    some (v9, G7)
  else
    some ((-2), G)
def FTown_addPlace (FU : Nat) (this : Nat) (p1 : Int) (G : Hp) : Option (Int × Hp) := zgd G this 10 (FTown_addPlace_b FU this p1 G)

def FTown_setCell (FU : Nat) (p1 : Nat) (p2 : Int) (p3 : Int) (p4 : Int) (G : Hp) : Option (Unit × Hp) :=
  if p2 < 0 then
    some ((), G)
  else
    (zaN G p1 26).bind fun v1 =>
    if p2 < v1 then
      (zaQ G p1 26 p2).bind fun v2 =>
      zb (FB_put FU v2 p3 p4 G) fun _ G3 =>
      some ((), G3)
    else
      some ((), G)

def FTown_sumOf (FU : Nat) (p1 : Int) (p2 : Int) (p3 : Int) (G : Hp) : Option Int :=
  if p1 = (-1) then
    some (-1)
  else
    if p3 = (-1) then
      some (-1)
    else
      (zck (p1 + p2)).bind fun v1 =>
      (zck (v1 + p3)).bind fun v2 =>
      some v2

def FTown_offerWay_B25 (FU : Nat) (x0 : Nat) (x1 : Int) (x2 : Int) (x3 : Int) (G : Hp) : Option (Unit × Hp) :=
  (zgQ G x0 10 2).bind fun v1 =>
  zb (FTown_setCell FU v1 x1 x2 x3 G) fun _ G2 =>
  some ((), G2)
def FTown_offerWay_b (FU : Nat) (this : Nat) (p1 : Int) (p2 : Int) (p3 : Int) (G : Hp) : Option (Unit × Hp) :=
  (FTown_wayBetween FU this p1 p2 G).bind fun v1 =>
  if p3 = (-1) then
    some ((), G)
  else
    if v1 = (-1) then
      FTown_offerWay_B25 FU this p1 p2 p3 G
    else
      if p3 < v1 then
        FTown_offerWay_B25 FU this p1 p2 p3 G
      else
        some ((), G)
def FTown_offerWay (FU : Nat) (this : Nat) (p1 : Int) (p2 : Int) (p3 : Int) (G : Hp) : Option (Unit × Hp) := zgd G this 10 (FTown_offerWay_b FU this p1 p2 p3 G)

def FTown_addStreet_L60 (FU : Nat) (kL48 : Nat → Int → Int → Int → Int → Hp → Option (Int × Hp)) : Nat → Nat → Int → Int → Int → Int → Int → Hp → Option (Int × Hp)
  | 0, _, _, _, _, _, _, _ => none
  | n + 1, x0, x1, x2, x3, x5, x6, G => (zgI G x0 10 4).bind fun v1 =>
    if x6 < v1 then
      (FTown_wayBetween FU x0 x5 x1 G).bind fun v2 =>
      (FTown_wayBetween FU x0 x2 x6 G).bind fun v3 =>
      (FTown_sumOf FU v2 x3 v3 G).bind fun v4 =>
      zb (FTown_offerWay FU x0 x5 x6 v4 G) fun _ G5 =>
      (FTown_wayBetween FU x0 x5 x2 G5).bind fun v6 =>
      (FTown_wayBetween FU x0 x1 x6 G5).bind fun v7 =>
      (FTown_sumOf FU v6 x3 v7 G5).bind fun v8 =>
      zb (FTown_offerWay FU x0 x5 x6 v8 G5) fun _ G9 =>
      (zck (x6 + (1))).bind fun v10 =>
      FTown_addStreet_L60 FU kL48 n x0 x1 x2 x3 x5 v10 G9
    else
      (zck (x5 + (1))).bind fun v11 =>
      kL48 x0 x1 x2 x3 v11 G
def FTown_addStreet_L48 (FU : Nat) : Nat → Nat → Int → Int → Int → Int → Hp → Option (Int × Hp)
  | 0, _, _, _, _, _, _ => none
  | n + 1, x0, x1, x2, x3, x5, G => (zgI G x0 10 4).bind fun v1 =>
    if x5 < v1 then
      FTown_addStreet_L60 FU (FTown_addStreet_L48 FU n) FU x0 x1 x2 x3 x5 (0) G
    else
      some (x3, G)
def FTown_addStreet_B25 (FU : Nat) (x0 : Nat) (x1 : Int) (x2 : Int) (x3 : Int) (G : Hp) : Option (Int × Hp) :=
  (zgQ G x0 10 1).bind fun v1 =>
  zb (FTown_setCell FU v1 x1 x2 x3 G) fun _ G2 =>
  (zgQ G2 x0 10 1).bind fun v3 =>
  zb (FTown_setCell FU v3 x2 x1 x3 G2) fun _ G4 =>
  FTown_addStreet_L48 FU FU x0 x1 x2 x3 (0) G4
def FTown_addStreet_b (FU : Nat) (this : Nat) (p1 : Int) (p2 : Int) (p3 : Int) (G : Hp) : Option (Int × Hp) :=
  (zgQ G this 10 1).bind fun v1 =>
  (FTown_cell FU v1 p1 p2 G).bind fun v2 =>
  if v2 ≤ 0 then
    FTown_addStreet_B25 FU this p1 p2 p3 G
  else
    if v2 ≤ p3 then
      some (v2, G)
    else
      FTown_addStreet_B25 FU this p1 p2 p3 G
def FTown_addStreet (FU : Nat) (this : Nat) (p1 : Int) (p2 : Int) (p3 : Int) (G : Hp) : Option (Int × Hp) := zgd G this 10 (FTown_addStreet_b FU this p1 p2 p3 G)

def FTown_isSite_L2 (FU : Nat) : Nat → Nat → Int → Int → Hp → Option Int
  | 0, _, _, _, _ => none
  | n + 1, x0, x1, x2, G => (zgI G x0 10 5).bind fun v1 =>
    if x2 < v1 then
      (zgQ G x0 10 3).bind fun v2 =>
      (FB_at FU v2 x2 G).bind fun v3 =>
      if v3 = x1 then
        zrz (1)
      else
        (zck (x2 + (1))).bind fun v4 =>
        FTown_isSite_L2 FU n x0 x1 v4 G
    else
      zrz (0)
def FTown_isSite_b (FU : Nat) (this : Nat) (p1 : Int) (G : Hp) : Option Int :=
  FTown_isSite_L2 FU FU this p1 (0) G
def FTown_isSite (FU : Nat) (this : Nat) (p1 : Int) (G : Hp) : Option Int := zgd G this 10 (FTown_isSite_b FU this p1 G)

def FTown_addSite_b (FU : Nat) (this : Nat) (p1 : Int) (G : Hp) : Option (Int × Hp) :=
  (zgI G this 10 5).bind fun v1 =>
  if v1 < (10) then
    (zgQ G this 10 3).bind fun v2 =>
    (zgI G this 10 5).bind fun v3 =>
    zb (FB_put FU v2 v3 p1 G) fun _ G4 =>
    (zgI G4 this 10 5).bind fun v5 =>
    (zck (v5 + (1))).bind fun v6 =>
    (zpI G4 this 10 5 v6).bind fun G7 =>
    (zgI G7 this 10 5).bind fun v8 =>
    some (v8, G7)
  else
    some ((-2), G)
def FTown_addSite (FU : Nat) (this : Nat) (p1 : Int) (G : Hp) : Option (Int × Hp) := zgd G this 10 (FTown_addSite_b FU this p1 G)

def FM_init_L337 (FU : Nat) : Nat → Nat → Int → Hp → Option (Unit × Hp)
  | 0, _, _, _ => none
  | n + 1, x0, x1, G => if x1 < (40) then
      (zgQ G x0 12 12).bind fun v1 =>
      (zaS G v1 20 x1 (-1)).bind fun G2 =>
      (zgQ G2 x0 12 43).bind fun v3 =>
      (zaS G2 v3 20 x1 (-1)).bind fun G4 =>
      (zgQ G4 x0 12 51).bind fun v5 =>
      (zaS G4 v5 20 x1 (-1)).bind fun G6 =>
      (zck (x1 + (1))).bind fun v7 =>
      FM_init_L337 FU n x0 v7 G6
    else
      some ((), G)
def FM_init (FU : Nat) (this : Nat) (G : Hp) : Option (Unit × Hp) :=
  zbA G 20 30 fun a1 G2 =>
  (zpR G2 this 12 1 a1).bind fun G3 =>
  zbA G3 20 900 fun a4 G5 =>
  (zpR G5 this 12 3 a4).bind fun G6 =>
  zbA G6 20 900 fun a7 G8 =>
  (zpR G8 this 12 4 a7).bind fun G9 =>
  (zpI G9 this 12 6 (10)).bind fun G10 =>
  (zpI G10 this 12 7 (4)).bind fun G11 =>
  zbA G11 20 43 fun a12 G13 =>
  (zpR G13 this 12 8 a12).bind fun G14 =>
  zbA G14 20 43 fun a15 G16 =>
  (zpR G16 this 12 9 a15).bind fun G17 =>
  zbA G17 20 43 fun a18 G19 =>
  (zpR G19 this 12 10 a18).bind fun G20 =>
  zbA G20 20 40 fun a21 G22 =>
  (zpR G22 this 12 11 a21).bind fun G23 =>
  zbA G23 20 40 fun a24 G25 =>
  (zpR G25 this 12 12 a24).bind fun G26 =>
  zbA G26 20 40 fun a27 G28 =>
  (zpR G28 this 12 13 a27).bind fun G29 =>
  zbA G29 20 40 fun a30 G31 =>
  (zpR G31 this 12 14 a30).bind fun G32 =>
  zbA G32 20 10 fun a33 G34 =>
  (zpR G34 this 12 17 a33).bind fun G35 =>
  zbA G35 20 3 fun a36 G37 =>
  (zpR G37 this 12 19 a36).bind fun G38 =>
  zbA G38 20 3 fun a39 G40 =>
  (zpR G40 this 12 20 a39).bind fun G41 =>
  zbA G41 22 40 fun a42 G43 =>
  (zpR G43 this 12 23 a42).bind fun G44 =>
  zbA G44 20 120 fun a45 G46 =>
  (zpR G46 this 12 24 a45).bind fun G47 =>
  zbA G47 20 2400 fun a48 G49 =>
  (zpR G49 this 12 26 a48).bind fun G50 =>
  zbA G50 20 20 fun a51 G52 =>
  (zpR G52 this 12 27 a51).bind fun G53 =>
  zbA G53 20 20 fun a54 G55 =>
  (zpR G55 this 12 28 a54).bind fun G56 =>
  zbA G56 20 20 fun a57 G58 =>
  (zpR G58 this 12 29 a57).bind fun G59 =>
  zbA G59 20 20 fun a60 G61 =>
  (zpR G61 this 12 30 a60).bind fun G62 =>
  zbA G62 20 5 fun a63 G64 =>
  (zpR G64 this 12 32 a63).bind fun G65 =>
  zbA G65 21 13320 fun a66 G67 =>
  (zpR G67 this 12 33 a66).bind fun G68 =>
  zbA G68 20 13320 fun a69 G70 =>
  (zpR G70 this 12 34 a69).bind fun G71 =>
  zbA G71 20 13320 fun a72 G73 =>
  (zpR G73 this 12 35 a72).bind fun G74 =>
  zbA G74 20 13320 fun a75 G76 =>
  (zpR G76 this 12 36 a75).bind fun G77 =>
  zbA G77 20 13320 fun a78 G79 =>
  (zpR G79 this 12 37 a78).bind fun G80 =>
  zbA G80 20 13320 fun a81 G82 =>
  (zpR G82 this 12 38 a81).bind fun G83 =>
  zbA G83 20 13320 fun a84 G85 =>
  (zpR G85 this 12 39 a84).bind fun G86 =>
  zbA G86 20 13320 fun a87 G88 =>
  (zpR G88 this 12 40 a87).bind fun G89 =>
  zbA G89 20 40 fun a90 G91 =>
  (zpR G91 this 12 41 a90).bind fun G92 =>
  zbA G92 20 40 fun a93 G94 =>
  (zpR G94 this 12 43 a93).bind fun G95 =>
  zbA G95 20 40 fun a96 G97 =>
  (zpR G97 this 12 44 a96).bind fun G98 =>
  zbA G98 20 40 fun a99 G100 =>
  (zpR G100 this 12 45 a99).bind fun G101 =>
  zbA G101 20 40 fun a102 G103 =>
  (zpR G103 this 12 46 a102).bind fun G104 =>
  zbA G104 20 40 fun a105 G106 =>
  (zpR G106 this 12 47 a105).bind fun G107 =>
  zbA G107 20 40 fun a108 G109 =>
  (zpR G109 this 12 48 a108).bind fun G110 =>
  zbA G110 20 40 fun a111 G112 =>
  (zpR G112 this 12 50 a111).bind fun G113 =>
  zbA G113 20 40 fun a114 G115 =>
  (zpR G115 this 12 51 a114).bind fun G116 =>
  zbA G116 20 10 fun a117 G118 =>
  (zpR G118 this 12 52 a117).bind fun G119 =>
  FM_init_L337 FU FU this (0) G119

def FM_within (FU : Nat) (p1 : Int) (p2 : Int) (p3 : Int) (G : Hp) : Option Int :=
  if p1 < p2 then
    zrz (0)
  else
    if p1 ≤ p3 then
      zrz (1)
    else
      zrz (0)

def FM_isPlace_b (FU : Nat) (this : Nat) (p1 : Int) (G : Hp) : Option Int :=
  if p1 < 0 then
    zrz (0)
  else
    (zgI G this 12 2).bind fun v1 =>
    if p1 < v1 then
      zrz (1)
    else
      zrz (0)
def FM_isPlace (FU : Nat) (this : Nat) (p1 : Int) (G : Hp) : Option Int := zgd G this 12 (FM_isPlace_b FU this p1 G)

def FM_isShop_b (FU : Nat) (this : Nat) (p1 : Int) (G : Hp) : Option Int :=
  if p1 < 0 then
    zrz (0)
  else
    (zgI G this 12 15).bind fun v1 =>
    if p1 < v1 then
      zrz (1)
    else
      zrz (0)
def FM_isShop (FU : Nat) (this : Nat) (p1 : Int) (G : Hp) : Option Int := zgd G this 12 (FM_isShop_b FU this p1 G)

def FM_isOpen_b (FU : Nat) (this : Nat) (p1 : Int) (G : Hp) : Option Int :=
  (zgQ G this 12 12).bind fun v1 =>
  (zaI G v1 20 p1).bind fun v2 =>
  if v2 < 0 then
    zrz (1)
  else
    zrz (0)
def FM_isOpen (FU : Nat) (this : Nat) (p1 : Int) (G : Hp) : Option Int := zgd G this 12 (FM_isOpen_b FU this p1 G)

def FM_isDay (FU : Nat) (p1 : Int) (G : Hp) : Option Int :=
  (FM_within FU p1 (0) (9999) G).bind fun v1 =>
  zrz v1

def FM_isMonth (FU : Nat) (p1 : Int) (G : Hp) : Option Int :=
  (FM_within FU p1 (0) (332) G).bind fun v1 =>
  zrz v1

def FM_place_b (FU : Nat) (this : Nat) (p1 : Int) (G : Hp) : Option (Int × Hp) :=
  (FM_within FU p1 (0) (999) G).bind fun v1 =>
  if v1 = 0 then
    some ((-1), G)
  else
    (zgI G this 12 2).bind fun v2 =>
    if v2 = (30) then
      some ((-2), G)
    else
      (zgQ G this 12 1).bind fun v3 =>
      (zgI G this 12 2).bind fun v4 =>
      (zaS G v3 20 v4 p1).bind fun G5 =>
      (zgI G5 this 12 2).bind fun v6 =>
      (zck (v6 + (1))).bind fun v7 =>
      (zpI G5 this 12 2 v7).bind fun G8 =>
      (zpZ G8 this 12 5 (0)).bind fun G9 =>
      (zgI G9 this 12 2).bind fun v10 =>
      (zck (v10 - (1))).bind fun v11 =>
      some (v11, G9)
def FM_place (FU : Nat) (this : Nat) (p1 : Int) (G : Hp) : Option (Int × Hp) := zgd G this 12 (FM_place_b FU this p1 G)

def FM_street_B63 (FU : Nat) (x0 : Nat) (x1 : Int) (x2 : Int) (y0 : Int) (G : Hp) : Option (Int × Hp) :=
  (zgQ G x0 12 3).bind fun v1 =>
  (zck ((30) * x1)).bind fun v2 =>
  (zck (v2 + x2)).bind fun v3 =>
  (zaS G v1 20 v3 y0).bind fun G4 =>
  (zgQ G4 x0 12 3).bind fun v5 =>
  (zck ((30) * x2)).bind fun v6 =>
  (zck (v6 + x1)).bind fun v7 =>
  (zaS G4 v5 20 v7 y0).bind fun G8 =>
  (zpZ G8 x0 12 5 (0)).bind fun G9 =>
  some (y0, G9)
def FM_street_B62 (FU : Nat) (x0 : Nat) (x1 : Int) (x2 : Int) (x3 : Int) (G : Hp) : Option (Int × Hp) :=
  FM_street_B63 FU x0 x1 x2 x3 G
def FM_street_b (FU : Nat) (this : Nat) (p1 : Int) (p2 : Int) (p3 : Int) (G : Hp) : Option (Int × Hp) :=
  (FM_isPlace FU this p1 G).bind fun v1 =>
  if v1 = 0 then
    some ((-1), G)
  else
    (FM_isPlace FU this p2 G).bind fun v2 =>
    if v2 = 0 then
      some ((-1), G)
    else
      if p1 = p2 then
        some ((-1), G)
      else
        (FM_within FU p3 (1) (99) G).bind fun v3 =>
        if v3 = 0 then
          some ((-1), G)
        else
          (zgQ G this 12 3).bind fun v4 =>
          (zck ((30) * p1)).bind fun v5 =>
          (zck (v5 + p2)).bind fun v6 =>
          (zaI G v4 20 v6).bind fun v7 =>
          if v7 ≤ 0 then
            FM_street_B62 FU this p1 p2 p3 G
          else
            if v7 < p3 then
              FM_street_B63 FU this p1 p2 v7 G
            else
              FM_street_B62 FU this p1 p2 p3 G
def FM_street (FU : Nat) (this : Nat) (p1 : Int) (p2 : Int) (p3 : Int) (G : Hp) : Option (Int × Hp) := zgd G this 12 (FM_street_b FU this p1 p2 p3 G)

def FM_findWays_L20 (FU : Nat) (kL10 : Nat → Int → Hp → Option (Unit × Hp)) : Nat → Nat → Int → Int → Hp → Option (Unit × Hp)
  | 0, _, _, _, _ => none
  | n + 1, x0, x1, x2, G => (zgI G x0 12 2).bind fun v1 =>
    if x2 < v1 then
      (zgQ G x0 12 3).bind fun v2 =>
      (zck ((30) * x1)).bind fun v3 =>
      (zck (v3 + x2)).bind fun v4 =>
      (zaI G v2 20 v4).bind fun v5 =>
      (zgQ G x0 12 4).bind fun v6 =>
      (zck ((30) * x1)).bind fun v7 =>
      (zck (v7 + x2)).bind fun v8 =>
      if x1 = x2 then
        (zaS G v6 20 v8 (0)).bind fun G9 =>
        (zck (x2 + (1))).bind fun v10 =>
        FM_findWays_L20 FU kL10 n x0 x1 v10 G9
      else
        if v5 ≤ 0 then
          (zaS G v6 20 v8 (1000000)).bind fun G11 =>
          (zck (x2 + (1))).bind fun v12 =>
          FM_findWays_L20 FU kL10 n x0 x1 v12 G11
        else
          (zaS G v6 20 v8 v5).bind fun G13 =>
          (zck (x2 + (1))).bind fun v14 =>
          FM_findWays_L20 FU kL10 n x0 x1 v14 G13
    else
      (zck (x1 + (1))).bind fun v15 =>
      kL10 x0 v15 G
def FM_findWays_L104 (FU : Nat) (kL84 : Nat → Int → Hp → Option (Unit × Hp)) (kL94 : Nat → Int → Int → Hp → Option (Unit × Hp)) : Nat → Nat → Int → Int → Int → Hp → Option (Unit × Hp)
  | 0, _, _, _, _, _ => none
  | n + 1, x0, x1, x2, x3, G => (zgI G x0 12 2).bind fun v1 =>
    if x3 < v1 then
      (zgQ G x0 12 4).bind fun v2 =>
      (zck ((30) * x2)).bind fun v3 =>
      (zck (v3 + x1)).bind fun v4 =>
      (zaI G v2 20 v4).bind fun v5 =>
      (zgQ G x0 12 4).bind fun v6 =>
      (zck ((30) * x1)).bind fun v7 =>
      (zck (v7 + x3)).bind fun v8 =>
      (zaI G v6 20 v8).bind fun v9 =>
      (zck (v5 + v9)).bind fun v10 =>
      (zgQ G x0 12 4).bind fun v11 =>
      (zck ((30) * x2)).bind fun v12 =>
      (zck (v12 + x3)).bind fun v13 =>
      (zaI G v11 20 v13).bind fun v14 =>
      if v10 < v14 then
        (zgQ G x0 12 4).bind fun v15 =>
        (zck ((30) * x2)).bind fun v16 =>
        (zck (v16 + x3)).bind fun v17 =>
        (zaS G v15 20 v17 v10).bind fun G18 =>
        (zck (x3 + (1))).bind fun v19 =>
        FM_findWays_L104 FU kL84 kL94 n x0 x1 x2 v19 G18
      else
        (zck (x3 + (1))).bind fun v20 =>
        FM_findWays_L104 FU kL84 kL94 n x0 x1 x2 v20 G
    else
      (zck (x2 + (1))).bind fun v21 =>
      kL94 x0 x1 v21 G
def FM_findWays_L94 (FU : Nat) (kL84 : Nat → Int → Hp → Option (Unit × Hp)) : Nat → Nat → Int → Int → Hp → Option (Unit × Hp)
  | 0, _, _, _, _ => none
  | n + 1, x0, x1, x2, G => (zgI G x0 12 2).bind fun v1 =>
    if x2 < v1 then
      FM_findWays_L104 FU kL84 (FM_findWays_L94 FU kL84 n) FU x0 x1 x2 (0) G
    else
      (zck (x1 + (1))).bind fun v2 =>
      kL84 x0 v2 G
def FM_findWays_L84 (FU : Nat) : Nat → Nat → Int → Hp → Option (Unit × Hp)
  | 0, _, _, _ => none
  | n + 1, x0, x1, G => (zgI G x0 12 2).bind fun v1 =>
    if x1 < v1 then
      FM_findWays_L94 FU (FM_findWays_L84 FU n) FU x0 x1 (0) G
    else
      (zpZ G x0 12 5 (1)).bind fun G2 =>
      some ((), G2)
def FM_findWays_L10 (FU : Nat) : Nat → Nat → Int → Hp → Option (Unit × Hp)
  | 0, _, _, _ => none
  | n + 1, x0, x1, G => (zgI G x0 12 2).bind fun v1 =>
    if x1 < v1 then
      FM_findWays_L20 FU (FM_findWays_L10 FU n) FU x0 x1 (0) G
    else
      FM_findWays_L84 FU FU x0 (0) G
def FM_findWays_b (FU : Nat) (this : Nat) (G : Hp) : Option (Unit × Hp) :=
  (zgI G this 12 5).bind fun v1 =>
  if v1 = 0 then
    FM_findWays_L10 FU FU this (0) G
  else
    some ((), G)
def FM_findWays (FU : Nat) (this : Nat) (G : Hp) : Option (Unit × Hp) := zgd G this 12 (FM_findWays_b FU this G)

def FM_wayOf_b (FU : Nat) (this : Nat) (p1 : Int) (p2 : Int) (G : Hp) : Option (Int × Hp) :=
  zb (FM_findWays FU this G) fun _ G1 =>
  (zgQ G1 this 12 4).bind fun v2 =>
  (zck ((30) * p1)).bind fun v3 =>
  (zck (v3 + p2)).bind fun v4 =>
  (zaI G1 v2 20 v4).bind fun v5 =>
  some (v5, G1)
def FM_wayOf (FU : Nat) (this : Nat) (p1 : Int) (p2 : Int) (G : Hp) : Option (Int × Hp) := zgd G this 12 (FM_wayOf_b FU this p1 p2 G)

def FM_way_b (FU : Nat) (this : Nat) (p1 : Int) (p2 : Int) (G : Hp) : Option (Int × Hp) :=
  (FM_isPlace FU this p1 G).bind fun v1 =>
  if v1 = 0 then
    some ((-1), G)
  else
    (FM_isPlace FU this p2 G).bind fun v2 =>
    if v2 = 0 then
      some ((-1), G)
    else
      zb (FM_wayOf FU this p1 p2 G) fun v4 G3 =>
      if v4 < (1000000) then
        some (v4, G3)
      else
        some ((-4), G3)
def FM_way (FU : Nat) (this : Nat) (p1 : Int) (p2 : Int) (G : Hp) : Option (Int × Hp) := zgd G this 12 (FM_way_b FU this p1 p2 G)

def FM_runs_b (FU : Nat) (this : Nat) (p1 : Int) (G : Hp) : Option Int :=
  (zgQ G this 12 43).bind fun v1 =>
  (zaI G v1 20 p1).bind fun v2 =>
  if v2 < 0 then
    zrz (0)
  else
    (zgQ G this 12 45).bind fun v3 =>
    (zaI G v3 20 p1).bind fun v4 =>
    if v4 = 0 then
      zrz (1)
    else
      zrz (0)
def FM_runs (FU : Nat) (this : Nat) (p1 : Int) (G : Hp) : Option Int := zgd G this 12 (FM_runs_b FU this p1 G)

def FM_owedOf_L14 (FU : Nat) : Nat → Nat → Int → Int → Int → Hp → Option Int
  | 0, _, _, _, _, _ => none
  | n + 1, x0, x1, x2, x3, G => (zck ((333) * x1)).bind fun v1 =>
    (zck (v1 + (333))).bind fun v2 =>
    if x3 < v2 then
      (zgQ G x0 12 37).bind fun v3 =>
      (zaI G v3 20 x3).bind fun v4 =>
      (zgQ G x0 12 39).bind fun v5 =>
      (zaI G v5 20 x3).bind fun v6 =>
      (zck (v4 - v6)).bind fun v7 =>
      (zgQ G x0 12 38).bind fun v8 =>
      (zaI G v8 20 x3).bind fun v9 =>
      (zck (v7 + v9)).bind fun v10 =>
      (zgQ G x0 12 40).bind fun v11 =>
      (zaI G v11 20 x3).bind fun v12 =>
      (zck (v10 - v12)).bind fun v13 =>
      (zck (x2 + v13)).bind fun v14 =>
      (zck (x3 + (1))).bind fun v15 =>
      FM_owedOf_L14 FU n x0 x1 v14 v15 G
    else
      some x2
def FM_owedOf_b (FU : Nat) (this : Nat) (p1 : Int) (G : Hp) : Option Int :=
  (zgQ G this 12 41).bind fun v1 =>
  (zaI G v1 20 p1).bind fun v2 =>
  (zck (-v2)).bind fun v3 =>
  (zck ((333) * p1)).bind fun v4 =>
  FM_owedOf_L14 FU FU this p1 v3 v4 G
def FM_owedOf (FU : Nat) (this : Nat) (p1 : Int) (G : Hp) : Option Int := zgd G this 12 (FM_owedOf_b FU this p1 G)

def FM_endNotice_b (FU : Nat) (this : Nat) (p1 : Int) (p2 : Int) (G : Hp) : Option (Unit × Hp) :=
  (zgQ G this 12 45).bind fun v1 =>
  (zaS G v1 20 p1 p2).bind fun G2 =>
  (zgQ G2 this 12 46).bind fun v3 =>
  (zgI G2 this 12 0).bind fun v4 =>
  (zaS G2 v3 20 p1 v4).bind fun G5 =>
  some ((), G5)
def FM_endNotice (FU : Nat) (this : Nat) (p1 : Int) (p2 : Int) (G : Hp) : Option (Unit × Hp) := zgd G this 12 (FM_endNotice_b FU this p1 p2 G)

def FM_days_L44 (FU : Nat) (kL27 : Nat → Int → Int → Hp → Option (Int × Hp)) : Nat → Nat → Int → Int → Int → Hp → Option (Int × Hp)
  | 0, _, _, _, _, _ => none
  | n + 1, x0, x1, x2, x3, G => (zgI G x0 12 15).bind fun v1 =>
    if x3 < v1 then
      (FM_runs FU x0 x3 G).bind fun v2 =>
      if v2 = 0 then
        (zck (x3 + (1))).bind fun v3 =>
        FM_days_L44 FU kL27 n x0 x1 x2 v3 G
      else
        (zgI G x0 12 0).bind fun v4 =>
        (zgQ G x0 12 44).bind fun v5 =>
        (zaI G v5 20 x3).bind fun v6 =>
        if v4 ≤ v6 then
          (zck (x3 + (1))).bind fun v7 =>
          FM_days_L44 FU kL27 n x0 x1 x2 v7 G
        else
          (FM_owedOf FU x0 x3 G).bind fun v8 =>
          if v8 ≤ 0 then
            (zck (x3 + (1))).bind fun v9 =>
            FM_days_L44 FU kL27 n x0 x1 x2 v9 G
          else
            zb (FM_endNotice FU x0 x3 (2) G) fun _ G10 =>
            (zgQ G10 x0 12 12).bind fun v11 =>
            (zgI G10 x0 12 0).bind fun v12 =>
            (zaS G10 v11 20 x3 v12).bind fun G13 =>
            (zck (x3 + (1))).bind fun v14 =>
            FM_days_L44 FU kL27 n x0 x1 x2 v14 G13
    else
      (zck (x2 + (1))).bind fun v15 =>
      kL27 x0 x1 v15 G
def FM_days_L27 (FU : Nat) : Nat → Nat → Int → Int → Hp → Option (Int × Hp)
  | 0, _, _, _, _ => none
  | n + 1, x0, x1, x2, G => if x2 < x1 then
      (zgI G x0 12 0).bind fun v1 =>
      (zck (v1 + (1))).bind fun v2 =>
      (zpI G x0 12 0 v2).bind fun G3 =>
      FM_days_L44 FU (FM_days_L27 FU n) FU x0 x1 x2 (0) G3
    else
      (zgI G x0 12 0).bind fun v4 =>
      some (v4, G)
def FM_days_b (FU : Nat) (this : Nat) (p1 : Int) (G : Hp) : Option (Int × Hp) :=
  (FM_within FU p1 (1) (360) G).bind fun v1 =>
  if v1 = 0 then
    some ((-1), G)
  else
    (zgI G this 12 0).bind fun v2 =>
    (zck (v2 + p1)).bind fun v3 =>
    if v3 ≤ (9999) then
      FM_days_L27 FU FU this p1 (0) G
    else
      some ((-1), G)
def FM_days (FU : Nat) (this : Nat) (p1 : Int) (G : Hp) : Option (Int × Hp) := zgd G this 12 (FM_days_b FU this p1 G)

def FM_rule_B44 (FU : Nat) (x0 : Nat) (x1 : Int) (x2 : Int) (y0 : Int) (G : Hp) : Option (Int × Hp) :=
  if x1 = 0 then
    (zpI G x0 12 6 x2).bind fun G1 =>
    some (y0, G1)
  else
    (zpI G x0 12 7 x2).bind fun G2 =>
    some (y0, G2)
def FM_rule_B19 (FU : Nat) (x0 : Nat) (x1 : Int) (x2 : Int) (y0 : Int) (y1 : Int) (G : Hp) : Option (Int × Hp) :=
  (FM_within FU y0 y1 (99) G).bind fun v1 =>
  if v1 = 0 then
    some ((-1), G)
  else
    if x1 = 0 then
      (zgI G x0 12 6).bind fun v2 =>
      FM_rule_B44 FU x0 x1 x2 v2 G
    else
      (zgI G x0 12 7).bind fun v3 =>
      FM_rule_B44 FU x0 x1 x2 v3 G
def FM_rule_b (FU : Nat) (this : Nat) (p1 : Int) (p2 : Int) (G : Hp) : Option (Int × Hp) :=
  (FM_within FU p1 (0) (1) G).bind fun v1 =>
  if v1 = 0 then
    some ((-1), G)
  else
    if p1 = 0 then
      FM_rule_B19 FU this p1 p2 p2 (1) G
    else
      FM_rule_B19 FU this p1 p2 p2 (0) G
def FM_rule (FU : Nat) (this : Nat) (p1 : Int) (p2 : Int) (G : Hp) : Option (Int × Hp) := zgd G this 12 (FM_rule_b FU this p1 p2 G)

def FM_openAt_L2 (FU : Nat) : Nat → Nat → Int → Int → Hp → Option Int
  | 0, _, _, _, _ => none
  | n + 1, x0, x1, x2, G => (zgI G x0 12 15).bind fun v1 =>
    if x2 < v1 then
      (FM_isOpen FU x0 x2 G).bind fun v2 =>
      if v2 = 0 then
        (zck (x2 + (1))).bind fun v3 =>
        FM_openAt_L2 FU n x0 x1 v3 G
      else
        (zgQ G x0 12 8).bind fun v4 =>
        (zaI G v4 20 x2).bind fun v5 =>
        if v5 = x1 then
          some x2
        else
          (zck (x2 + (1))).bind fun v6 =>
          FM_openAt_L2 FU n x0 x1 v6 G
    else
      some (-1)
def FM_openAt_b (FU : Nat) (this : Nat) (p1 : Int) (G : Hp) : Option Int :=
  FM_openAt_L2 FU FU this p1 (0) G
def FM_openAt (FU : Nat) (this : Nat) (p1 : Int) (G : Hp) : Option Int := zgd G this 12 (FM_openAt_b FU this p1 G)

def FM_landOf_B83 (FU : Nat) (kL7 : Nat → Int → Int → Int → Int → Hp → Option (Int × Hp)) (x0 : Nat) (x1 : Int) (x4 : Int) (x5 : Int) (G : Hp) : Option (Int × Hp) :=
  (zck (x4 + (1))).bind fun v1 =>
  kL7 x0 x1 x4 x5 v1 G
def FM_landOf_B52 (FU : Nat) (kL7 : Nat → Int → Int → Int → Int → Hp → Option (Int × Hp)) (x0 : Nat) (x1 : Int) (x2 : Int) (x3 : Int) (x4 : Int) (y0 : Int) (G : Hp) : Option (Int × Hp) :=
  if y0 < (1000000) then
    (zgQ G x0 12 13).bind fun v1 =>
    (zaI G v1 20 x4).bind fun v2 =>
    if y0 ≤ v2 then
      if x2 < 0 then
        FM_landOf_B83 FU kL7 x0 x1 x4 y0 G
      else
        if y0 < x3 then
          FM_landOf_B83 FU kL7 x0 x1 x4 y0 G
        else
          (zck (x4 + (1))).bind fun v3 =>
          kL7 x0 x1 x2 x3 v3 G
    else
      (zck (x4 + (1))).bind fun v4 =>
      kL7 x0 x1 x2 x3 v4 G
  else
    (zck (x4 + (1))).bind fun v5 =>
    kL7 x0 x1 x2 x3 v5 G
def FM_landOf_B50 (FU : Nat) (kL7 : Nat → Int → Int → Int → Int → Hp → Option (Int × Hp)) (x0 : Nat) (x1 : Int) (x2 : Int) (x3 : Int) (x4 : Int) (G : Hp) : Option (Int × Hp) :=
  FM_landOf_B52 FU kL7 x0 x1 x2 x3 x4 (1000000) G
def FM_landOf_L7 (FU : Nat) : Nat → Nat → Int → Int → Int → Int → Hp → Option (Int × Hp)
  | 0, _, _, _, _, _, _ => none
  | n + 1, x0, x1, x2, x3, x4, G => (zgI G x0 12 15).bind fun v1 =>
    if x4 < v1 then
      (FM_isOpen FU x0 x4 G).bind fun v2 =>
      if v2 = 0 then
        FM_landOf_B50 FU (FM_landOf_L7 FU n) x0 x1 x2 x3 x4 G
      else
        (zgQ G x0 12 13).bind fun v3 =>
        (zaI G v3 20 x4).bind fun v4 =>
        if v4 ≤ 0 then
          FM_landOf_B50 FU (FM_landOf_L7 FU n) x0 x1 x2 x3 x4 G
        else
          (zgQ G x0 12 8).bind fun v5 =>
          (zaI G v5 20 x4).bind fun v6 =>
          zb (FM_wayOf FU x0 v6 x1 G) fun v8 G7 =>
          FM_landOf_B52 FU (FM_landOf_L7 FU n) x0 x1 x2 x3 x4 v8 G7
    else
      some (x2, G)
def FM_landOf_b (FU : Nat) (this : Nat) (p1 : Int) (G : Hp) : Option (Int × Hp) :=
  FM_landOf_L7 FU FU this p1 (-1) (0) (0) G
def FM_landOf (FU : Nat) (this : Nat) (p1 : Int) (G : Hp) : Option (Int × Hp) := zgd G this 12 (FM_landOf_b FU this p1 G)

def FM_isOthers_b (FU : Nat) (this : Nat) (p1 : Int) (p2 : Int) (G : Hp) : Option (Int × Hp) :=
  zb (FM_landOf FU this p1 G) fun v2 G1 =>
  if v2 < 0 then
    (zrz (0)).bind fun v0 => some (v0, G1)
  else
    (zgQ G1 this 12 9).bind fun v3 =>
    (zaI G1 v3 20 v2).bind fun v4 =>
    if v4 = p2 then
      (zrz (0)).bind fun v0 => some (v0, G1)
    else
      (zrz (1)).bind fun v0 => some (v0, G1)
def FM_isOthers (FU : Nat) (this : Nat) (p1 : Int) (p2 : Int) (G : Hp) : Option (Int × Hp) := zgd G this 12 (FM_isOthers_b FU this p1 p2 G)

def FM_isWho (FU : Nat) (p1 : Int) (G : Hp) : Option Int :=
  if p1 < 0 then
    zrz (0)
  else
    (zdv p1 (100)).bind fun v1 =>
    if v1 < (15) then
      (zrm p1 (100)).bind fun v2 =>
      if v2 ≤ 0 then
        zrz (0)
      else
        zrz (1)
    else
      zrz (0)

def FM_open_b (FU : Nat) (this : Nat) (p1 : Int) (p2 : Int) (G : Hp) : Option (Int × Hp) :=
  (FM_isPlace FU this p1 G).bind fun v1 =>
  if v1 = 0 then
    some ((-1), G)
  else
    (FM_isWho FU p2 G).bind fun v2 =>
    if v2 = 0 then
      some ((-1), G)
    else
      (FM_openAt FU this p1 G).bind fun v3 =>
      if v3 < 0 then
        (zdv p2 (100)).bind fun v4 =>
        zb (FM_isOthers FU this p1 v4 G) fun v6 G5 =>
        if v6 = 0 then
          (zgI G5 this 12 15).bind fun v7 =>
          if v7 = (40) then
            some ((-2), G5)
          else
            (zgQ G5 this 12 8).bind fun v8 =>
            (zgI G5 this 12 15).bind fun v9 =>
            (zaS G5 v8 20 v9 p1).bind fun G10 =>
            (zgQ G10 this 12 9).bind fun v11 =>
            (zgI G10 this 12 15).bind fun v12 =>
            (zdv p2 (100)).bind fun v13 =>
            (zaS G10 v11 20 v12 v13).bind fun G14 =>
            (zgQ G14 this 12 10).bind fun v15 =>
            (zgI G14 this 12 15).bind fun v16 =>
            (zrm p2 (100)).bind fun v17 =>
            (zaS G14 v15 20 v16 v17).bind fun G18 =>
            (zgQ G18 this 12 11).bind fun v19 =>
            (zgI G18 this 12 15).bind fun v20 =>
            (zgI G18 this 12 0).bind fun v21 =>
            (zaS G18 v19 20 v20 v21).bind fun G22 =>
            (zgI G22 this 12 15).bind fun v23 =>
            (zck (v23 + (1))).bind fun v24 =>
            (zpI G22 this 12 15 v24).bind fun G25 =>
            (zgI G25 this 12 15).bind fun v26 =>
            (zck (v26 - (1))).bind fun v27 =>
            some (v27, G25)
        else
          some ((-3), G5)
      else
        some ((-3), G)
def FM_open (FU : Nat) (this : Nat) (p1 : Int) (p2 : Int) (G : Hp) : Option (Int × Hp) := zgd G this 12 (FM_open_b FU this p1 p2 G)

def FM_close_B35 (FU : Nat) (x0 : Nat) (x1 : Int) (G : Hp) : Option (Int × Hp) :=
  (zgQ G x0 12 12).bind fun v1 =>
  (zgI G x0 12 0).bind fun v2 =>
  (zaS G v1 20 x1 v2).bind fun G3 =>
  some ((1), G3)
def FM_close_b (FU : Nat) (this : Nat) (p1 : Int) (G : Hp) : Option (Int × Hp) :=
  (FM_isShop FU this p1 G).bind fun v1 =>
  if v1 = 0 then
    some ((-1), G)
  else
    (FM_isOpen FU this p1 G).bind fun v2 =>
    if v2 = 0 then
      some ((-3), G)
    else
      (FM_runs FU this p1 G).bind fun v3 =>
      if v3 = 0 then
        FM_close_B35 FU this p1 G
      else
        zb (FM_endNotice FU this p1 (3) G) fun _ G4 =>
        FM_close_B35 FU this p1 G4
def FM_close (FU : Nat) (this : Nat) (p1 : Int) (G : Hp) : Option (Int × Hp) := zgd G this 12 (FM_close_b FU this p1 G)

def FM_reach_b (FU : Nat) (this : Nat) (p1 : Int) (p2 : Int) (G : Hp) : Option (Int × Hp) :=
  (FM_isShop FU this p1 G).bind fun v1 =>
  if v1 = 0 then
    some ((-1), G)
  else
    (FM_within FU p2 (0) (999) G).bind fun v2 =>
    if v2 = 0 then
      some ((-1), G)
    else
      (FM_isOpen FU this p1 G).bind fun v3 =>
      if v3 = 0 then
        some ((-3), G)
      else
        (zgQ G this 12 13).bind fun v4 =>
        (zaI G v4 20 p1).bind fun v5 =>
        (zgQ G this 12 13).bind fun v6 =>
        (zaS G v6 20 p1 p2).bind fun G7 =>
        some (v5, G7)
def FM_reach (FU : Nat) (this : Nat) (p1 : Int) (p2 : Int) (G : Hp) : Option (Int × Hp) := zgd G this 12 (FM_reach_b FU this p1 p2 G)

def FM_whose_b (FU : Nat) (this : Nat) (p1 : Int) (G : Hp) : Option (Int × Hp) :=
  (FM_isPlace FU this p1 G).bind fun v1 =>
  if v1 = 0 then
    some ((-1), G)
  else
    zb (FM_landOf FU this p1 G) fun v3 G2 =>
    if v3 < 0 then
      some ((-4), G2)
    else
      some (v3, G2)
def FM_whose (FU : Nat) (this : Nat) (p1 : Int) (G : Hp) : Option (Int × Hp) := zgd G this 12 (FM_whose_b FU this p1 G)

def FM_landSize_L4 (FU : Nat) : Nat → Nat → Int → Int → Int → Hp → Option (Int × Hp)
  | 0, _, _, _, _, _ => none
  | n + 1, x0, x1, x2, x3, G => (zgI G x0 12 2).bind fun v1 =>
    if x3 < v1 then
      zb (FM_landOf FU x0 x3 G) fun v3 G2 =>
      if v3 = x1 then
        (zck (x2 + (1))).bind fun v4 =>
        (zck (x3 + (1))).bind fun v5 =>
        FM_landSize_L4 FU n x0 x1 v4 v5 G2
      else
        (zck (x2 + (0))).bind fun v6 =>
        (zck (x3 + (1))).bind fun v7 =>
        FM_landSize_L4 FU n x0 x1 v6 v7 G2
    else
      some (x2, G)
def FM_landSize_b (FU : Nat) (this : Nat) (p1 : Int) (G : Hp) : Option (Int × Hp) :=
  FM_landSize_L4 FU FU this p1 (0) (0) G
def FM_landSize (FU : Nat) (this : Nat) (p1 : Int) (G : Hp) : Option (Int × Hp) := zgd G this 12 (FM_landSize_b FU this p1 G)

def FM_ofShop_b (FU : Nat) (this : Nat) (p1 : Int) (p2 : Int) (G : Hp) : Option (Int × Hp) :=
  (FM_isShop FU this p1 G).bind fun v1 =>
  if v1 = 0 then
    some ((-1), G)
  else
    if p2 = 0 then
      (zgQ G this 12 8).bind fun v2 =>
      (zaI G v2 20 p1).bind fun v3 =>
      some (v3, G)
    else if p2 = 1 then
      (zgQ G this 12 9).bind fun v4 =>
      (zaI G v4 20 p1).bind fun v5 =>
      some (v5, G)
    else if p2 = 2 then
      (zgQ G this 12 10).bind fun v6 =>
      (zaI G v6 20 p1).bind fun v7 =>
      some (v7, G)
    else if p2 = 3 then
      (zgQ G this 12 11).bind fun v8 =>
      (zaI G v8 20 p1).bind fun v9 =>
      some (v9, G)
    else if p2 = 4 then
      (zgQ G this 12 12).bind fun v10 =>
      (zaI G v10 20 p1).bind fun v11 =>
      some (v11, G)
    else if p2 = 5 then
      (zgQ G this 12 13).bind fun v12 =>
      (zaI G v12 20 p1).bind fun v13 =>
      some (v13, G)
    else if p2 = 6 then
      zb (FM_landSize FU this p1 G) fun v15 G14 =>
      some (v15, G14)
    else if p2 = 7 then
      (zgQ G this 12 14).bind fun v16 =>
      (zaI G v16 20 p1).bind fun v17 =>
      some (v17, G)
    else 
      some ((-1), G)
def FM_ofShop (FU : Nat) (this : Nat) (p1 : Int) (p2 : Int) (G : Hp) : Option (Int × Hp) := zgd G this 12 (FM_ofShop_b FU this p1 p2 G)

def FM_draws_b (FU : Nat) (this : Nat) (p1 : Int) (G : Hp) : Option Int :=
  (zgI G this 12 15).bind fun v1 =>
  if p1 < v1 then
    (FM_isOpen FU this p1 G).bind fun v2 =>
    zrz v2
  else
    if p1 < (40) then
      zrz (0)
    else
      (zgI G this 12 16).bind fun v3 =>
      (zck ((40) + v3)).bind fun v4 =>
      if p1 < v4 then
        zrz (1)
      else
        zrz (0)
def FM_draws (FU : Nat) (this : Nat) (p1 : Int) (G : Hp) : Option Int := zgd G this 12 (FM_draws_b FU this p1 G)

def FM_pull_B24 (FU : Nat) (x0 : Nat) (x1 : Int) (y0 : Int) (G : Hp) : Option (Int × Hp) :=
  if y0 < (1000000) then
    (zgQ G x0 12 10).bind fun v1 =>
    (zaI G v1 20 x1).bind fun v2 =>
    (zck (v2 * (1000))).bind fun v3 =>
    (zck ((1) + y0)).bind fun v4 =>
    (zdv v3 v4).bind fun v5 =>
    some (v5, G)
  else
    some ((-1), G)
def FM_pull_b (FU : Nat) (this : Nat) (p1 : Int) (p2 : Int) (G : Hp) : Option (Int × Hp) :=
  (FM_draws FU this p1 G).bind fun v1 =>
  if v1 = 0 then
    FM_pull_B24 FU this p1 (1000000) G
  else
    (zgQ G this 12 8).bind fun v2 =>
    (zaI G v2 20 p1).bind fun v3 =>
    zb (FM_wayOf FU this v3 p2 G) fun v5 G4 =>
    FM_pull_B24 FU this p1 v5 G4
def FM_pull (FU : Nat) (this : Nat) (p1 : Int) (p2 : Int) (G : Hp) : Option (Int × Hp) := zgd G this 12 (FM_pull_b FU this p1 p2 G)

def FM_foretoldOf_L20 (FU : Nat) (kL5 : Nat → Int → Int → Int → Hp → Option (Int × Hp)) : Nat → Nat → Int → Int → Int → Int → Int → Hp → Option (Int × Hp)
  | 0, _, _, _, _, _, _, _ => none
  | n + 1, x0, x1, x2, x4, x5, x7, G => if x7 < (43) then
      zb (FM_pull FU x0 x7 x4 G) fun v2 G1 =>
      if v2 < 0 then
        (zckL (x5 + (0))).bind fun v3 =>
        (zck (x7 + (1))).bind fun v4 =>
        FM_foretoldOf_L20 FU kL5 n x0 x1 x2 x4 v3 v4 G1
      else
        (zckL (x5 + v2)).bind fun v5 =>
        (zck (x7 + (1))).bind fun v6 =>
        FM_foretoldOf_L20 FU kL5 n x0 x1 x2 x4 v5 v6 G1
    else
      zb (FM_pull FU x0 x1 x4 G) fun v8 G7 =>
      if v8 ≤ 0 then
        (zck (x4 + (1))).bind fun v9 =>
        kL5 x0 x1 x2 v9 G7
      else
        (zgQ G7 x0 12 1).bind fun v10 =>
        (zaI G7 v10 20 x4).bind fun v11 =>
        (zgI G7 x0 12 6).bind fun v12 =>
        (zckL (v11 * v12)).bind fun v13 =>
        (zckL (v13 * v8)).bind fun v14 =>
        (zdvL v14 x5).bind fun v15 =>
        (zckL (x2 + v15)).bind fun v16 =>
        (zck (x4 + (1))).bind fun v17 =>
        kL5 x0 x1 v16 v17 G7
def FM_foretoldOf_L5 (FU : Nat) : Nat → Nat → Int → Int → Int → Hp → Option (Int × Hp)
  | 0, _, _, _, _, _ => none
  | n + 1, x0, x1, x2, x4, G => (zgI G x0 12 2).bind fun v1 =>
    if x4 < v1 then
      FM_foretoldOf_L20 FU (FM_foretoldOf_L5 FU n) FU x0 x1 x2 x4 (0) (0) G
    else
      some (x2, G)
def FM_foretoldOf_b (FU : Nat) (this : Nat) (p1 : Int) (G : Hp) : Option (Int × Hp) :=
  FM_foretoldOf_L5 FU FU this p1 (0) (0) G
def FM_foretoldOf (FU : Nat) (this : Nat) (p1 : Int) (G : Hp) : Option (Int × Hp) := zgd G this 12 (FM_foretoldOf_b FU this p1 G)

def FM_foretold_b (FU : Nat) (this : Nat) (p1 : Int) (G : Hp) : Option (Int × Hp) :=
  (FM_isShop FU this p1 G).bind fun v1 =>
  if v1 = 0 then
    some ((-1), G)
  else
    (zpI G this 12 16 (0)).bind fun G2 =>
    (FM_isOpen FU this p1 G2).bind fun v3 =>
    if v3 = 0 then
      some ((-3), G2)
    else
      zb (FM_foretoldOf FU this p1 G2) fun v5 G4 =>
      (zck v5).bind fun v6 =>
      some (v6, G4)
def FM_foretold (FU : Nat) (this : Nat) (p1 : Int) (G : Hp) : Option (Int × Hp) := zgd G this 12 (FM_foretold_b FU this p1 G)

def FM_harmBy (FU : Nat) (p1 : Int) (p2 : Int) (G : Hp) : Option Int :=
  (some (zcmp p1 (0))).bind fun v1 =>
  if v1 = 0 then
    some (0)
  else
    (zckL (p1 - p2)).bind fun v2 =>
    (zckL (v2 * (1000))).bind fun v3 =>
    (zckL (v3 + p1)).bind fun v4 =>
    (zckL (v4 - (1))).bind fun v5 =>
    (zdvL v5 p1).bind fun v6 =>
    (zck v6).bind fun v7 =>
    some v7

def FM_harm_b (FU : Nat) (this : Nat) (p1 : Int) (p2 : Int) (p3 : Int) (G : Hp) : Option (Int × Hp) :=
  (FM_isShop FU this p1 G).bind fun v1 =>
  if v1 = 0 then
    some ((-1), G)
  else
    (FM_isPlace FU this p2 G).bind fun v2 =>
    if v2 = 0 then
      some ((-1), G)
    else
      (FM_within FU p3 (1) (99) G).bind fun v3 =>
      if v3 = 0 then
        some ((-1), G)
      else
        (FM_isOpen FU this p1 G).bind fun v4 =>
        if v4 = 0 then
          some ((-3), G)
        else
          (FM_openAt FU this p2 G).bind fun v5 =>
          if v5 < 0 then
            (zpI G this 12 16 (0)).bind fun G6 =>
            zb (FM_foretoldOf FU this p1 G6) fun v8 G7 =>
            (zgQ G7 this 12 8).bind fun v9 =>
            (zaS G7 v9 20 (40) p2).bind fun G10 =>
            (zgQ G10 this 12 10).bind fun v11 =>
            (zaS G10 v11 20 (40) p3).bind fun G12 =>
            (zpI G12 this 12 16 (1)).bind fun G13 =>
            zb (FM_foretoldOf FU this p1 G13) fun v15 G14 =>
            (zpI G14 this 12 16 (0)).bind fun G16 =>
            (FM_harmBy FU v8 v15 G16).bind fun v17 =>
            some (v17, G16)
          else
            some ((-3), G)
def FM_harm (FU : Nat) (this : Nat) (p1 : Int) (p2 : Int) (p3 : Int) (G : Hp) : Option (Int × Hp) := zgd G this 12 (FM_harm_b FU this p1 p2 p3 G)

def FM_site_L12 (FU : Nat) : Nat → Nat → Int → Int → Hp → Option (Int × Hp)
  | 0, _, _, _, _ => none
  | n + 1, x0, x1, x2, G => (zgI G x0 12 18).bind fun v1 =>
    if x2 < v1 then
      (zgQ G x0 12 17).bind fun v2 =>
      (zaI G v2 20 x2).bind fun v3 =>
      if v3 = x1 then
        some ((-1), G)
      else
        (zck (x2 + (1))).bind fun v4 =>
        FM_site_L12 FU n x0 x1 v4 G
    else
      (zgI G x0 12 18).bind fun v5 =>
      if v5 = (10) then
        some ((-2), G)
      else
        (zgQ G x0 12 17).bind fun v6 =>
        (zgI G x0 12 18).bind fun v7 =>
        (zaS G v6 20 v7 x1).bind fun G8 =>
        (zgI G8 x0 12 18).bind fun v9 =>
        (zck (v9 + (1))).bind fun v10 =>
        (zpI G8 x0 12 18 v10).bind fun G11 =>
        (zgI G11 x0 12 18).bind fun v12 =>
        some (v12, G11)
def FM_site_b (FU : Nat) (this : Nat) (p1 : Int) (G : Hp) : Option (Int × Hp) :=
  (FM_isPlace FU this p1 G).bind fun v1 =>
  if v1 = 0 then
    some ((-1), G)
  else
    FM_site_L12 FU FU this p1 (0) G
def FM_site (FU : Nat) (this : Nat) (p1 : Int) (G : Hp) : Option (Int × Hp) := zgd G this 12 (FM_site_b FU this p1 G)

def FM_sumOf_B155 (FU : Nat) (x0 : Nat) (x5 : Int) (x7 : Int) (G : Hp) : Option (Int × Hp) :=
  (zpI G x0 12 16 (0)).bind fun G1 =>
  if x7 = 0 then
    some ((-1), G1)
  else
    some (x5, G1)
def FM_sumOf_L73 (FU : Nat) : Nat → Nat → Int → Int → Int → Int → Int → Int → Hp → Option (Int × Hp)
  | 0, _, _, _, _, _, _, _, _ => none
  | n + 1, x0, x1, x2, x4, x5, x7, x8, G => (zck ((40) + x1)).bind fun v1 =>
    if x8 < v1 then
      if x7 = 0 then
        FM_sumOf_B155 FU x0 x5 x7 G
      else
        (FM_draws FU x0 x8 G).bind fun v2 =>
        if v2 = 0 then
          (zck (x8 + (1))).bind fun v3 =>
          FM_sumOf_L73 FU n x0 x1 x2 x4 x5 x7 v3 G
        else
          zb (FM_foretoldOf FU x0 x8 G) fun v5 G4 =>
          (zgQ G4 x0 12 9).bind fun v6 =>
          (zaI G4 v6 20 x8).bind fun v7 =>
          if v7 = x2 then
            (zckL (x5 + v5)).bind fun v8 =>
            (zck (x8 + (1))).bind fun v9 =>
            FM_sumOf_L73 FU n x0 x1 x2 x4 v8 x7 v9 G4
          else
            (zgQ G4 x0 12 23).bind fun v10 =>
            (zaI G4 v10 22 x8).bind fun v11 =>
            (FM_harmBy FU v11 v5 G4).bind fun v12 =>
            if v12 ≤ x4 then
              (zck (x8 + (1))).bind fun v13 =>
              FM_sumOf_L73 FU n x0 x1 x2 x4 x5 (1) v13 G4
            else
              (zck (x8 + (1))).bind fun v14 =>
              FM_sumOf_L73 FU n x0 x1 x2 x4 x5 (0) v14 G4
    else
      FM_sumOf_B155 FU x0 x5 x7 G
def FM_sumOf_L3 (FU : Nat) : Nat → Nat → Int → Int → Int → Int → Int → Hp → Option (Int × Hp)
  | 0, _, _, _, _, _, _, _ => none
  | n + 1, x0, x1, x2, x3, x4, x5, G => if x5 < x1 then
      (zgQ G x0 12 8).bind fun v1 =>
      (zck ((40) + x5)).bind fun v2 =>
      (zgQ G x0 12 17).bind fun v3 =>
      (zgQ G x0 12 19).bind fun v4 =>
      (zaI G v4 20 x5).bind fun v5 =>
      (zaI G v3 20 v5).bind fun v6 =>
      (zaS G v1 20 v2 v6).bind fun G7 =>
      (zgQ G7 x0 12 9).bind fun v8 =>
      (zck ((40) + x5)).bind fun v9 =>
      (zaS G7 v8 20 v9 x2).bind fun G10 =>
      (zgQ G10 x0 12 10).bind fun v11 =>
      (zck ((40) + x5)).bind fun v12 =>
      (zaS G10 v11 20 v12 x3).bind fun G13 =>
      (zck (x5 + (1))).bind fun v14 =>
      FM_sumOf_L3 FU n x0 x1 x2 x3 x4 v14 G13
    else
      (zpI G x0 12 16 x1).bind fun G15 =>
      FM_sumOf_L73 FU FU x0 x1 x2 x4 (0) (1) (0) G15
def FM_sumOf_b (FU : Nat) (this : Nat) (p1 : Int) (p2 : Int) (p3 : Int) (p4 : Int) (G : Hp) : Option (Int × Hp) :=
  FM_sumOf_L3 FU FU this p1 p2 p3 p4 (0) G
def FM_sumOf (FU : Nat) (this : Nat) (p1 : Int) (p2 : Int) (p3 : Int) (p4 : Int) (G : Hp) : Option (Int × Hp) := zgd G this 12 (FM_sumOf_b FU this p1 p2 p3 p4 G)

def FM_goSites_L42 (FU : Nat) (rec : Nat → Int → Int → Int → Int → Int → Int → Hp → Option (Unit × Hp)) : Nat → Nat → Int → Int → Hp → Option (Unit × Hp)
  | 0, _, _, _, _ => none
  | n + 1, x0, x3, x9, G => if x9 < x3 then
      (zgQ G x0 12 20).bind fun v1 =>
      (zgQ G x0 12 17).bind fun v2 =>
      (zgQ G x0 12 19).bind fun v3 =>
      (zaI G v3 20 x9).bind fun v4 =>
      (zaI G v2 20 v4).bind fun v5 =>
      (zaS G v1 20 x9 v5).bind fun G6 =>
      (zck (x9 + (1))).bind fun v7 =>
      FM_goSites_L42 FU rec n x0 x3 v7 G6
    else
      some ((), G)
def FM_goSites_L77 (FU : Nat) (rec : Nat → Int → Int → Int → Int → Int → Int → Hp → Option (Unit × Hp)) : Nat → Nat → Int → Int → Int → Int → Int → Int → Hp → Option (Unit × Hp)
  | 0, _, _, _, _, _, _, _, _ => none
  | n + 1, x0, x1, x3, x4, x5, x6, x7, G => (zgI G x0 12 18).bind fun v1 =>
    if x7 < v1 then
      (zgQ G x0 12 17).bind fun v2 =>
      (zaI G v2 20 x7).bind fun v3 =>
      (FM_openAt FU x0 v3 G).bind fun v4 =>
      if v4 < 0 then
        (zgQ G x0 12 17).bind fun v5 =>
        (zaI G v5 20 x7).bind fun v6 =>
        zb (FM_isOthers FU x0 v6 x4 G) fun v8 G7 =>
        if v8 = 0 then
          (zgQ G7 x0 12 19).bind fun v9 =>
          (zaS G7 v9 20 x1 x7).bind fun G10 =>
          (zck (x1 + (1))).bind fun v11 =>
          (zck (x7 + (1))).bind fun v12 =>
          zb (rec x0 v11 v12 x3 x4 x5 x6 G10) fun _ G13 =>
          (zck (x7 + (1))).bind fun v14 =>
          FM_goSites_L77 FU rec n x0 x1 x3 x4 x5 x6 v14 G13
        else
          (zck (x7 + (1))).bind fun v15 =>
          FM_goSites_L77 FU rec n x0 x1 x3 x4 x5 x6 v15 G7
      else
        (zck (x7 + (1))).bind fun v16 =>
        FM_goSites_L77 FU rec n x0 x1 x3 x4 x5 x6 v16 G
    else
      some ((), G)
def FM_goSites_b (FU : Nat) (rec : Nat → Int → Int → Int → Int → Int → Int → Hp → Option (Unit × Hp)) (this : Nat) (p1 : Int) (p2 : Int) (p3 : Int) (p4 : Int) (p5 : Int) (p6 : Int) (G : Hp) : Option (Unit × Hp) :=
  if p1 = p3 then
    zb (FM_sumOf FU this p3 p4 p5 p6 G) fun v2 G1 =>
    (zgI G1 this 12 22).bind fun v3 =>
    (some (zcmp v2 v3)).bind fun v4 =>
    if v4 ≤ 0 then
      some ((), G1)
    else
      (zpI G1 this 12 22 v2).bind fun G5 =>
      (zpI G5 this 12 21 p3).bind fun G6 =>
      FM_goSites_L42 FU rec FU this p3 (0) G6
  else
    FM_goSites_L77 FU rec FU this p1 p3 p4 p5 p6 p2 G
def FM_goSites (FU : Nat) (rec : Nat → Int → Int → Int → Int → Int → Int → Hp → Option (Unit × Hp)) (this : Nat) (p1 : Int) (p2 : Int) (p3 : Int) (p4 : Int) (p5 : Int) (p6 : Int) (G : Hp) : Option (Unit × Hp) := zgd G this 12 (FM_goSites_b FU rec this p1 p2 p3 p4 p5 p6 G)
def FM_goSites_n (FU : Nat) : Nat → Nat → Int → Int → Int → Int → Int → Int → Hp → Option (Unit × Hp)
  | 0, _, _, _, _, _, _, _, _ => none
  | d + 1, this, p1, p2, p3, p4, p5, p6, G => FM_goSites FU (FM_goSites_n FU d) this p1 p2 p3 p4 p5 p6 G

def FM_best_L37 (FU : Nat) : Nat → Nat → Int → Int → Int → Int → Hp → Option (Int × Hp)
  | 0, _, _, _, _, _, _ => none
  | n + 1, x0, x1, x2, x3, x4, G => (zgI G x0 12 15).bind fun v1 =>
    if x4 < v1 then
      (zgQ G x0 12 23).bind fun v2 =>
      (FM_isOpen FU x0 x4 G).bind fun v3 =>
      if v3 = 0 then
        (zaS G v2 22 x4 (0)).bind fun G4 =>
        (zck (x4 + (1))).bind fun v5 =>
        FM_best_L37 FU n x0 x1 x2 x3 v5 G4
      else
        zb (FM_foretoldOf FU x0 x4 G) fun v7 G6 =>
        (zaS G6 v2 22 x4 v7).bind fun G8 =>
        (zck (x4 + (1))).bind fun v9 =>
        FM_best_L37 FU n x0 x1 x2 x3 v9 G8
    else
      (zpI G x0 12 22 (-1)).bind fun G10 =>
      (zdv x2 (100)).bind fun v11 =>
      (zrm x2 (100)).bind fun v12 =>
      zb (FM_goSites_n FU 6 x0 (0) (0) x1 v11 v12 x3 G10) fun _ G13 =>
      (zgI G13 x0 12 22).bind fun v14 =>
      (some (zcmp v14 (0))).bind fun v15 =>
      if v15 < 0 then
        some ((-4), G13)
      else
        (zgI G13 x0 12 22).bind fun v16 =>
        (zck v16).bind fun v17 =>
        some (v17, G13)
def FM_best_b (FU : Nat) (this : Nat) (p1 : Int) (p2 : Int) (p3 : Int) (G : Hp) : Option (Int × Hp) :=
  (FM_within FU p1 (1) (3) G).bind fun v1 =>
  if v1 = 0 then
    some ((-1), G)
  else
    (FM_isWho FU p2 G).bind fun v2 =>
    if v2 = 0 then
      some ((-1), G)
    else
      (FM_within FU p3 (0) (1000) G).bind fun v3 =>
      if v3 = 0 then
        some ((-1), G)
      else
        (zpI G this 12 16 (0)).bind fun G4 =>
        FM_best_L37 FU FU this p1 p2 p3 (0) G4
def FM_best (FU : Nat) (this : Nat) (p1 : Int) (p2 : Int) (p3 : Int) (G : Hp) : Option (Int × Hp) := zgd G this 12 (FM_best_b FU this p1 p2 p3 G)

def FM_found_b (FU : Nat) (this : Nat) (p1 : Int) (G : Hp) : Option Int :=
  if p1 < 0 then
    some (-1)
  else
    (zgI G this 12 21).bind fun v1 =>
    if p1 < v1 then
      (zgQ G this 12 20).bind fun v2 =>
      (zaI G v2 20 p1).bind fun v3 =>
      some v3
    else
      some (-1)
def FM_found (FU : Nat) (this : Nat) (p1 : Int) (G : Hp) : Option Int := zgd G this 12 (FM_found_b FU this p1 G)

def FM_feed_L27 (FU : Nat) : Nat → Nat → Int → Int → Int → Hp → Option (Int × Hp)
  | 0, _, _, _, _, _ => none
  | n + 1, x0, x1, x2, x3, G => if x3 < x1 then
      (zgQ G x0 12 24).bind fun v1 =>
      (zgI G x0 12 25).bind fun v2 =>
      (zck ((8) * x3)).bind fun v3 =>
      (some (zshr x2 v3)).bind fun v4 =>
      (some (zand v4 (255))).bind fun v5 =>
      (zaS G v1 20 v2 v5).bind fun G6 =>
      (zgI G6 x0 12 25).bind fun v7 =>
      (zck (v7 + (1))).bind fun v8 =>
      (zpI G6 x0 12 25 v8).bind fun G9 =>
      (zck (x3 + (1))).bind fun v10 =>
      FM_feed_L27 FU n x0 x1 x2 v10 G9
    else
      (zgI G x0 12 25).bind fun v11 =>
      some (v11, G)
def FM_feed_b (FU : Nat) (this : Nat) (p1 : Int) (p2 : Int) (G : Hp) : Option (Int × Hp) :=
  (FM_within FU p1 (1) (4) G).bind fun v1 =>
  if v1 = 0 then
    some ((-1), G)
  else
    (zgI G this 12 25).bind fun v2 =>
    (zck (v2 + p1)).bind fun v3 =>
    if v3 ≤ (120) then
      FM_feed_L27 FU FU this p1 p2 (0) G
    else
      some ((-2), G)
def FM_feed (FU : Nat) (this : Nat) (p1 : Int) (p2 : Int) (G : Hp) : Option (Int × Hp) := zgd G this 12 (FM_feed_b FU this p1 p2 G)

def FM_byteAt_b (FU : Nat) (this : Nat) (G : Hp) : Option Int :=
  (zgI G this 12 55).bind fun v1 =>
  (zgI G this 12 56).bind fun v2 =>
  if v1 < v2 then
    (zgI G this 12 54).bind fun v3 =>
    if v3 < 0 then
      (zgQ G this 12 24).bind fun v4 =>
      (zgI G this 12 55).bind fun v5 =>
      (zaI G v4 20 v5).bind fun v6 =>
      some v6
    else
      (zgQ G this 12 26).bind fun v7 =>
      (zgI G this 12 54).bind fun v8 =>
      (zgI G this 12 55).bind fun v9 =>
      (zck (v8 + v9)).bind fun v10 =>
      (zaI G v7 20 v10).bind fun v11 =>
      some v11
  else
    some (0)
def FM_byteAt (FU : Nat) (this : Nat) (G : Hp) : Option Int := zgd G this 12 (FM_byteAt_b FU this G)

def FM_wrong_b (FU : Nat) (this : Nat) (G : Hp) : Option (Int × Hp) :=
  (zgI G this 12 57).bind fun v1 =>
  if v1 < 0 then
    (zgI G this 12 55).bind fun v2 =>
    (zpI G this 12 57 v2).bind fun G3 =>
    some ((0), G3)
  else
    (zgI G this 12 57).bind fun v4 =>
    (zpI G this 12 57 v4).bind fun G5 =>
    some ((0), G5)
def FM_wrong (FU : Nat) (this : Nat) (G : Hp) : Option (Int × Hp) := zgd G this 12 (FM_wrong_b FU this G)

def FM_one_B80 (FU : Nat) (rec : Nat → Hp → Option (Int × Hp)) (x0 : Nat) (x2 : Int) (G : Hp) : Option (Int × Hp) :=
  (zgI G x0 12 55).bind fun v1 =>
  (zck (v1 + (1))).bind fun v2 =>
  (zpI G x0 12 55 v2).bind fun G3 =>
  (zgI G3 x0 12 58).bind fun v4 =>
  (zck (v4 - (1))).bind fun v5 =>
  (zpI G3 x0 12 58 v5).bind fun G6 =>
  some (x2, G6)
def FM_one_B187 (FU : Nat) (rec : Nat → Hp → Option (Int × Hp)) (x0 : Nat) (G : Hp) : Option (Int × Hp) :=
  zb (FM_wrong FU x0 G) fun v2 G1 =>
  some (v2, G1)
def FM_one_L197 (FU : Nat) (rec : Nat → Hp → Option (Int × Hp)) : Nat → Nat → Int → Int → Hp → Option (Int × Hp)
  | 0, _, _, _, _ => none
  | n + 1, x0, x3, x4, G => (FM_byteAt FU x0 G).bind fun v1 =>
    if v1 < (48) then
      some (x3, G)
    else
      (FM_byteAt FU x0 G).bind fun v2 =>
      if v2 ≤ (57) then
        if x4 = (6) then
          zb (FM_wrong FU x0 G) fun v4 G3 =>
          some (v4, G3)
        else
          (some (zwr ((10) * x3))).bind fun v5 =>
          (FM_byteAt FU x0 G).bind fun v6 =>
          (some (zwr (v5 + v6))).bind fun v7 =>
          (some (zwr (v7 - (48)))).bind fun v8 =>
          (zck (x4 + (1))).bind fun v9 =>
          (zgI G x0 12 55).bind fun v10 =>
          (zck (v10 + (1))).bind fun v11 =>
          (zpI G x0 12 55 v11).bind fun G12 =>
          FM_one_L197 FU rec n x0 v8 v9 G12
      else
        some (x3, G)
def FM_one_B153 (FU : Nat) (rec : Nat → Hp → Option (Int × Hp)) (x0 : Nat) (x1 : Int) (y0 : Int) (G : Hp) : Option (Int × Hp) :=
  if y0 < 0 then
    if x1 < (48) then
      FM_one_B187 FU rec x0 G
    else
      if x1 ≤ (57) then
        FM_one_L197 FU rec FU x0 (0) (0) G
      else
        FM_one_B187 FU rec x0 G
  else
    (zgI G x0 12 55).bind fun v1 =>
    (zck (v1 + (1))).bind fun v2 =>
    (zpI G x0 12 55 v2).bind fun G3 =>
    (zgQ G3 x0 12 32).bind fun v4 =>
    (zaI G3 v4 20 y0).bind fun v5 =>
    some (v5, G3)
def FM_one_b (FU : Nat) (rec : Nat → Hp → Option (Int × Hp)) (this : Nat) (G : Hp) : Option (Int × Hp) :=
  (zgI G this 12 57).bind fun v1 =>
  if v1 < 0 then
    (FM_byteAt FU this G).bind fun v2 =>
    if v2 = (40) then
      (zgI G this 12 58).bind fun v3 =>
      if v3 = (8) then
        zb (FM_wrong FU this G) fun v5 G4 =>
        some (v5, G4)
      else
        (zgI G this 12 58).bind fun v6 =>
        (zck (v6 + (1))).bind fun v7 =>
        (zpI G this 12 58 v7).bind fun G8 =>
        (zgI G8 this 12 55).bind fun v9 =>
        (zck (v9 + (1))).bind fun v10 =>
        (zpI G8 this 12 55 v10).bind fun G11 =>
        zb (rec this G11) fun v13 G12 =>
        (zgI G12 this 12 57).bind fun v14 =>
        if v14 < 0 then
          (FM_byteAt FU this G12).bind fun v15 =>
          if v15 = (41) then
            FM_one_B80 FU rec this v13 G12
          else
            zb (FM_wrong FU this G12) fun v17 G16 =>
            some (v17, G16)
        else
          FM_one_B80 FU rec this v13 G12
    else
      if v2 = (116) then
        FM_one_B153 FU rec this v2 (0) G
      else
        if v2 = (102) then
          FM_one_B153 FU rec this v2 (1) G
        else
          if v2 = (109) then
            FM_one_B153 FU rec this v2 (2) G
          else
            if v2 = (121) then
              FM_one_B153 FU rec this v2 (3) G
            else
              if v2 = (115) then
                FM_one_B153 FU rec this v2 (4) G
              else
                FM_one_B153 FU rec this v2 (-1) G
  else
    some ((0), G)
def FM_one (FU : Nat) (rec : Nat → Hp → Option (Int × Hp)) (this : Nat) (G : Hp) : Option (Int × Hp) := zgd G this 12 (FM_one_b FU rec this G)

def FM_product_B44 (FU : Nat) (rec : Nat → Hp → Option (Int × Hp)) (kL5 : Nat → Int → Hp → Option (Int × Hp)) (x0 : Nat) (x1 : Int) (y0 : Int) (G : Hp) : Option (Int × Hp) :=
  (zgI G x0 12 55).bind fun v1 =>
  (zck (v1 + (1))).bind fun v2 =>
  (zpI G x0 12 55 v2).bind fun G3 =>
  zb (FM_one FU rec x0 G3) fun v5 G4 =>
  if y0 = 0 then
    if v5 = 0 then
      kL5 x0 (0) G4
    else
      (zdw x1 v5).bind fun v6 =>
      kL5 x0 v6 G4
  else
    (some (zwr (x1 * v5))).bind fun v7 =>
    kL5 x0 v7 G4
def FM_product_B30 (FU : Nat) (rec : Nat → Hp → Option (Int × Hp)) (kL5 : Nat → Int → Hp → Option (Int × Hp)) (x0 : Nat) (x1 : Int) (G : Hp) : Option (Int × Hp) :=
  (FM_byteAt FU x0 G).bind fun v1 =>
  if v1 = (42) then
    FM_product_B44 FU rec kL5 x0 x1 (1) G
  else
    FM_product_B44 FU rec kL5 x0 x1 (0) G
def FM_product_L5 (FU : Nat) (rec : Nat → Hp → Option (Int × Hp)) : Nat → Nat → Int → Hp → Option (Int × Hp)
  | 0, _, _, _ => none
  | n + 1, x0, x1, G => (zgI G x0 12 57).bind fun v1 =>
    if v1 < 0 then
      (FM_byteAt FU x0 G).bind fun v2 =>
      if v2 = (42) then
        FM_product_B30 FU rec (FM_product_L5 FU rec n) x0 x1 G
      else
        (FM_byteAt FU x0 G).bind fun v3 =>
        if v3 = (47) then
          FM_product_B30 FU rec (FM_product_L5 FU rec n) x0 x1 G
        else
          some (x1, G)
    else
      some (x1, G)
def FM_product_b (FU : Nat) (rec : Nat → Hp → Option (Int × Hp)) (this : Nat) (G : Hp) : Option (Int × Hp) :=
  zb (FM_one FU rec this G) fun v2 G1 =>
  FM_product_L5 FU rec FU this v2 G1
def FM_product (FU : Nat) (rec : Nat → Hp → Option (Int × Hp)) (this : Nat) (G : Hp) : Option (Int × Hp) := zgd G this 12 (FM_product_b FU rec this G)

def FM_sum_B44 (FU : Nat) (rec : Nat → Hp → Option (Int × Hp)) (kL5 : Nat → Int → Hp → Option (Int × Hp)) (x0 : Nat) (x1 : Int) (y0 : Int) (G : Hp) : Option (Int × Hp) :=
  (zgI G x0 12 55).bind fun v1 =>
  (zck (v1 + (1))).bind fun v2 =>
  (zpI G x0 12 55 v2).bind fun G3 =>
  zb (FM_product FU rec x0 G3) fun v5 G4 =>
  if y0 = 0 then
    (some (zwr (x1 - v5))).bind fun v6 =>
    kL5 x0 v6 G4
  else
    (some (zwr (x1 + v5))).bind fun v7 =>
    kL5 x0 v7 G4
def FM_sum_B30 (FU : Nat) (rec : Nat → Hp → Option (Int × Hp)) (kL5 : Nat → Int → Hp → Option (Int × Hp)) (x0 : Nat) (x1 : Int) (G : Hp) : Option (Int × Hp) :=
  (FM_byteAt FU x0 G).bind fun v1 =>
  if v1 = (43) then
    FM_sum_B44 FU rec kL5 x0 x1 (1) G
  else
    FM_sum_B44 FU rec kL5 x0 x1 (0) G
def FM_sum_L5 (FU : Nat) (rec : Nat → Hp → Option (Int × Hp)) : Nat → Nat → Int → Hp → Option (Int × Hp)
  | 0, _, _, _ => none
  | n + 1, x0, x1, G => (zgI G x0 12 57).bind fun v1 =>
    if v1 < 0 then
      (FM_byteAt FU x0 G).bind fun v2 =>
      if v2 = (43) then
        FM_sum_B30 FU rec (FM_sum_L5 FU rec n) x0 x1 G
      else
        (FM_byteAt FU x0 G).bind fun v3 =>
        if v3 = (45) then
          FM_sum_B30 FU rec (FM_sum_L5 FU rec n) x0 x1 G
        else
          some (x1, G)
    else
      some (x1, G)
def FM_sum_b (FU : Nat) (rec : Nat → Hp → Option (Int × Hp)) (this : Nat) (G : Hp) : Option (Int × Hp) :=
  zb (FM_product FU rec this G) fun v2 G1 =>
  FM_sum_L5 FU rec FU this v2 G1
def FM_sum (FU : Nat) (rec : Nat → Hp → Option (Int × Hp)) (this : Nat) (G : Hp) : Option (Int × Hp) := zgd G this 12 (FM_sum_b FU rec this G)
def FM_sum_n (FU : Nat) : Nat → Nat → Hp → Option (Int × Hp)
  | 0, _, _ => none
  | d + 1, this, G => FM_sum FU (FM_sum_n FU d) this G

def FM_band_B153 (FU : Nat) (x0 : Nat) (x4 : Int) (y0 : Int) (G : Hp) : Option (Int × Hp) :=
  (zpZ G x0 12 59 x4).bind fun G1 =>
  some (y0, G1)
def FM_band_B128 (FU : Nat) (x0 : Nat) (x4 : Int) (G : Hp) : Option (Int × Hp) :=
  (zgI G x0 12 55).bind fun v1 =>
  (zck (v1 + (1))).bind fun v2 =>
  (zpI G x0 12 55 v2).bind fun G3 =>
  (zgI G3 x0 12 57).bind fun v4 =>
  if v4 < 0 then
    zb (FM_sum_n FU 12 x0 G3) fun v6 G5 =>
    FM_band_B153 FU x0 x4 v6 G5
  else
    FM_band_B153 FU x0 x4 (0) G3
def FM_band_B105 (FU : Nat) (x0 : Nat) (y0 : Int) (G : Hp) : Option (Int × Hp) :=
  (zgI G x0 12 57).bind fun v1 =>
  if v1 < 0 then
    (FM_byteAt FU x0 G).bind fun v2 =>
    if v2 = (44) then
      FM_band_B128 FU x0 y0 G
    else
      zb (FM_wrong FU x0 G) fun v4 G3 =>
      some (v4, G3)
  else
    FM_band_B128 FU x0 y0 G
def FM_band_B42 (FU : Nat) (x0 : Nat) (x1 : Int) (x2 : Int) (G : Hp) : Option (Int × Hp) :=
  (zgI G x0 12 55).bind fun v1 =>
  (zck (v1 + (1))).bind fun v2 =>
  (zpI G x0 12 55 v2).bind fun G3 =>
  zb (FM_sum_n FU 12 x0 G3) fun v5 G4 =>
  if x2 = (60) then
    if x1 < v5 then
      FM_band_B105 FU x0 (1) G4
    else
      FM_band_B105 FU x0 (0) G4
  else
    if x2 = (61) then
      if x1 = v5 then
        FM_band_B105 FU x0 (1) G4
      else
        FM_band_B105 FU x0 (0) G4
    else
      if x1 ≤ v5 then
        FM_band_B105 FU x0 (0) G4
      else
        FM_band_B105 FU x0 (1) G4
def FM_band_b (FU : Nat) (this : Nat) (G : Hp) : Option (Int × Hp) :=
  zb (FM_sum_n FU 12 this G) fun v2 G1 =>
  (FM_byteAt FU this G1).bind fun v3 =>
  (zpZ G1 this 12 59 (1)).bind fun G4 =>
  (zgI G4 this 12 57).bind fun v5 =>
  if v5 < 0 then
    if v3 = (60) then
      FM_band_B42 FU this v2 v3 G4
    else
      if v3 = (61) then
        FM_band_B42 FU this v2 v3 G4
      else
        if v3 = (62) then
          FM_band_B42 FU this v2 v3 G4
        else
          some (v2, G4)
  else
    some (v2, G4)
def FM_band (FU : Nat) (this : Nat) (G : Hp) : Option (Int × Hp) := zgd G this 12 (FM_band_b FU this G)

def FM_workOut_B101 (FU : Nat) (kL33 : Nat → Int → Int → Int → Hp → Option (Int × Hp)) (x0 : Nat) (x3 : Int) (x4 : Int) (y0 : Int) (G : Hp) : Option (Int × Hp) :=
  (zgI G x0 12 55).bind fun v1 =>
  if y0 = 0 then
    (zck (v1 + (0))).bind fun v2 =>
    (zpI G x0 12 55 v2).bind fun G3 =>
    kL33 x0 x3 x4 y0 G3
  else
    (zck (v1 + (1))).bind fun v4 =>
    (zpI G x0 12 55 v4).bind fun G5 =>
    kL33 x0 x3 x4 y0 G5
def FM_workOut_B100 (FU : Nat) (kL33 : Nat → Int → Int → Int → Hp → Option (Int × Hp)) (x0 : Nat) (x3 : Int) (x4 : Int) (G : Hp) : Option (Int × Hp) :=
  FM_workOut_B101 FU kL33 x0 x3 x4 (0) G
def FM_workOut_B69 (FU : Nat) (kL33 : Nat → Int → Int → Int → Hp → Option (Int × Hp)) (x0 : Nat) (x3 : Int) (x4 : Int) (G : Hp) : Option (Int × Hp) :=
  (zgI G x0 12 57).bind fun v1 =>
  if v1 < 0 then
    (FM_byteAt FU x0 G).bind fun v2 =>
    if v2 = (59) then
      (zgI G x0 12 55).bind fun v3 =>
      (zgI G x0 12 56).bind fun v4 =>
      if v3 < v4 then
        FM_workOut_B101 FU kL33 x0 x3 x4 (1) G
      else
        FM_workOut_B100 FU kL33 x0 x3 x4 G
    else
      FM_workOut_B100 FU kL33 x0 x3 x4 G
  else
    FM_workOut_B100 FU kL33 x0 x3 x4 G
def FM_workOut_L33 (FU : Nat) : Nat → Nat → Int → Int → Int → Hp → Option (Int × Hp)
  | 0, _, _, _, _, _ => none
  | n + 1, x0, x3, x4, x5, G => if x5 = 0 then
      (zgI G x0 12 57).bind fun v1 =>
      if v1 < 0 then
        (zgI G x0 12 55).bind fun v2 =>
        (zgI G x0 12 56).bind fun v3 =>
        if v2 < v3 then
          zb (FM_wrong FU x0 G) fun v5 G4 =>
          some (v5, G4)
        else
          some (x3, G)
      else
        some (x3, G)
    else
      zb (FM_band FU x0 G) fun v7 G6 =>
      (zgI G6 x0 12 57).bind fun v8 =>
      if v8 < 0 then
        (zgI G6 x0 12 59).bind fun v9 =>
        if v9 = 0 then
          FM_workOut_B69 FU (FM_workOut_L33 FU n) x0 x3 x4 G6
        else
          if x4 = 0 then
            FM_workOut_B69 FU (FM_workOut_L33 FU n) x0 v7 (1) G6
          else
            FM_workOut_B69 FU (FM_workOut_L33 FU n) x0 x3 x4 G6
      else
        FM_workOut_B69 FU (FM_workOut_L33 FU n) x0 x3 x4 G6
def FM_workOut_b (FU : Nat) (this : Nat) (p1 : Int) (p2 : Int) (G : Hp) : Option (Int × Hp) :=
  (zpI G this 12 54 p1).bind fun G1 =>
  (zpI G1 this 12 55 (0)).bind fun G2 =>
  (zpI G2 this 12 56 p2).bind fun G3 =>
  (zpI G3 this 12 57 (-1)).bind fun G4 =>
  (zpI G4 this 12 58 (0)).bind fun G5 =>
  FM_workOut_L33 FU FU this (0) (0) (1) G5
def FM_workOut (FU : Nat) (this : Nat) (p1 : Int) (p2 : Int) (G : Hp) : Option (Int × Hp) := zgd G this 12 (FM_workOut_b FU this p1 p2 G)

def FM_terms_L69 (FU : Nat) : Nat → Nat → Int → Int → Int → Int → Hp → Option (Int × Hp)
  | 0, _, _, _, _, _, _ => none
  | n + 1, x0, x1, x2, x4, x5, G => if x5 < x4 then
      (zgQ G x0 12 26).bind fun v1 =>
      (zgI G x0 12 31).bind fun v2 =>
      (zck ((120) * v2)).bind fun v3 =>
      (zck (v3 + x5)).bind fun v4 =>
      (zgQ G x0 12 24).bind fun v5 =>
      (zaI G v5 20 x5).bind fun v6 =>
      (zaS G v1 20 v4 v6).bind fun G7 =>
      (zck (x5 + (1))).bind fun v8 =>
      FM_terms_L69 FU n x0 x1 x2 x4 v8 G7
    else
      (zgQ G x0 12 27).bind fun v9 =>
      (zgI G x0 12 31).bind fun v10 =>
      (zaS G v9 20 v10 x4).bind fun G11 =>
      (zgQ G11 x0 12 28).bind fun v12 =>
      (zgI G11 x0 12 31).bind fun v13 =>
      (zaS G11 v12 20 v13 x1).bind fun G14 =>
      (zgQ G14 x0 12 29).bind fun v15 =>
      (zgI G14 x0 12 31).bind fun v16 =>
      (zaS G14 v15 20 v16 x2).bind fun G17 =>
      (zgQ G17 x0 12 30).bind fun v18 =>
      (zgI G17 x0 12 31).bind fun v19 =>
      (zgI G17 x0 12 0).bind fun v20 =>
      (zaS G17 v18 20 v19 v20).bind fun G21 =>
      (zgI G21 x0 12 31).bind fun v22 =>
      (zck (v22 + (1))).bind fun v23 =>
      (zpI G21 x0 12 31 v23).bind fun G24 =>
      (zgI G24 x0 12 31).bind fun v25 =>
      (zck (v25 - (1))).bind fun v26 =>
      some (v26, G24)
def FM_terms_b (FU : Nat) (this : Nat) (p1 : Int) (p2 : Int) (G : Hp) : Option (Int × Hp) :=
  (FM_within FU p1 (0) (2) G).bind fun v1 =>
  if v1 = 0 then
    some ((-1), G)
  else
    (FM_isDay FU p2 G).bind fun v2 =>
    if v2 = 0 then
      some ((-1), G)
    else
      (zgI G this 12 31).bind fun v3 =>
      if v3 = (20) then
        some ((-2), G)
      else
        (zgI G this 12 25).bind fun v4 =>
        zb (FM_workOut FU this (-1) v4 G) fun v6 G5 =>
        (zgI G5 this 12 25).bind fun v7 =>
        (zpI G5 this 12 25 (0)).bind fun G8 =>
        (zgI G8 this 12 57).bind fun v9 =>
        if v9 < 0 then
          FM_terms_L69 FU FU this p1 p2 v7 (0) G8
        else
          (zgI G8 this 12 57).bind fun v10 =>
          (zck ((-100) - v10)).bind fun v11 =>
          some (v11, G8)
def FM_terms (FU : Nat) (this : Nat) (p1 : Int) (p2 : Int) (G : Hp) : Option (Int × Hp) := zgd G this 12 (FM_terms_b FU this p1 p2 G)

def FM_force_L6 (FU : Nat) : Nat → Nat → Int → Int → Int → Int → Int → Hp → Option Int
  | 0, _, _, _, _, _, _, _ => none
  | n + 1, x0, x1, x2, x3, x4, x5, G => (zgI G x0 12 31).bind fun v1 =>
    if x5 < v1 then
      (zgQ G x0 12 28).bind fun v2 =>
      (zaI G v2 20 x5).bind fun v3 =>
      if v3 = x1 then
        (zgQ G x0 12 30).bind fun v4 =>
        (zaI G v4 20 x5).bind fun v5 =>
        if v5 ≤ x3 then
          (zgQ G x0 12 29).bind fun v6 =>
          (zaI G v6 20 x5).bind fun v7 =>
          if v7 ≤ x2 then
            (zck (x5 + (1))).bind fun v8 =>
            FM_force_L6 FU n x0 x1 x2 x3 x5 v8 G
          else
            (zck (x5 + (1))).bind fun v9 =>
            FM_force_L6 FU n x0 x1 x2 x3 x4 v9 G
        else
          (zck (x5 + (1))).bind fun v10 =>
          FM_force_L6 FU n x0 x1 x2 x3 x4 v10 G
      else
        (zck (x5 + (1))).bind fun v11 =>
        FM_force_L6 FU n x0 x1 x2 x3 x4 v11 G
    else
      some x4
def FM_force_b (FU : Nat) (this : Nat) (p1 : Int) (p2 : Int) (p3 : Int) (G : Hp) : Option Int :=
  FM_force_L6 FU FU this p1 p2 p3 (-1) (0) G
def FM_force (FU : Nat) (this : Nat) (p1 : Int) (p2 : Int) (p3 : Int) (G : Hp) : Option Int := zgd G this 12 (FM_force_b FU this p1 p2 p3 G)

def FM_inForce_b (FU : Nat) (this : Nat) (p1 : Int) (p2 : Int) (p3 : Int) (G : Hp) : Option Int :=
  (FM_within FU p1 (0) (2) G).bind fun v1 =>
  if v1 = 0 then
    some (-1)
  else
    (FM_isDay FU p2 G).bind fun v2 =>
    if v2 = 0 then
      some (-1)
    else
      (FM_isDay FU p3 G).bind fun v3 =>
      if v3 = 0 then
        some (-1)
      else
        (FM_force FU this p1 p2 p3 G).bind fun v4 =>
        if v4 < 0 then
          some (-4)
        else
          some v4
def FM_inForce (FU : Nat) (this : Nat) (p1 : Int) (p2 : Int) (p3 : Int) (G : Hp) : Option Int := zgd G this 12 (FM_inForce_b FU this p1 p2 p3 G)

def FM_wasOpen_b (FU : Nat) (this : Nat) (p1 : Int) (p2 : Int) (G : Hp) : Option Int :=
  (zgQ G this 12 11).bind fun v1 =>
  (zaI G v1 20 p1).bind fun v2 =>
  if v2 ≤ p2 then
    (zgQ G this 12 12).bind fun v3 =>
    (zaI G v3 20 p1).bind fun v4 =>
    if v4 < 0 then
      zrz (1)
    else
      (zgQ G this 12 12).bind fun v5 =>
      (zaI G v5 20 p1).bind fun v6 =>
      if v6 ≤ p2 then
        zrz (0)
      else
        zrz (1)
  else
    zrz (0)
def FM_wasOpen (FU : Nat) (this : Nat) (p1 : Int) (p2 : Int) (G : Hp) : Option Int := zgd G this 12 (FM_wasOpen_b FU this p1 p2 G)

def FM_given_L134 (FU : Nat) : Nat → Nat → Int → Int → Int → Int → Hp → Option (Int × Hp)
  | 0, _, _, _, _, _, _ => none
  | n + 1, x0, x1, x2, x4, x6, G => (zgI G x0 12 15).bind fun v1 =>
    if x6 < v1 then
      (zgQ G x0 12 32).bind fun v2 =>
      (zaI G v2 20 (4)).bind fun v3 =>
      (zgQ G x0 12 9).bind fun v4 =>
      (zaI G v4 20 x6).bind fun v5 =>
      (zgQ G x0 12 9).bind fun v6 =>
      (zaI G v6 20 x2).bind fun v7 =>
      if v5 = v7 then
        (FM_wasOpen FU x0 x6 x4 G).bind fun v8 =>
        if v8 = 0 then
          (zck (v3 + (0))).bind fun v9 =>
          (zaS G v2 20 (4) v9).bind fun G10 =>
          (zck (x6 + (1))).bind fun v11 =>
          FM_given_L134 FU n x0 x1 x2 x4 v11 G10
        else
          (zck (v3 + (1))).bind fun v12 =>
          (zaS G v2 20 (4) v12).bind fun G13 =>
          (zck (x6 + (1))).bind fun v14 =>
          FM_given_L134 FU n x0 x1 x2 x4 v14 G13
      else
        (zck (v3 + (0))).bind fun v15 =>
        (zaS G v2 20 (4) v15).bind fun G16 =>
        (zck (x6 + (1))).bind fun v17 =>
        FM_given_L134 FU n x0 x1 x2 x4 v17 G16
    else
      (zck ((120) * x1)).bind fun v18 =>
      (zgQ G x0 12 27).bind fun v19 =>
      (zaI G v19 20 x1).bind fun v20 =>
      zb (FM_workOut FU x0 v18 v20 G) fun v22 G21 =>
      if v22 < 0 then
        some ((0), G21)
      else
        if v22 ≤ (1000000) then
          some (v22, G21)
        else
          some ((1000000), G21)
def FM_given_B123 (FU : Nat) (x0 : Nat) (x1 : Int) (x2 : Int) (x4 : Int) (y0 : Nat) (y1 : Int) (y2 : Int) (G : Hp) : Option (Int × Hp) :=
  (zaS G y0 20 y1 y2).bind fun G1 =>
  (zgQ G1 x0 12 32).bind fun v2 =>
  (zaS G1 v2 20 (4) (0)).bind fun G3 =>
  FM_given_L134 FU FU x0 x1 x2 x4 (0) G3
def FM_given_B82 (FU : Nat) (x0 : Nat) (x1 : Int) (x2 : Int) (x3 : Int) (x4 : Int) (y0 : Nat) (y1 : Int) (y2 : Int) (G : Hp) : Option (Int × Hp) :=
  (zaS G y0 20 y1 y2).bind fun G1 =>
  (zgQ G1 x0 12 32).bind fun v2 =>
  (zaS G1 v2 20 (2) x3).bind fun G3 =>
  (zgQ G3 x0 12 32).bind fun v4 =>
  (zgQ G3 x0 12 11).bind fun v5 =>
  (zaI G3 v5 20 x2).bind fun v6 =>
  if x4 ≤ v6 then
    FM_given_B123 FU x0 x1 x2 x4 v4 (3) (0) G3
  else
    (zgQ G3 x0 12 11).bind fun v7 =>
    (zaI G3 v7 20 x2).bind fun v8 =>
    (zck (x4 - v8)).bind fun v9 =>
    (zdv v9 (360)).bind fun v10 =>
    FM_given_B123 FU x0 x1 x2 x4 v4 (3) v10 G3
def FM_given_B55 (FU : Nat) (x0 : Nat) (x1 : Int) (x2 : Int) (x3 : Int) (x4 : Int) (x5 : Int) (y0 : Nat) (y1 : Int) (y2 : Int) (G : Hp) : Option (Int × Hp) :=
  (zaS G y0 20 y1 y2).bind fun G1 =>
  (zgQ G1 x0 12 32).bind fun v2 =>
  if x5 = 0 then
    FM_given_B82 FU x0 x1 x2 x3 x4 v2 (1) (0) G1
  else
    (zgQ G1 x0 12 35).bind fun v3 =>
    (zck ((333) * x2)).bind fun v4 =>
    (zck (v4 + x3)).bind fun v5 =>
    (zaI G1 v3 20 v5).bind fun v6 =>
    FM_given_B82 FU x0 x1 x2 x3 x4 v2 (1) v6 G1
def FM_given_B27 (FU : Nat) (x0 : Nat) (x1 : Int) (x2 : Int) (x3 : Int) (x4 : Int) (y0 : Int) (G : Hp) : Option (Int × Hp) :=
  (zgQ G x0 12 32).bind fun v1 =>
  if y0 = 0 then
    FM_given_B55 FU x0 x1 x2 x3 x4 y0 v1 (0) (0) G
  else
    (zgQ G x0 12 34).bind fun v2 =>
    (zck ((333) * x2)).bind fun v3 =>
    (zck (v3 + x3)).bind fun v4 =>
    (zaI G v2 20 v4).bind fun v5 =>
    FM_given_B55 FU x0 x1 x2 x3 x4 y0 v1 (0) v5 G
def FM_given_B26 (FU : Nat) (x0 : Nat) (x1 : Int) (x2 : Int) (x3 : Int) (x4 : Int) (G : Hp) : Option (Int × Hp) :=
  FM_given_B27 FU x0 x1 x2 x3 x4 (0) G
def FM_given_b (FU : Nat) (this : Nat) (p1 : Int) (p2 : Int) (p3 : Int) (p4 : Int) (G : Hp) : Option (Int × Hp) :=
  if p3 < (333) then
    (zgQ G this 12 33).bind fun v1 =>
    (zck ((333) * p2)).bind fun v2 =>
    (zck (v2 + p3)).bind fun v3 =>
    (zaI G v1 21 v3).bind fun v4 =>
    if v4 = 0 then
      FM_given_B26 FU this p1 p2 p3 p4 G
    else
      FM_given_B27 FU this p1 p2 p3 p4 (1) G
  else
    FM_given_B26 FU this p1 p2 p3 p4 G
def FM_given (FU : Nat) (this : Nat) (p1 : Int) (p2 : Int) (p3 : Int) (p4 : Int) (G : Hp) : Option (Int × Hp) := zgd G this 12 (FM_given_b FU this p1 p2 p3 p4 G)

def FM_lastOf (FU : Nat) (p1 : Int) (G : Hp) : Option Int :=
  (zck ((30) * p1)).bind fun v1 =>
  (zck (v1 + (30))).bind fun v2 =>
  (zck (v2 - (1))).bind fun v3 =>
  some v3

def FM_gives_b (FU : Nat) (this : Nat) (p1 : Int) (p2 : Int) (p3 : Int) (G : Hp) : Option (Int × Hp) :=
  if p1 < 0 then
    some ((-1), G)
  else
    (zgI G this 12 31).bind fun v1 =>
    if p1 < v1 then
      (FM_isShop FU this p2 G).bind fun v2 =>
      if v2 = 0 then
        some ((-1), G)
      else
        (FM_isMonth FU p3 G).bind fun v3 =>
        if v3 = 0 then
          some ((-1), G)
        else
          (FM_lastOf FU p3 G).bind fun v4 =>
          zb (FM_given FU this p1 p2 p3 v4 G) fun v6 G5 =>
          some (v6, G5)
    else
      some ((-1), G)
def FM_gives (FU : Nat) (this : Nat) (p1 : Int) (p2 : Int) (p3 : Int) (G : Hp) : Option (Int × Hp) := zgd G this 12 (FM_gives_b FU this p1 p2 p3 G)

def FM_due_b (FU : Nat) (this : Nat) (p1 : Int) (p2 : Int) (p3 : Int) (G : Hp) : Option (Int × Hp) :=
  (FM_lastOf FU p3 G).bind fun v1 =>
  (zgI G this 12 0).bind fun v2 =>
  (FM_force FU this p1 v1 v2 G).bind fun v3 =>
  if v3 < 0 then
    some ((0), G)
  else
    (FM_lastOf FU p3 G).bind fun v4 =>
    zb (FM_given FU this v3 p2 p3 v4 G) fun v6 G5 =>
    some (v6, G5)
def FM_due (FU : Nat) (this : Nat) (p1 : Int) (p2 : Int) (p3 : Int) (G : Hp) : Option (Int × Hp) := zgd G this 12 (FM_due_b FU this p1 p2 p3 G)

def FM_settle_B140 (FU : Nat) (x0 : Nat) (x1 : Int) (x3 : Int) (G : Hp) : Option (Unit × Hp) :=
  (zgQ G x0 12 41).bind fun v1 =>
  (zaI G v1 20 x1).bind fun v2 =>
  (zck (v2 + x3)).bind fun v3 =>
  (zaS G v1 20 x1 v3).bind fun G4 =>
  (FM_runs FU x0 x1 G4).bind fun v5 =>
  if v5 = 0 then
    some ((), G4)
  else
    (FM_owedOf FU x0 x1 G4).bind fun v6 =>
    if v6 ≤ 0 then
      zb (FM_endNotice FU x0 x1 (1) G4) fun _ G7 =>
      some ((), G7)
    else
      some ((), G4)
def FM_settle_B104 (FU : Nat) (kL9 : Nat → Int → Int → Int → Hp → Option (Unit × Hp)) (x0 : Nat) (x1 : Int) (x3 : Int) (x4 : Int) (y0 : Int) (G : Hp) : Option (Unit × Hp) :=
  (zgQ G x0 12 40).bind fun v1 =>
  (zaI G v1 20 x4).bind fun v2 =>
  (zck (v2 + y0)).bind fun v3 =>
  (zaS G v1 20 x4 v3).bind fun G4 =>
  (zgI G4 x0 12 42).bind fun v5 =>
  (zck (v5 + y0)).bind fun v6 =>
  (zpI G4 x0 12 42 v6).bind fun G7 =>
  (zck (x3 - y0)).bind fun v8 =>
  (zck (x4 + (1))).bind fun v9 =>
  kL9 x0 x1 v8 v9 G7
def FM_settle_B56 (FU : Nat) (kL9 : Nat → Int → Int → Int → Hp → Option (Unit × Hp)) (x0 : Nat) (x1 : Int) (x3 : Int) (x4 : Int) (y0 : Int) (G : Hp) : Option (Unit × Hp) :=
  (zgQ G x0 12 39).bind fun v1 =>
  (zaI G v1 20 x4).bind fun v2 =>
  (zck (v2 + y0)).bind fun v3 =>
  (zaS G v1 20 x4 v3).bind fun G4 =>
  (zck (x3 - y0)).bind fun v5 =>
  (zgQ G4 x0 12 38).bind fun v6 =>
  (zaI G4 v6 20 x4).bind fun v7 =>
  (zgQ G4 x0 12 40).bind fun v8 =>
  (zaI G4 v8 20 x4).bind fun v9 =>
  (zck (v7 - v9)).bind fun v10 =>
  if v10 < v5 then
    FM_settle_B104 FU kL9 x0 x1 v5 x4 v10 G4
  else
    FM_settle_B104 FU kL9 x0 x1 v5 x4 v5 G4
def FM_settle_L9 (FU : Nat) : Nat → Nat → Int → Int → Int → Hp → Option (Unit × Hp)
  | 0, _, _, _, _, _ => none
  | n + 1, x0, x1, x3, x4, G => (zck ((333) * x1)).bind fun v1 =>
    (zck (v1 + (333))).bind fun v2 =>
    if x4 < v2 then
      if x3 ≤ 0 then
        FM_settle_B140 FU x0 x1 x3 G
      else
        (zgQ G x0 12 37).bind fun v3 =>
        (zaI G v3 20 x4).bind fun v4 =>
        (zgQ G x0 12 39).bind fun v5 =>
        (zaI G v5 20 x4).bind fun v6 =>
        (zck (v4 - v6)).bind fun v7 =>
        if v7 < x3 then
          FM_settle_B56 FU (FM_settle_L9 FU n) x0 x1 x3 x4 v7 G
        else
          FM_settle_B56 FU (FM_settle_L9 FU n) x0 x1 x3 x4 x3 G
    else
      FM_settle_B140 FU x0 x1 x3 G
def FM_settle_b (FU : Nat) (this : Nat) (p1 : Int) (p2 : Int) (G : Hp) : Option (Unit × Hp) :=
  (zck ((333) * p1)).bind fun v1 =>
  FM_settle_L9 FU FU this p1 p2 v1 G
def FM_settle (FU : Nat) (this : Nat) (p1 : Int) (p2 : Int) (G : Hp) : Option (Unit × Hp) := zgd G this 12 (FM_settle_b FU this p1 p2 G)

def FM_month_b (FU : Nat) (this : Nat) (p1 : Int) (p2 : Int) (p3 : Int) (p4 : Int) (p5 : Int) (G : Hp) : Option (Int × Hp) :=
  (FM_isShop FU this p1 G).bind fun v1 =>
  if v1 = 0 then
    some ((-1), G)
  else
    (FM_isMonth FU p2 G).bind fun v2 =>
    if v2 = 0 then
      some ((-1), G)
    else
      (FM_within FU p3 (0) (99999) G).bind fun v3 =>
      if v3 = 0 then
        some ((-1), G)
      else
        (FM_within FU p4 (0) (9999) G).bind fun v4 =>
        if v4 = 0 then
          some ((-1), G)
        else
          (FM_within FU p5 (0) (9999) G).bind fun v5 =>
          if v5 = 0 then
            some ((-1), G)
          else
            (zck ((333) * p1)).bind fun v6 =>
            (zck (v6 + p2)).bind fun v7 =>
            (zgQ G this 12 33).bind fun v8 =>
            (zaI G v8 21 v7).bind fun v9 =>
            if v9 = 0 then
              (zgI G this 12 0).bind fun v10 =>
              (FM_lastOf FU p2 G).bind fun v11 =>
              if v10 ≤ v11 then
                some ((-3), G)
              else
                (FM_lastOf FU p2 G).bind fun v12 =>
                (FM_wasOpen FU this p1 v12 G).bind fun v13 =>
                if v13 = 0 then
                  some ((-3), G)
                else
                  (zgQ G this 12 33).bind fun v14 =>
                  (zaSZ G v14 21 v7 (1)).bind fun G15 =>
                  (zgQ G15 this 12 34).bind fun v16 =>
                  (zaS G15 v16 20 v7 p3).bind fun G17 =>
                  (zgQ G17 this 12 35).bind fun v18 =>
                  (zaS G17 v18 20 v7 p4).bind fun G19 =>
                  (zgQ G19 this 12 36).bind fun v20 =>
                  (zaS G19 v20 20 v7 p5).bind fun G21 =>
                  (zgQ G21 this 12 37).bind fun v22 =>
                  zb (FM_due FU this (0) p1 p2 G21) fun v24 G23 =>
                  (zaS G23 v22 20 v7 v24).bind fun G25 =>
                  (zgQ G25 this 12 38).bind fun v26 =>
                  zb (FM_due FU this (1) p1 p2 G25) fun v28 G27 =>
                  (zaS G27 v26 20 v7 v28).bind fun G29 =>
                  (zgQ G29 this 12 41).bind fun v30 =>
                  (zaI G29 v30 20 p1).bind fun v31 =>
                  (zgQ G29 this 12 41).bind fun v32 =>
                  (zaS G29 v32 20 p1 (0)).bind fun G33 =>
                  zb (FM_settle FU this p1 v31 G33) fun _ G34 =>
                  (zgQ G34 this 12 37).bind fun v35 =>
                  (zaI G34 v35 20 v7).bind fun v36 =>
                  (zgQ G34 this 12 38).bind fun v37 =>
                  (zaI G34 v37 20 v7).bind fun v38 =>
                  (zck (v36 + v38)).bind fun v39 =>
                  some (v39, G34)
            else
              some ((-3), G)
def FM_month (FU : Nat) (this : Nat) (p1 : Int) (p2 : Int) (p3 : Int) (p4 : Int) (p5 : Int) (G : Hp) : Option (Int × Hp) := zgd G this 12 (FM_month_b FU this p1 p2 p3 p4 p5 G)

def FM_isShortMonth_b (FU : Nat) (this : Nat) (p1 : Int) (G : Hp) : Option Int :=
  (zgQ G this 12 34).bind fun v1 =>
  (zaI G v1 20 p1).bind fun v2 =>
  (zgQ G this 12 35).bind fun v3 =>
  (zaI G v3 20 p1).bind fun v4 =>
  (zgI G this 12 7).bind fun v5 =>
  (zck (v4 * v5)).bind fun v6 =>
  if v2 < v6 then
    zrz (1)
  else
    (zgQ G this 12 34).bind fun v7 =>
    (zaI G v7 20 p1).bind fun v8 =>
    (zgQ G this 12 36).bind fun v9 =>
    (zaI G v9 20 p1).bind fun v10 =>
    if v8 < v10 then
      zrz (1)
    else
      zrz (0)
def FM_isShortMonth (FU : Nat) (this : Nat) (p1 : Int) (G : Hp) : Option Int := zgd G this 12 (FM_isShortMonth_b FU this p1 G)

def FM_isShort_b (FU : Nat) (this : Nat) (p1 : Int) (p2 : Int) (G : Hp) : Option Int :=
  (FM_isShop FU this p1 G).bind fun v1 =>
  if v1 = 0 then
    some (-1)
  else
    (FM_isMonth FU p2 G).bind fun v2 =>
    if v2 = 0 then
      some (-1)
    else
      (zgQ G this 12 33).bind fun v3 =>
      (zck ((333) * p1)).bind fun v4 =>
      (zck (v4 + p2)).bind fun v5 =>
      (zaI G v3 21 v5).bind fun v6 =>
      if v6 = 0 then
        some (-1)
      else
        (zck ((333) * p1)).bind fun v7 =>
        (zck (v7 + p2)).bind fun v8 =>
        (FM_isShortMonth FU this v8 G).bind fun v9 =>
        if v9 = 0 then
          some (0)
        else
          some (1)
def FM_isShort (FU : Nat) (this : Nat) (p1 : Int) (p2 : Int) (G : Hp) : Option Int := zgd G this 12 (FM_isShort_b FU this p1 p2 G)

def FM_under_B86 (FU : Nat) (x4 : Int) (G : Hp) : Option Int :=
  if x4 < (3) then
    some (0)
  else
    some (1)
def FM_under_L25 (FU : Nat) : Nat → Nat → Int → Int → Int → Int → Hp → Option Int
  | 0, _, _, _, _, _, _ => none
  | n + 1, x0, x1, x3, x4, x5, G => if x5 < 0 then
      FM_under_B86 FU x4 G
    else
      if x3 < (6) then
        (zgQ G x0 12 33).bind fun v1 =>
        (zck ((333) * x1)).bind fun v2 =>
        (zck (v2 + x5)).bind fun v3 =>
        (zaI G v1 21 v3).bind fun v4 =>
        if v4 = 0 then
          (zck (x5 + (-1))).bind fun v5 =>
          FM_under_L25 FU n x0 x1 x3 x4 v5 G
        else
          (zck (x3 + (1))).bind fun v6 =>
          (zck ((333) * x1)).bind fun v7 =>
          (zck (v7 + x5)).bind fun v8 =>
          (FM_isShortMonth FU x0 v8 G).bind fun v9 =>
          if v9 = 0 then
            (zck (x4 + (0))).bind fun v10 =>
            (zck (x5 + (-1))).bind fun v11 =>
            FM_under_L25 FU n x0 x1 v6 v10 v11 G
          else
            (zck (x4 + (1))).bind fun v12 =>
            (zck (x5 + (-1))).bind fun v13 =>
            FM_under_L25 FU n x0 x1 v6 v12 v13 G
      else
        FM_under_B86 FU x4 G
def FM_under_b (FU : Nat) (this : Nat) (p1 : Int) (p2 : Int) (G : Hp) : Option Int :=
  (FM_isShop FU this p1 G).bind fun v1 =>
  if v1 = 0 then
    some (-1)
  else
    (FM_isMonth FU p2 G).bind fun v2 =>
    if v2 = 0 then
      some (-1)
    else
      FM_under_L25 FU FU this p1 (0) (0) p2 G
def FM_under (FU : Nat) (this : Nat) (p1 : Int) (p2 : Int) (G : Hp) : Option Int := zgd G this 12 (FM_under_b FU this p1 p2 G)

def FM_pay_b (FU : Nat) (this : Nat) (p1 : Int) (p2 : Int) (G : Hp) : Option (Int × Hp) :=
  (FM_isShop FU this p1 G).bind fun v1 =>
  if v1 = 0 then
    some ((-2000000000), G)
  else
    (FM_within FU p2 (1) (1000000) G).bind fun v2 =>
    if v2 = 0 then
      some ((-2000000000), G)
    else
      zb (FM_settle FU this p1 p2 G) fun _ G3 =>
      (FM_owedOf FU this p1 G3).bind fun v4 =>
      some (v4, G3)
def FM_pay (FU : Nat) (this : Nat) (p1 : Int) (p2 : Int) (G : Hp) : Option (Int × Hp) := zgd G this 12 (FM_pay_b FU this p1 p2 G)

def FM_owed_b (FU : Nat) (this : Nat) (p1 : Int) (G : Hp) : Option Int :=
  (FM_isShop FU this p1 G).bind fun v1 =>
  if v1 = 0 then
    some (-2000000000)
  else
    (FM_owedOf FU this p1 G).bind fun v2 =>
    some v2
def FM_owed (FU : Nat) (this : Nat) (p1 : Int) (G : Hp) : Option Int := zgd G this 12 (FM_owed_b FU this p1 G)

def FM_led_b (FU : Nat) (this : Nat) (p1 : Int) (p2 : Int) (p3 : Int) (G : Hp) : Option Int :=
  (FM_isShop FU this p1 G).bind fun v1 =>
  if v1 = 0 then
    some (-1)
  else
    (FM_isMonth FU p2 G).bind fun v2 =>
    if v2 = 0 then
      some (-1)
    else
      (zgQ G this 12 33).bind fun v3 =>
      (zck ((333) * p1)).bind fun v4 =>
      (zck (v4 + p2)).bind fun v5 =>
      (zaI G v3 21 v5).bind fun v6 =>
      if v6 = 0 then
        some (-1)
      else
        (FM_within FU p3 (0) (3) G).bind fun v7 =>
        if v7 = 0 then
          some (-1)
        else
          (zck ((333) * p1)).bind fun v8 =>
          (zck (v8 + p2)).bind fun v9 =>
          if p3 = 0 then
            (zgQ G this 12 37).bind fun v10 =>
            (zaI G v10 20 v9).bind fun v11 =>
            some v11
          else
            if p3 = (1) then
              (zgQ G this 12 38).bind fun v12 =>
              (zaI G v12 20 v9).bind fun v13 =>
              some v13
            else
              if p3 = (2) then
                (zgQ G this 12 39).bind fun v14 =>
                (zaI G v14 20 v9).bind fun v15 =>
                some v15
              else
                (zgQ G this 12 40).bind fun v16 =>
                (zaI G v16 20 v9).bind fun v17 =>
                some v17
def FM_led (FU : Nat) (this : Nat) (p1 : Int) (p2 : Int) (p3 : Int) (G : Hp) : Option Int := zgd G this 12 (FM_led_b FU this p1 p2 p3 G)

def FM_notice_B76 (FU : Nat) (x0 : Nat) (x1 : Int) (y0 : Int) (G : Hp) : Option (Int × Hp) :=
  (zgQ G x0 12 43).bind fun v1 =>
  (zgI G x0 12 0).bind fun v2 =>
  (zaS G v1 20 x1 v2).bind fun G3 =>
  (zgQ G3 x0 12 44).bind fun v4 =>
  (zgI G3 x0 12 0).bind fun v5 =>
  (zck (v5 + y0)).bind fun v6 =>
  (zaS G3 v4 20 x1 v6).bind fun G7 =>
  (zgQ G7 x0 12 45).bind fun v8 =>
  (zaS G7 v8 20 x1 (0)).bind fun G9 =>
  (zgQ G9 x0 12 46).bind fun v10 =>
  (zaS G9 v10 20 x1 (-1)).bind fun G11 =>
  (zgQ G11 x0 12 44).bind fun v12 =>
  (zaI G11 v12 20 x1).bind fun v13 =>
  some (v13, G11)
def FM_notice_b (FU : Nat) (this : Nat) (p1 : Int) (G : Hp) : Option (Int × Hp) :=
  (FM_isShop FU this p1 G).bind fun v1 =>
  if v1 = 0 then
    some ((-1), G)
  else
    (FM_owedOf FU this p1 G).bind fun v2 =>
    if v2 ≤ 0 then
      some ((-3), G)
    else
      (FM_runs FU this p1 G).bind fun v3 =>
      if v3 = 0 then
        (FM_isOpen FU this p1 G).bind fun v4 =>
        if v4 = 0 then
          some ((-3), G)
        else
          (zgI G this 12 0).bind fun v5 =>
          (zgI G this 12 0).bind fun v6 =>
          (FM_force FU this (2) v5 v6 G).bind fun v7 =>
          if v7 < 0 then
            FM_notice_B76 FU this p1 (0) G
          else
            (zgI G this 12 0).bind fun v8 =>
            (zdv v8 (30)).bind fun v9 =>
            (zgI G this 12 0).bind fun v10 =>
            zb (FM_given FU this v7 p1 v9 v10 G) fun v12 G11 =>
            FM_notice_B76 FU this p1 v12 G11
      else
        some ((-3), G)
def FM_notice (FU : Nat) (this : Nat) (p1 : Int) (G : Hp) : Option (Int × Hp) := zgd G this 12 (FM_notice_b FU this p1 G)

def FM_ofNotice_b (FU : Nat) (this : Nat) (p1 : Int) (p2 : Int) (G : Hp) : Option Int :=
  (FM_isShop FU this p1 G).bind fun v1 =>
  if v1 = 0 then
    some (-1)
  else
    (zgQ G this 12 43).bind fun v2 =>
    (zaI G v2 20 p1).bind fun v3 =>
    if v3 < 0 then
      some (-1)
    else
      if p2 = 0 then
        (zgQ G this 12 43).bind fun v4 =>
        (zaI G v4 20 p1).bind fun v5 =>
        some v5
      else if p2 = 1 then
        (zgQ G this 12 44).bind fun v6 =>
        (zaI G v6 20 p1).bind fun v7 =>
        some v7
      else if p2 = 2 then
        (zgQ G this 12 45).bind fun v8 =>
        (zaI G v8 20 p1).bind fun v9 =>
        some v9
      else if p2 = 3 then
        (zgQ G this 12 46).bind fun v10 =>
        (zaI G v10 20 p1).bind fun v11 =>
        some v11
      else 
        some (-1)
def FM_ofNotice (FU : Nat) (this : Nat) (p1 : Int) (p2 : Int) (G : Hp) : Option Int := zgd G this 12 (FM_ofNotice_b FU this p1 p2 G)

def FM_gain_b (FU : Nat) (this : Nat) (p1 : Int) (p2 : Int) (G : Hp) : Option (Int × Hp) :=
  (FM_isShop FU this p1 G).bind fun v1 =>
  if v1 = 0 then
    some ((-1), G)
  else
    (FM_within FU p2 (0) (999) G).bind fun v2 =>
    if v2 = 0 then
      some ((-1), G)
    else
      (zgQ G this 12 47).bind fun v3 =>
      (zaI G v3 20 p1).bind fun v4 =>
      (zgQ G this 12 47).bind fun v5 =>
      (zaS G v5 20 p1 p2).bind fun G6 =>
      some (v4, G6)
def FM_gain (FU : Nat) (this : Nat) (p1 : Int) (p2 : Int) (G : Hp) : Option (Int × Hp) := zgd G this 12 (FM_gain_b FU this p1 p2 G)

def FM_restOf_b (FU : Nat) (this : Nat) (p1 : Int) (p2 : Int) (p3 : Int) (G : Hp) : Option Int :=
  (zgQ G this 12 47).bind fun v1 =>
  (zaI G v1 20 p1).bind fun v2 =>
  (zckL (p2 * v2)).bind fun v3 =>
  (zrm v3 p3).bind fun v4 =>
  some v4
def FM_restOf (FU : Nat) (this : Nat) (p1 : Int) (p2 : Int) (p3 : Int) (G : Hp) : Option Int := zgd G this 12 (FM_restOf_b FU this p1 p2 p3 G)

def FM_spend_L134 (FU : Nat) (kL119 : Nat → Int → Int → Int → Int → Hp → Option (Int × Hp)) : Nat → Nat → Int → Int → Int → Int → Int → Int → Hp → Option (Int × Hp)
  | 0, _, _, _, _, _, _, _, _ => none
  | n + 1, x0, x1, x2, x4, x5, x6, x7, G => (zgI G x0 12 15).bind fun v1 =>
    if x7 < v1 then
      (FM_restOf FU x0 x7 x1 x2 G).bind fun v2 =>
      (FM_restOf FU x0 x5 x1 x2 G).bind fun v3 =>
      (some (zcmp v2 v3)).bind fun v4 =>
      if v4 ≤ 0 then
        (some (zcmp v2 v3)).bind fun v5 =>
        if v5 = 0 then
          if x7 < x5 then
            (zck (x6 + (1))).bind fun v6 =>
            (zck (x7 + (1))).bind fun v7 =>
            FM_spend_L134 FU kL119 n x0 x1 x2 x4 x5 v6 v7 G
          else
            (zck (x6 + (0))).bind fun v8 =>
            (zck (x7 + (1))).bind fun v9 =>
            FM_spend_L134 FU kL119 n x0 x1 x2 x4 x5 v8 v9 G
        else
          (zck (x6 + (0))).bind fun v10 =>
          (zck (x7 + (1))).bind fun v11 =>
          FM_spend_L134 FU kL119 n x0 x1 x2 x4 x5 v10 v11 G
      else
        (zck (x6 + (1))).bind fun v12 =>
        (zck (x7 + (1))).bind fun v13 =>
        FM_spend_L134 FU kL119 n x0 x1 x2 x4 x5 v12 v13 G
    else
      (zgQ G x0 12 14).bind fun v14 =>
      (zaI G v14 20 x5).bind fun v15 =>
      if x6 < x4 then
        (zck (v15 + (1))).bind fun v16 =>
        (zaS G v14 20 x5 v16).bind fun G17 =>
        (zck (x5 + (1))).bind fun v18 =>
        kL119 x0 x1 x2 x4 v18 G17
      else
        (zck (v15 + (0))).bind fun v19 =>
        (zaS G v14 20 x5 v19).bind fun G20 =>
        (zck (x5 + (1))).bind fun v21 =>
        kL119 x0 x1 x2 x4 v21 G20
def FM_spend_L233 (FU : Nat) : Nat → Nat → Int → Int → Hp → Option (Int × Hp)
  | 0, _, _, _, _ => none
  | n + 1, x0, x1, x5, G => (zgI G x0 12 15).bind fun v1 =>
    if x5 < v1 then
      (zgQ G x0 12 47).bind fun v2 =>
      (zaS G v2 20 x5 (0)).bind fun G3 =>
      (zck (x5 + (1))).bind fun v4 =>
      FM_spend_L233 FU n x0 x1 v4 G3
    else
      (zgI G x0 12 42).bind fun v5 =>
      (zck (v5 - x1)).bind fun v6 =>
      (zpI G x0 12 42 v6).bind fun G7 =>
      (zgI G7 x0 12 42).bind fun v8 =>
      some (v8, G7)
def FM_spend_L119 (FU : Nat) : Nat → Nat → Int → Int → Int → Int → Hp → Option (Int × Hp)
  | 0, _, _, _, _, _, _ => none
  | n + 1, x0, x1, x2, x4, x5, G => (zgI G x0 12 15).bind fun v1 =>
    if x5 < v1 then
      FM_spend_L134 FU (FM_spend_L119 FU n) FU x0 x1 x2 x4 x5 (0) (0) G
    else
      FM_spend_L233 FU FU x0 x1 (0) G
def FM_spend_L66 (FU : Nat) : Nat → Nat → Int → Int → Int → Int → Hp → Option (Int × Hp)
  | 0, _, _, _, _, _, _ => none
  | n + 1, x0, x1, x2, x4, x5, G => (zgI G x0 12 15).bind fun v1 =>
    if x5 < v1 then
      (zgQ G x0 12 47).bind fun v2 =>
      (zaI G v2 20 x5).bind fun v3 =>
      (zckL (x1 * v3)).bind fun v4 =>
      (zdvL v4 x2).bind fun v5 =>
      (zck v5).bind fun v6 =>
      (zgQ G x0 12 14).bind fun v7 =>
      (zaI G v7 20 x5).bind fun v8 =>
      (zck (v8 + v6)).bind fun v9 =>
      (zaS G v7 20 x5 v9).bind fun G10 =>
      (zck (x4 - v6)).bind fun v11 =>
      (zck (x5 + (1))).bind fun v12 =>
      FM_spend_L66 FU n x0 x1 x2 v11 v12 G10
    else
      FM_spend_L119 FU FU x0 x1 x2 x4 (0) G
def FM_spend_L17 (FU : Nat) : Nat → Nat → Int → Int → Int → Hp → Option (Int × Hp)
  | 0, _, _, _, _, _ => none
  | n + 1, x0, x1, x2, x4, G => (zgI G x0 12 15).bind fun v1 =>
    if x4 < v1 then
      (zgQ G x0 12 47).bind fun v2 =>
      (zaI G v2 20 x4).bind fun v3 =>
      (zckL (x2 + v3)).bind fun v4 =>
      (zck (x4 + (1))).bind fun v5 =>
      FM_spend_L17 FU n x0 x1 v4 v5 G
    else
      (zgI G x0 12 42).bind fun v6 =>
      if x1 ≤ v6 then
        (some (zcmp x2 (0))).bind fun v7 =>
        if v7 = 0 then
          some ((-3), G)
        else
          FM_spend_L66 FU FU x0 x1 x2 x1 (0) G
      else
        some ((-3), G)
def FM_spend_b (FU : Nat) (this : Nat) (p1 : Int) (G : Hp) : Option (Int × Hp) :=
  (FM_within FU p1 (1) (1000000) G).bind fun v1 =>
  if v1 = 0 then
    some ((-1), G)
  else
    FM_spend_L17 FU FU this p1 (0) (0) G
def FM_spend (FU : Nat) (this : Nat) (p1 : Int) (G : Hp) : Option (Int × Hp) := zgd G this 12 (FM_spend_b FU this p1 G)

def FM_load_b (FU : Nat) (this : Nat) (p1 : Int) (p2 : Int) (G : Hp) : Option (Int × Hp) :=
  (FM_isShop FU this p1 G).bind fun v1 =>
  if v1 = 0 then
    some ((-1), G)
  else
    (FM_within FU p2 (1) (99) G).bind fun v2 =>
    if v2 = 0 then
      some ((-1), G)
    else
      (zgQ G this 12 48).bind fun v3 =>
      (zaI G v3 20 p1).bind fun v4 =>
      if v4 ≤ 0 then
        (zgI G this 12 49).bind fun v5 =>
        if v5 = (10) then
          some ((-2), G)
        else
          (zgQ G this 12 48).bind fun v6 =>
          (zaS G v6 20 p1 p2).bind fun G7 =>
          (zgI G7 this 12 49).bind fun v8 =>
          (zck (v8 + (1))).bind fun v9 =>
          (zpI G7 this 12 49 v9).bind fun G10 =>
          (zgI G10 this 12 49).bind fun v11 =>
          some (v11, G10)
      else
        some ((-1), G)
def FM_load (FU : Nat) (this : Nat) (p1 : Int) (p2 : Int) (G : Hp) : Option (Int × Hp) := zgd G this 12 (FM_load_b FU this p1 p2 G)

def FM_pack_B106 (FU : Nat) (rec : Nat → Int → Int → Int → Hp → Option (Int × Hp)) (kL32 : Nat → Int → Int → Int → Int → Hp → Option (Int × Hp)) (x0 : Nat) (x1 : Int) (x2 : Int) (x3 : Int) (x4 : Int) (y0 : Nat) (y1 : Int) (y2 : Int) (G : Hp) : Option (Int × Hp) :=
  zb (rec y0 y1 y2 x3 G) fun v2 G1 =>
  (zgQ G1 x0 12 52).bind fun v3 =>
  (zaI G1 v3 20 x4).bind fun v4 =>
  (zgQ G1 x0 12 48).bind fun v5 =>
  (zaI G1 v5 20 x1).bind fun v6 =>
  (zck (v4 - v6)).bind fun v7 =>
  (zaS G1 v3 20 x4 v7).bind fun G8 =>
  if v2 = 0 then
    (zck (x4 + (1))).bind fun v9 =>
    kL32 x0 x1 x2 x3 v9 G8
  else
    (zrz (1)).bind fun v0 => some (v0, G8)
def FM_pack_L32 (FU : Nat) (rec : Nat → Int → Int → Int → Hp → Option (Int × Hp)) : Nat → Nat → Int → Int → Int → Int → Hp → Option (Int × Hp)
  | 0, _, _, _, _, _, _ => none
  | n + 1, x0, x1, x2, x3, x4, G => if x4 ≤ x2 then
      if x4 < x3 then
        (zgQ G x0 12 52).bind fun v1 =>
        (zaI G v1 20 x4).bind fun v2 =>
        (zgQ G x0 12 48).bind fun v3 =>
        (zaI G v3 20 x1).bind fun v4 =>
        (zck (v2 + v4)).bind fun v5 =>
        (zgI G x0 12 53).bind fun v6 =>
        if v5 ≤ v6 then
          (zgQ G x0 12 52).bind fun v7 =>
          (zaI G v7 20 x4).bind fun v8 =>
          (zgQ G x0 12 48).bind fun v9 =>
          (zaI G v9 20 x1).bind fun v10 =>
          (zck (v8 + v10)).bind fun v11 =>
          (zaS G v7 20 x4 v11).bind fun G12 =>
          (zgQ G12 x0 12 50).bind fun v13 =>
          (zaS G12 v13 20 x1 x4).bind fun G14 =>
          (zck (x1 + (1))).bind fun v15 =>
          if x4 = x2 then
            (zck (x2 + (1))).bind fun v16 =>
            FM_pack_B106 FU rec (FM_pack_L32 FU rec n) x0 x1 x2 x3 x4 x0 v15 v16 G14
          else
            FM_pack_B106 FU rec (FM_pack_L32 FU rec n) x0 x1 x2 x3 x4 x0 v15 x2 G14
        else
          (zck (x4 + (1))).bind fun v17 =>
          FM_pack_L32 FU rec n x0 x1 x2 x3 v17 G
      else
        (zrz (0)).bind fun v0 => some (v0, G)
    else
      (zrz (0)).bind fun v0 => some (v0, G)
def FM_pack_b (FU : Nat) (rec : Nat → Int → Int → Int → Hp → Option (Int × Hp)) (this : Nat) (p1 : Int) (p2 : Int) (p3 : Int) (G : Hp) : Option (Int × Hp) :=
  (zgI G this 12 15).bind fun v1 =>
  if p1 = v1 then
    (zrz (1)).bind fun v0 => some (v0, G)
  else
    (zgQ G this 12 48).bind fun v2 =>
    (zaI G v2 20 p1).bind fun v3 =>
    if v3 = 0 then
      (zck (p1 + (1))).bind fun v4 =>
      zb (rec this v4 p2 p3 G) fun v6 G5 =>
      (zrz v6).bind fun v0 => some (v0, G5)
    else
      FM_pack_L32 FU rec FU this p1 p2 p3 (0) G
def FM_pack (FU : Nat) (rec : Nat → Int → Int → Int → Hp → Option (Int × Hp)) (this : Nat) (p1 : Int) (p2 : Int) (p3 : Int) (G : Hp) : Option (Int × Hp) := zgd G this 12 (FM_pack_b FU rec this p1 p2 p3 G)
def FM_pack_n (FU : Nat) : Nat → Nat → Int → Int → Int → Hp → Option (Int × Hp)
  | 0, _, _, _, _, _ => none
  | d + 1, this, p1, p2, p3, G => FM_pack FU (FM_pack_n FU d) this p1 p2 p3 G

def FM_carts_B131 (FU : Nat) (kL90 : Nat → Int → Int → Int → Hp → Option (Int × Hp)) (x0 : Nat) (x2 : Int) (x3 : Int) (x4 : Int) (G : Hp) : Option (Int × Hp) :=
  (zgQ G x0 12 48).bind fun v1 =>
  (zaS G v1 20 x4 (0)).bind fun G2 =>
  (zck (x4 + (1))).bind fun v3 =>
  kL90 x0 x2 x3 v3 G2
def FM_carts_B130 (FU : Nat) (kL90 : Nat → Int → Int → Int → Hp → Option (Int × Hp)) (x0 : Nat) (x2 : Int) (x3 : Int) (x4 : Int) (y0 : Nat) (y1 : Int) (y2 : Int) (G : Hp) : Option (Int × Hp) :=
  (zaS G y0 20 y1 y2).bind fun G1 =>
  FM_carts_B131 FU kL90 x0 x2 x3 x4 G1
def FM_carts_L90 (FU : Nat) : Nat → Nat → Int → Int → Int → Hp → Option (Int × Hp)
  | 0, _, _, _, _, _ => none
  | n + 1, x0, x2, x3, x4, G => (zgI G x0 12 15).bind fun v1 =>
    if x4 < v1 then
      if x2 = 0 then
        FM_carts_B131 FU (FM_carts_L90 FU n) x0 x2 x3 x4 G
      else
        (zgQ G x0 12 51).bind fun v2 =>
        (zgQ G x0 12 48).bind fun v3 =>
        (zaI G v3 20 x4).bind fun v4 =>
        if v4 ≤ 0 then
          FM_carts_B130 FU (FM_carts_L90 FU n) x0 x2 x3 x4 v2 x4 (-1) G
        else
          (zgQ G x0 12 50).bind fun v5 =>
          (zaI G v5 20 x4).bind fun v6 =>
          FM_carts_B130 FU (FM_carts_L90 FU n) x0 x2 x3 x4 v2 x4 v6 G
    else
      (zpI G x0 12 49 (0)).bind fun G7 =>
      if x2 = 0 then
        some ((-4), G7)
      else
        some (x3, G7)
def FM_carts_L67 (FU : Nat) : Nat → Nat → Int → Int → Hp → Option (Int × Hp)
  | 0, _, _, _, _ => none
  | n + 1, x0, x2, x3, G => if x2 = 0 then
      FM_carts_L90 FU FU x0 x2 x3 (0) G
    else
      zb (FM_pack_n FU 44 x0 (0) (0) x3 G) fun v2 G1 =>
      if v2 = 0 then
        (zck (x3 + (1))).bind fun v3 =>
        FM_carts_L67 FU n x0 x2 v3 G1
      else
        FM_carts_L90 FU FU x0 x2 x3 (0) G1
def FM_carts_L31 (FU : Nat) : Nat → Nat → Int → Int → Int → Hp → Option (Int × Hp)
  | 0, _, _, _, _, _ => none
  | n + 1, x0, x1, x2, x3, G => (zgI G x0 12 15).bind fun v1 =>
    if x3 < v1 then
      if x2 = 0 then
        (zck (x3 + (1))).bind fun v2 =>
        FM_carts_L31 FU n x0 x1 (0) v2 G
      else
        (zgQ G x0 12 48).bind fun v3 =>
        (zaI G v3 20 x3).bind fun v4 =>
        if v4 ≤ x1 then
          (zck (x3 + (1))).bind fun v5 =>
          FM_carts_L31 FU n x0 x1 (1) v5 G
        else
          (zck (x3 + (1))).bind fun v6 =>
          FM_carts_L31 FU n x0 x1 (0) v6 G
    else
      FM_carts_L67 FU FU x0 x2 (1) G
def FM_carts_b (FU : Nat) (this : Nat) (p1 : Int) (G : Hp) : Option (Int × Hp) :=
  (FM_within FU p1 (1) (99) G).bind fun v1 =>
  if v1 = 0 then
    some ((-1), G)
  else
    (zgI G this 12 49).bind fun v2 =>
    if v2 = 0 then
      some ((-3), G)
    else
      (zpI G this 12 53 p1).bind fun G3 =>
      FM_carts_L31 FU FU this p1 (1) (0) G3
def FM_carts (FU : Nat) (this : Nat) (p1 : Int) (G : Hp) : Option (Int × Hp) := zgd G this 12 (FM_carts_b FU this p1 G)

def FM_cart_b (FU : Nat) (this : Nat) (p1 : Int) (G : Hp) : Option Int :=
  (FM_isShop FU this p1 G).bind fun v1 =>
  if v1 = 0 then
    some (-1)
  else
    (zgQ G this 12 51).bind fun v2 =>
    (zaI G v2 20 p1).bind fun v3 =>
    some v3
def FM_cart (FU : Nat) (this : Nat) (p1 : Int) (G : Hp) : Option Int := zgd G this 12 (FM_cart_b FU this p1 G)

def FM_count_B31 (FU : Nat) (kL7 : Nat → Int → Int → Int → Int → Hp → Option Int) (x0 : Nat) (x1 : Int) (x3 : Int) (x4 : Int) (y0 : Int) (y1 : Int) (G : Hp) : Option Int :=
  (zck (y0 + y1)).bind fun v1 =>
  (FM_runs FU x0 x4 G).bind fun v2 =>
  if v2 = 0 then
    (zck (x3 + (0))).bind fun v3 =>
    (zck (x4 + (1))).bind fun v4 =>
    kL7 x0 x1 v1 v3 v4 G
  else
    (zck (x3 + (1))).bind fun v5 =>
    (zck (x4 + (1))).bind fun v6 =>
    kL7 x0 x1 v1 v5 v6 G
def FM_count_L7 (FU : Nat) : Nat → Nat → Int → Int → Int → Int → Hp → Option Int
  | 0, _, _, _, _, _, _ => none
  | n + 1, x0, x1, x2, x3, x4, G => (zgI G x0 12 15).bind fun v1 =>
    if x4 < v1 then
      (FM_isOpen FU x0 x4 G).bind fun v2 =>
      if v2 = 0 then
        FM_count_B31 FU (FM_count_L7 FU n) x0 x1 x3 x4 x2 (0) G
      else
        FM_count_B31 FU (FM_count_L7 FU n) x0 x1 x3 x4 x2 (1) G
    else
      if x1 = 0 then
        (zgI G x0 12 2).bind fun v3 =>
        some v3
      else if x1 = 1 then
        (zgI G x0 12 15).bind fun v4 =>
        some v4
      else if x1 = 2 then
        some x2
      else if x1 = 3 then
        (zgI G x0 12 0).bind fun v5 =>
        some v5
      else if x1 = 4 then
        (zgI G x0 12 31).bind fun v6 =>
        some v6
      else if x1 = 5 then
        (zgI G x0 12 18).bind fun v7 =>
        some v7
      else if x1 = 6 then
        (zgI G x0 12 42).bind fun v8 =>
        some v8
      else if x1 = 7 then
        (zgI G x0 12 25).bind fun v9 =>
        some v9
      else if x1 = 8 then
        some x3
      else 
        some (-1)
def FM_count_b (FU : Nat) (this : Nat) (p1 : Int) (G : Hp) : Option Int :=
  FM_count_L7 FU FU this p1 (0) (0) (0) G
def FM_count (FU : Nat) (this : Nat) (p1 : Int) (G : Hp) : Option Int := zgd G this 12 (FM_count_b FU this p1 G)

def FB_init (FU : Nat) (this : Nat) (G : Hp) : Option (Unit × Hp) :=
  (zpI G this 11 8 (4)).bind fun G1 =>
  zbA G1 10 0 fun a2 G3 =>
  zb (FTown_init FU a2 G3) fun _ G4 =>
  (zpR G4 this 11 0 a2).bind fun G5 =>
  zbA G5 0 0 fun a6 G7 =>
  (zgQ G7 this 11 0).bind fun v8 =>
  zb (FChain_init FU a6 v8 G7) fun _ G9 =>
  (zpR G9 this 11 1 a6).bind fun G10 =>
  zbA G10 2 0 fun a11 G12 =>
  (zgQ G12 this 11 0).bind fun v13 =>
  zb (FMarket_init FU a11 v13 G12) fun _ G14 =>
  (zpR G14 this 11 2 a11).bind fun G15 =>
  zbA G15 8 0 fun a16 G17 =>
  (zgQ G17 this 11 0).bind fun v18 =>
  (zgQ G17 this 11 1).bind fun v19 =>
  (zgQ G17 this 11 2).bind fun v20 =>
  zb (FSearch_init FU a16 v18 v19 v20 G17) fun _ G21 =>
  (zpR G21 this 11 3 a16).bind fun G22 =>
  zbA G22 6 0 fun a23 G24 =>
  (zgQ G24 this 11 1).bind fun v25 =>
  zb (FShelf_init FU a23 v25 G24) fun _ G26 =>
  (zpR G26 this 11 4 a23).bind fun G27 =>
  zbA G27 1 0 fun a28 G29 =>
  (zgQ G29 this 11 1).bind fun v30 =>
  zb (FFund_init FU a28 v30 G29) fun _ G31 =>
  (zpR G31 this 11 5 a28).bind fun G32 =>
  zbA G32 4 0 fun a33 G34 =>
  zb (FPacker_init FU a33 G34) fun _ G35 =>
  (zpR G35 this 11 6 a33).bind fun G36 =>
  some ((), G36)

def FB_isWithin (FU : Nat) (p1 : Int) (p2 : Int) (p3 : Int) (G : Hp) : Option Int :=
  if p1 < p2 then
    zrz (0)
  else
    if p1 ≤ p3 then
      zrz (1)
    else
      zrz (0)

def FB_place_b (FU : Nat) (this : Nat) (p1 : Int) (G : Hp) : Option (Int × Hp) :=
  (FB_isWithin FU p1 (0) (999) G).bind fun v1 =>
  if v1 = 0 then
    some ((-1), G)
  else
    (zgQ G this 11 0).bind fun v2 =>
    zb (FTown_addPlace FU v2 p1 G) fun v4 G3 =>
    some (v4, G3)
def FB_place (FU : Nat) (this : Nat) (p1 : Int) (G : Hp) : Option (Int × Hp) := zgd G this 11 (FB_place_b FU this p1 G)

def FB_street_b (FU : Nat) (this : Nat) (p1 : Int) (p2 : Int) (p3 : Int) (G : Hp) : Option (Int × Hp) :=
  (zgQ G this 11 0).bind fun v1 =>
  (FTown_hasPlace FU v1 p1 G).bind fun v2 =>
  if v2 = 0 then
    some ((-1), G)
  else
    (zgQ G this 11 0).bind fun v3 =>
    (FTown_hasPlace FU v3 p2 G).bind fun v4 =>
    if v4 = 0 then
      some ((-1), G)
    else
      if p1 = p2 then
        some ((-1), G)
      else
        (FB_isWithin FU p3 (1) (99) G).bind fun v5 =>
        if v5 = 0 then
          some ((-1), G)
        else
          (zgQ G this 11 0).bind fun v6 =>
          zb (FTown_addStreet FU v6 p1 p2 p3 G) fun v8 G7 =>
          some (v8, G7)
def FB_street (FU : Nat) (this : Nat) (p1 : Int) (p2 : Int) (p3 : Int) (G : Hp) : Option (Int × Hp) := zgd G this 11 (FB_street_b FU this p1 p2 p3 G)

def FB_way_b (FU : Nat) (this : Nat) (p1 : Int) (p2 : Int) (G : Hp) : Option Int :=
  (zgQ G this 11 0).bind fun v1 =>
  (FTown_hasPlace FU v1 p1 G).bind fun v2 =>
  if v2 = 0 then
    some (-1)
  else
    (zgQ G this 11 0).bind fun v3 =>
    (FTown_hasPlace FU v3 p2 G).bind fun v4 =>
    if v4 = 0 then
      some (-1)
    else
      (zgQ G this 11 0).bind fun v5 =>
      (FTown_wayBetween FU v5 p1 p2 G).bind fun v6 =>
      if v6 < 0 then
        some (-4)
      else
        some v6
def FB_way (FU : Nat) (this : Nat) (p1 : Int) (p2 : Int) (G : Hp) : Option Int := zgd G this 11 (FB_way_b FU this p1 p2 G)

def FB_days_L27 (FU : Nat) : Nat → Nat → Int → Int → Hp → Option (Int × Hp)
  | 0, _, _, _, _ => none
  | n + 1, x0, x1, x2, G => if x2 < x1 then
      (zgI G x0 11 7).bind fun v1 =>
      (zck (v1 + (1))).bind fun v2 =>
      (zpI G x0 11 7 v2).bind fun G3 =>
      (zgQ G3 x0 11 1).bind fun v4 =>
      (zgI G3 x0 11 7).bind fun v5 =>
      zb (FChain_lapseNotices FU v4 v5 G3) fun _ G6 =>
      (zck (x2 + (1))).bind fun v7 =>
      FB_days_L27 FU n x0 x1 v7 G6
    else
      (zgI G x0 11 7).bind fun v8 =>
      some (v8, G)
def FB_days_b (FU : Nat) (this : Nat) (p1 : Int) (G : Hp) : Option (Int × Hp) :=
  (FB_isWithin FU p1 (1) (360) G).bind fun v1 =>
  if v1 = 0 then
    some ((-1), G)
  else
    (zgI G this 11 7).bind fun v2 =>
    (zck (v2 + p1)).bind fun v3 =>
    if v3 ≤ (9999) then
      FB_days_L27 FU FU this p1 (0) G
    else
      some ((-1), G)
def FB_days (FU : Nat) (this : Nat) (p1 : Int) (G : Hp) : Option (Int × Hp) := zgd G this 11 (FB_days_b FU this p1 G)

def FB_rule_B32 (FU : Nat) (x0 : Nat) (x1 : Int) (x2 : Int) (G : Hp) : Option (Int × Hp) :=
  if x1 = (1) then
    (FB_isWithin FU x2 (0) (99) G).bind fun v1 =>
    if v1 = 0 then
      some ((-1), G)
    else
      (zgI G x0 11 8).bind fun v2 =>
      (zpI G x0 11 8 x2).bind fun G3 =>
      some (v2, G3)
  else
    some ((-1), G)
def FB_rule_b (FU : Nat) (this : Nat) (p1 : Int) (p2 : Int) (G : Hp) : Option (Int × Hp) :=
  if p1 = 0 then
    (FB_isWithin FU p2 (1) (99) G).bind fun v1 =>
    if v1 = 0 then
      FB_rule_B32 FU this p1 p2 G
    else
      (zgQ G this 11 2).bind fun v2 =>
      (zgI G v2 2 5).bind fun v3 =>
      (zgQ G this 11 2).bind fun v4 =>
      (zpI G v4 2 5 p2).bind fun G5 =>
      some (v3, G5)
  else
    FB_rule_B32 FU this p1 p2 G
def FB_rule (FU : Nat) (this : Nat) (p1 : Int) (p2 : Int) (G : Hp) : Option (Int × Hp) := zgd G this 11 (FB_rule_b FU this p1 p2 G)

def FB_isWho (FU : Nat) (p1 : Int) (G : Hp) : Option Int :=
  (FB_isWithin FU p1 (1) (1499) G).bind fun v1 =>
  if v1 = 0 then
    zrz (0)
  else
    (FB_likeIn FU p1 G).bind fun v2 =>
    if v2 = 0 then
      zrz (0)
    else
      zrz (1)

def FB_open_b (FU : Nat) (this : Nat) (p1 : Int) (p2 : Int) (G : Hp) : Option (Int × Hp) :=
  (zgQ G this 11 0).bind fun v1 =>
  (FTown_hasPlace FU v1 p1 G).bind fun v2 =>
  if v2 = 0 then
    some ((-1), G)
  else
    (FB_isWho FU p2 G).bind fun v3 =>
    if v3 = 0 then
      some ((-1), G)
    else
      (zgQ G this 11 1).bind fun v4 =>
      (FChain_isTaken FU v4 p1 G).bind fun v5 =>
      if v5 = 0 then
        (zgQ G this 11 1).bind fun v6 =>
        (FB_ownerIn FU p2 G).bind fun v7 =>
        (FChain_isBarred FU v6 p1 v7 G).bind fun v8 =>
        if v8 = 0 then
          (zgQ G this 11 1).bind fun v9 =>
          (zgI G v9 0 2).bind fun v10 =>
          if v10 < (40) then
            (zgQ G this 11 1).bind fun v11 =>
            zbA G 7 0 fun a12 G13 =>
            (FB_ownerIn FU p2 G13).bind fun v14 =>
            (FB_likeIn FU p2 G13).bind fun v15 =>
            (zgI G13 this 11 7).bind fun v16 =>
            zb (FShop_init FU a12 p1 v14 v15 v16 G13) fun _ G17 =>
            zb (FChain_addShop FU v11 a12 G17) fun v19 G18 =>
            some (v19, G18)
          else
            some ((-2), G)
        else
          some ((-3), G)
      else
        some ((-3), G)
def FB_open (FU : Nat) (this : Nat) (p1 : Int) (p2 : Int) (G : Hp) : Option (Int × Hp) := zgd G this 11 (FB_open_b FU this p1 p2 G)

def FB_close_b (FU : Nat) (this : Nat) (p1 : Int) (G : Hp) : Option (Int × Hp) :=
  (zgQ G this 11 1).bind fun v1 =>
  (FChain_shopAt FU v1 p1 G).bind fun v2 =>
  zcase v2
    (some ((-1), G))
    (fun a3 => (FShop_isOpen FU a3 G).bind fun v4 =>
     if v4 = 0 then
       some ((-3), G)
     else
       (zgI G this 11 7).bind fun v5 =>
       zb (FShop_shut FU a3 v5 (3) G) fun _ G6 =>
       some ((1), G6))
def FB_close (FU : Nat) (this : Nat) (p1 : Int) (G : Hp) : Option (Int × Hp) := zgd G this 11 (FB_close_b FU this p1 G)

def FB_reach_b (FU : Nat) (this : Nat) (p1 : Int) (p2 : Int) (G : Hp) : Option (Int × Hp) :=
  (zgQ G this 11 1).bind fun v1 =>
  (FChain_shopAt FU v1 p1 G).bind fun v2 =>
  zcase v2
    (some ((-1), G))
    (fun a3 => (FB_isWithin FU p2 (0) (999) G).bind fun v4 =>
     if v4 = 0 then
       some ((-1), G)
     else
       (FShop_isOpen FU a3 G).bind fun v5 =>
       if v5 = 0 then
         some ((-3), G)
       else
         (zgI G a3 7 6).bind fun v6 =>
         (zpI G a3 7 6 p2).bind fun G7 =>
         some (v6, G7))
def FB_reach (FU : Nat) (this : Nat) (p1 : Int) (p2 : Int) (G : Hp) : Option (Int × Hp) := zgd G this 11 (FB_reach_b FU this p1 p2 G)

def FB_whose_b (FU : Nat) (this : Nat) (p1 : Int) (G : Hp) : Option Int :=
  (zgQ G this 11 0).bind fun v1 =>
  (FTown_hasPlace FU v1 p1 G).bind fun v2 =>
  if v2 = 0 then
    some (-1)
  else
    (zgQ G this 11 1).bind fun v3 =>
    (FChain_landHolder FU v3 p1 G).bind fun v4 =>
    if v4 < 0 then
      some (-4)
    else
      some v4
def FB_whose (FU : Nat) (this : Nat) (p1 : Int) (G : Hp) : Option Int := zgd G this 11 (FB_whose_b FU this p1 G)

def FB_ofShop_b (FU : Nat) (this : Nat) (p1 : Int) (p2 : Int) (G : Hp) : Option Int :=
  (zgQ G this 11 1).bind fun v1 =>
  (FChain_shopAt FU v1 p1 G).bind fun v2 =>
  zcase v2
    (some (-1))
    (fun a3 => if p2 = 0 then
       (zgI G a3 7 0).bind fun v4 =>
       some v4
     else if p2 = 1 then
       (zgI G a3 7 1).bind fun v5 =>
       some v5
     else if p2 = 2 then
       (zgI G a3 7 2).bind fun v6 =>
       some v6
     else if p2 = 3 then
       (zgI G a3 7 3).bind fun v7 =>
       some v7
     else if p2 = 4 then
       (zgI G a3 7 5).bind fun v8 =>
       some v8
     else if p2 = 5 then
       (zgI G a3 7 6).bind fun v9 =>
       some v9
     else if p2 = 6 then
       (zgQ G this 11 1).bind fun v10 =>
       (FChain_landSize FU v10 p1 G).bind fun v11 =>
       some v11
     else if p2 = 7 then
       (zgI G a3 7 8).bind fun v12 =>
       some v12
     else 
       some (-1))
def FB_ofShop (FU : Nat) (this : Nat) (p1 : Int) (p2 : Int) (G : Hp) : Option Int := zgd G this 11 (FB_ofShop_b FU this p1 p2 G)

def FB_foretold_b (FU : Nat) (this : Nat) (p1 : Int) (G : Hp) : Option (Int × Hp) :=
  (zgQ G this 11 1).bind fun v1 =>
  (FChain_shopAt FU v1 p1 G).bind fun v2 =>
  zcase v2
    (some ((-1), G))
    (fun a3 => (FShop_isOpen FU a3 G).bind fun v4 =>
     if v4 = 0 then
       some ((-3), G)
     else
       (zgQ G this 11 2).bind fun v5 =>
       (zgQ G this 11 1).bind fun v6 =>
       zb (FMarket_fillFrom FU v5 v6 G) fun _ G7 =>
       (zgQ G7 this 11 2).bind fun v8 =>
       (FMarket_takingsOf FU v8 p1 G7).bind fun v9 =>
       some (v9, G7))
def FB_foretold (FU : Nat) (this : Nat) (p1 : Int) (G : Hp) : Option (Int × Hp) := zgd G this 11 (FB_foretold_b FU this p1 G)

def FB_harm_b (FU : Nat) (this : Nat) (p1 : Int) (p2 : Int) (p3 : Int) (G : Hp) : Option (Int × Hp) :=
  (zgQ G this 11 1).bind fun v1 =>
  (FChain_shopAt FU v1 p1 G).bind fun v2 =>
  zcase v2
    (some ((-1), G))
    (fun a3 => (zgQ G this 11 0).bind fun v4 =>
     (FTown_hasPlace FU v4 p2 G).bind fun v5 =>
     if v5 = 0 then
       some ((-1), G)
     else
       (FB_isWithin FU p3 (1) (99) G).bind fun v6 =>
       if v6 = 0 then
         some ((-1), G)
       else
         (FShop_isOpen FU a3 G).bind fun v7 =>
         if v7 = 0 then
           some ((-3), G)
         else
           (zgQ G this 11 1).bind fun v8 =>
           (FChain_isTaken FU v8 p2 G).bind fun v9 =>
           if v9 = 0 then
             (zgQ G this 11 2).bind fun v10 =>
             (zgQ G this 11 1).bind fun v11 =>
             zb (FMarket_fillFrom FU v10 v11 G) fun _ G12 =>
             (zgQ G12 this 11 2).bind fun v13 =>
             (FMarket_takingsOf FU v13 p1 G12).bind fun v14 =>
             (zgQ G12 this 11 2).bind fun v15 =>
             zb (FMarket_addStall FU v15 p2 p3 (-1) G12) fun _ G16 =>
             (zgQ G16 this 11 2).bind fun v17 =>
             (FMarket_takingsOf FU v17 p1 G16).bind fun v18 =>
             (FB_lossInThousandths FU v14 v18 G16).bind fun v19 =>
             some (v19, G16)
           else
             some ((-3), G))
def FB_harm (FU : Nat) (this : Nat) (p1 : Int) (p2 : Int) (p3 : Int) (G : Hp) : Option (Int × Hp) := zgd G this 11 (FB_harm_b FU this p1 p2 p3 G)

def FB_site_b (FU : Nat) (this : Nat) (p1 : Int) (G : Hp) : Option (Int × Hp) :=
  (zgQ G this 11 0).bind fun v1 =>
  (FTown_hasPlace FU v1 p1 G).bind fun v2 =>
  if v2 = 0 then
    some ((-1), G)
  else
    (zgQ G this 11 0).bind fun v3 =>
    (FTown_isSite FU v3 p1 G).bind fun v4 =>
    if v4 = 0 then
      (zgQ G this 11 0).bind fun v5 =>
      zb (FTown_addSite FU v5 p1 G) fun v7 G6 =>
      some (v7, G6)
    else
      some ((-1), G)
def FB_site (FU : Nat) (this : Nat) (p1 : Int) (G : Hp) : Option (Int × Hp) := zgd G this 11 (FB_site_b FU this p1 G)

def FB_best_b (FU : Nat) (this : Nat) (p1 : Int) (p2 : Int) (p3 : Int) (G : Hp) : Option (Int × Hp) :=
  (FB_isWithin FU p1 (1) (3) G).bind fun v1 =>
  if v1 = 0 then
    some ((-1), G)
  else
    (FB_isWho FU p2 G).bind fun v2 =>
    if v2 = 0 then
      some ((-1), G)
    else
      (FB_isWithin FU p3 (0) (1000) G).bind fun v3 =>
      if v3 = 0 then
        some ((-1), G)
      else
        (zgQ G this 11 3).bind fun v4 =>
        zb (FSearch_findBest FU v4 p1 p2 p3 G) fun v6 G5 =>
        some (v6, G5)
def FB_best (FU : Nat) (this : Nat) (p1 : Int) (p2 : Int) (p3 : Int) (G : Hp) : Option (Int × Hp) := zgd G this 11 (FB_best_b FU this p1 p2 p3 G)

def FB_found_b (FU : Nat) (this : Nat) (p1 : Int) (G : Hp) : Option Int :=
  (zgQ G this 11 3).bind fun v1 =>
  (FSearch_foundAt FU v1 p1 G).bind fun v2 =>
  some v2
def FB_found (FU : Nat) (this : Nat) (p1 : Int) (G : Hp) : Option Int := zgd G this 11 (FB_found_b FU this p1 G)

def FB_feed_b (FU : Nat) (this : Nat) (p1 : Int) (p2 : Int) (G : Hp) : Option (Int × Hp) :=
  (FB_isWithin FU p1 (1) (4) G).bind fun v1 =>
  if v1 = 0 then
    some ((-1), G)
  else
    (zgQ G this 11 4).bind fun v2 =>
    zb (FShelf_addBytes FU v2 p1 p2 G) fun v4 G3 =>
    some (v4, G3)
def FB_feed (FU : Nat) (this : Nat) (p1 : Int) (p2 : Int) (G : Hp) : Option (Int × Hp) := zgd G this 11 (FB_feed_b FU this p1 p2 G)

def FB_isKind (FU : Nat) (p1 : Int) (G : Hp) : Option Int :=
  (FB_isWithin FU p1 (0) (2) G).bind fun v1 =>
  zrz v1

def FB_isDay (FU : Nat) (p1 : Int) (G : Hp) : Option Int :=
  (FB_isWithin FU p1 (0) (9999) G).bind fun v1 =>
  zrz v1

def FB_terms_b (FU : Nat) (this : Nat) (p1 : Int) (p2 : Int) (G : Hp) : Option (Int × Hp) :=
  (FB_isKind FU p1 G).bind fun v1 =>
  if v1 = 0 then
    some ((-1), G)
  else
    (FB_isDay FU p2 G).bind fun v2 =>
    if v2 = 0 then
      some ((-1), G)
    else
      (zgQ G this 11 4).bind fun v3 =>
      (zgI G this 11 7).bind fun v4 =>
      zb (FShelf_makeText FU v3 p1 p2 v4 G) fun v6 G5 =>
      some (v6, G5)
def FB_terms (FU : Nat) (this : Nat) (p1 : Int) (p2 : Int) (G : Hp) : Option (Int × Hp) := zgd G this 11 (FB_terms_b FU this p1 p2 G)

def FB_inForce_b (FU : Nat) (this : Nat) (p1 : Int) (p2 : Int) (p3 : Int) (G : Hp) : Option Int :=
  (FB_isKind FU p1 G).bind fun v1 =>
  if v1 = 0 then
    some (-1)
  else
    (FB_isDay FU p2 G).bind fun v2 =>
    if v2 = 0 then
      some (-1)
    else
      (FB_isDay FU p3 G).bind fun v3 =>
      if v3 = 0 then
        some (-1)
      else
        (zgQ G this 11 4).bind fun v4 =>
        (FShelf_numberInForce FU v4 p1 p2 p3 G).bind fun v5 =>
        if v5 < 0 then
          some (-4)
        else
          some v5
def FB_inForce (FU : Nat) (this : Nat) (p1 : Int) (p2 : Int) (p3 : Int) (G : Hp) : Option Int := zgd G this 11 (FB_inForce_b FU this p1 p2 p3 G)

def FB_isMonth (FU : Nat) (p1 : Int) (G : Hp) : Option Int :=
  (FB_isWithin FU p1 (0) (332) G).bind fun v1 =>
  zrz v1

def FB_lastDayOf (FU : Nat) (p1 : Int) (G : Hp) : Option Int :=
  (zck (p1 * (30))).bind fun v1 =>
  (zck (v1 + (30))).bind fun v2 =>
  (zck (v2 - (1))).bind fun v3 =>
  some v3

def FB_gives_b (FU : Nat) (this : Nat) (p1 : Int) (p2 : Int) (p3 : Int) (G : Hp) : Option (Int × Hp) :=
  (zgQ G this 11 1).bind fun v1 =>
  (FChain_shopAt FU v1 p2 G).bind fun v2 =>
  (zgQ G this 11 4).bind fun v3 =>
  (FShelf_textAt FU v3 p1 G).bind fun v4 =>
  zcase v4
    (some ((-1), G))
    (fun a5 => zcase v2
       (some ((-1), G))
       (fun a6 => (FB_isMonth FU p3 G).bind fun v7 =>
        if v7 = 0 then
          some ((-1), G)
        else
          (zgQ G this 11 4).bind fun v8 =>
          (FB_lastDayOf FU p3 G).bind fun v9 =>
          zb (FShelf_worth FU v8 p1 a6 v9 G) fun v11 G10 =>
          some (v11, G10)))
def FB_gives (FU : Nat) (this : Nat) (p1 : Int) (p2 : Int) (p3 : Int) (G : Hp) : Option (Int × Hp) := zgd G this 11 (FB_gives_b FU this p1 p2 p3 G)

def FB_month_b (FU : Nat) (this : Nat) (p1 : Int) (p2 : Int) (p3 : Int) (p4 : Int) (p5 : Int) (G : Hp) : Option (Int × Hp) :=
  (zgQ G this 11 1).bind fun v1 =>
  (FChain_shopAt FU v1 p1 G).bind fun v2 =>
  zcase v2
    (some ((-1), G))
    (fun a3 => (FB_isMonth FU p2 G).bind fun v4 =>
     if v4 = 0 then
       some ((-1), G)
     else
       (FB_isWithin FU p3 (0) (99999) G).bind fun v5 =>
       if v5 = 0 then
         some ((-1), G)
       else
         (FB_isWithin FU p4 (0) (9999) G).bind fun v6 =>
         if v6 = 0 then
           some ((-1), G)
         else
           (FB_isWithin FU p5 (0) (9999) G).bind fun v7 =>
           if v7 = 0 then
             some ((-1), G)
           else
             (FB_lastDayOf FU p2 G).bind fun v8 =>
             (FShop_monthAt FU a3 p2 G).bind fun v9 =>
             zcase v9
               ((zgI G this 11 7).bind fun v11 =>
                if v8 < v11 then
                  (FShop_wasOpenOn FU a3 v8 G).bind fun v12 =>
                  if v12 = 0 then
                    some ((-3), G)
                  else
                    zbA G 3 0 fun a13 G14 =>
                    zb (FMonth_init FU a13 p3 p4 p5 G14) fun _ G15 =>
                    zb (FShop_keepMonth FU a3 p2 a13 G15) fun _ G16 =>
                    (zgQ G16 this 11 4).bind fun v17 =>
                    (zgQ G16 this 11 4).bind fun v18 =>
                    (zgI G16 this 11 7).bind fun v19 =>
                    (FShelf_numberInForce FU v18 (0) v8 v19 G16).bind fun v20 =>
                    zb (FShelf_worth FU v17 v20 a3 v8 G16) fun v22 G21 =>
                    (zgQ G21 this 11 4).bind fun v23 =>
                    (zgQ G21 this 11 4).bind fun v24 =>
                    (zgI G21 this 11 7).bind fun v25 =>
                    (FShelf_numberInForce FU v24 (1) v8 v25 G21).bind fun v26 =>
                    zb (FShelf_worth FU v23 v26 a3 v8 G21) fun v28 G27 =>
                    zb (FShop_charge FU a3 a13 v22 v28 G27) fun _ G29 =>
                    (zgQ G29 this 11 5).bind fun v30 =>
                    (zgI G29 v30 1 2).bind fun v31 =>
                    (zgI G29 this 11 7).bind fun v32 =>
                    zb (FShop_settle FU a3 (0) v32 G29) fun v34 G33 =>
                    (zck (v31 + v34)).bind fun v35 =>
                    (zpI G33 v30 1 2 v35).bind fun G36 =>
                    (zck (v22 + v28)).bind fun v37 =>
                    some (v37, G36)
                else
                  some ((-3), G))
               (fun a10 => some ((-3), G)))
def FB_month (FU : Nat) (this : Nat) (p1 : Int) (p2 : Int) (p3 : Int) (p4 : Int) (p5 : Int) (G : Hp) : Option (Int × Hp) := zgd G this 11 (FB_month_b FU this p1 p2 p3 p4 p5 G)

def FB_isShort_b (FU : Nat) (this : Nat) (p1 : Int) (p2 : Int) (G : Hp) : Option Int :=
  (zgQ G this 11 1).bind fun v1 =>
  (FChain_shopAt FU v1 p1 G).bind fun v2 =>
  zcase v2
    (some (-1))
    (fun a3 => (FShop_monthAt FU a3 p2 G).bind fun v4 =>
     zcase v4
       (some (-1))
       (fun a5 => (zgI G this 11 8).bind fun v6 =>
        (FMonth_fallsShort FU a5 v6 G).bind fun v7 =>
        if v7 = 0 then
          some (0)
        else
          some (1)))
def FB_isShort (FU : Nat) (this : Nat) (p1 : Int) (p2 : Int) (G : Hp) : Option Int := zgd G this 11 (FB_isShort_b FU this p1 p2 G)

def FB_under_b (FU : Nat) (this : Nat) (p1 : Int) (p2 : Int) (G : Hp) : Option Int :=
  (zgQ G this 11 1).bind fun v1 =>
  (FChain_shopAt FU v1 p1 G).bind fun v2 =>
  zcase v2
    (some (-1))
    (fun a3 => (FB_isMonth FU p2 G).bind fun v4 =>
     if v4 = 0 then
       some (-1)
     else
       (zgI G this 11 8).bind fun v5 =>
       (FShop_shortMonthsUpTo FU a3 p2 v5 G).bind fun v6 =>
       if v6 < (3) then
         some (0)
       else
         some (1))
def FB_under (FU : Nat) (this : Nat) (p1 : Int) (p2 : Int) (G : Hp) : Option Int := zgd G this 11 (FB_under_b FU this p1 p2 G)

def FB_pay_b (FU : Nat) (this : Nat) (p1 : Int) (p2 : Int) (G : Hp) : Option (Int × Hp) :=
  (zgQ G this 11 1).bind fun v1 =>
  (FChain_shopAt FU v1 p1 G).bind fun v2 =>
  zcase v2
    (some ((-2000000000), G))
    (fun a3 => (FB_isWithin FU p2 (1) (1000000) G).bind fun v4 =>
     if v4 = 0 then
       some ((-2000000000), G)
     else
       (zgQ G this 11 5).bind fun v5 =>
       (zgI G v5 1 2).bind fun v6 =>
       (zgI G this 11 7).bind fun v7 =>
       zb (FShop_settle FU a3 p2 v7 G) fun v9 G8 =>
       (zck (v6 + v9)).bind fun v10 =>
       (zpI G8 v5 1 2 v10).bind fun G11 =>
       (FShop_balance FU a3 G11).bind fun v12 =>
       some (v12, G11))
def FB_pay (FU : Nat) (this : Nat) (p1 : Int) (p2 : Int) (G : Hp) : Option (Int × Hp) := zgd G this 11 (FB_pay_b FU this p1 p2 G)

def FB_owed_b (FU : Nat) (this : Nat) (p1 : Int) (G : Hp) : Option Int :=
  (zgQ G this 11 1).bind fun v1 =>
  (FChain_shopAt FU v1 p1 G).bind fun v2 =>
  zcase v2
    (some (-2000000000))
    (fun a3 => (FShop_balance FU a3 G).bind fun v4 =>
     some v4)
def FB_owed (FU : Nat) (this : Nat) (p1 : Int) (G : Hp) : Option Int := zgd G this 11 (FB_owed_b FU this p1 G)

def FB_led_b (FU : Nat) (this : Nat) (p1 : Int) (p2 : Int) (p3 : Int) (G : Hp) : Option Int :=
  (zgQ G this 11 1).bind fun v1 =>
  (FChain_shopAt FU v1 p1 G).bind fun v2 =>
  zcase v2
    (some (-1))
    (fun a3 => (FShop_monthAt FU a3 p2 G).bind fun v4 =>
     zcase v4
       (some (-1))
       (fun a5 => if p3 = 0 then
          (zgI G a5 3 3).bind fun v6 =>
          some v6
        else if p3 = 1 then
          (zgI G a5 3 4).bind fun v7 =>
          some v7
        else if p3 = 2 then
          (zgI G a5 3 5).bind fun v8 =>
          some v8
        else if p3 = 3 then
          (zgI G a5 3 6).bind fun v9 =>
          some v9
        else 
          some (-1)))
def FB_led (FU : Nat) (this : Nat) (p1 : Int) (p2 : Int) (p3 : Int) (G : Hp) : Option Int := zgd G this 11 (FB_led_b FU this p1 p2 p3 G)

def FB_notice_b (FU : Nat) (this : Nat) (p1 : Int) (G : Hp) : Option (Int × Hp) :=
  (zgQ G this 11 1).bind fun v1 =>
  (FChain_shopAt FU v1 p1 G).bind fun v2 =>
  zcase v2
    (some ((-1), G))
    (fun a3 => (FShop_balance FU a3 G).bind fun v4 =>
     if v4 ≤ 0 then
       some ((-3), G)
     else
       (FShop_hasRunningNotice FU a3 G).bind fun v5 =>
       if v5 = 0 then
         (FShop_isOpen FU a3 G).bind fun v6 =>
         if v6 = 0 then
           some ((-3), G)
         else
           (zgQ G this 11 4).bind fun v7 =>
           (zgQ G this 11 4).bind fun v8 =>
           (zgI G this 11 7).bind fun v9 =>
           (zgI G this 11 7).bind fun v10 =>
           (FShelf_numberInForce FU v8 (2) v9 v10 G).bind fun v11 =>
           (zgI G this 11 7).bind fun v12 =>
           zb (FShelf_worth FU v7 v11 a3 v12 G) fun v14 G13 =>
           (zgI G13 this 11 7).bind fun v15 =>
           (zgI G13 this 11 7).bind fun v16 =>
           (zck (v16 + v14)).bind fun v17 =>
           zb (FShop_giveNotice FU a3 v15 v17 G13) fun _ G18 =>
           (zgI G18 a3 7 12).bind fun v19 =>
           some (v19, G18)
       else
         some ((-3), G))
def FB_notice (FU : Nat) (this : Nat) (p1 : Int) (G : Hp) : Option (Int × Hp) := zgd G this 11 (FB_notice_b FU this p1 G)

def FB_ofNotice_b (FU : Nat) (this : Nat) (p1 : Int) (p2 : Int) (G : Hp) : Option Int :=
  (zgQ G this 11 1).bind fun v1 =>
  (FChain_shopAt FU v1 p1 G).bind fun v2 =>
  zcase v2
    (some (-1))
    (fun a3 => (zgI G a3 7 11).bind fun v4 =>
     if v4 = (-1) then
       some (-1)
     else
       if p2 = 0 then
         (zgI G a3 7 11).bind fun v5 =>
         some v5
       else if p2 = 1 then
         (zgI G a3 7 12).bind fun v6 =>
         some v6
       else if p2 = 2 then
         (zgI G a3 7 13).bind fun v7 =>
         some v7
       else if p2 = 3 then
         (zgI G a3 7 14).bind fun v8 =>
         some v8
       else 
         some (-1))
def FB_ofNotice (FU : Nat) (this : Nat) (p1 : Int) (p2 : Int) (G : Hp) : Option Int := zgd G this 11 (FB_ofNotice_b FU this p1 p2 G)

def FB_gain_b (FU : Nat) (this : Nat) (p1 : Int) (p2 : Int) (G : Hp) : Option (Int × Hp) :=
  (zgQ G this 11 1).bind fun v1 =>
  (FChain_shopAt FU v1 p1 G).bind fun v2 =>
  zcase v2
    (some ((-1), G))
    (fun a3 => (FB_isWithin FU p2 (0) (999) G).bind fun v4 =>
     if v4 = 0 then
       some ((-1), G)
     else
       (zgI G a3 7 7).bind fun v5 =>
       (zpI G a3 7 7 p2).bind fun G6 =>
       some (v5, G6))
def FB_gain (FU : Nat) (this : Nat) (p1 : Int) (p2 : Int) (G : Hp) : Option (Int × Hp) := zgd G this 11 (FB_gain_b FU this p1 p2 G)

def FB_spend_b (FU : Nat) (this : Nat) (p1 : Int) (G : Hp) : Option (Int × Hp) :=
  (FB_isWithin FU p1 (1) (1000000) G).bind fun v1 =>
  if v1 = 0 then
    some ((-1), G)
  else
    (zgQ G this 11 5).bind fun v2 =>
    zb (FFund_partOut FU v2 p1 G) fun v4 G3 =>
    some (v4, G3)
def FB_spend (FU : Nat) (this : Nat) (p1 : Int) (G : Hp) : Option (Int × Hp) := zgd G this 11 (FB_spend_b FU this p1 G)

def FB_load_b (FU : Nat) (this : Nat) (p1 : Int) (p2 : Int) (G : Hp) : Option (Int × Hp) :=
  (zgQ G this 11 1).bind fun v1 =>
  (FChain_shopAt FU v1 p1 G).bind fun v2 =>
  zcase v2
    (some ((-1), G))
    (fun a3 => (FB_isWithin FU p2 (1) (99) G).bind fun v4 =>
     if v4 = 0 then
       some ((-1), G)
     else
       (zgQ G this 11 6).bind fun v5 =>
       (FPacker_isListed FU v5 p1 G).bind fun v6 =>
       if v6 = 0 then
         (zgQ G this 11 6).bind fun v7 =>
         zb (FPacker_addLoad FU v7 p1 p2 G) fun v9 G8 =>
         some (v9, G8)
       else
         some ((-1), G))
def FB_load (FU : Nat) (this : Nat) (p1 : Int) (p2 : Int) (G : Hp) : Option (Int × Hp) := zgd G this 11 (FB_load_b FU this p1 p2 G)

def FB_carts_b (FU : Nat) (this : Nat) (p1 : Int) (G : Hp) : Option (Int × Hp) :=
  (FB_isWithin FU p1 (1) (99) G).bind fun v1 =>
  if v1 = 0 then
    some ((-1), G)
  else
    (zgQ G this 11 6).bind fun v2 =>
    zb (FPacker_pack FU v2 p1 G) fun v4 G3 =>
    some (v4, G3)
def FB_carts (FU : Nat) (this : Nat) (p1 : Int) (G : Hp) : Option (Int × Hp) := zgd G this 11 (FB_carts_b FU this p1 G)

def FB_cart_b (FU : Nat) (this : Nat) (p1 : Int) (G : Hp) : Option Int :=
  (zgQ G this 11 6).bind fun v1 =>
  (FPacker_cartOf FU v1 p1 G).bind fun v2 =>
  some v2
def FB_cart (FU : Nat) (this : Nat) (p1 : Int) (G : Hp) : Option Int := zgd G this 11 (FB_cart_b FU this p1 G)

def FB_count_b (FU : Nat) (this : Nat) (p1 : Int) (G : Hp) : Option Int :=
  if p1 = 0 then
    (zgQ G this 11 0).bind fun v1 =>
    (zgI G v1 10 4).bind fun v2 =>
    some v2
  else if p1 = 1 then
    (zgQ G this 11 1).bind fun v3 =>
    (zgI G v3 0 2).bind fun v4 =>
    some v4
  else if p1 = 2 then
    (zgQ G this 11 1).bind fun v5 =>
    (FChain_openCount FU v5 G).bind fun v6 =>
    some v6
  else if p1 = 3 then
    (zgI G this 11 7).bind fun v7 =>
    some v7
  else if p1 = 4 then
    (zgQ G this 11 4).bind fun v8 =>
    (zgI G v8 6 4).bind fun v9 =>
    some v9
  else if p1 = 5 then
    (zgQ G this 11 0).bind fun v10 =>
    (zgI G v10 10 5).bind fun v11 =>
    some v11
  else if p1 = 6 then
    (zgQ G this 11 5).bind fun v12 =>
    (zgI G v12 1 2).bind fun v13 =>
    some v13
  else if p1 = 7 then
    (zgQ G this 11 4).bind fun v14 =>
    (zgI G v14 6 5).bind fun v15 =>
    some v15
  else if p1 = 8 then
    (zgQ G this 11 1).bind fun v16 =>
    (FChain_runningNotices FU v16 G).bind fun v17 =>
    some v17
  else 
    some (-1)
def FB_count (FU : Nat) (this : Nat) (p1 : Int) (G : Hp) : Option Int := zgd G this 11 (FB_count_b FU this p1 G)
