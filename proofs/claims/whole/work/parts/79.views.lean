/-! ===== the law ===== -/
def zup (G : Hp) (n : Nat) : Hp := (zv G, zr G, zk G, n)
def zE (n : Nat) : Hp := (fun _ _ => 0, fun _ _ => none, fun _ => none, n)
theorem zup_zup (G : Hp) (a b : Nat) : zup (zup G a) b = zup G b := rfl
theorem zv_up (G : Hp) (n : Nat) : zv (zup G n) = zv G := rfl
theorem zr_up (G : Hp) (n : Nat) : zr (zup G n) = zr G := rfl
theorem zk_up (G : Hp) (n : Nat) : zk (zup G n) = zk G := rfl
theorem zn_up (G : Hp) (n : Nat) : zn (zup G n) = n := rfl
def zapart (X M : Hp) : Prop := ∀ q, zk X q ≠ none → zk M q = none
def zFU : Nat := 4000
