/-! ===== what holds, with one more cell ===== -/
section MORE
variable {k x N : Nat} {c : Nat → Key} {V : Key → Nat → Int} {R : Key → Nat → Option Nat} {K : Key → Option (Nat × Nat)} {g W : Nat → Nat → Int} {key : Key} {t l : Nat}
theorem IS.more (h : IS V g) (h0 : key.1 ≠ 0) : IS (vu V key) g := by
  unfold IS
  rw [vu_o (fun z => h0 (by rw [← z])), vu_o (fun z => h0 (by rw [← z]))]
  exact h
theorem IT.more (h : IT V g W) (h0 : key.1 ≠ 0) : IT (vu V key) g W := by
  have e : ∀ o, vu V key (0, o, 0) = V (0, o, 0) := fun o => vu_o (fun z => h0 (by rw [← z]))
  unfold IT
  simp only [e]
  exact h
theorem IZ.more (h : IZ V g) (h0 : key.1 ≠ 0) : IZ (vu V key) g := by
  have e : ∀ o, vu V key (0, o, 0) = V (0, o, 0) := fun o => vu_o (fun z => h0 (by rw [← z]))
  unfold IZ
  simp only [e]
  exact h
theorem IN.more (h : IN V g) (h0 : key.1 ≠ 0) : IN (vu V key) g := by
  have e : ∀ o, vu V key (0, o, 0) = V (0, o, 0) := fun o => vu_o (fun z => h0 (by rw [← z]))
  unfold IN
  simp only [e]
  exact h
theorem IF.more (h : IF k V g) (h0 : key.1 ≠ 0) : IF k (vu V key) g := by
  have e : ∀ o, vu V key (0, o, 0) = V (0, o, 0) := fun o => vu_o (fun z => h0 (by rw [← z]))
  unfold IF
  simp only [e]
  exact h
theorem IP.more (h : IP V g) (h0 : key.1 ≠ 0) : IP (vu V key) g := by
  have e : ∀ o, vu V key (0, o, 0) = V (0, o, 0) := fun o => vu_o (fun z => h0 (by rw [← z]))
  unfold IP
  simp only [e]
  exact h
theorem ID.more (h : ID V g) (h0 : key.1 ≠ 0) : ID (vu V key) g := by
  have e : ∀ o, vu V key (0, o, 0) = V (0, o, 0) := fun o => vu_o (fun z => h0 (by rw [← z]))
  unfold ID
  simp only [e]
  exact h
theorem IH.more (h : IH k c V R K g) (h0 : key.1 ≠ 0) (hN : (c N).1 = 9) (hf : ∀ q, c q ≠ key) : IH k (cu c N key) (vu V key) (rnu R key) (knu K key t l) g := by
  have e : ∀ o, (0, o, 0) ≠ key := fun o z => h0 (by rw [← z])
  refine ⟨by rw [vu_o (e 66)]; exact h.many, h.many0, fun i hi => ?_, fun i hi => ?_, fun i hi => ?_, h.none_⟩
  · obtain ⟨a, h1, h2, h3⟩ := h.at_ i hi
    exact ⟨a, by rw [rnu_o (e 67)]; exact h1, cu_key hN (by simp) h2, by rw [knu_o (fun z => hf a (by rw [h2, z]))]; exact h3⟩
  · obtain ⟨a, h1, h2, h3⟩ := h.months i hi
    obtain ⟨b, _, h5, _⟩ := h.at_ i hi
    exact ⟨a, by rw [rnu_o (fun z => hf b (by rw [h5, z]))]; exact h1, cu_key hN (by simp) h2, by rw [knu_o (fun z => hf a (by rw [h2, z]))]; exact h3⟩
  · obtain ⟨b, _, h5, _⟩ := h.at_ i hi
    exact (h.num i hi).fr (fun j _ _ => by rw [vu_o (fun z => hf b (by rw [h5, z]))]) (fun _ _ => rfl) rfl
theorem IM.more (h : IM c V R K g) (hh : IH k c V R K g) (hN : (c N).1 = 9) (hf : ∀ q, c q ≠ key) : IM (cu c N key) (vu V key) (rnu R key) (knu K key t l) g := by
  have e5 : ∀ i, i < (g 0 15).toNat → (5, i, 0) ≠ key := fun i hi z => by
    obtain ⟨a, _, h2, _⟩ := hh.months i hi
    exact hf a (by rw [h2, z])
  refine ⟨h.flag, fun i j hi hj q => ?_, fun i j hi hj q => ?_, fun i j hi hj q => ?_, h.due0, h.zero, h.later⟩
  · rw [rnu_o (e5 i hi)]; exact h.none_ i j hi hj q
  · obtain ⟨a, h1, h2, h3⟩ := h.some_ i j hi hj q
    exact ⟨a, by rw [rnu_o (e5 i hi)]; exact h1, cu_key hN (by simp) h2, by rw [knu_o (fun z => hf a (by rw [h2, z]))]; exact h3⟩
  · obtain ⟨a, h1, h2, h3⟩ := h.some_ i j hi hj q
    exact (h.num i j hi hj q).fr (fun u _ => by rw [vu_o (fun z => hf a (by rw [h2, z]))]) (fun _ _ => rfl)
theorem IU.more (h : IU k V g) (hh : IH k c V R K g) (hf : ∀ q, c q ≠ key) : IU k (vu V key) g := by
  have e : ∀ i, i < (g 0 15).toNat → vu V key (1, i, 0) = V (1, i, 0) := fun i hi => vu_o (fun z => by
    obtain ⟨a, _, h2, _⟩ := hh.at_ i hi
    exact hf a (by rw [h2, z]))
  refine ⟨fun i hi => ?_, fun i hi => ?_, fun i hi => ?_, fun i hi => ?_, h.later⟩
  · rw [e i hi]; exact h.credit i hi
  · rw [e i hi]; exact h.unpaid i hi
  · rw [e i hi]; exact h.one i hi
  · rw [e i hi]; exact h.runs i hi
theorem IX.more (h : IX c V R K g) (h0 : key.1 ≠ 0) (hN : (c N).1 = 9) (hf : ∀ q, c q ≠ key) : IX (cu c N key) (vu V key) (rnu R key) (knu K key t l) g := by
  have e : ∀ o, (0, o, 0) ≠ key := fun o z => h0 (by rw [← z])
  have e3 : ∀ i, i < (g 0 31).toNat → (3, i, 0) ≠ key := fun i hi z => by
    obtain ⟨a, _, h2, _⟩ := h.at_ i hi
    exact hf a (by rw [h2, z])
  have e4 : ∀ i, i < (g 0 31).toNat → (4, i, 0) ≠ key := fun i hi z => by
    obtain ⟨a, _, h2, _⟩ := h.bytes i hi
    exact hf a (by rw [h2, z])
  refine ⟨by rw [vu_o (e 120)]; exact h.many, h.many0, fun i hi => ?_, fun i hi => ?_, fun i hi => ?_, fun i hi => ?_, fun i hi => ?_, fun i hi => ?_, fun i j hi hj => ?_, by rw [vu_o (e 120)]; exact h.tlen, h.tlen0, fun j hj => ?_, h.good⟩
  · obtain ⟨a, h1, h2, h3⟩ := h.at_ i hi
    exact ⟨a, by rw [rnu_o (e 123)]; exact h1, cu_key hN (by simp) h2, by rw [knu_o (e3 i hi)]; exact h3⟩
  · obtain ⟨a, h1, h2, h3⟩ := h.bytes i hi
    exact ⟨a, by rw [rnu_o (e3 i hi)]; exact h1, cu_key hN (by simp) h2, by rw [knu_o (e4 i hi)]; exact h3⟩
  · rw [vu_o (e3 i hi)]; exact h.kind i hi
  · rw [vu_o (e3 i hi)]; exact h.from_ i hi
  · rw [vu_o (e3 i hi)]; exact h.made i hi
  · rw [vu_o (e3 i hi)]; exact h.len i hi
  · rw [vu_o (e4 i hi)]; exact h.byte i j hi hj
  · rw [vu_o (e 124)]; exact h.tape j hj
end MORE
