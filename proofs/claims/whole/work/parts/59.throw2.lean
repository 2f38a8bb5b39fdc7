/-- an exception made and thrown -/
theorem eR.ths {P : mj_P} {cm sm fr lo k pc cx s : Nat} {lv : mj_L} {h : mj_H} {i0 i2 i3 : Nat} (h0 : P.2.1 k pc = some (.new i0, 3, [cx + 50])) (h1 : P.2.1 k (pc + 3) = some (.dup, 1, [])) (h2 : P.2.1 k (pc + 4) = some (.ldc i2, 2, [1, s]))
    (h3 : P.2.1 k (pc + 6) = some (.invokespecial i3, 3, [2, cx])) (h4 : P.2.1 k (pc + 9) = some (.athrow, 1, [])) (hh : mj_hd P k = []) (hf : 6 ≤ fr + 1) (hl : 101 ≤ lo) (hr : h.length + 1 ≤ cm) (hs : mj_sl P h + P.2.2.2 (cx + 50) ≤ sm) (ha : 3 ≤ h.length) :
    eR P cm sm fr lo k (pc, lv, []) h (.inr h.length, h ++ [.inr (cx, [])]) := by
  refine eR.sim h0 (F := (pc + 3, lv, [.ref h.length])) (h' := h ++ [.inr (cx + 50, P.2.2.1 (cx + 50))]) ?_ ?_
  · simp [mj_sim, Nat.ble_eq_true_of_le hr, Nat.ble_eq_true_of_le hs]
  refine eR.sim h1 (F := (pc + 4, lv, [.ref h.length, .ref h.length])) (h' := h ++ [.inr (cx + 50, P.2.2.1 (cx + 50))]) ?_ ?_
  · simp [mj_sim]
  refine eR.sim h2 (F := (pc + 6, lv, [.ref (100000 + s), .ref h.length, .ref h.length])) (h' := h ++ [.inr (cx + 50, P.2.2.1 (cx + 50))]) ?_ ?_
  · simp [mj_sim]
  refine eR.sim h3 (F := (pc + 9, lv, [.ref h.length])) (h' := h ++ [.inr (cx, [])]) ?_ ?_
  · have e1 : Nat.ble ((Value.ref h.length).category + 100) lo = true := Nat.ble_eq_true_of_le hl
    have e2 : Nat.beq (cx + 50) (cx + 50) = true := Nat.beq_refl _
    simp [mj_sim, mj_w, Nat.ble_eq_true_of_le hf, e1, Nat.ble_eq_true_of_le ha, e2]
  exact eR.throw h4 hh
theorem thrH {cm sm fr lo k pc cx s L : Nat} {xs : Nat → Int32} {A B : gT} {U V : gU} {S : gS} {d : Nat → Nat} {X : mj_H} {lv : mj_L} {i0 i2 i3 : Nat} (h0 : mm_P.2.1 k pc = some (.new i0, 3, [cx + 50])) (h1 : mm_P.2.1 k (pc + 3) = some (.dup, 1, [])) (h2 : mm_P.2.1 k (pc + 4) = some (.ldc i2, 2, [1, s]))
    (h3 : mm_P.2.1 k (pc + 6) = some (.invokespecial i3, 3, [2, cx])) (h4 : mm_P.2.1 k (pc + 9) = some (.athrow, 1, [])) (hh : mj_hd mm_P k = []) (hz : mm_P.2.2.2 (cx + 50) = 6) (hf : 6 ≤ fr + 1) (hl : 101 ≤ lo) (hr : gR cm sm L X) :
    eR mm_P cm sm fr lo k (pc, lv, []) (Gc L xs A B U V S d X) (.inr (23 + X.length), Gc L xs A B U V S d (X ++ [.inr (cx, [])])) := by
  have e := eR.ths (lv := lv) (h := Gc L xs A B U V S d X) h0 h1 h2 h3 h4 hh hf hl (by rw [Gc_len]; exact hr.1) (by rw [Gc_sl, hz]; exact hr.2) (by rw [Gc_len]; omega)
  rw [Gc_len] at e
  exact e
