/-! a logic of the small machine: 'comes to r, with enough fuel' -/
section EE
variable {P : mj_P} {cm sm : Nat}
/-- the method k on the arguments as, over the heap h, comes to r -/
def eE (P : mj_P) (cm sm fr lo k : Nat) (as : List Value) (h : mj_H) (r : mj_O × mj_H) : Prop := ∃ n0, ∀ n, n0 ≤ n → mj_ev P cm sm n fr lo k as h = some r
/-- the frame F of the method k, over the heap h, comes to r -/
def eR (P : mj_P) (cm sm fr lo k : Nat) (F : mj_F) (h : mj_H) (r : mj_O × mj_H) : Prop := ∃ n0, ∀ a n, n0 ≤ a → n0 ≤ n → mj_run P cm sm (mj_ev P cm sm a fr) k (fr + 1) lo n F h = some r
theorem eE.of {fr lo k : Nat} {as : List Value} {h : mj_H} {r : mj_O × mj_H} (w : eR P cm sm fr lo k (0, lv_args 0 as, []) h r) : eE P cm sm (fr + 1) lo k as h r := by
  obtain ⟨n0, w⟩ := w
  refine ⟨n0, fun n hn => ?_⟩
  unfold mj_ev
  exact w n n hn hn
theorem eR.step {fr lo k : Nat} {F F' : mj_F} {h h' : mj_H} {r : mj_O × mj_H} (j : Nat) (e : ∀ (call : Nat → Nat → List Value → mj_H → Option (mj_O × mj_H)) (n : Nat), mj_run P cm sm call k (fr + 1) lo (n + j) F h = mj_run P cm sm call k (fr + 1) lo n F' h') (w : eR P cm sm fr lo k F' h' r) : eR P cm sm fr lo k F h r := by
  obtain ⟨n0, w⟩ := w
  refine ⟨n0 + j, fun a n ha hn => ?_⟩
  obtain ⟨m, rfl⟩ : ∃ m, n = m + j := ⟨n - j, by omega⟩
  rw [e]
  exact w a m (by omega) (by omega)
/-- one simple step, whatever it rests on -/
theorem eR.sim {fr lo k pc : Nat} {lv : mj_L} {st : List Value} {F : mj_F} {h h' : mj_H} {r : mj_O × mj_H} {row : mj_I} (hr : P.2.1 k pc = some row) (hs : mj_sim P (fr + 1) lo cm sm row pc lv st h = some (F, h')) (w : eR P cm sm fr lo k F h' r) : eR P cm sm fr lo k (pc, lv, st) h r := by
  refine eR.step 1 (fun call n => ?_) w
  rw [mj_run, hr]
  simp only [hs]
theorem eR.icmp {fr lo k pc t : Nat} {lv : mj_L} {st : List Value} {h : mj_H} {r : mj_O × mj_H} {c : ClassFile.Cond} {off : Int} {len : Nat} {x y : Int32} (hr : P.2.1 k pc = some (.if_icmp c off, len, [t])) (b : Bool) (hb : mj_cmp c x y = b) (w : eR P cm sm fr lo k (if b = true then t else pc + 3, lv, st) h r) : eR P cm sm fr lo k (pc, lv, .int y :: .int x :: st) h r := by
  refine eR.sim hr (F := (if b = true then t else pc + 3, lv, st)) (h' := h) ?_ w
  subst hb
  simp only [mj_sim]
  cases mj_cmp c x y <;> rfl
theorem eR.ifc {fr lo k pc t : Nat} {lv : mj_L} {st : List Value} {h : mj_H} {r : mj_O × mj_H} {c : ClassFile.Cond} {off : Int} {len : Nat} {x : Int32} (hr : P.2.1 k pc = some (.ifCond c off, len, [t])) (b : Bool) (hb : mj_cmp c x 0 = b) (w : eR P cm sm fr lo k (if b = true then t else pc + 3, lv, st) h r) : eR P cm sm fr lo k (pc, lv, .int x :: st) h r := by
  refine eR.sim hr (F := (if b = true then t else pc + 3, lv, st)) (h' := h) ?_ w
  subst hb
  simp only [mj_sim]
  cases mj_cmp c x 0 <;> rfl
theorem eR.ret {fr lo k pc : Nat} {lv : mj_L} {st : List Value} {h : mj_H} {row : mj_I} {v : Option Value} (hr : P.2.1 k pc = some row) (hs : mj_sim P (fr + 1) lo cm sm row pc lv st h = none) (hv : mj_ret P k row.1 st = some v) : eR P cm sm fr lo k (pc, lv, st) h (.inl v, h) := by
  refine ⟨1, fun a n ha hn => ?_⟩
  obtain ⟨m, rfl⟩ : ∃ m, n = m + 1 := ⟨n - 1, by omega⟩
  rw [mj_run, hr]
  simp only [hs, hv]
theorem eR.call {fr lo k pc k' : Nat} {lv : mj_L} {st rest as : List Value} {h h1 : mj_H} {r : mj_O × mj_H} {row : mj_I} {v : Option Value} (hr : P.2.1 k pc = some row) (hs : mj_sim P (fr + 1) lo cm sm row pc lv st h = none) (hv : mj_ret P k row.1 st = none) (hi : mj_inv row st h = some (k', as, rest))
    (hg : (Nat.ble 1 (fr + 1) && Nat.ble (mj_w rest) 8 && Nat.ble (8 + (mj_ml P k' + 11)) lo && Nat.ble (mj_w as) (mj_ml P k')) = true) (hc : eE P cm sm fr (lo - (8 + (mj_ml P k' + 11))) k' as h (.inl v, h1)) (w : eR P cm sm fr lo k (pc + 3, lv, v.toList ++ rest) h1 r) : eR P cm sm fr lo k (pc, lv, st) h r := by
  obtain ⟨n0, hc⟩ := hc
  obtain ⟨n1, w⟩ := w
  refine ⟨n0 + n1 + 1, fun a n ha hn => ?_⟩
  obtain ⟨m, rfl⟩ : ∃ m, n = m + 1 := ⟨n - 1, by omega⟩
  rw [mj_run, hr]
  simp only [hs, hv, hi, hg, hc a (by omega)]
  exact w a m (by omega) (by omega)
/-- a call that throws; no entry covers the place -/
theorem eR.callT {fr lo k pc k' x cx : Nat} {lv : mj_L} {st rest as fs : List Value} {h h1 : mj_H} {row : mj_I} (hr : P.2.1 k pc = some row) (hs : mj_sim P (fr + 1) lo cm sm row pc lv st h = none) (hv : mj_ret P k row.1 st = none) (hi : mj_inv row st h = some (k', as, rest))
    (hg : (Nat.ble 1 (fr + 1) && Nat.ble (mj_w rest) 8 && Nat.ble (8 + (mj_ml P k' + 11)) lo && Nat.ble (mj_w as) (mj_ml P k')) = true) (hc : eE P cm sm fr (lo - (8 + (mj_ml P k' + 11))) k' as h (.inr x, h1)) (hx : h1[x]? = some (.inr (cx, fs))) (h4 : Nat.blt cx 4 = true) (hf : mj_find (mj_hd P k) pc cx = some none) : eR P cm sm fr lo k (pc, lv, st) h (.inr x, h1) := by
  obtain ⟨n0, hc⟩ := hc
  refine ⟨n0 + 1, fun a n ha hn => ?_⟩
  obtain ⟨m, rfl⟩ : ∃ m, n = m + 1 := ⟨n - 1, by omega⟩
  rw [mj_run, hr]
  simp only [hs, hv, hi, hg, hc a (by omega), hx, h4, hf]
/-- a call that throws, and is caught here -/
theorem eR.callC {fr lo k pc k' x cx hp : Nat} {lv : mj_L} {st rest as fs : List Value} {h h1 : mj_H} {r : mj_O × mj_H} {row : mj_I} (hr : P.2.1 k pc = some row) (hs : mj_sim P (fr + 1) lo cm sm row pc lv st h = none) (hv : mj_ret P k row.1 st = none) (hi : mj_inv row st h = some (k', as, rest))
    (hg : (Nat.ble 1 (fr + 1) && Nat.ble (mj_w rest) 8 && Nat.ble (8 + (mj_ml P k' + 11)) lo && Nat.ble (mj_w as) (mj_ml P k')) = true) (hc : eE P cm sm fr (lo - (8 + (mj_ml P k' + 11))) k' as h (.inr x, h1)) (hx : h1[x]? = some (.inr (cx, fs))) (h4 : Nat.blt cx 4 = true) (hf : mj_find (mj_hd P k) pc cx = some (some hp)) (w : eR P cm sm fr lo k (hp, lv, [.ref x]) h1 r) : eR P cm sm fr lo k (pc, lv, st) h r := by
  obtain ⟨n0, hc⟩ := hc
  obtain ⟨n1, w⟩ := w
  refine ⟨n0 + n1 + 1, fun a n ha hn => ?_⟩
  obtain ⟨m, rfl⟩ : ∃ m, n = m + 1 := ⟨n - 1, by omega⟩
  rw [mj_run, hr]
  simp only [hs, hv, hi, hg, hc a (by omega), hx, h4, hf]
  exact w a m (by omega) (by omega)
theorem eR.throw {fr lo k pc x len : Nat} {lv : mj_L} {st : List Value} {h : mj_H} {ax : List Nat} (hr : P.2.1 k pc = some (.athrow, len, ax)) (hh : mj_hd P k = []) : eR P cm sm fr lo k (pc, lv, .ref x :: st) h (.inr x, h) := by
  refine ⟨1, fun a n ha hn => ?_⟩
  obtain ⟨m, rfl⟩ : ∃ m, n = m + 1 := ⟨n - 1, by omega⟩
  rw [mj_run, hr]
  have hs : mj_sim P (fr + 1) lo cm sm (.athrow, len, ax) pc lv (.ref x :: st) h = none := rfl
  have hv : mj_ret P k (.athrow) (.ref x :: st) = none := by
    unfold mj_ret
    split <;> first | rfl | (rename_i q _ _; cases q) | skip
  have hi : mj_inv (.athrow, len, ax) (.ref x :: st) h = none := rfl
  simp only [hs, hv, hi, hh]
end EE
