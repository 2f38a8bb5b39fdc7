/-! ints that are natural numbers -/
theorem na_add (a b : Nat) : nI a + nI b = nI (a + b) := (Int32.ofNat_add a b).symm
theorem na_mul (a b : Nat) : nI a * nI b = nI (a * b) := (Int32.ofNat_mul a b).symm
theorem na_inj {a b : Nat} (ha : a < 2 ^ 31) (hb : b < 2 ^ 31) : nI a = nI b ↔ a = b := by
  constructor
  · intro h
    have h1 := congrArg Int32.toInt h
    rw [nI_toInt ha, nI_toInt hb] at h1
    omega
  · intro h
    rw [h]
theorem na_lt {a b : Nat} (ha : a < 2 ^ 31) (hb : b < 2 ^ 31) : nI a < nI b ↔ a < b := by
  rw [Int32.lt_iff_toInt_lt, nI_toInt ha, nI_toInt hb]
  omega
theorem na_le {a b : Nat} (ha : a < 2 ^ 31) (hb : b < 2 ^ 31) : nI a ≤ nI b ↔ a ≤ b := by
  rw [Int32.le_iff_toInt_le, nI_toInt ha, nI_toInt hb]
  omega
theorem na_sub {a b : Nat} (h : b ≤ a) : nI a - nI b = nI (a - b) := by
  have e : nI (a - b) + nI b = nI a := by rw [na_add]; congr 1; omega
  rw [← e, Int32.add_sub_cancel]
theorem na_clamp {a : Nat} (ha : a < 2 ^ 31) : (nI a).toNatClampNeg = a := Int32.toNatClampNeg_ofNat_of_lt ha
theorem na_div {a b : Nat} (ha : a < 2 ^ 31) (hb : b < 2 ^ 31) : nI a / nI b = nI (a / b) := by
  apply Int32.toInt_inj.mp
  have h1 : a / b < 2 ^ 31 := Nat.lt_of_le_of_lt (Nat.div_le_self a b) ha
  rw [Int32.toInt_div_of_ne_left _ _ (by
    intro h
    have h2 := congrArg Int32.toInt h
    rw [nI_toInt ha] at h2
    have : (Int32.minValue).toInt = -2147483648 := by decide
    omega), nI_toInt ha, nI_toInt hb, nI_toInt h1]
  exact Int.ofNat_tdiv a b
theorem na_mod {a b : Nat} (ha : a < 2 ^ 31) (hb : b < 2 ^ 31) : nI a % nI b = nI (a % b) := by
  apply Int32.toInt_inj.mp
  have h1 : a % b < 2 ^ 31 := Nat.lt_of_le_of_lt (Nat.mod_le a b) ha
  rw [Int32.toInt_mod, nI_toInt ha, nI_toInt hb, nI_toInt h1]
  exact Int.ofNat_tmod a b
theorem nc_eq {a b : Nat} (ha : a < 2 ^ 31) (hb : b < 2 ^ 31) : mj_cmp .eq (nI a) (nI b) = decide (a = b) := decide_eq_decide.mpr (na_inj ha hb)
theorem nc_ne {a b : Nat} (ha : a < 2 ^ 31) (hb : b < 2 ^ 31) : mj_cmp .ne (nI a) (nI b) = decide (¬ a = b) := decide_eq_decide.mpr (not_congr (na_inj ha hb))
theorem nc_lt {a b : Nat} (ha : a < 2 ^ 31) (hb : b < 2 ^ 31) : mj_cmp .lt (nI a) (nI b) = decide (a < b) := decide_eq_decide.mpr (na_lt ha hb)
theorem nc_ge {a b : Nat} (ha : a < 2 ^ 31) (hb : b < 2 ^ 31) : mj_cmp .ge (nI a) (nI b) = decide (b ≤ a) := decide_eq_decide.mpr (na_le hb ha)
theorem nc_gt {a b : Nat} (ha : a < 2 ^ 31) (hb : b < 2 ^ 31) : mj_cmp .gt (nI a) (nI b) = decide (b < a) := decide_eq_decide.mpr (na_lt hb ha)
theorem nc_le {a b : Nat} (ha : a < 2 ^ 31) (hb : b < 2 ^ 31) : mj_cmp .le (nI a) (nI b) = decide (a ≤ b) := decide_eq_decide.mpr (na_le ha hb)
theorem na_ix {a n : Nat} (ha : a < n) (hn : n < 2 ^ 31) : mj_ix (nI a) n = some a := by
  have h1 : a < 2 ^ 31 := by omega
  have h0 : ¬ nI a < 0 := nI_pos h1
  unfold mj_ix
  rw [if_neg h0, na_clamp h1, if_pos ha]
section EN
variable {P : mj_P} {cm sm fr lo k pc len : Nat} {ax : List Nat} {lv : mj_L} {st : List Value} {h : mj_H} {r : mj_O × mj_H} {a b : Nat}
theorem eR.nadd (hr : P.2.1 k pc = some (.iadd, len, ax)) (w : eR P cm sm fr lo k (pc + 1, lv, .int (nI (a + b)) :: st) h r) : eR P cm sm fr lo k (pc, lv, .int (nI b) :: .int (nI a) :: st) h r :=
  eR.sim hr (by simp only [mj_sim, mj_bin, Option.map_some, na_add]) w
theorem eR.nmul (hr : P.2.1 k pc = some (.imul, len, ax)) (w : eR P cm sm fr lo k (pc + 1, lv, .int (nI (a * b)) :: st) h r) : eR P cm sm fr lo k (pc, lv, .int (nI b) :: .int (nI a) :: st) h r :=
  eR.sim hr (by simp only [mj_sim, mj_bin, Option.map_some, na_mul]) w
theorem eR.nsub (hr : P.2.1 k pc = some (.isub, len, ax)) (hab : b ≤ a) (w : eR P cm sm fr lo k (pc + 1, lv, .int (nI (a - b)) :: st) h r) : eR P cm sm fr lo k (pc, lv, .int (nI b) :: .int (nI a) :: st) h r :=
  eR.sim hr (by simp only [mj_sim, mj_bin, Option.map_some, na_sub hab]) w
theorem na_nz (hb : b < 2 ^ 31) (h0 : b ≠ 0) : ¬ nI b = 0 := fun z => h0 ((na_inj hb (by decide)).mp z)
theorem eR.ndiv (hr : P.2.1 k pc = some (.idiv, len, ax)) (ha : a < 2 ^ 31) (hb : b < 2 ^ 31) (h0 : b ≠ 0) (w : eR P cm sm fr lo k (pc + 1, lv, .int (nI (a / b)) :: st) h r) : eR P cm sm fr lo k (pc, lv, .int (nI b) :: .int (nI a) :: st) h r :=
  eR.sim hr (by simp only [mj_sim, mj_bin, if_neg (na_nz hb h0), Option.map_some, na_div ha hb]) w
theorem eR.nrem (hr : P.2.1 k pc = some (.irem, len, ax)) (ha : a < 2 ^ 31) (hb : b < 2 ^ 31) (h0 : b ≠ 0) (w : eR P cm sm fr lo k (pc + 1, lv, .int (nI (a % b)) :: st) h r) : eR P cm sm fr lo k (pc, lv, .int (nI b) :: .int (nI a) :: st) h r :=
  eR.sim hr (by simp only [mj_sim, mj_bin, if_neg (na_nz hb h0), Option.map_some, na_mod ha hb]) w
end EN
theorem eg {P : mj_P} {fr lo k' : Nat} {rest as : List Value} (h1 : mj_w rest ≤ 8) (h2 : 8 + (mj_ml P k' + 11) ≤ lo) (h3 : mj_w as ≤ mj_ml P k') : (Nat.ble 1 (fr + 1) && Nat.ble (mj_w rest) 8 && Nat.ble (8 + (mj_ml P k' + 11)) lo && Nat.ble (mj_w as) (mj_ml P k')) = true := by
  rw [Nat.ble_eq_true_of_le h1, Nat.ble_eq_true_of_le h2, Nat.ble_eq_true_of_le h3, Nat.ble_eq_true_of_le (show 1 ≤ fr + 1 by omega)]
  rfl
