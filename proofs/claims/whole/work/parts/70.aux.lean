/-! switches; ints out of a script; words -/
theorem eR.swi {P : mj_P} {cm sm fr lo k pc t t' n len : Nat} {a b : Int} {os : Array Int} {ts : List Nat} {lv : mj_L} {st : List Value} {h : mj_H} {r : mj_O × mj_H} (hr : P.2.1 k pc = some (.tableswitch a 0 b os, len, t :: ts)) (hn : n < 2 ^ 31) (hb : (n : Int) ≤ b) (ht : ts[n]? = some t')
    (w : eR P cm sm fr lo k (t', lv, st) h r) : eR P cm sm fr lo k (pc, lv, .int (nI n) :: st) h r := by
  refine eR.sim hr (F := (t', lv, st)) (h' := h) ?_ w
  simp only [mj_sim, nI_toInt hn]
  rw [if_neg (by omega), show ((n : Int) - 0).toNat = n by omega, ht]
theorem eR.swd {P : mj_P} {cm sm fr lo k pc t len : Nat} {a b : Int} {os : Array Int} {ts : List Nat} {lv : mj_L} {st : List Value} {h : mj_H} {r : mj_O × mj_H} {x : Int32} (hr : P.2.1 k pc = some (.tableswitch a 0 b os, len, t :: ts)) (hx : x.toInt < 0 ∨ b < x.toInt)
    (w : eR P cm sm fr lo k (t, lv, st) h r) : eR P cm sm fr lo k (pc, lv, .int x :: st) h r := by
  refine eR.sim hr (F := (t, lv, st)) (h' := h) ?_ w
  simp only [mj_sim]
  rw [if_pos hx]
theorem i32_cases (x : Int32) : x < 0 ∨ ∃ n, n < 2 ^ 31 ∧ x = nI n := by
  by_cases a : x < 0
  · exact Or.inl a
  · right
    have h1 := x.toInt_lt
    have h2 : ¬ x.toInt < 0 := fun z => a (Int32.lt_iff_toInt_lt.mpr z)
    refine ⟨x.toInt.toNat, by omega, ?_⟩
    apply Int32.toInt_inj.mp
    rw [nI_toInt (by omega)]; omega
theorem i32_neg {x : Int32} (h : x < 0) : x.toInt < 0 := Int32.lt_iff_toInt_lt.mp h
def nL (n : Nat) : Int64 := Int64.ofNat n
theorem nL_i2l {b : Nat} (h : b < 2 ^ 31) : (nI b).toInt64 = nL b := Int32.toInt64_ofNat' (by
  show (b : Int) ≤ 2147483647
  omega)
theorem nL_or (a c : Nat) : nL a ||| nL c = nL (a ||| c) := by
  apply Int64.toBitVec_inj.mp
  show BitVec.ofNat 64 a ||| BitVec.ofNat 64 c = BitVec.ofNat 64 (a ||| c)
  apply BitVec.eq_of_toNat_eq
  simp only [BitVec.toNat_or, BitVec.toNat_ofNat]
  exact Nat.or_mod_two_pow.symm
theorem nL_shl (b k : Nat) (hk : k < 8) : nL b <<< ((nI (8 * k)).toInt64 &&& 63) = nL (b * 256 ^ k) := by
  apply Int64.toBitVec_inj.mp
  have h : k = 0 ∨ k = 1 ∨ k = 2 ∨ k = 3 ∨ k = 4 ∨ k = 5 ∨ k = 6 ∨ k = 7 := by omega
  rcases h with h | h | h | h | h | h | h | h <;> subst h
  · show BitVec.ofNat 64 b <<< 0 = BitVec.ofNat 64 (b * 1)
    apply BitVec.eq_of_toNat_eq; simp only [BitVec.toNat_shiftLeft, BitVec.toNat_ofNat, Nat.shiftLeft_eq]; omega
  · show BitVec.ofNat 64 b <<< 8 = BitVec.ofNat 64 (b * 256)
    apply BitVec.eq_of_toNat_eq; simp only [BitVec.toNat_shiftLeft, BitVec.toNat_ofNat, Nat.shiftLeft_eq]; omega
  · show BitVec.ofNat 64 b <<< 16 = BitVec.ofNat 64 (b * 65536)
    apply BitVec.eq_of_toNat_eq; simp only [BitVec.toNat_shiftLeft, BitVec.toNat_ofNat, Nat.shiftLeft_eq]; omega
  · show BitVec.ofNat 64 b <<< 24 = BitVec.ofNat 64 (b * 16777216)
    apply BitVec.eq_of_toNat_eq; simp only [BitVec.toNat_shiftLeft, BitVec.toNat_ofNat, Nat.shiftLeft_eq]; omega
  · show BitVec.ofNat 64 b <<< 32 = BitVec.ofNat 64 (b * 4294967296)
    apply BitVec.eq_of_toNat_eq; simp only [BitVec.toNat_shiftLeft, BitVec.toNat_ofNat, Nat.shiftLeft_eq]; omega
  · show BitVec.ofNat 64 b <<< 40 = BitVec.ofNat 64 (b * 1099511627776)
    apply BitVec.eq_of_toNat_eq; simp only [BitVec.toNat_shiftLeft, BitVec.toNat_ofNat, Nat.shiftLeft_eq]; omega
  · show BitVec.ofNat 64 b <<< 48 = BitVec.ofNat 64 (b * 281474976710656)
    apply BitVec.eq_of_toNat_eq; simp only [BitVec.toNat_shiftLeft, BitVec.toNat_ofNat, Nat.shiftLeft_eq]; omega
  · show BitVec.ofNat 64 b <<< 56 = BitVec.ofNat 64 (b * 72057594037927936)
    apply BitVec.eq_of_toNat_eq; simp only [BitVec.toNat_shiftLeft, BitVec.toNat_ofNat, Nat.shiftLeft_eq]; omega
theorem or_add (a b k : Nat) (ha : a < 256 ^ k) : a ||| b * 256 ^ k = a + b * 256 ^ k := by
  have e : (256 : Nat) ^ k = 2 ^ (8 * k) := by rw [Nat.pow_mul]
  rw [e] at ha ⊢
  have := Nat.two_pow_add_eq_or_of_lt ha b
  rw [Nat.mul_comm b, Nat.or_comm, ← this, Nat.add_comm]
/-- a byte put above the word that is there -/
theorem nL_put {a b k : Nat} (hb : b < 256) (hk : k < 8) (ha : a < 256 ^ k) : nL a ||| ((nI b).toInt64 <<< ((nI (8 * k)).toInt64 &&& 63)) = nL (a + b * 256 ^ k) := by
  rw [nL_i2l (by omega), nL_shl b k hk, nL_or, or_add a b k ha]
/-- a byte put below it -/
theorem nL_hor {a b : Nat} (hb : b < 256) : (nL a <<< ((nI 8).toInt64 &&& 63)) ||| (nI b).toInt64 = nL (a * 256 + b) := by
  have h := nL_shl a 1 (by omega)
  rw [show 8 * 1 = 8 by rfl, show (256 : Nat) ^ 1 = 256 by rfl] at h
  rw [h, nL_i2l (show b < 2 ^ 31 by omega), nL_or]
  have := or_add b a 1 (by omega)
  rw [show (256 : Nat) ^ 1 = 256 by rfl] at this
  rw [Nat.or_comm, this, Nat.add_comm]
/-- the bytes of a word -/
def wo (w : Int64) : Nat := w.toUInt64.toNat
theorem wo_shr (w : Int64) (k : Nat) (hk : k < 8) : ((w.toUInt64 >>> ((nI (8 * k)).toInt64.toUInt64 &&& Int64.toUInt64 63)).toInt64) = nL (wo w / 256 ^ k) := by
  apply Int64.toBitVec_inj.mp
  have h : k = 0 ∨ k = 1 ∨ k = 2 ∨ k = 3 ∨ k = 4 ∨ k = 5 ∨ k = 6 ∨ k = 7 := by omega
  have hw : w.toBitVec.toNat < 2 ^ 64 := w.toBitVec.isLt
  rcases h with h | h | h | h | h | h | h | h <;> subst h
  · show w.toBitVec >>> 0 = BitVec.ofNat 64 (w.toBitVec.toNat / 1)
    apply BitVec.eq_of_toNat_eq; simp only [BitVec.toNat_ushiftRight, BitVec.toNat_ofNat, Nat.shiftRight_eq_div_pow]; omega
  · show w.toBitVec >>> 8 = BitVec.ofNat 64 (w.toBitVec.toNat / 256)
    apply BitVec.eq_of_toNat_eq; simp only [BitVec.toNat_ushiftRight, BitVec.toNat_ofNat, Nat.shiftRight_eq_div_pow]; omega
  · show w.toBitVec >>> 16 = BitVec.ofNat 64 (w.toBitVec.toNat / 65536)
    apply BitVec.eq_of_toNat_eq; simp only [BitVec.toNat_ushiftRight, BitVec.toNat_ofNat, Nat.shiftRight_eq_div_pow]; omega
  · show w.toBitVec >>> 24 = BitVec.ofNat 64 (w.toBitVec.toNat / 16777216)
    apply BitVec.eq_of_toNat_eq; simp only [BitVec.toNat_ushiftRight, BitVec.toNat_ofNat, Nat.shiftRight_eq_div_pow]; omega
  · show w.toBitVec >>> 32 = BitVec.ofNat 64 (w.toBitVec.toNat / 4294967296)
    apply BitVec.eq_of_toNat_eq; simp only [BitVec.toNat_ushiftRight, BitVec.toNat_ofNat, Nat.shiftRight_eq_div_pow]; omega
  · show w.toBitVec >>> 40 = BitVec.ofNat 64 (w.toBitVec.toNat / 1099511627776)
    apply BitVec.eq_of_toNat_eq; simp only [BitVec.toNat_ushiftRight, BitVec.toNat_ofNat, Nat.shiftRight_eq_div_pow]; omega
  · show w.toBitVec >>> 48 = BitVec.ofNat 64 (w.toBitVec.toNat / 281474976710656)
    apply BitVec.eq_of_toNat_eq; simp only [BitVec.toNat_ushiftRight, BitVec.toNat_ofNat, Nat.shiftRight_eq_div_pow]; omega
  · show w.toBitVec >>> 56 = BitVec.ofNat 64 (w.toBitVec.toNat / 72057594037927936)
    apply BitVec.eq_of_toNat_eq; simp only [BitVec.toNat_ushiftRight, BitVec.toNat_ofNat, Nat.shiftRight_eq_div_pow]; omega
theorem nL_l2i (n : Nat) : (nL n).toInt32 = nI n := Int64.toInt32_ofNat'
theorem nL_255 (n : Nat) : (nL n &&& 255) = nL (n % 256) := by
  apply Int64.toBitVec_inj.mp
  show BitVec.ofNat 64 n &&& BitVec.ofNat 64 255 = BitVec.ofNat 64 (n % 256)
  apply BitVec.eq_of_toNat_eq
  simp only [BitVec.toNat_and, BitVec.toNat_ofNat]
  have e : (255 : Nat) % 2 ^ 64 = 2 ^ 8 - 1 := by decide
  rw [e, Nat.and_two_pow_sub_one_eq_mod]; omega
