abbrev gC : Type := Nat × (Nat → Int32) × gT × gT × gU × gU × gS × (Nat → Nat)
def Wd (C : gC) (e : Nat → Nat) (P Q : gT) (m : Nat) (N : Nat → Nat) (R : gS) (t : Nat) (Z : mj_H) : mj_H :=
  Gc C.1 C.2.1 C.2.2.1 C.2.2.2.1 C.2.2.2.2.1 C.2.2.2.2.2.1 C.2.2.2.2.2.2.1 C.2.2.2.2.2.2.2
    (.inr (12, [.ref 24, .int (nI P.2), .ref 25, .int (nI Q.2), .ref 26, .int (nI m), .ref 27, .ref 28, .ref 29, .ref 30, .ref 31, .int (nI t)]) :: .inl (3, (2048, .inl fun k => nI (e k))) ::
     .inl (2, (40, .inl fun k => nI (P.1 k))) :: .inl (2, (40, .inl fun k => nI (Q.1 k))) :: .inl (3, (140, .inl fun k => nI (N k))) :: .inl (1, (16, .inl fun k => nI (bi (R.1 k)))) ::
     .inl (3, (16, .inl fun k => nI (R.2.2.1 k))) :: .inl (1, (64, .inl fun k => nI (bi (R.2.1 k)))) :: .inl (3, (16, .inl fun k => nI (R.2.2.2.1 k))) :: Z)
theorem dp_eq (e : Nat → Nat) (a v : Nat) (ha : a < 2048) (hv : v < 256) : upd (fun k => nI (e k)) a (nI v) = fun k => nI (dp e a v k) := by
  funext k
  unfold upd dp
  by_cases h : k = a
  · subst h
    simp [ha, Nat.mod_eq_of_lt hv]
  · simp [h]
section MW
variable {cm sm fr lo k pc : Nat} {C : gC} {e : Nat → Nat} {P Q : gT} {m : Nat} {N : Nat → Nat} {R : gS} {t : Nat} {Z : mj_H} {lv : mj_L} {st : List Value} {r : mj_O × mj_H} {a v : Nat}
theorem eR.ld24 (hr : mm_P.2.1 k pc = some (.iaload, 1, [])) (ha : a < 2048) (w : eR mm_P cm sm fr lo k (pc + 1, lv, .int (nI (e a)) :: st) (Wd C e P Q m N R t Z) r) : eR mm_P cm sm fr lo k (pc, lv, .int (nI a) :: .ref 24 :: st) (Wd C e P Q m N R t Z) r := by
  refine eR.sim hr (F := (pc + 1, lv, .int (nI (e a)) :: st)) (h' := (Wd C e P Q m N R t Z)) ?_ w
  simp [mj_sim, mj_ar, mj_gi, Wd, Gc, na_ix ha (by decide)]
theorem eR.ld25 (hr : mm_P.2.1 k pc = some (.caload, 1, [])) (ha : a < 40) (w : eR mm_P cm sm fr lo k (pc + 1, lv, .int (nI (P.1 a)) :: st) (Wd C e P Q m N R t Z) r) : eR mm_P cm sm fr lo k (pc, lv, .int (nI a) :: .ref 25 :: st) (Wd C e P Q m N R t Z) r := by
  refine eR.sim hr (F := (pc + 1, lv, .int (nI (P.1 a)) :: st)) (h' := (Wd C e P Q m N R t Z)) ?_ w
  simp [mj_sim, mj_ar, mj_gi, Wd, Gc, na_ix ha (by decide)]
theorem eR.ld26 (hr : mm_P.2.1 k pc = some (.caload, 1, [])) (ha : a < 40) (w : eR mm_P cm sm fr lo k (pc + 1, lv, .int (nI (Q.1 a)) :: st) (Wd C e P Q m N R t Z) r) : eR mm_P cm sm fr lo k (pc, lv, .int (nI a) :: .ref 26 :: st) (Wd C e P Q m N R t Z) r := by
  refine eR.sim hr (F := (pc + 1, lv, .int (nI (Q.1 a)) :: st)) (h' := (Wd C e P Q m N R t Z)) ?_ w
  simp [mj_sim, mj_ar, mj_gi, Wd, Gc, na_ix ha (by decide)]
theorem eR.ld27 (hr : mm_P.2.1 k pc = some (.iaload, 1, [])) (ha : a < 140) (w : eR mm_P cm sm fr lo k (pc + 1, lv, .int (nI (N a)) :: st) (Wd C e P Q m N R t Z) r) : eR mm_P cm sm fr lo k (pc, lv, .int (nI a) :: .ref 27 :: st) (Wd C e P Q m N R t Z) r := by
  refine eR.sim hr (F := (pc + 1, lv, .int (nI (N a)) :: st)) (h' := (Wd C e P Q m N R t Z)) ?_ w
  simp [mj_sim, mj_ar, mj_gi, Wd, Gc, na_ix ha (by decide)]
theorem eR.ld28 (hr : mm_P.2.1 k pc = some (.baload, 1, [])) (ha : a < 16) (w : eR mm_P cm sm fr lo k (pc + 1, lv, .int (nI (bi (R.1 a))) :: st) (Wd C e P Q m N R t Z) r) : eR mm_P cm sm fr lo k (pc, lv, .int (nI a) :: .ref 28 :: st) (Wd C e P Q m N R t Z) r := by
  refine eR.sim hr (F := (pc + 1, lv, .int (nI (bi (R.1 a))) :: st)) (h' := (Wd C e P Q m N R t Z)) ?_ w
  simp [mj_sim, mj_ar, mj_gi, Wd, Gc, na_ix ha (by decide)]
theorem eR.ld29 (hr : mm_P.2.1 k pc = some (.iaload, 1, [])) (ha : a < 16) (w : eR mm_P cm sm fr lo k (pc + 1, lv, .int (nI (R.2.2.1 a)) :: st) (Wd C e P Q m N R t Z) r) : eR mm_P cm sm fr lo k (pc, lv, .int (nI a) :: .ref 29 :: st) (Wd C e P Q m N R t Z) r := by
  refine eR.sim hr (F := (pc + 1, lv, .int (nI (R.2.2.1 a)) :: st)) (h' := (Wd C e P Q m N R t Z)) ?_ w
  simp [mj_sim, mj_ar, mj_gi, Wd, Gc, na_ix ha (by decide)]
theorem eR.ld30 (hr : mm_P.2.1 k pc = some (.baload, 1, [])) (ha : a < 64) (w : eR mm_P cm sm fr lo k (pc + 1, lv, .int (nI (bi (R.2.1 a))) :: st) (Wd C e P Q m N R t Z) r) : eR mm_P cm sm fr lo k (pc, lv, .int (nI a) :: .ref 30 :: st) (Wd C e P Q m N R t Z) r := by
  refine eR.sim hr (F := (pc + 1, lv, .int (nI (bi (R.2.1 a))) :: st)) (h' := (Wd C e P Q m N R t Z)) ?_ w
  simp [mj_sim, mj_ar, mj_gi, Wd, Gc, na_ix ha (by decide)]
theorem eR.ld31 (hr : mm_P.2.1 k pc = some (.iaload, 1, [])) (ha : a < 16) (w : eR mm_P cm sm fr lo k (pc + 1, lv, .int (nI (R.2.2.2.1 a)) :: st) (Wd C e P Q m N R t Z) r) : eR mm_P cm sm fr lo k (pc, lv, .int (nI a) :: .ref 31 :: st) (Wd C e P Q m N R t Z) r := by
  refine eR.sim hr (F := (pc + 1, lv, .int (nI (R.2.2.2.1 a)) :: st)) (h' := (Wd C e P Q m N R t Z)) ?_ w
  simp [mj_sim, mj_ar, mj_gi, Wd, Gc, na_ix ha (by decide)]
theorem eR.st24 (hr : mm_P.2.1 k pc = some (.iastore, 1, [])) (ha : a < 2048) (hv : v < 256) (w : eR mm_P cm sm fr lo k (pc + 1, lv, st) (Wd C (dp e a v) P Q m N R t Z) r) : eR mm_P cm sm fr lo k (pc, lv, .int (nI v) :: .int (nI a) :: .ref 24 :: st) (Wd C e P Q m N R t Z) r := by
  refine eR.sim hr (F := (pc + 1, lv, st)) (h' := (Wd C (dp e a v) P Q m N R t Z)) ?_ w
  simp [mj_sim, mj_ar, mj_pi, mj_nw, Wd, Gc, na_ix ha (by decide), dp_eq e a v ha hv]
theorem eR.st25 (hr : mm_P.2.1 k pc = some (.castore, 1, [])) (ha : a < 40) (hv : v < 65536) (w : eR mm_P cm sm fr lo k (pc + 1, lv, st) (Wd C e (ut P.1 a v, P.2) Q m N R t Z) r) : eR mm_P cm sm fr lo k (pc, lv, .int (nI v) :: .int (nI a) :: .ref 25 :: st) (Wd C e P Q m N R t Z) r := by
  refine eR.sim hr (F := (pc + 1, lv, st)) (h' := (Wd C e (ut P.1 a v, P.2) Q m N R t Z)) ?_ w
  simp [mj_sim, mj_ar, mj_pi, mj_nw, Wd, Gc, na_ix ha (by decide), ch_eq hv, ut_eq]
theorem eR.st26 (hr : mm_P.2.1 k pc = some (.castore, 1, [])) (ha : a < 40) (hv : v < 65536) (w : eR mm_P cm sm fr lo k (pc + 1, lv, st) (Wd C e P (ut Q.1 a v, Q.2) m N R t Z) r) : eR mm_P cm sm fr lo k (pc, lv, .int (nI v) :: .int (nI a) :: .ref 26 :: st) (Wd C e P Q m N R t Z) r := by
  refine eR.sim hr (F := (pc + 1, lv, st)) (h' := (Wd C e P (ut Q.1 a v, Q.2) m N R t Z)) ?_ w
  simp [mj_sim, mj_ar, mj_pi, mj_nw, Wd, Gc, na_ix ha (by decide), ch_eq hv, ut_eq]
theorem eR.st27 (hr : mm_P.2.1 k pc = some (.iastore, 1, [])) (ha : a < 140) (w : eR mm_P cm sm fr lo k (pc + 1, lv, st) (Wd C e P Q m (ut N a v) R t Z) r) : eR mm_P cm sm fr lo k (pc, lv, .int (nI v) :: .int (nI a) :: .ref 27 :: st) (Wd C e P Q m N R t Z) r := by
  refine eR.sim hr (F := (pc + 1, lv, st)) (h' := (Wd C e P Q m (ut N a v) R t Z)) ?_ w
  simp [mj_sim, mj_ar, mj_pi, mj_nw, Wd, Gc, na_ix ha (by decide), ut_eq]
theorem eR.st28f (hr : mm_P.2.1 k pc = some (.bastore, 1, [])) (ha : a < 16) (w : eR mm_P cm sm fr lo k (pc + 1, lv, st) (Wd C e P Q m N (ub R.1 a false, R.2.1, R.2.2.1, R.2.2.2.1, R.2.2.2.2) t Z) r) : eR mm_P cm sm fr lo k (pc, lv, .int (nI 0) :: .int (nI a) :: .ref 28 :: st) (Wd C e P Q m N R t Z) r := by
  refine eR.sim hr (F := (pc + 1, lv, st)) (h' := (Wd C e P Q m N (ub R.1 a false, R.2.1, R.2.2.1, R.2.2.2.1, R.2.2.2.2) t Z)) ?_ w
  simp [mj_sim, mj_ar, mj_pi, mj_nw, Wd, Gc, na_ix ha (by decide), bo_eq0, ub_eq0]
theorem eR.st30f (hr : mm_P.2.1 k pc = some (.bastore, 1, [])) (ha : a < 64) (w : eR mm_P cm sm fr lo k (pc + 1, lv, st) (Wd C e P Q m N (R.1, ub R.2.1 a false, R.2.2.1, R.2.2.2.1, R.2.2.2.2) t Z) r) : eR mm_P cm sm fr lo k (pc, lv, .int (nI 0) :: .int (nI a) :: .ref 30 :: st) (Wd C e P Q m N R t Z) r := by
  refine eR.sim hr (F := (pc + 1, lv, st)) (h' := (Wd C e P Q m N (R.1, ub R.2.1 a false, R.2.2.1, R.2.2.2.1, R.2.2.2.2) t Z)) ?_ w
  simp [mj_sim, mj_ar, mj_pi, mj_nw, Wd, Gc, na_ix ha (by decide), bo_eq0, ub_eq0]
theorem eR.st28t (hr : mm_P.2.1 k pc = some (.bastore, 1, [])) (ha : a < 16) (w : eR mm_P cm sm fr lo k (pc + 1, lv, st) (Wd C e P Q m N (ub R.1 a true, R.2.1, R.2.2.1, R.2.2.2.1, R.2.2.2.2) t Z) r) : eR mm_P cm sm fr lo k (pc, lv, .int (nI 1) :: .int (nI a) :: .ref 28 :: st) (Wd C e P Q m N R t Z) r := by
  refine eR.sim hr (F := (pc + 1, lv, st)) (h' := (Wd C e P Q m N (ub R.1 a true, R.2.1, R.2.2.1, R.2.2.2.1, R.2.2.2.2) t Z)) ?_ w
  simp [mj_sim, mj_ar, mj_pi, mj_nw, Wd, Gc, na_ix ha (by decide), bo_eq1, ub_eq1]
theorem eR.st30t (hr : mm_P.2.1 k pc = some (.bastore, 1, [])) (ha : a < 64) (w : eR mm_P cm sm fr lo k (pc + 1, lv, st) (Wd C e P Q m N (R.1, ub R.2.1 a true, R.2.2.1, R.2.2.2.1, R.2.2.2.2) t Z) r) : eR mm_P cm sm fr lo k (pc, lv, .int (nI 1) :: .int (nI a) :: .ref 30 :: st) (Wd C e P Q m N R t Z) r := by
  refine eR.sim hr (F := (pc + 1, lv, st)) (h' := (Wd C e P Q m N (R.1, ub R.2.1 a true, R.2.2.1, R.2.2.2.1, R.2.2.2.2) t Z)) ?_ w
  simp [mj_sim, mj_ar, mj_pi, mj_nw, Wd, Gc, na_ix ha (by decide), bo_eq1, ub_eq1]
theorem eR.st29 (hr : mm_P.2.1 k pc = some (.iastore, 1, [])) (ha : a < 16) (w : eR mm_P cm sm fr lo k (pc + 1, lv, st) (Wd C e P Q m N (R.1, R.2.1, ut R.2.2.1 a v, R.2.2.2.1, R.2.2.2.2) t Z) r) : eR mm_P cm sm fr lo k (pc, lv, .int (nI v) :: .int (nI a) :: .ref 29 :: st) (Wd C e P Q m N R t Z) r := by
  refine eR.sim hr (F := (pc + 1, lv, st)) (h' := (Wd C e P Q m N (R.1, R.2.1, ut R.2.2.1 a v, R.2.2.2.1, R.2.2.2.2) t Z)) ?_ w
  simp [mj_sim, mj_ar, mj_pi, mj_nw, Wd, Gc, na_ix ha (by decide), ut_eq]
theorem eR.st31 (hr : mm_P.2.1 k pc = some (.iastore, 1, [])) (ha : a < 16) (w : eR mm_P cm sm fr lo k (pc + 1, lv, st) (Wd C e P Q m N (R.1, R.2.1, R.2.2.1, ut R.2.2.2.1 a v, R.2.2.2.2) t Z) r) : eR mm_P cm sm fr lo k (pc, lv, .int (nI v) :: .int (nI a) :: .ref 31 :: st) (Wd C e P Q m N R t Z) r := by
  refine eR.sim hr (F := (pc + 1, lv, st)) (h' := (Wd C e P Q m N (R.1, R.2.1, R.2.2.1, ut R.2.2.2.1 a v, R.2.2.2.2) t Z)) ?_ w
  simp [mj_sim, mj_ar, mj_pi, mj_nw, Wd, Gc, na_ix ha (by decide), ut_eq]
end MW
theorem ib_get : ∀ x, x < 256 → ∀ k, k < 8 → ((nI x >>> (nI k &&& 31)) &&& nI 1) = nI (bi (x.testBit k)) := by decide +kernel
theorem ib_or : ∀ x, x < 256 → ∀ k, k < 8 → (nI x ||| (nI 1 <<< (nI k &&& 31))) = nI (if x.testBit k = true then x else x ^^^ 2 ^ k) := by decide +kernel
theorem ib_and : ∀ x, x < 256 → ∀ k, k < 8 → (nI x &&& ((nI 1 <<< (nI k &&& 31)) ^^^ -1)) = nI (if x.testBit k = true then x ^^^ 2 ^ k else x) := by decide +kernel
theorem xor_lt {x k : Nat} (hx : x < 256) (hk : k < 8) : x ^^^ 2 ^ k < 256 := Nat.xor_lt_two_pow (n := 8) hx (Nat.pow_lt_pow_right (by omega) hk)
theorem dp_self {e : Nat → Nat} (he : dk e) (a : Nat) : dp e a (e a) = e := by
  funext k
  unfold dp
  split
  · next h => rw [h.1]; exact Nat.mod_eq_of_lt (he.1 a)
  · rfl
theorem rm_t {e : Nat → Nat} (he : dk e) (a i : Nat) : dp e (a + i / 8) (if (e (a + i / 8)).testBit (i % 8) = true then e (a + i / 8) else e (a + i / 8) ^^^ 2 ^ (i % 8)) = rm e a i true := by
  unfold rm bt tb
  split
  · exact dp_self he _
  · rfl
theorem rm_f {e : Nat → Nat} (he : dk e) (a i : Nat) : dp e (a + i / 8) (if (e (a + i / 8)).testBit (i % 8) = true then e (a + i / 8) ^^^ 2 ^ (i % 8) else e (a + i / 8)) = rm e a i false := by
  unfold rm bt tb
  by_cases h : (e (a + i / 8)).testBit (i % 8) = true
  · rw [if_pos h, if_neg (by rw [h]; exact Bool.noConfusion)]
  · rw [if_neg h, if_pos (by simpa using h)]; exact dp_self he _
theorem ior_8 {x y : Nat} (hx : x < 256) (hy : y < 256) : (nI x ||| (nI y <<< (nI 8 &&& 31))) = nI (x + (256 * y)) := by
  have h1 : nI y <<< (nI 8 &&& 31) = nI (y * 256) := by
    apply Int32.toBitVec_inj.mp
    show BitVec.ofNat 32 y <<< 8 = BitVec.ofNat 32 (y * 256)
    apply BitVec.eq_of_toNat_eq; simp only [BitVec.toNat_shiftLeft, BitVec.toNat_ofNat, Nat.shiftLeft_eq]; omega
  have h2 : ∀ a c, nI a ||| nI c = nI (a ||| c) := by
    intro a c
    apply Int32.toBitVec_inj.mp
    show BitVec.ofNat 32 a ||| BitVec.ofNat 32 c = BitVec.ofNat 32 (a ||| c)
    exact BitVec.ofNat_or.symm
  have h3 := or_add x y 1 (by omega)
  rw [show (256 : Nat) ^ 1 = 256 by rfl] at h3
  rw [h1, h2, h3]
  congr 1
  omega
theorem ian_255 (n : Nat) : (nI n &&& nI 255) = nI (n % 256) := by
  apply Int32.toBitVec_inj.mp
  show BitVec.ofNat 32 n &&& BitVec.ofNat 32 255 = BitVec.ofNat 32 (n % 256)
  apply BitVec.eq_of_toNat_eq
  simp only [BitVec.toNat_and, BitVec.toNat_ofNat]
  have e : (255 : Nat) % 2 ^ 32 = 2 ^ 8 - 1 := by decide
  rw [e, Nat.and_two_pow_sub_one_eq_mod]; omega
theorem ish_8 {n : Nat} (h : n < 2 ^ 16) : (nI n >>> (nI 8 &&& 31)) = nI (n / 256) := by
  apply Int32.toBitVec_inj.mp
  show (BitVec.ofNat 32 n).sshiftRight 8 = BitVec.ofNat 32 (n / 256)
  have hm : (BitVec.ofNat 32 n).msb = false := by
    rw [BitVec.msb_eq_decide]; simp only [BitVec.toNat_ofNat]; exact decide_eq_false (by omega)
  rw [BitVec.sshiftRight_eq_of_msb_false hm]
  apply BitVec.eq_of_toNat_eq
  simp only [BitVec.toNat_ushiftRight, BitVec.toNat_ofNat, Nat.shiftRight_eq_div_pow]
  omega

