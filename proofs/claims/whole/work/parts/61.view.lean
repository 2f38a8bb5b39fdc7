theorem dp_at (d : Nat → Nat) (a v : Nat) (h : a < 2048) : dp d a v a = v % 256 := if_pos ⟨rfl, h⟩
theorem dp_ne (d : Nat → Nat) (a v x : Nat) (h : x ≠ a) : dp d a v x = d x := if_neg (fun z => h z.1)
theorem tb_ne (d : Nat → Nat) (a i x : Nat) (h : x ≠ a + i / 8) : tb d a i x = d x := dp_ne _ _ _ _ h
theorem cz_in (d : Nat → Nat) (a m x : Nat) (h : a ≤ x ∧ x < a + m) : cz d a m x = 0 := if_pos h
theorem cz_ne (d : Nat → Nat) (a m x : Nat) (h : ¬ (a ≤ x ∧ x < a + m)) : cz d a m x = d x := if_neg h
def qk (d : Nat → Nat) (i : Nat) : Nat := if i < 16 then d (32 + (16 * i)) else 0
def qb (d : Nat → Nat) (i w : Nat) : Nat :=
  if w < 6 then d (32 + (16 * i) + 4 + w) else if w = 38 then d (32 + (16 * i) + 10) else if d (32 + (16 * i) + 10) = 0 then 0 else d (d (32 + (16 * i) + 10) * 32 + w - 6)
def qs (d : Nat → Nat) (p j : Nat) : Nat := if d (32 + (16 * p)) = 2 ∧ j < sn d p then si d p j else 0
theorem qb_bo (d : Nat → Nat) (i w : Nat) (h : w < 38) : qb d i w = bo d i w := by
  unfold qb bo eo og
  by_cases a : w < 6
  · simp only [if_pos a]
  · by_cases b : d (32 + (16 * i) + 10) = 0
    · rw [if_neg a, if_neg (by omega), if_neg a, if_pos b, if_pos b]
    · rw [if_neg a, if_neg (by omega), if_neg a, if_neg b, if_neg b]
theorem qb_ix (d : Nat → Nat) (i : Nat) : qb d i 38 = d (32 + (16 * i) + 10) := rfl
theorem qb_lo (d : Nat → Nat) (i w : Nat) (h : w < 6) : qb d i w = d (32 + (16 * i) + 4 + w) := if_pos h
theorem qb_ext (d d' : Nat → Nat) (i w : Nat) (hw : w ≤ 38) (hT : ∀ k, k < 16 → d' (32 + (16 * i) + k) = d (32 + (16 * i) + k))
    (hI : d (32 + (16 * i) + 10) ≠ 0 → ∀ o, o < 32 → d' (d (32 + (16 * i) + 10) * 32 + o) = d (d (32 + (16 * i) + 10) * 32 + o)) : qb d' i w = qb d i w := by
  unfold qb
  have h10 := hT 10 (by omega)
  by_cases a : w < 6
  · rw [if_pos a, if_pos a]
    have := hT (4 + w) (by omega)
    rw [← Nat.add_assoc] at this
    exact this
  · rw [if_neg a, if_neg a]
    by_cases b : w = 38
    · rw [if_pos b, if_pos b, h10]
    · rw [if_neg b, if_neg b, h10]
      by_cases c : d (32 + (16 * i) + 10) = 0
      · rw [if_pos c, if_pos c]
      · rw [if_neg c, if_neg c]
        have := hI c (w - 6) (by omega)
        have e : d (32 + (16 * i) + 10) * 32 + w - 6 = d (32 + (16 * i) + 10) * 32 + (w - 6) := by omega
        rw [e, this]
theorem sn_ext (d d' : Nat → Nat) (p : Nat) (h2 : d' (32 + (16 * p) + 2) = d (32 + (16 * p) + 2)) (h3 : d' (32 + (16 * p) + 3) = d (32 + (16 * p) + 3)) : sn d' p = sn d p := by
  unfold sn
  rw [h2, show 32 + (16 * p) + 2 + 1 = 32 + (16 * p) + 3 by omega, h3]
theorem qs_ext (d d' : Nat → Nat) (p j : Nat) (hj : j < 24) (hT : ∀ k, k < 16 → d' (32 + (16 * p) + k) = d (32 + (16 * p) + k))
    (hB : d (32 + (16 * p)) = 2 → j < sn d p → d' (sa d p j) = d (sa d p j)) : qs d' p j = qs d p j := by
  unfold qs
  have h0 := hT 0 (by omega)
  simp only [Nat.add_zero] at h0
  rw [h0, sn_ext d d' p (hT 2 (by omega)) (hT 3 (by omega))]
  have e : sa d' p j = sa d p j := by
    unfold sa
    have := hT (4 + j / 4) (by omega)
    rw [← Nat.add_assoc] at this
    rw [this]
  by_cases a : d (32 + (16 * p)) = 2 ∧ j < sn d p
  · rw [if_pos a, if_pos a]; unfold si; rw [e, hB a.1 a.2]
  · rw [if_neg a, if_neg a]
def qB (d : Nat → Nat) : Prop :=
  (dk d) ∧
  (∀ i w, i < 16 → w ≤ 38 → qb d i w = 0 ∨ (9 ≤ qb d i w ∧ qb d i w < 64)) ∧
  (∀ i w j v, i < 16 → w ≤ 38 → j < 16 → v ≤ 38 → qb d i w ≠ 0 → qb d i w = qb d j v → i = j ∧ w = v) ∧
  (bt d 1 0 = true) ∧
  (∀ b, b < 9 → bt d 3 b = true)
theorem qB.dk {d : Nat → Nat} (h : qB d) : dk d := h.1
theorem qB.b1 {d : Nat → Nat} (h : qB d) : ∀ i w, i < 16 → w ≤ 38 → qb d i w = 0 ∨ (9 ≤ qb d i w ∧ qb d i w < 64) := h.2.1
theorem qB.b2 {d : Nat → Nat} (h : qB d) : ∀ i w j v, i < 16 → w ≤ 38 → j < 16 → v ≤ 38 → qb d i w ≠ 0 → qb d i w = qb d j v → i = j ∧ w = v := h.2.2.1
theorem qB.m1 {d : Nat → Nat} (h : qB d) : bt d 1 0 = true := h.2.2.2.1
theorem qB.m3 {d : Nat → Nat} (h : qB d) : ∀ b, b < 9 → bt d 3 b = true := h.2.2.2.2
def qR (d : Nat → Nat) : Prop :=
  (∀ i k, i < 16 → k < 16 → d (32 + (16 * i)) = 0 → d (32 + (16 * i) + k) = 0) ∧
  (∀ i, i < 16 → d (32 + (16 * i)) = 2 → d (32 + (16 * i) + 10) = 0 ∧ d (32 + (16 * i) + 2) + (256 * (d (32 + (16 * i) + 3))) = 8 * sn d i ∧ 2 ≤ sn d i ∧
    ∀ w, w < 6 → (d (32 + (16 * i) + 4 + w) ≠ 0 ↔ 4 * w < sn d i)) ∧
  (∀ i, i < 16 → d (32 + (16 * i)) = 1 → d (32 + (16 * i) + 2) + (256 * (d (32 + (16 * i) + 3))) ≤ 1216)
theorem qR.z {d : Nat → Nat} (h : qR d) : ∀ i k, i < 16 → k < 16 → d (32 + (16 * i)) = 0 → d (32 + (16 * i) + k) = 0 := h.1
theorem qR.dr {d : Nat → Nat} (h : qR d) : ∀ i, i < 16 → d (32 + (16 * i)) = 2 → d (32 + (16 * i) + 10) = 0 ∧ d (32 + (16 * i) + 2) + (256 * (d (32 + (16 * i) + 3))) = 8 * sn d i ∧ 2 ≤ sn d i ∧
    ∀ w, w < 6 → (d (32 + (16 * i) + 4 + w) ≠ 0 ↔ 4 * w < sn d i) := h.2.1
theorem qR.fi {d : Nat → Nat} (h : qR d) : ∀ i, i < 16 → d (32 + (16 * i)) = 1 → d (32 + (16 * i) + 2) + (256 * (d (32 + (16 * i) + 3))) ≤ 1216 := h.2.2
def qM (d : Nat → Nat) : Prop :=
  (∀ i, i < 16 → d (32 + (16 * i)) ≠ 0 → bt d 1 i = true) ∧
  (∀ i w, i < 16 → w ≤ 38 → qb d i w ≠ 0 → bt d 3 (qb d i w) = true)
theorem qM.c1 {d : Nat → Nat} (h : qM d) : ∀ i, i < 16 → d (32 + (16 * i)) ≠ 0 → bt d 1 i = true := h.1
theorem qM.c2 {d : Nat → Nat} (h : qM d) : ∀ i w, i < 16 → w ≤ 38 → qb d i w ≠ 0 → bt d 3 (qb d i w) = true := h.2
theorem qR.sa {d} (A : qB d) (R : qR d) (p j : Nat) (hp : p < 16) (hk : d (32 + (16 * p)) = 2) (hj : j < sn d p) :
    sa d p j = qb d p (j / 4) * 32 + (j % 4) * 8 ∧ 9 ≤ qb d p (j / 4) ∧ qb d p (j / 4) < 64 := by
  have h24 := sn_le d p
  have h1 : qb d p (j / 4) = d (32 + (16 * p) + 4 + j / 4) := if_pos (by omega)
  have h2 := ((R.dr p hp hk).2.2.2 (j / 4) (by omega)).mpr (by omega)
  have h3 := A.b1 p (j / 4) hp (by omega)
  refine ⟨by unfold Jvm.Pilot.@@N@@.sa; rw [h1], ?_⟩
  omega
theorem bt_tb (d : Nat → Nat) (a i j : Nat) (h : a + i / 8 < 2048) : bt (tb d a i) a j = if j = i then !bt d a i else bt d a j := by
  unfold bt tb
  by_cases e : j / 8 = i / 8
  · rw [e, dp_at _ _ _ h, show (256 : Nat) = 2 ^ 8 by rfl, Nat.testBit_mod_two_pow, Nat.testBit_xor, Nat.testBit_two_pow]
    have : j % 8 < 8 := by omega
    by_cases f : j = i
    · subst f; simp [this]
    · have : ¬ i % 8 = j % 8 := by omega
      simp [this, f]; omega
  · rw [dp_ne _ _ _ _ (by omega), if_neg (by intro z; rw [z] at e; exact e rfl)]
theorem bt_ext (d d' : Nat → Nat) (a i : Nat) (h : d' (a + i / 8) = d (a + i / 8)) : bt d' a i = bt d a i := by unfold bt; rw [h]
theorem lw_spec (d : Nat → Nat) (a n : Nat) : ∀ i, lw d a i n ≠ 0 → i ≤ lw d a i n ∧ lw d a i n < i + n ∧ bt d a (lw d a i n) = false ∧ ∀ k, i ≤ k → k < lw d a i n → bt d a k = true := by
  induction n with
  | zero => intro i h; exact absurd rfl h
  | succ n ih =>
    intro i h
    rw [lw] at h ⊢
    by_cases b : bt d a i = true
    · rw [if_pos b] at h ⊢
      obtain ⟨h1, h2, h3, h4⟩ := ih (i + 1) h
      refine ⟨by omega, by omega, h3, fun k hk hk' => ?_⟩
      by_cases e : k = i
      · rw [e]; exact b
      · exact h4 k (by omega) hk'
    · rw [if_neg b]
      exact ⟨Nat.le_refl _, by omega, by simpa using b, fun k h1 h2 => by omega⟩
theorem lw_none (d : Nat → Nat) (a n : Nat) : ∀ i, 0 < i → (lw d a i n = 0 ↔ cf d a i n = 0) := by
  induction n with
  | zero => intro i _; exact ⟨fun _ => rfl, fun _ => rfl⟩
  | succ n ih =>
    intro i hi
    rw [lw, cf]
    by_cases b : bt d a i = true
    · rw [if_pos b, if_pos b, Nat.zero_add]; exact ih (i + 1) (by omega)
    · rw [if_neg b, if_neg b]; omega
theorem qM.fresh {d} (M : qM d) (b i w : Nat) (hb : bt d 3 b = false) (h0 : b ≠ 0) (hi : i < 16) (hw : w ≤ 38) : qb d i w ≠ b := by
  intro z
  have := M.c2 i w hi hw (by omega)
  rw [z, hb] at this
  exact Bool.noConfusion this
theorem tB_spec (d : Nat → Nat) (hd : dk d) (b : Nat) (hb : lw d 3 9 55 = b) (h0 : b ≠ 0) :
    9 ≤ b ∧ b < 64 ∧ bt d 3 b = false ∧ dk (tB d) ∧ (∀ x, ¬ (3 ≤ x ∧ x < 11) → ¬ (b * 32 ≤ x ∧ x < b * 32 + 32) → tB d x = d x) ∧ (∀ x, b * 32 ≤ x → x < b * 32 + 32 → tB d x = 0) ∧
    (∀ c, c < 64 → bt (tB d) 3 c = if c = b then true else bt d 3 c) ∧ (∀ c, c < 16 → bt (tB d) 1 c = bt d 1 c) := by
  have h1 := lw_spec d 3 55 9 (by rw [hb]; exact h0)
  rw [hb] at h1
  have e : tB d = cz (tb d 3 b) (b * 32) 32 := by unfold tB tk; rw [hb, if_neg h0, if_neg h0]
  have e1 : ∀ x, ¬ (3 ≤ x ∧ x < 11) → ¬ (b * 32 ≤ x ∧ x < b * 32 + 32) → tB d x = d x := by
    intro x h2 h3
    rw [e, cz_ne _ _ _ _ h3, tb_ne _ _ _ _ (by omega)]
  have e2 : ∀ x, b * 32 ≤ x → x < b * 32 + 32 → tB d x = 0 := by
    intro x h2 h3
    rw [e, cz_in _ _ _ _ ⟨h2, h3⟩]
  have e3 : ∀ x, x < 11 → tB d x = tb d 3 b x := by
    intro x h2
    rw [e, cz_ne _ _ _ _ (by omega)]
  refine ⟨by omega, by omega, h1.2.2.1, ⟨?_, ?_⟩, e1, e2, ?_, ?_⟩
  · intro k
    rw [e]
    unfold cz tb dp
    have := hd.1 k
    split
    · omega
    · split <;> omega
  · intro k hk
    rw [e1 k (by omega) (by omega)]; exact hd.2 k hk
  · intro c hc
    rw [bt_ext (tb d 3 b) (tB d) 3 c (e3 _ (by omega)), bt_tb _ _ _ _ (by omega), h1.2.2.1]
    rfl
  · intro c hc
    exact bt_ext d (tB d) 1 c (by rw [e3 _ (by omega), tb_ne _ _ _ _ (by omega)])
def ea (d : Nat → Nat) (i w : Nat) : Nat := if w < 6 then 32 + (16 * i) + 4 + w else if w = 38 then 32 + (16 * i) + 10 else d (32 + (16 * i) + 10) * 32 + w - 6
theorem ea_38 (d : Nat → Nat) (i : Nat) : ea d i 38 = 32 + (16 * i) + 10 := rfl
theorem qb_ea (d : Nat → Nat) (i w : Nat) (h : w < 6 ∨ w = 38 ∨ d (32 + (16 * i) + 10) ≠ 0) : qb d i w = d (ea d i w) := by
  unfold qb ea
  by_cases a : w < 6
  · rw [if_pos a, if_pos a]
  · rw [if_neg a, if_neg a]
    by_cases b : w = 38
    · rw [if_pos b, if_pos b]
    · rw [if_neg b, if_neg b, if_neg (by omega)]
theorem qb_put (q q' : Nat → Nat → Nat) (i w b : Nat) (hi : i < 16) (hw : w ≤ 38) (hb : 9 ≤ b ∧ b < 64)
    (h : ∀ j v, j < 16 → v ≤ 38 → q' j v = if j = i ∧ v = w then b else q j v) (hf : ∀ j v, j < 16 → v ≤ 38 → q j v ≠ b)
    (b1 : ∀ i w, i < 16 → w ≤ 38 → q i w = 0 ∨ (9 ≤ q i w ∧ q i w < 64))
    (b2 : ∀ i w j v, i < 16 → w ≤ 38 → j < 16 → v ≤ 38 → q i w ≠ 0 → q i w = q j v → i = j ∧ w = v) :
    (∀ i w, i < 16 → w ≤ 38 → q' i w = 0 ∨ (9 ≤ q' i w ∧ q' i w < 64)) ∧ (∀ i w j v, i < 16 → w ≤ 38 → j < 16 → v ≤ 38 → q' i w ≠ 0 → q' i w = q' j v → i = j ∧ w = v) := by
  constructor
  · intro j v hj hv
    rw [h j v hj hv]
    by_cases e : j = i ∧ v = w
    · rw [if_pos e]; exact Or.inr hb
    · rw [if_neg e]; exact b1 j v hj hv
  · intro j v j' v' hj hv hj' hv' h0 he
    rw [h j v hj hv] at h0 he
    rw [h j' v' hj' hv'] at he
    have f1 := hf j v hj hv
    have f2 := hf j' v' hj' hv'
    have f3 := b2 j v j' v' hj hv hj' hv'
    by_cases e : j = i ∧ v = w
    · rw [if_pos e] at he
      by_cases e' : j' = i ∧ v' = w
      · omega
      · rw [if_neg e'] at he; omega
    · rw [if_neg e] at he h0
      by_cases e' : j' = i ∧ v' = w
      · rw [if_pos e'] at he; omega
      · rw [if_neg e'] at he; exact f3 h0 he
theorem ea_ge (d : Nat → Nat) (B : qB d) (i w : Nat) (hi : i < 16) (hw : w ≤ 38) (hx : w < 6 ∨ w = 38 ∨ d (32 + (16 * i) + 10) ≠ 0) :
    (w < 6 ∧ ea d i w = 32 + (16 * i) + 4 + w) ∨ (w = 38 ∧ ea d i w = 32 + (16 * i) + 10) ∨
    (6 ≤ w ∧ w < 38 ∧ ea d i w = qb d i 38 * 32 + (w - 6) ∧ 9 ≤ qb d i 38 ∧ qb d i 38 < 64) := by
  unfold ea
  by_cases a : w < 6
  · rw [if_pos a]; exact Or.inl ⟨a, rfl⟩
  · rw [if_neg a]
    by_cases b : w = 38
    · rw [if_pos b]; exact Or.inr (Or.inl ⟨b, rfl⟩)
    · rw [if_neg b]
      have c : d (32 + (16 * i) + 10) ≠ 0 := by omega
      have := B.b1 i 38 hi (by omega)
      rw [qb_ix] at this ⊢
      exact Or.inr (Or.inr ⟨by omega, by omega, by omega, by omega, by omega⟩)
def qN (d d' : Nat → Nat) (i w b : Nat) : Prop :=
  (9 ≤ b ∧ b < 64) ∧
  (bt d 3 b = false) ∧
  (∀ j v, j < 16 → v ≤ 38 → qb d j v ≠ b) ∧
  (∀ j v, j < 16 → v ≤ 38 → qb d' j v = if j = i ∧ v = w then b else qb d j v) ∧
  (∀ x, ¬ (3 ≤ x ∧ x < 11) → ¬ (b * 32 ≤ x ∧ x < b * 32 + 32) → x ≠ ea d i w → d' x = d x) ∧
  (∀ x, b * 32 ≤ x → x < b * 32 + 32 → d' x = 0) ∧
  (∀ c, c < 64 → bt d' 3 c = if c = b then true else bt d 3 c) ∧
  (∀ c, c < 16 → bt d' 1 c = bt d 1 c) ∧
  (qB d') ∧
  (∀ i w, i < 16 → w ≤ 38 → Jvm.Pilot.@@N@@.qb d' i w ≠ 0 → bt d' 3 (Jvm.Pilot.@@N@@.qb d' i w) = true)
theorem qN.rb {d d' : Nat → Nat} {i w b : Nat} (h : qN d d' i w b) : 9 ≤ b ∧ b < 64 := h.1
theorem qN.fr {d d' : Nat → Nat} {i w b : Nat} (h : qN d d' i w b) : bt d 3 b = false := h.2.1
theorem qN.nu {d d' : Nat → Nat} {i w b : Nat} (h : qN d d' i w b) : ∀ j v, j < 16 → v ≤ 38 → qb d j v ≠ b := h.2.2.1
theorem qN.qb {d d' : Nat → Nat} {i w b : Nat} (h : qN d d' i w b) : ∀ j v, j < 16 → v ≤ 38 → qb d' j v = if j = i ∧ v = w then b else qb d j v := h.2.2.2.1
theorem qN.ne {d d' : Nat → Nat} {i w b : Nat} (h : qN d d' i w b) : ∀ x, ¬ (3 ≤ x ∧ x < 11) → ¬ (b * 32 ≤ x ∧ x < b * 32 + 32) → x ≠ ea d i w → d' x = d x := h.2.2.2.2.1
theorem qN.z {d d' : Nat → Nat} {i w b : Nat} (h : qN d d' i w b) : ∀ x, b * 32 ≤ x → x < b * 32 + 32 → d' x = 0 := h.2.2.2.2.2.1
theorem qN.t3 {d d' : Nat → Nat} {i w b : Nat} (h : qN d d' i w b) : ∀ c, c < 64 → bt d' 3 c = if c = b then true else bt d 3 c := h.2.2.2.2.2.2.1
theorem qN.t1 {d d' : Nat → Nat} {i w b : Nat} (h : qN d d' i w b) : ∀ c, c < 16 → bt d' 1 c = bt d 1 c := h.2.2.2.2.2.2.2.1
theorem qN.B {d d' : Nat → Nat} {i w b : Nat} (h : qN d d' i w b) : qB d' := h.2.2.2.2.2.2.2.2.1
theorem qN.c2 {d d' : Nat → Nat} {i w b : Nat} (h : qN d d' i w b) : ∀ i w, i < 16 → w ≤ 38 → Jvm.Pilot.@@N@@.qb d' i w ≠ 0 → bt d' 3 (Jvm.Pilot.@@N@@.qb d' i w) = true := h.2.2.2.2.2.2.2.2.2
theorem alloc {d} (B : qB d) (M : qM d) (b : Nat) (hb : lw d 3 9 55 = b) (h0 : b ≠ 0) (i w : Nat) (hi : i < 16) (hw : w ≤ 38) (hq : qb d i w = 0)
    (hx : w < 6 ∨ w = 38 ∨ d (32 + (16 * i) + 10) ≠ 0) : qN d (dp (tB d) (ea d i w) b) i w b := by
  obtain ⟨r1, r2, r3, r4, r5, r6, r7, r8⟩ := tB_spec d B.dk b hb h0
  have nu : ∀ j v, j < 16 → v ≤ 38 → qb d j v ≠ b := fun j v hj hv => M.fresh b j v r3 h0 hj hv
  have hea := ea_ge d B i w hi hw hx
  have nix := nu i 38 hi (by omega)
  have ne : ∀ x, ¬ (3 ≤ x ∧ x < 11) → ¬ (b * 32 ≤ x ∧ x < b * 32 + 32) → x ≠ ea d i w → dp (tB d) (ea d i w) b x = d x := by
    intro x h1 h2 h3
    rw [dp_ne _ _ _ _ h3, r5 x h1 h2]
  have hz : ∀ x, b * 32 ≤ x → x < b * 32 + 32 → dp (tB d) (ea d i w) b x = 0 := by
    intro x h1 h2
    rw [dp_ne _ _ _ _ (by omega), r6 x h1 h2]
  have hat : dp (tB d) (ea d i w) b (ea d i w) = b := by rw [dp_at _ _ _ (by omega)]; omega
  have t3 : ∀ c, c < 64 → bt (dp (tB d) (ea d i w) b) 3 c = if c = b then true else bt d 3 c := by
    intro c hc
    rw [bt_ext (tB d) _ 3 c (dp_ne _ _ _ _ (by omega)), r7 c hc]
  have t1 : ∀ c, c < 16 → bt (dp (tB d) (ea d i w) b) 1 c = bt d 1 c := by
    intro c hc
    rw [bt_ext (tB d) _ 1 c (dp_ne _ _ _ _ (by omega)), r8 c hc]
  have hqb : ∀ j v, j < 16 → v ≤ 38 → qb (dp (tB d) (ea d i w) b) j v = if j = i ∧ v = w then b else qb d j v := by
    intro j v hj hv
    have bj := B.b1 j 38 hj (by omega)
    have nj := nu j 38 hj (by omega)
    have sj := B.b2 j 38 i 38 hj (by omega) hi (by omega)
    rw [qb_ix] at bj nj sj nix
    rw [qb_ix] at sj
    rw [qb_ix] at hea
    by_cases e : j = i ∧ v = w
    · rw [if_pos e]
      obtain ⟨e1, e2⟩ := e
      subst e1; subst e2
      have x10 : v < 6 ∨ v = 38 ∨ dp (tB d) (ea d j v) b (32 + (16 * j) + 10) ≠ 0 := by
        by_cases y : v < 6 ∨ v = 38
        · omega
        · right; right
          rw [ne _ (by omega) (by omega) (by omega)]; omega
      have y : ea (dp (tB d) (ea d j v) b) j v = ea d j v := by
        by_cases y : v < 6 ∨ v = 38
        · rcases y with y | y
          · unfold ea; rw [if_pos y, if_pos y]
          · subst y; simp only [ea_38]
        · have : dp (tB d) (ea d j v) b (32 + (16 * j) + 10) = d (32 + (16 * j) + 10) := ne _ (by omega) (by omega) (by omega)
          generalize dp (tB d) (ea d j v) b = g at this
          unfold ea; rw [this]
      rw [qb_ea _ _ _ x10, y, hat]
    · rw [if_neg e]
      by_cases v6 : v < 6
      · rw [qb_lo _ _ _ v6, qb_lo _ _ _ v6, ne _ (by omega) (by omega) (by omega)]
      · by_cases v38 : v = 38
        · subst v38
          rw [qb_ix, qb_ix, ne _ (by omega) (by omega) (by omega)]
        · by_cases w38 : j = i ∧ w = 38
          · obtain ⟨e1, e2⟩ := w38
            subst e1; subst e2
            have ix0 : d (32 + (16 * j) + 10) = 0 := by rw [qb_ix] at hq; exact hq
            have ix1 : dp (tB d) (ea d j 38) b (32 + (16 * j) + 10) = b := by
              have : ea d j 38 = 32 + (16 * j) + 10 := ea_38 d j
              rw [this] at hat ⊢
              exact hat
            unfold qb
            rw [if_neg v6, if_neg v38, if_neg v6, if_neg v38, if_pos ix0, ix1, if_neg h0]
            exact hz _ (by omega) (by omega)
          · have ixe : dp (tB d) (ea d i w) b (32 + (16 * j) + 10) = d (32 + (16 * j) + 10) := ne _ (by omega) (by omega) (by omega)
            unfold qb
            rw [if_neg v6, if_neg v38, if_neg v6, if_neg v38, ixe]
            by_cases c : d (32 + (16 * j) + 10) = 0
            · rw [if_pos c, if_pos c]
            · rw [if_neg c, if_neg c]
              exact ne _ (by omega) (by omega) (by omega)
  have hp := qb_put (qb d) (qb (dp (tB d) (ea d i w) b)) i w b hi hw ⟨r1, r2⟩ hqb nu B.b1 B.b2
  refine ⟨⟨r1, r2⟩, r3, nu, hqb, ne, hz, t3, t1, ⟨⟨?_, ?_⟩, hp.1, hp.2, ?_, ?_⟩, ?_⟩
  · intro k
    have := r4.1 k
    unfold dp
    split <;> omega
  · intro k hk
    rw [dp_ne _ _ _ _ (by omega)]; exact r4.2 k hk
  · rw [t1 0 (by omega)]; exact B.m1
  · intro c hc
    rw [t3 c (by omega), if_neg (by omega)]; exact B.m3 c hc
  · intro j v hj hv hn
    rw [hqb j v hj hv] at hn ⊢
    by_cases e : j = i ∧ v = w
    · rw [if_pos e, t3 b r2, if_pos rfl]
    · rw [if_neg e] at hn ⊢
      have := B.b1 j v hj hv
      rw [t3 _ (by omega)]
      split
      · rfl
      · exact M.c2 j v hj hv hn
def qI (d d' : Nat → Nat) : Prop :=
  (∀ j, j < 16 → d' (32 + (16 * j)) = d (32 + (16 * j))) ∧
  (∀ j, j < 16 → d' (32 + (16 * j) + 1) = d (32 + (16 * j) + 1)) ∧
  (∀ p j, p < 16 → j < 24 → qs d' p j = qs d p j) ∧
  (d' 11 = d 11)
theorem qI.k {d d' : Nat → Nat} (h : qI d d') : ∀ j, j < 16 → d' (32 + (16 * j)) = d (32 + (16 * j)) := h.1
theorem qI.l {d d' : Nat → Nat} (h : qI d d') : ∀ j, j < 16 → d' (32 + (16 * j) + 1) = d (32 + (16 * j) + 1) := h.2.1
theorem qI.s {d d' : Nat → Nat} (h : qI d d') : ∀ p j, p < 16 → j < 24 → qs d' p j = qs d p j := h.2.2.1
theorem qI.c {d d' : Nat → Nat} (h : qI d d') : d' 11 = d 11 := h.2.2.2
theorem qI.refl (d : Nat → Nat) : qI d d := ⟨fun _ _ => rfl, fun _ _ => rfl, fun _ _ _ _ => rfl, rfl⟩
theorem qI.trans {a b c : Nat → Nat} (h : qI a b) (g : qI b c) : qI a c :=
  ⟨fun j hj => (g.k j hj).trans (h.k j hj), fun j hj => (g.l j hj).trans (h.l j hj), fun p j hp hj => (g.s p j hp hj).trans (h.s p j hp hj), g.c.trans h.c⟩
def qE (d : Nat → Nat) : Prop :=
  (qB d) ∧
  (qR d) ∧
  (qM d)
theorem qE.B {d : Nat → Nat} (h : qE d) : qB d := h.1
theorem qE.R {d : Nat → Nat} (h : qE d) : qR d := h.2.1
theorem qE.M {d : Nat → Nat} (h : qE d) : qM d := h.2.2
theorem rows_file (d d' : Nat → Nat) (i : Nat) (R : qR d) (hk : d (32 + (16 * i)) = 1)
    (hT : ∀ j k, j < 16 → k < 16 → ¬ (j = i ∧ 2 ≤ k) → d' (32 + (16 * j) + k) = d (32 + (16 * j) + k))
    (hz : d' (32 + (16 * i) + 2) + (256 * (d' (32 + (16 * i) + 3))) ≤ 1216) : qR d' := by
  have h0 : ∀ j, j < 16 → d' (32 + (16 * j)) = d (32 + (16 * j)) := fun j hj => hT j 0 hj (by omega) (by omega)
  refine ⟨?_, ?_, ?_⟩
  · intro j k hj hk' hz'
    rw [h0 j hj] at hz'
    by_cases e : j = i
    · rw [e] at hz'; omega
    · rw [hT j k hj hk' (by omega)]; exact R.z j k hj hk' hz'
  · intro j hj hd
    rw [h0 j hj] at hd
    by_cases e : j = i
    · rw [e] at hd; omega
    · have r := R.dr j hj hd
      rw [hT j 10 hj (by omega) (by omega), hT j 2 hj (by omega) (by omega), hT j 3 hj (by omega) (by omega), sn_ext d d' j (hT j 2 hj (by omega) (by omega)) (hT j 3 hj (by omega) (by omega))]
      refine ⟨r.1, r.2.1, r.2.2.1, fun w hw => ?_⟩
      have := hT j (4 + w) hj (by omega) (by omega)
      rw [← Nat.add_assoc] at this
      rw [this]; exact r.2.2.2 w hw
  · intro j hj hf
    rw [h0 j hj] at hf
    by_cases e : j = i
    · rw [e]; exact hz
    · rw [hT j 2 hj (by omega) (by omega), hT j 3 hj (by omega) (by omega)]; exact R.fi j hj hf
theorem slots_file (d d' : Nat → Nat) (i : Nat) (B : qB d) (R : qR d) (hk : d (32 + (16 * i)) = 1)
    (hT : ∀ j k, j < 16 → k < 16 → ¬ (j = i ∧ 2 ≤ k) → d' (32 + (16 * j) + k) = d (32 + (16 * j) + k))
    (hB : ∀ p w o, p < 16 → d (32 + (16 * p)) = 2 → w < 6 → 9 ≤ qb d p w → qb d p w < 64 → o < 32 → d' (qb d p w * 32 + o) = d (qb d p w * 32 + o)) :
    ∀ p j, p < 16 → j < 24 → qs d' p j = qs d p j := by
  intro p j hp hj
  have h0 := hT p 0 hp (by omega) (by omega)
  simp only [Nat.add_zero] at h0
  by_cases e : p = i
  · unfold qs
    rw [h0, e, if_neg (by omega), if_neg (by omega)]
  · apply qs_ext d d' p j hj
    · intro k hk'; exact hT p k hp hk' (by omega)
    · intro h1 h2
      have s := R.sa B p j hp h1 h2
      rw [s.1]
      exact hB p (j / 4) _ hp h1 (by omega) s.2.1 s.2.2 (by omega)
theorem alloc_file {d d'} (i w b : Nat) (E : qE d) (hi : i < 16) (hw : w ≤ 38) (hk : d (32 + (16 * i)) = 1) (hx : w < 6 ∨ w = 38 ∨ d (32 + (16 * i) + 10) ≠ 0)
    (N : qN d d' i w b) : qE d' ∧ qI d d' ∧ d' (32 + (16 * i) + 2) = d (32 + (16 * i) + 2) ∧ d' (32 + (16 * i) + 3) = d (32 + (16 * i) + 3) := by
  obtain ⟨B, R, M⟩ := E
  have hea := ea_ge d B i w hi hw hx
  have hrb := N.rb
  have hT : ∀ j k, j < 16 → k < 16 → ¬ (j = i ∧ 4 ≤ k) → d' (32 + (16 * j) + k) = d (32 + (16 * j) + k) := by
    intro j k hj hk' hn
    exact N.ne _ (by omega) (by omega) (by omega)
  have hT' : ∀ j k, j < 16 → k < 16 → ¬ (j = i ∧ 2 ≤ k) → d' (32 + (16 * j) + k) = d (32 + (16 * j) + k) :=
    fun j k hj hk' hn => hT j k hj hk' (by omega)
  have z2 := hT i 2 hi (by omega) (by omega)
  have z3 := hT i 3 hi (by omega) (by omega)
  refine ⟨⟨N.B, rows_file d d' i R hk hT' (by rw [z2, z3]; exact R.fi i hi hk), ⟨?_, N.c2⟩⟩, ⟨?_, ?_, ?_, ?_⟩, z2, z3⟩
  · intro j hj hn
    have := hT j 0 hj (by omega) (by omega)
    simp only [Nat.add_zero] at this
    rw [this] at hn
    rw [N.t1 j hj]; exact M.c1 j hj hn
  · intro j hj; exact hT j 0 hj (by omega) (by omega)
  · intro j hj; exact hT j 1 hj (by omega) (by omega)
  · apply slots_file d d' i B R hk hT'
    intro p v o hp hk' hv h9 h64 ho
    have n1 := N.nu p v hp (by omega)
    have n2 := B.b2 p v i 38 hp (by omega) hi (by omega) (by omega)
    exact N.ne _ (by omega) (by omega) (by omega)
  · exact N.ne _ (by omega) (by omega) (by omega)
theorem cf_ext (d d' : Nat → Nat) (a n : Nat) : ∀ i, (∀ c, i ≤ c → c < i + n → bt d' a c = bt d a c) → cf d' a i n = cf d a i n := by
  induction n with
  | zero => intro i _; rfl
  | succ n ih =>
    intro i h
    rw [cf, cf, h i (by omega) (by omega), ih (i + 1) (fun c h1 h2 => h c (by omega) (by omega))]
theorem cf_one (d d' : Nat → Nat) (a b n : Nat) : ∀ i, i ≤ b → b < i + n → bt d a b = false → (∀ c, i ≤ c → c < i + n → bt d' a c = if c = b then true else bt d a c) → cf d' a i n + 1 = cf d a i n := by
  induction n with
  | zero => intro i h1 h2; omega
  | succ n ih =>
    intro i h1 h2 hb h
    rw [cf, cf, h i (by omega) (by omega)]
    by_cases e : i = b
    · subst e
      rw [if_pos rfl, hb, cf_ext d d' a n (i + 1) (fun c h3 h4 => by rw [h c (by omega) (by omega), if_neg (by omega)])]
      simp; omega
    · rw [if_neg e]
      have := ih (i + 1) (by omega) (by omega) hb (fun c h3 h4 => h c (by omega) (by omega))
      omega
theorem qN.cf {d d' i w b} (N : qN d d' i w b) : cf d' 3 9 55 + 1 = cf d 3 9 55 :=
  cf_one d d' 3 b 55 9 N.rb.1 (by have := N.rb; omega) N.fr (fun c h1 h2 => N.t3 c (by omega))
def qH (d d' : Nat → Nat) (i w : Nat) : Prop :=
  (qE d') ∧
  (qI d d') ∧
  (d' (32 + (16 * i) + 2) = d (32 + (16 * i) + 2)) ∧
  (d' (32 + (16 * i) + 3) = d (32 + (16 * i) + 3)) ∧
  (∀ j v, j < 16 → v ≤ 38 → ¬ (j = i ∧ v = w) → ¬ (j = i ∧ v = 38) → qb d' j v = qb d j v) ∧
  (w < 6 → qb d' i 38 = qb d i 38) ∧
  (6 ≤ w → qb d' i 38 ≠ 0) ∧
  (qb d' i w ≠ 0) ∧
  (cf d' 3 9 55 + ((if 6 ≤ w ∧ d (32 + (16 * i) + 10) = 0 then 1 else 0) + (if bo d i w = 0 then 1 else 0)) = cf d 3 9 55)
theorem qH.E {d d' : Nat → Nat} {i w : Nat} (h : qH d d' i w) : qE d' := h.1
theorem qH.I {d d' : Nat → Nat} {i w : Nat} (h : qH d d' i w) : qI d d' := h.2.1
theorem qH.z2 {d d' : Nat → Nat} {i w : Nat} (h : qH d d' i w) : d' (32 + (16 * i) + 2) = d (32 + (16 * i) + 2) := h.2.2.1
theorem qH.z3 {d d' : Nat → Nat} {i w : Nat} (h : qH d d' i w) : d' (32 + (16 * i) + 3) = d (32 + (16 * i) + 3) := h.2.2.2.1
theorem qH.oth {d d' : Nat → Nat} {i w : Nat} (h : qH d d' i w) : ∀ j v, j < 16 → v ≤ 38 → ¬ (j = i ∧ v = w) → ¬ (j = i ∧ v = 38) → qb d' j v = qb d j v := h.2.2.2.2.1
theorem qH.ix0 {d d' : Nat → Nat} {i w : Nat} (h : qH d d' i w) : w < 6 → qb d' i 38 = qb d i 38 := h.2.2.2.2.2.1
theorem qH.ix1 {d d' : Nat → Nat} {i w : Nat} (h : qH d d' i w) : 6 ≤ w → qb d' i 38 ≠ 0 := h.2.2.2.2.2.2.1
theorem qH.pg {d d' : Nat → Nat} {i w : Nat} (h : qH d d' i w) : qb d' i w ≠ 0 := h.2.2.2.2.2.2.2.1
theorem qH.cf {d d' : Nat → Nat} {i w : Nat} (h : qH d d' i w) : cf d' 3 9 55 + ((if 6 ≤ w ∧ d (32 + (16 * i) + 10) = 0 then 1 else 0) + (if bo d i w = 0 then 1 else 0)) = cf d 3 9 55 := h.2.2.2.2.2.2.2.2
theorem eo_ea (d : Nat → Nat) (i w : Nat) (h : w < 38) (hx : w < 6 ∨ d (32 + (16 * i) + 10) ≠ 0) : eo d i w = some (ea d i w) := by
  unfold eo ea
  by_cases a : w < 6
  · rw [if_pos a, if_pos a]
  · rw [if_neg a, if_neg a, if_neg (by omega), if_neg (by omega)]
theorem lw_cf (d : Nat → Nat) (h : 1 ≤ cf d 3 9 55) : lw d 3 9 55 ≠ 0 := by
  intro z
  have := (lw_none d 3 55 9 (by omega)).mp z
  omega
theorem f2_file {d} (E : qE d) (i w : Nat) (hi : i < 16) (hw : w < 38) (hk : d (32 + (16 * i)) = 1) (hx : w < 6 ∨ d (32 + (16 * i) + 10) ≠ 0)
    (hc : (if bo d i w = 0 then 1 else 0) ≤ cf d 3 9 55) : qE (f2 d i w) ∧ qI d (f2 d i w) ∧ f2 d i w (32 + (16 * i) + 2) = d (32 + (16 * i) + 2) ∧ f2 d i w (32 + (16 * i) + 3) = d (32 + (16 * i) + 3) ∧
    (∀ j v, j < 16 → v ≤ 38 → ¬ (j = i ∧ v = w) → qb (f2 d i w) j v = qb d j v) ∧ qb (f2 d i w) i w ≠ 0 ∧ cf (f2 d i w) 3 9 55 + (if bo d i w = 0 then 1 else 0) = cf d 3 9 55 := by
  unfold f2
  by_cases h : bo d i w = 0
  · rw [if_pos h] at hc
    rw [if_pos h, if_pos h, eo_ea d i w hw hx, show op (tB d) (some (ea d i w)) (lw d 3 9 55) = dp (tB d) (ea d i w) (lw d 3 9 55) by rw [op]]
    have h0 := lw_cf d hc
    have hx' : w < 6 ∨ w = 38 ∨ d (32 + (16 * i) + 10) ≠ 0 := by omega
    have N := alloc E.B E.M _ rfl h0 i w hi (by omega) (by rw [qb_bo _ _ _ hw]; exact h) hx'
    have F := alloc_file i w _ E hi (by omega) hk hx' N
    have C := N.cf
    refine ⟨F.1, F.2.1, F.2.2.1, F.2.2.2, ?_, ?_, C⟩
    · intro j v hj hv hn
      have := N.qb j v hj hv
      rw [if_neg hn] at this; exact this
    · have := N.qb i w hi (by omega)
      rw [if_pos ⟨rfl, rfl⟩] at this
      rw [this]; exact h0
  · rw [if_neg h, if_neg h]
    refine ⟨E, qI.refl d, rfl, rfl, fun _ _ _ _ _ => rfl, ?_, Nat.add_zero _⟩
    rw [qb_bo _ _ _ hw]; exact h
theorem fh_file {d} (E : qE d) (i w : Nat) (hi : i < 16) (hw : w < 38) (hk : d (32 + (16 * i)) = 1)
    (hc : (if 6 ≤ w ∧ d (32 + (16 * i) + 10) = 0 then 1 else 0) + (if bo d i w = 0 then 1 else 0) ≤ cf d 3 9 55) : qH d (fh d i w) i w := by
  unfold fh
  by_cases h : 6 ≤ w ∧ d (32 + (16 * i) + 10) = 0
  · have e1 : f1 d i w = dp (tB d) (ea d i 38) (lw d 3 9 55) := by unfold f1; rw [if_pos h, ea_38]
    rw [if_pos h] at hc
    have h0 := lw_cf d (by omega)
    have N := alloc E.B E.M _ rfl h0 i 38 hi (by omega) (by rw [qb_ix]; exact h.2) (Or.inr (Or.inl rfl))
    have F := alloc_file i 38 _ E hi (by omega) hk (Or.inr (Or.inl rfl)) N
    have C := N.cf
    rw [← e1] at N F C
    have ix := N.qb i 38 hi (by omega)
    rw [if_pos ⟨rfl, rfl⟩] at ix
    have ix' : f1 d i w (32 + (16 * i) + 10) ≠ 0 := by rw [qb_ix] at ix; rw [ix]; exact h0
    have hbo : bo (f1 d i w) i w = bo d i w := by
      have := N.qb i w hi (by omega)
      rw [if_neg (by omega), qb_bo _ _ _ hw, qb_bo _ _ _ hw] at this; exact this
    have G := f2_file F.1 i w hi hw (by rw [F.2.1.k i hi]; exact hk) (Or.inr ix') (by rw [hbo]; split <;> split at hc <;> omega)
    refine ⟨G.1, F.2.1.trans G.2.1, G.2.2.1.trans F.2.2.1, G.2.2.2.1.trans F.2.2.2, ?_, ?_, ?_, G.2.2.2.2.2.1, ?_⟩
    · intro j v hj hv h1 h2
      have := N.qb j v hj hv
      rw [if_neg h2] at this
      rw [G.2.2.2.2.1 j v hj hv h1, this]
    · intro z; omega
    · intro z
      rw [G.2.2.2.2.1 i 38 hi (by omega) (by omega), ix]; exact h0
    · have := G.2.2.2.2.2.2
      rw [hbo] at this
      rw [if_pos h]; omega
  · have e1 : f1 d i w = d := by unfold f1; rw [if_neg h]
    rw [e1]
    rw [if_neg h] at hc
    have G := f2_file E i w hi hw hk (by omega) (by omega)
    refine ⟨G.1, G.2.1, G.2.2.1, G.2.2.2.1, ?_, ?_, ?_, G.2.2.2.2.2.1, ?_⟩
    · intro j v hj hv h1 h2
      exact G.2.2.2.2.1 j v hj hv h1
    · intro z; exact G.2.2.2.2.1 i 38 hi (by omega) (by omega)
    · intro z
      rw [G.2.2.2.2.1 i 38 hi (by omega) (by omega), qb_ix]; omega
    · rw [if_neg h]; have := G.2.2.2.2.2.2; omega
def fn (i : Nat) : (Nat → Nat) → Nat → Nat → (Nat → Nat)
  | d, _, 0 => d
  | d, w, n + 1 => fn i (fh d i w) (w + 1) n
theorem ho_ext (d d' : Nat → Nat) (i n : Nat) : ∀ w, (∀ v, w ≤ v → v < w + n → bo d' i v = bo d i v) → ho d' i w n = ho d i w n := by
  induction n with
  | zero => intro w _; rfl
  | succ n ih =>
    intro w h
    rw [ho, ho, h w (by omega) (by omega), ih (w + 1) (fun v h1 h2 => h v (by omega) (by omega))]
theorem fn_file (i n : Nat) (hi : i < 16) : ∀ (d : Nat → Nat) (w : Nat), qE d → w + n ≤ 38 → d (32 + (16 * i)) = 1 →
    (if 6 ≤ w + n - 1 ∧ 0 < n ∧ d (32 + (16 * i) + 10) = 0 then 1 else 0) + ho d i w n ≤ cf d 3 9 55 →
    qE (fn i d w n) ∧ qI d (fn i d w n) ∧ fn i d w n (32 + (16 * i) + 2) = d (32 + (16 * i) + 2) ∧ fn i d w n (32 + (16 * i) + 3) = d (32 + (16 * i) + 3) ∧
    (∀ v, w ≤ v → v < w + n → qb (fn i d w n) i v ≠ 0) ∧ (∀ v, v < 38 → qb d i v ≠ 0 → qb (fn i d w n) i v ≠ 0) := by
  induction n with
  | zero =>
    intro d w E _ _ _
    exact ⟨E, qI.refl d, rfl, rfl, fun v h1 h2 => by omega, fun v _ h => h⟩
  | succ n ih =>
    intro d w E hw hk hc
    rw [ho] at hc
    have H := fh_file E i w hi (by omega) hk (by
      by_cases a : 6 ≤ w ∧ d (32 + (16 * i) + 10) = 0
      · rw [if_pos (by omega)] at hc; rw [if_pos a]; omega
      · rw [if_neg a]; omega)
    have hH := H.cf
    have hoe : ho (fh d i w) i (w + 1) n = ho d i (w + 1) n := by
      apply ho_ext
      intro v h1 h2
      rw [← qb_bo _ _ _ (by omega), ← qb_bo _ _ _ (by omega)]
      exact H.oth i v hi (by omega) (by omega) (by omega)
    have G := ih (fh d i w) (w + 1) H.E (by omega) (by rw [H.I.k i hi]; exact hk) (by
      rw [hoe]
      by_cases a : 6 ≤ w
      · have := H.ix1 a
        rw [qb_ix] at this
        rw [if_neg (by omega)]
        by_cases b : d (32 + (16 * i) + 10) = 0
        · rw [if_pos ⟨a, b⟩] at hH; rw [if_pos (by omega)] at hc; omega
        · rw [if_neg (by omega)] at hH hc; omega
      · have := H.ix0 (by omega)
        rw [qb_ix, qb_ix] at this
        rw [this]
        rw [if_neg (by omega)] at hH
        by_cases b : 6 ≤ w + 1 + n - 1 ∧ 0 < n ∧ d (32 + (16 * i) + 10) = 0
        · rw [if_pos b]; rw [if_pos (by omega)] at hc; omega
        · rw [if_neg b]; omega)
    refine ⟨G.1, H.I.trans G.2.1, G.2.2.1.trans H.z2, G.2.2.2.1.trans H.z3, ?_, ?_⟩
    · intro v h1 h2
      by_cases e : v = w
      · subst e
        exact G.2.2.2.2.2 v (by omega) H.pg
      · exact G.2.2.2.2.1 v (by omega) (by omega)
    · intro v hv hn
      apply G.2.2.2.2.2 v hv
      by_cases e : v = w
      · rw [e]; exact H.pg
      · rw [H.oth i v hi (by omega) (by omega) (by omega)]; exact hn
