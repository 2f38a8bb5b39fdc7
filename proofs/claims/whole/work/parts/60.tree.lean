def sm (f : Nat → Nat) : Nat → Nat
  | 0 => 0
  | n + 1 => sm f n + f n
theorem sm_congr (f g : Nat → Nat) (n : Nat) (h : ∀ k, k < n → f k = g k) : sm f n = sm g n := by
  induction n with
  | zero => rfl
  | succ n ih => simp only [sm]; rw [ih (fun k hk => h k (by omega)), h n (by omega)]
theorem sm_le (f g : Nat → Nat) (n : Nat) (h : ∀ k, k < n → f k ≤ g k) : sm f n ≤ sm g n := by
  induction n with
  | zero => exact Nat.le_refl 0
  | succ n ih =>
    simp only [sm]
    have h1 := ih (fun k hk => h k (by omega))
    have h2 := h n (by omega)
    omega
theorem sm_add (f g : Nat → Nat) (n : Nat) : sm (fun k => f k + g k) n = sm f n + sm g n := by
  induction n with
  | zero => rfl
  | succ n ih => simp only [sm]; omega
theorem sm_zero (f : Nat → Nat) (n : Nat) (h : ∀ k, k < n → f k = 0) : sm f n = 0 := by
  induction n with
  | zero => rfl
  | succ n ih => simp only [sm]; rw [ih (fun k hk => h k (by omega)), h n (by omega)]
theorem sm_pos (f : Nat → Nat) (n : Nat) (h : sm f n ≠ 0) : ∃ k, k < n ∧ f k ≠ 0 := by
  induction n with
  | zero => exact absurd rfl h
  | succ n ih =>
    simp only [sm] at h
    by_cases h1 : f n = 0
    · obtain ⟨k, hk, hf⟩ := ih (by omega)
      exact ⟨k, by omega, hf⟩
    · exact ⟨n, by omega, h1⟩
theorem sm_one (f : Nat → Nat) (n k : Nat) (h : k < n) : f k ≤ sm f n := by
  induction n with
  | zero => omega
  | succ n ih =>
    simp only [sm]
    by_cases h1 : k = n
    · subst h1; omega
    · have := ih (by omega); omega
theorem sm_upd (f g : Nat → Nat) (n a : Nat) (ha : a < n) (h : ∀ k, k < n → k ≠ a → g k = f k) : sm g n + f a = sm f n + g a := by
  induction n with
  | zero => omega
  | succ n ih =>
    simp only [sm]
    by_cases h1 : a = n
    · subst h1
      rw [sm_congr g f a (fun k hk => h k (by omega) (by omega))]
      omega
    · have h2 := ih (by omega) (fun k hk hn => h k (by omega) hn)
      have h3 := h n (by omega) (by omega)
      omega
def ct (s : Nat → Nat → Nat) (i : Nat) : Nat := sm (fun e => if s (e / 24) (e % 24) = i then 1 else 0) 384
theorem ct_upd (s s' : Nat → Nat → Nat) (p j i : Nat) (hp : p < 16) (hj : j < 24)
    (h : ∀ q k, q < 16 → k < 24 → ¬ (q = p ∧ k = j) → s' q k = s q k) : ct s' i + (if s p j = i then 1 else 0) = ct s i + (if s' p j = i then 1 else 0) := by
  have h1 := sm_upd (fun e => if s (e / 24) (e % 24) = i then 1 else 0) (fun e => if s' (e / 24) (e % 24) = i then 1 else 0) 384 (24 * p + j) (by omega)
    (fun e he hn => by
      show (if s' (e / 24) (e % 24) = i then 1 else 0) = (if s (e / 24) (e % 24) = i then 1 else 0)
      rw [h (e / 24) (e % 24) (by omega) (by omega) (by omega)])
  have e1 : (24 * p + j) / 24 = p := by omega
  have e2 : (24 * p + j) % 24 = j := by omega
  simp only [e1, e2] at h1
  exact h1
theorem ct_congr (s s' : Nat → Nat → Nat) (i : Nat) (h : ∀ q k, q < 16 → k < 24 → s' q k = s q k) : ct s' i = ct s i :=
  sm_congr _ _ _ (fun e he => by
    show (if s' (e / 24) (e % 24) = i then 1 else 0) = (if s (e / 24) (e % 24) = i then 1 else 0)
    rw [h (e / 24) (e % 24) (by omega) (by omega)])
theorem ct_zero (s : Nat → Nat → Nat) (i : Nat) (h : ∀ p j, p < 16 → j < 24 → s p j ≠ i) : ct s i = 0 :=
  sm_zero _ _ (fun e he => if_neg (h (e / 24) (e % 24) (by omega) (by omega)))
theorem ct_pos (s : Nat → Nat → Nat) (i : Nat) (h : ct s i ≠ 0) : ∃ p j, p < 16 ∧ j < 24 ∧ s p j = i := by
  obtain ⟨e, he, hf⟩ := sm_pos _ _ h
  refine ⟨e / 24, e % 24, by omega, by omega, ?_⟩
  by_cases h1 : s (e / 24) (e % 24) = i
  · exact h1
  · exact absurd (if_neg h1) hf
theorem ct_one (s : Nat → Nat → Nat) (p j : Nat) (hp : p < 16) (hj : j < 24) : 1 ≤ ct s (s p j) := by
  have h := sm_one (fun e => if s (e / 24) (e % 24) = s p j then 1 else 0) 384 (24 * p + j) (by omega)
  have e1 : (24 * p + j) / 24 = p := by omega
  have e2 : (24 * p + j) % 24 = j := by omega
  simp only [e1, e2, if_true] at h
  exact h
def qT (k : Nat → Nat) (s : Nat → Nat → Nat) : Prop :=
  (∀ i, k i ≤ 2) ∧
  (∀ p j, p < 16 → j < 24 → k p ≠ 2 → s p j = 0) ∧
  (∀ p, p < 16 → k p = 2 → s p 0 = p ∧ s p 1 < 16 ∧ k (s p 1) = 2) ∧
  (k 0 = 0) ∧
  (k 1 = 2) ∧
  (s 1 1 = 1) ∧
  (∀ p j, p < 16 → 2 ≤ j → j < 24 → s p j ≠ 0 → s p j < 16 ∧ s p j ≠ 1 ∧ k (s p j) ≠ 0 ∧ (k (s p j) = 2 → s (s p j) 1 = p)) ∧
  (∀ p j j', p < 16 → 2 ≤ j → j < 24 → 2 ≤ j' → j' < 24 → s p j ≠ 0 → s p j = s p j' → k (s p j) = 2 → j = j') ∧
  (∃ r : Nat → Nat, ∀ i, i < 16 → k i ≠ 0 → i ≠ 1 → ∃ p j, p < 16 ∧ 2 ≤ j ∧ j < 24 ∧ s p j = i ∧ r p < r i) ∧
  (∀ i, i < 16 → k i = 1 → ct s i ≤ 255)
theorem qT.k2 {k : Nat → Nat} {s : Nat → Nat → Nat} (h : qT k s) : ∀ i, k i ≤ 2 := h.1
theorem qT.t0 {k : Nat → Nat} {s : Nat → Nat → Nat} (h : qT k s) : ∀ p j, p < 16 → j < 24 → k p ≠ 2 → s p j = 0 := h.2.1
theorem qT.t1 {k : Nat → Nat} {s : Nat → Nat → Nat} (h : qT k s) : ∀ p, p < 16 → k p = 2 → s p 0 = p ∧ s p 1 < 16 ∧ k (s p 1) = 2 := h.2.2.1
theorem qT.k0 {k : Nat → Nat} {s : Nat → Nat → Nat} (h : qT k s) : k 0 = 0 := h.2.2.2.1
theorem qT.k1 {k : Nat → Nat} {s : Nat → Nat → Nat} (h : qT k s) : k 1 = 2 := h.2.2.2.2.1
theorem qT.s1 {k : Nat → Nat} {s : Nat → Nat → Nat} (h : qT k s) : s 1 1 = 1 := h.2.2.2.2.2.1
theorem qT.t3 {k : Nat → Nat} {s : Nat → Nat → Nat} (h : qT k s) : ∀ p j, p < 16 → 2 ≤ j → j < 24 → s p j ≠ 0 → s p j < 16 ∧ s p j ≠ 1 ∧ k (s p j) ≠ 0 ∧ (k (s p j) = 2 → s (s p j) 1 = p) := h.2.2.2.2.2.2.1
theorem qT.t4 {k : Nat → Nat} {s : Nat → Nat → Nat} (h : qT k s) : ∀ p j j', p < 16 → 2 ≤ j → j < 24 → 2 ≤ j' → j' < 24 → s p j ≠ 0 → s p j = s p j' → k (s p j) = 2 → j = j' := h.2.2.2.2.2.2.2.1
theorem qT.t5 {k : Nat → Nat} {s : Nat → Nat → Nat} (h : qT k s) : ∃ r : Nat → Nat, ∀ i, i < 16 → k i ≠ 0 → i ≠ 1 → ∃ p j, p < 16 ∧ 2 ≤ j ∧ j < 24 ∧ s p j = i ∧ r p < r i := h.2.2.2.2.2.2.2.2.1
theorem qT.t6 {k : Nat → Nat} {s : Nat → Nat → Nat} (h : qT k s) : ∀ i, i < 16 → k i = 1 → ct s i ≤ 255 := h.2.2.2.2.2.2.2.2.2
theorem qT.nz {k s} (T : qT k s) (p j : Nat) (hp : p < 16) (hj : j < 24) (h : s p j ≠ 0) : s p j < 16 ∧ k (s p j) ≠ 0 ∧ k p = 2 := by
  have hk : k p = 2 := by
    by_cases h1 : k p = 2
    · exact h1
    · exact absurd (T.t0 p j hp hj h1) h
  have h1 := T.t1 p hp hk
  by_cases a : j = 0
  · subst a; rw [h1.1]; exact ⟨hp, by omega, hk⟩
  · by_cases b : j = 1
    · subst b; exact ⟨h1.2.1, by omega, hk⟩
    · have := T.t3 p j hp (by omega) hj h
      exact ⟨this.1, this.2.2.1, hk⟩
theorem qT.free {k s} (T : qT k s) (i : Nat) (hi : i ≠ 0) (h : k i = 0) : ct s i = 0 := by
  apply ct_zero
  intro p j hp hj hs
  have := T.nz p j hp hj (by omega)
  rw [hs] at this
  omega
def u2 (s : Nat → Nat → Nat) (p j v : Nat) : Nat → Nat → Nat := fun q l => if q = p ∧ l = j then v else s q l
theorem ct_u2 (s : Nat → Nat → Nat) (p j v i : Nat) (hp : p < 16) (hj : j < 24) :
    ct (u2 s p j v) i + (if s p j = i then 1 else 0) = ct s i + (if v = i then 1 else 0) := by
  have h := ct_upd s (u2 s p j v) p j i hp hj (fun q l _ _ hn => if_neg hn)
  rw [h]
  simp only [u2, and_self, if_true]
theorem qT.few {k s} (T : qT k s) (i : Nat) (hi : i < 16) (h : k i = 2) : ct s i ≤ 33 := by
  by_cases hx : ∃ p j, p < 16 ∧ 2 ≤ j ∧ j < 24 ∧ s p j = i
  · obtain ⟨p, j, hp, h2, hj, hs⟩ := hx
    have h0 : i ≠ 0 := by intro a; rw [a, T.k0] at h; omega
    have hle : ct s i ≤ sm (fun e => (if e % 24 < 2 then 1 else 0) + (if e = 24 * p + j then 1 else 0)) 384 := by
      apply sm_le
      intro e he
      show (if s (e / 24) (e % 24) = i then 1 else 0) ≤ (if e % 24 < 2 then 1 else 0) + (if e = 24 * p + j then 1 else 0)
      by_cases a : s (e / 24) (e % 24) = i
      · by_cases b : e % 24 < 2
        · rw [if_pos a, if_pos b]; omega
        · have c1 := T.t3 (e / 24) (e % 24) (by omega) (by omega) (by omega) (by omega)
          have c2 := T.t3 p j hp h2 hj (by omega)
          rw [a] at c1
          rw [hs] at c2
          have c3 : e / 24 = p := by rw [← c1.2.2.2 h, ← c2.2.2.2 h]
          have c4 := T.t4 p j (e % 24) hp h2 hj (by omega) (by omega) (by omega) (by rw [hs, ← a, c3]) (by rw [hs]; exact h)
          have c5 : e = 24 * p + j := by omega
          rw [if_pos a, if_pos c5]; omega
      · rw [if_neg a]; omega
    rw [sm_add] at hle
    have e1 : sm (fun e => if e % 24 < 2 then 1 else 0) 384 = 32 := by decide +kernel
    have e2 := sm_upd (fun _ => 0) (fun e => if e = 24 * p + j then 1 else 0) 384 (24 * p + j) (by omega) (fun e he hn => if_neg hn)
    have e3 : sm (fun _ => 0) 384 = 0 := sm_zero _ _ (fun _ _ => rfl)
    simp only [if_true] at e2
    omega
  · have hle : ct s i ≤ sm (fun e => if e % 24 < 2 then 1 else 0) 384 := by
      apply sm_le
      intro e he
      show (if s (e / 24) (e % 24) = i then 1 else 0) ≤ (if e % 24 < 2 then 1 else 0)
      by_cases a : s (e / 24) (e % 24) = i
      · by_cases b : e % 24 < 2
        · rw [if_pos a, if_pos b]; omega
        · exact absurd ⟨e / 24, e % 24, by omega, by omega, by omega, a⟩ hx
      · rw [if_neg a]; omega
    have e1 : sm (fun e => if e % 24 < 2 then 1 else 0) 384 = 32 := by decide +kernel
    omega
def u1 (k : Nat → Nat) (i v : Nat) : Nat → Nat := fun q => if q = i then v else k q
theorem u2_at (s : Nat → Nat → Nat) (p j v : Nat) : u2 s p j v p j = v := if_pos ⟨rfl, rfl⟩
theorem u2_ne (s : Nat → Nat → Nat) (p j v q l : Nat) (h : ¬ (q = p ∧ l = j)) : u2 s p j v q l = s q l := if_neg h
theorem u1_at (k : Nat → Nat) (i v : Nat) : u1 k i v i = v := if_pos rfl
theorem u1_ne (k : Nat → Nat) (i v q : Nat) (h : q ≠ i) : u1 k i v q = k q := if_neg h
theorem qT.create {k s} (T : qT k s) (p j i : Nat) (hp : p < 16) (hk : k p = 2) (h2 : 2 ≤ j) (hj : j < 24) (hs : s p j = 0) (hi : i < 16) (h0 : i ≠ 0) (hf : k i = 0) :
    qT (u1 k i 1) (u2 s p j i) := by
  have c0 := T.free i h0 hf
  have c1 := fun q => ct_u2 s p j i q hp hj
  obtain ⟨r, hr⟩ := T.t5
  have n1 := T.k1
  have n0 := T.k0
  have ns1 := T.s1
  refine ⟨?_, ?_, ?_, ?_, ?_, ?_, ?_, ?_, ?_, ?_⟩
  · intro q; have := T.k2 q; grind [u1]
  · intro q l hq hl h; have := T.t0 q l hq hl; grind [u1, u2]
  · intro q hq h; have := T.t1 q hq; grind [u1, u2]
  · grind [u1]
  · grind [u1]
  · grind [u2]
  · intro q l hq hl1 hl2 h
    have := T.t3 q l hq hl1 hl2
    grind [u1, u2]
  · intro q l l' hq hl1 hl2 hl3 hl4 h h' hk'
    have a1 := T.t4 q l l' hq hl1 hl2 hl3 hl4
    have a2 := T.t3 q l hq hl1 hl2
    have a3 := T.t3 q l' hq hl3 hl4
    grind [u1, u2]
  · refine ⟨fun q => if q = i then r p + 1 else r q, ?_⟩
    intro q hq hkq hq1
    by_cases a : q = i
    · subst a; exact ⟨p, j, hp, h2, hj, u2_at s p j q, by grind⟩
    · have hkq' : k q ≠ 0 := by rw [u1_ne k i 1 q a] at hkq; exact hkq
      obtain ⟨p', j', b1, b2, b3, b4, b5⟩ := hr q hq hkq' hq1
      have b6 := T.t0 p' j' b1 b3
      have b7 : q ≠ 0 := by intro z; rw [z] at hkq'; exact hkq' n0
      refine ⟨p', j', b1, b2, b3, ?_, ?_⟩
      · grind [u2]
      · grind
  · intro q hq h
    have a := c1 q
    have b := T.t6 q hq
    by_cases e : q = i
    · subst e; split at a <;> split at a <;> omega
    · have : k q = 1 := by rw [u1_ne k i 1 q e] at h; exact h
      have := b this
      have e' : ¬ i = q := fun z => e z.symm
      rw [if_neg e'] at a; omega
theorem qT.link {k s} (T : qT k s) (p j i : Nat) (hp : p < 16) (hk : k p = 2) (h2 : 2 ≤ j) (hj : j < 24) (hs : s p j = 0) (hi : i < 16) (hf : k i = 1) (hc : ct s i < 255) :
    qT k (u2 s p j i) := by
  have c1 := fun q => ct_u2 s p j i q hp hj
  obtain ⟨r, hr⟩ := T.t5
  have n1 := T.k1
  have n0 := T.k0
  have ns1 := T.s1
  refine ⟨?_, ?_, ?_, ?_, ?_, ?_, ?_, ?_, ?_, ?_⟩
  · exact T.k2
  · intro q l hq hl h; have := T.t0 q l hq hl; grind [u2]
  · intro q hq h; have := T.t1 q hq; grind [u2]
  · exact n0
  · exact n1
  · grind [u2]
  · intro q l hq hl1 hl2 h
    have := T.t3 q l hq hl1 hl2
    grind [u2]
  · intro q l l' hq hl1 hl2 hl3 hl4 h h' hk'
    have a1 := T.t4 q l l' hq hl1 hl2 hl3 hl4
    grind [u2]
  · refine ⟨r, ?_⟩
    intro q hq hkq hq1
    obtain ⟨p', j', b1, b2, b3, b4, b5⟩ := hr q hq hkq hq1
    refine ⟨p', j', b1, b2, b3, ?_, b5⟩
    grind [u2]
  · intro q hq h
    have a := c1 q
    have b := T.t6 q hq h
    by_cases e : i = q
    · subst e; rw [if_pos rfl] at a; omega
    · rw [if_neg e] at a; omega
theorem qT.unlink {k s} (T : qT k s) (p j i : Nat) (hp : p < 16) (h2 : 2 ≤ j) (hj : j < 24) (hs : s p j = i) (hi : i < 16) (hf : k i = 1) (hc : 2 ≤ ct s i) :
    qT k (u2 s p j 0) := by
  have c1 := fun q => ct_u2 s p j 0 q hp hj
  obtain ⟨r, hr⟩ := T.t5
  have n1 := T.k1
  have n0 := T.k0
  have ns1 := T.s1
  have hi0 : i ≠ 0 := by intro z; rw [z, n0] at hf; omega
  refine ⟨?_, ?_, ?_, ?_, ?_, ?_, ?_, ?_, ?_, ?_⟩
  · exact T.k2
  · intro q l hq hl h; have := T.t0 q l hq hl; grind [u2]
  · intro q hq h; have := T.t1 q hq; grind [u2]
  · exact n0
  · exact n1
  · grind [u2]
  · intro q l hq hl1 hl2 h
    have := T.t3 q l hq hl1 hl2
    grind [u2]
  · intro q l l' hq hl1 hl2 hl3 hl4 h h' hk'
    have a1 := T.t4 q l l' hq hl1 hl2 hl3 hl4
    grind [u2]
  · have c2 := c1 i
    rw [if_pos hs, if_neg (fun z => hi0 z.symm)] at c2
    obtain ⟨p1, j1, d1, d2, d3⟩ := ct_pos (u2 s p j 0) i (by omega)
    have d4 : s p1 j1 = i := by grind [u2]
    have d5 := T.nz p1 j1 d1 d2 (by omega)
    have d6 := T.t1 p1 d1 d5.2.2
    have d7 : 2 ≤ j1 := by
      by_cases z0 : j1 = 0
      · subst z0; rw [d6.1] at d4; subst d4; omega
      · by_cases z1 : j1 = 1
        · subst z1; rw [d4] at d6; omega
        · omega
    refine ⟨fun q => if q = i then r p1 + 1 else r q, ?_⟩
    intro q hq hkq hq1
    by_cases a : q = i
    · subst a; exact ⟨p1, j1, d1, d7, d2, d3, by grind⟩
    · obtain ⟨p', j', b1, b2, b3, b4, b5⟩ := hr q hq hkq hq1
      have b6 := T.t0 p' j' b1 b3
      have b7 : q ≠ 0 := by intro z; rw [z] at hkq; exact hkq n0
      refine ⟨p', j', b1, b2, b3, ?_, ?_⟩
      · grind [u2]
      · grind
  · intro q hq h
    have a := c1 q
    have b := T.t6 q hq h
    have e : ¬ 0 = q := by intro z; rw [← z, n0] at h; omega
    rw [if_neg e] at a; omega
theorem qT.remove {k s} (T : qT k s) (p j i : Nat) (hp : p < 16) (h2 : 2 ≤ j) (hj : j < 24) (hs : s p j = i) (hi : i < 16) (hf : k i = 1) (hc : ct s i = 1) :
    qT (u1 k i 0) (u2 s p j 0) := by
  have c1 := fun q => ct_u2 s p j 0 q hp hj
  obtain ⟨r, hr⟩ := T.t5
  have n1 := T.k1
  have n0 := T.k0
  have ns1 := T.s1
  have hi0 : i ≠ 0 := by intro z; rw [z, n0] at hf; omega
  have c2 := c1 i
  rw [if_pos hs, if_neg (fun z => hi0 z.symm)] at c2
  have c3 : ∀ q l, q < 16 → l < 24 → u2 s p j 0 q l ≠ i := by
    intro q l hq hl z
    have := ct_one (u2 s p j 0) q l hq hl
    rw [z] at this
    omega
  refine ⟨?_, ?_, ?_, ?_, ?_, ?_, ?_, ?_, ?_, ?_⟩
  · intro q; have := T.k2 q; grind [u1]
  · intro q l hq hl h; have := T.t0 q l hq hl; grind [u1, u2]
  · intro q hq h; have := T.t1 q hq; grind [u1, u2]
  · grind [u1]
  · grind [u1]
  · grind [u2]
  · intro q l hq hl1 hl2 h
    have := T.t3 q l hq hl1 hl2
    have := c3 q l hq hl2
    grind [u1, u2]
  · intro q l l' hq hl1 hl2 hl3 hl4 h h' hk'
    have a1 := T.t4 q l l' hq hl1 hl2 hl3 hl4
    grind [u1, u2]
  · refine ⟨r, ?_⟩
    intro q hq hkq hq1
    have hkq' : k q ≠ 0 ∧ q ≠ i := by grind [u1]
    obtain ⟨p', j', b1, b2, b3, b4, b5⟩ := hr q hq hkq'.1 hq1
    refine ⟨p', j', b1, b2, b3, ?_, b5⟩
    grind [u2]
  · intro q hq h
    have a := c1 q
    have h' : k q = 1 := by grind [u1]
    have b := T.t6 q hq h'
    have e : ¬ 0 = q := by intro z; rw [← z, n0] at h'; omega
    rw [if_neg e] at a; omega
theorem qT.mkdir {k s} (T : qT k s) (p j i : Nat) (hp : p < 16) (hk : k p = 2) (h2 : 2 ≤ j) (hj : j < 24) (hs : s p j = 0) (hi : i < 16) (h0 : i ≠ 0) (hf : k i = 0) :
    qT (u1 k i 2) (u2 (u2 (u2 s i 0 i) i 1 p) p j i) := by
  have c0 := T.free i h0 hf
  have c1 := fun q => ct_u2 (u2 (u2 s i 0 i) i 1 p) p j i q hp hj
  have c2 := fun q => ct_u2 (u2 s i 0 i) i 1 p q hi (by omega)
  have c3 := fun q => ct_u2 s i 0 i q hi (by omega)
  obtain ⟨r, hr⟩ := T.t5
  have n1 := T.k1
  have n0 := T.k0
  have ns1 := T.s1
  have hpi : p ≠ i := by intro z; rw [z, hf] at hk; omega
  have hz : ∀ l, l < 24 → s i l = 0 := fun l hl => T.t0 i l hi hl (by omega)
  have hq0 : ∀ q l, q < 16 → l < 24 → s q l ≠ i := by
    intro q l hq hl z
    have := T.nz q l hq hl (by omega)
    rw [z] at this; omega
  refine ⟨?_, ?_, ?_, ?_, ?_, ?_, ?_, ?_, ?_, ?_⟩
  · intro q; have := T.k2 q; grind [u1]
  · intro q l hq hl h; have := T.t0 q l hq hl; grind [u1, u2]
  · intro q hq h; have := T.t1 q hq; grind [u1, u2]
  · grind [u1]
  · grind [u1]
  · grind [u2]
  · intro q l hq hl1 hl2 h
    have := T.t3 q l hq hl1 hl2
    have := hq0 q l hq hl2
    have z1 := hz l hl2
    clear hr c1 c2 c3 hq0 hz
    by_cases e1 : q = p
    · by_cases e2 : l = j
      · subst e1; subst e2
        have : u2 (u2 (u2 s i 0 i) i 1 q) q l i q l = i := u2_at _ _ _ _
        rw [this]; grind [u1, u2]
      · have : u2 (u2 (u2 s i 0 i) i 1 p) p j i q l = s q l := by grind [u2]
        rw [this] at h ⊢; grind [u1, u2]
    · have : u2 (u2 (u2 s i 0 i) i 1 p) p j i q l = s q l := by grind [u2]
      rw [this] at h ⊢; grind [u1, u2]
  · intro q l l' hq hl1 hl2 hl3 hl4 h h' hk'
    have a1 := T.t4 q l l' hq hl1 hl2 hl3 hl4
    have a2 := hq0 q l hq hl2
    have a3 := hq0 q l' hq hl4
    have g : ∀ l, 2 ≤ l → u2 (u2 (u2 s i 0 i) i 1 p) p j i q l = if q = p ∧ l = j then i else s q l := by
      intro l hl; clear hr c1 c2 c3 hq0 hz; grind [u2]
    rw [g l hl1] at h h' hk'
    rw [g l' hl3] at h'
    clear hr c1 c2 c3 hq0 hz g
    grind [u1]
  · refine ⟨fun q => if q = i then r p + 1 else r q, ?_⟩
    intro q hq hkq hq1
    by_cases a : q = i
    · subst a; exact ⟨p, j, hp, h2, hj, u2_at _ p j q, by grind⟩
    · have hkq' : k q ≠ 0 := by rw [u1_ne k i 2 q a] at hkq; exact hkq
      obtain ⟨p', j', b1, b2, b3, b4, b5⟩ := hr q hq hkq' hq1
      have b6 := T.t0 p' j' b1 b3
      have b7 : q ≠ 0 := by intro z; rw [z] at hkq'; exact hkq' n0
      refine ⟨p', j', b1, b2, b3, ?_, ?_⟩
      · grind [u2]
      · grind
  · intro q hq h
    have e : q ≠ i := by intro z; rw [z, u1_at] at h; omega
    have h' : k q = 1 := by rw [u1_ne k i 2 q e] at h; exact h
    have hqp : ¬ p = q := by intro z; rw [z] at hk; omega
    have a1 := c1 q
    have a2 := c2 q
    have a3 := c3 q
    have b := T.t6 q hq h'
    have e' : ¬ i = q := fun z => e z.symm
    rw [if_neg e'] at a1 a3
    rw [if_neg hqp] at a2
    omega
theorem qT.alone {k s} (T : qT k s) (p j i : Nat) (hp : p < 16) (h2 : 2 ≤ j) (hj : j < 24) (hs : s p j = i) (hf : k i = 2) (hi : i < 16) (he : ∀ l, 2 ≤ l → l < 24 → s i l = 0)
    (q l : Nat) (hq : q < 16) (hl : l < 24) (hz : s q l = i) : (q = p ∧ l = j) ∨ (q = i ∧ l = 0) := by
  have n0 := T.k0
  have hi0 : i ≠ 0 := by intro z; rw [z, n0] at hf; omega
  have a := T.nz q l hq hl (by omega)
  have b := T.t1 q hq a.2.2
  by_cases c0 : l = 0
  · subst c0; right; exact ⟨by rw [← hz, b.1], rfl⟩
  · have e3 := T.t3 p j hp h2 hj (by omega)
    rw [hs] at e3
    by_cases c1 : l = 1
    · subst c1
      exfalso
      obtain ⟨r, hr⟩ := T.t5
      by_cases q1 : q = 1
      · subst q1; rw [T.s1] at hz; omega
      · obtain ⟨p', j', b1, b2, b3, b4, b5⟩ := hr q hq (by omega) q1
        have q0 : q ≠ 0 := by intro z; rw [z, n0] at a; omega
        have b6 := T.t3 p' j' b1 b2 b3 (by omega)
        rw [b4] at b6
        have b7 := b6.2.2.2 a.2.2
        rw [hz] at b7
        rw [← b7, he j' b2 b3] at b4
        omega
    · left
      have d1 := T.t3 q l hq (by omega) hl (by omega)
      rw [hz] at d1
      have d2 : q = p := by rw [← d1.2.2.2 hf, ← e3.2.2.2 hf]
      subst d2
      exact ⟨rfl, (T.t4 q j l hp h2 hj (by omega) hl (by omega) (by omega) (by rw [hs]; exact hf)).symm⟩
theorem qT.rmdir {k s} (T : qT k s) (p j i : Nat) (hp : p < 16) (h2 : 2 ≤ j) (hj : j < 24) (hs : s p j = i) (hi : i < 16) (hf : k i = 2) (h1 : i ≠ 1) (he : ∀ l, 2 ≤ l → l < 24 → s i l = 0) :
    qT (u1 k i 0) (u2 (u2 (u2 s p j 0) i 0 0) i 1 0) := by
  have hal := T.alone p j i hp h2 hj hs hf hi he
  have n1 := T.k1
  have n0 := T.k0
  have ns1 := T.s1
  have hi0 : i ≠ 0 := by intro z; rw [z, n0] at hf; omega
  have c1 := fun q => ct_u2 (u2 (u2 s p j 0) i 0 0) i 1 0 q hi (by omega)
  have c2 := fun q => ct_u2 (u2 s p j 0) i 0 0 q hi (by omega)
  have c3 := fun q => ct_u2 s p j 0 q hp hj
  obtain ⟨r, hr⟩ := T.t5
  refine ⟨?_, ?_, ?_, ?_, ?_, ?_, ?_, ?_, ?_, ?_⟩
  · intro q; have := T.k2 q; grind [u1]
  · intro q l hq hl h; have := T.t0 q l hq hl; have := he l; clear hr c1 c2 c3 hal he; grind [u1, u2]
  · intro q hq h
    have a1 := T.t1 q hq
    have a2 := hal q 1 hq (by omega)
    have a3 := hal q 0 hq (by omega)
    clear hr c1 c2 c3 hal he
    grind [u1, u2]
  · grind [u1]
  · grind [u1]
  · grind [u2]
  · intro q l hq hl1 hl2 h
    have a1 := T.t3 q l hq hl1 hl2
    have a2 := hal q l hq hl2
    have a3 := he l hl1 hl2
    have a4 := T.k2 (s q l)
    have g : u2 (u2 (u2 s p j 0) i 0 0) i 1 0 q l = if q = p ∧ l = j then 0 else s q l := by
      clear hr c1 c2 c3 hal he; grind [u2]
    rw [g] at h ⊢
    clear hr c1 c2 c3 hal he g
    by_cases e : q = p ∧ l = j
    · rw [if_pos e] at h; omega
    · rw [if_neg e] at h ⊢
      have a5 := a1 h
      have a6 : s q l ≠ i := by intro z; have := a2 z; omega
      refine ⟨a5.1, a5.2.1, by rw [u1_ne _ _ _ _ a6]; exact a5.2.2.1, ?_⟩
      intro z
      rw [u1_ne _ _ _ _ a6] at z
      have a7 := a5.2.2.2 z
      rw [← a7]
      grind [u2]
  · intro q l l' hq hl1 hl2 hl3 hl4 h h' hk'
    have a1 := T.t4 q l l' hq hl1 hl2 hl3 hl4
    have g : ∀ l, 2 ≤ l → u2 (u2 (u2 s p j 0) i 0 0) i 1 0 q l = if q = p ∧ l = j then 0 else s q l := by
      intro l hl; clear hr c1 c2 c3 hal he; grind [u2]
    rw [g l hl1] at h h' hk'
    rw [g l' hl3] at h'
    clear hr c1 c2 c3 hal he g
    grind [u1]
  · refine ⟨r, ?_⟩
    intro q hq hkq hq1
    have hkq' : k q ≠ 0 ∧ q ≠ i := by grind [u1]
    obtain ⟨p', j', b1, b2, b3, b4, b5⟩ := hr q hq hkq'.1 hq1
    refine ⟨p', j', b1, b2, b3, ?_, b5⟩
    have hq0 : q ≠ 0 := by intro z; rw [z] at hkq'; exact hkq'.1 n0
    have he' := he j' b2 b3
    clear hr hal c1 c2 c3 he
    grind [u2]
  · intro q hq h
    have h' : k q = 1 := by grind [u1]
    have a1 := c1 q
    have a2 := c2 q
    have a3 := c3 q
    have b := T.t6 q hq h'
    have e : ¬ 0 = q := by intro z; rw [← z, n0] at h'; omega
    rw [if_neg e] at a1 a2 a3; omega
def iu (s : Nat → Nat → Nat) : Nat → Nat → Nat
  | i, 0 => i
  | i, n + 1 => iu s (s i 1) n
theorem it_succ (s : Nat → Nat → Nat) (n : Nat) : ∀ i, iu s i (n + 1) = s (iu s i n) 1 := by
  induction n with
  | zero => intro i; rfl
  | succ n ih => intro i; rw [iu, ih (s i 1)]; rfl
theorem it_add (s : Nat → Nat → Nat) (m n : Nat) : ∀ i, iu s i (n + m) = iu s (iu s i n) m := by
  induction n with
  | zero => intro i; rw [Nat.zero_add]; rfl
  | succ n ih => intro i; rw [Nat.succ_add, iu, ih (s i 1)]; rfl
theorem qT.it {k s} (T : qT k s) (n : Nat) : ∀ i, i < 16 → k i = 2 → iu s i n < 16 ∧ k (iu s i n) = 2 := by
  induction n with
  | zero => intro i hi hk; exact ⟨hi, hk⟩
  | succ n ih => intro i hi hk; exact ih (s i 1) (T.t1 i hi hk).2.1 (T.t1 i hi hk).2.2
theorem qT.it1 {k s} (T : qT k s) (n : Nat) : iu s 1 n = 1 := by
  induction n with
  | zero => rfl
  | succ n ih => rw [it_succ, ih, T.s1]
theorem qT.par {k s} (T : qT k s) (i p j : Nat) (hp : p < 16) (h2 : 2 ≤ j) (hj : j < 24) (hs : s p j = i) (hk : k i = 2) : s i 1 = p := by
  have h0 : i ≠ 0 := by intro z; rw [z, T.k0] at hk; omega
  have := T.t3 p j hp h2 hj (by omega)
  rw [hs] at this
  exact this.2.2.2 hk
theorem vis_le (f : Nat → Nat) (m : Nat) : ∀ v : Nat → Nat, (∀ a b, a < b → b < m → f a ≠ f b) → (∀ a, a < m → f a < 16 ∧ 1 ≤ v (f a)) → m ≤ sm v 16 := by
  induction m with
  | zero => intro v _ _; omega
  | succ m ih =>
    intro v h h1
    have h2 := ih (u1 v (f m) 0) (fun a b h1 h2 => h a b h1 (by omega)) (fun a ha => ⟨(h1 a (by omega)).1, by
      rw [u1_ne _ _ _ _ (h a m ha (by omega))]; exact (h1 a (by omega)).2⟩)
    have h3 := sm_upd v (u1 v (f m) 0) 16 (f m) (h1 m (by omega)).1 (fun q _ hn => u1_ne _ _ _ _ hn)
    rw [u1_at] at h3
    have h4 := (h1 m (by omega)).2
    omega
theorem qT.root {k s} (T : qT k s) (i : Nat) (hi : i < 16) (hk : k i = 2) : ∃ n, n < 15 ∧ iu s i n = 1 := by
  by_cases hx : ∃ n, n < 15 ∧ iu s i n = 1
  · exact hx
  · exfalso
    obtain ⟨r, hr⟩ := T.t5
    have h1 : ∀ n, n < 15 → iu s i n ≠ 1 := fun n hn z => hx ⟨n, hn, z⟩
    have h2 : ∀ n, n < 15 → r (iu s i (n + 1)) < r (iu s i n) := by
      intro n hn
      have a := T.it n i hi hk
      obtain ⟨p, j, b1, b2, b3, b4, b5⟩ := hr (iu s i n) a.1 (by omega) (h1 n hn)
      rw [it_succ, T.par _ p j b1 b2 b3 b4 a.2]
      exact b5
    have h3 : ∀ b a, a < b → b < 15 → r (iu s i b) < r (iu s i a) := by
      intro b
      induction b with
      | zero => intro a ha; omega
      | succ b ih =>
        intro a ha hb
        have c := h2 b (by omega)
        by_cases e : a = b
        · rw [e]; exact c
        · have := ih a (by omega) (by omega); omega
    have h4 := vis_le (iu s i) 15 (fun q => if 2 ≤ q then 1 else 0) (fun a b h1 h2 z => by
      have := h3 b a h1 h2
      rw [z] at this; omega) (fun a ha => by
        have c := T.it a i hi hk
        have d := h1 a ha
        have f : iu s i a ≠ 0 := by intro z; rw [z, T.k0] at c; omega
        refine ⟨c.1, ?_⟩
        show 1 ≤ if 2 ≤ iu s i a then 1 else 0
        rw [if_pos (by omega)]; omega)
    have h6 : sm (fun q => if 2 ≤ q then 1 else 0) 16 = 14 := by decide
    omega
theorem qT.never {k s} (T : qT k s) (p i : Nat) (hp : p < 16) (hk : k p = 2) (hi : i ≠ 1) (h : ∀ n, n < 16 → iu s p n ≠ i) (n : Nat) : iu s p n ≠ i := by
  obtain ⟨m, h1, h2⟩ := T.root p hp hk
  by_cases c : n < 16
  · exact h n c
  · have e : n = m + (n - m) := by omega
    rw [e, it_add, h2, T.it1]
    exact fun z => hi z.symm
theorem qT.mvfile {k s} (T : qT k s) (p j i p0 j0 : Nat) (hp : p < 16) (hk : k p = 2) (h2 : 2 ≤ j) (hj : j < 24) (hs : s p j = 0)
    (hp0 : p0 < 16) (h20 : 2 ≤ j0) (hj0 : j0 < 24) (hs0 : s p0 j0 = i) (hi : i < 16) (hf : k i = 1) : qT k (u2 (u2 s p j i) p0 j0 0) := by
  have c1 := fun q => ct_u2 s p j i q hp hj
  have c2 := fun q => ct_u2 (u2 s p j i) p0 j0 0 q hp0 hj0
  obtain ⟨r, hr⟩ := T.t5
  have n1 := T.k1
  have n0 := T.k0
  have ns1 := T.s1
  have hi0 : i ≠ 0 := by intro z; rw [z, n0] at hf; omega
  have hne : ¬ (p = p0 ∧ j = j0) := by rintro ⟨a, b⟩; rw [a, b, hs0] at hs; omega
  have g : ∀ q l, u2 (u2 s p j i) p0 j0 0 q l = if q = p0 ∧ l = j0 then 0 else if q = p ∧ l = j then i else s q l := fun q l => rfl
  refine ⟨?_, ?_, ?_, ?_, ?_, ?_, ?_, ?_, ?_, ?_⟩
  · exact T.k2
  · intro q l hq hl h; have := T.t0 q l hq hl; clear hr c1 c2; grind
  · intro q hq h; have := T.t1 q hq; clear hr c1 c2; grind
  · exact n0
  · exact n1
  · clear hr c1 c2; grind
  · intro q l hq hl1 hl2 h
    have := T.t3 q l hq hl1 hl2
    rw [g] at h ⊢
    clear hr c1 c2; grind
  · intro q l l' hq hl1 hl2 hl3 hl4 h h' hk'
    have a1 := T.t4 q l l' hq hl1 hl2 hl3 hl4
    clear hr c1 c2; grind
  · refine ⟨fun q => if q = i then r p + 1 else r q, ?_⟩
    intro q hq hkq hq1
    by_cases a : q = i
    · subst a
      refine ⟨p, j, hp, h2, hj, ?_, ?_⟩
      · rw [g]; clear hr c1 c2; grind
      · clear hr c1 c2; grind
    · obtain ⟨p', j', b1, b2, b3, b4, b5⟩ := hr q hq hkq hq1
      have b6 := T.t0 p' j' b1 b3
      have b7 : q ≠ 0 := by intro z; rw [z] at hkq; exact hkq n0
      refine ⟨p', j', b1, b2, b3, ?_, ?_⟩
      · rw [g]; clear hr c1 c2; grind
      · clear hr c1 c2; grind
  · intro q hq h
    have a1 := c1 q
    have a2 := c2 q
    have b := T.t6 q hq h
    have e : ¬ 0 = q := by intro z; rw [← z, n0] at h; omega
    have e2 : u2 s p j i p0 j0 = i := by rw [u2_ne _ _ _ _ _ _ (fun z => hne ⟨z.1.symm, z.2.symm⟩)]; exact hs0
    rw [e2, if_neg e] at a2
    rw [hs, if_neg e] at a1
    omega
theorem qT.mvdir {k s} (T : qT k s) (p j i p0 j0 : Nat) (hp : p < 16) (hk : k p = 2) (h2 : 2 ≤ j) (hj : j < 24) (hs : s p j = 0)
    (hp0 : p0 < 16) (h20 : 2 ≤ j0) (hj0 : j0 < 24) (hs0 : s p0 j0 = i) (hi : i < 16) (hf : k i = 2) (hn : ∀ n, iu s p n ≠ i) : qT k (u2 (u2 (u2 s p j i) p0 j0 0) i 1 p) := by
  classical
  have c1 := fun q => ct_u2 s p j i q hp hj
  have c2 := fun q => ct_u2 (u2 s p j i) p0 j0 0 q hp0 hj0
  have c3 := fun q => ct_u2 (u2 (u2 s p j i) p0 j0 0) i 1 p q hi (by omega)
  obtain ⟨r, hr⟩ := T.t5
  have n1 := T.k1
  have n0 := T.k0
  have ns1 := T.s1
  have hi0 : i ≠ 0 := by intro z; rw [z, n0] at hf; omega
  have hi1 : i ≠ 1 := by have := T.t3 p0 j0 hp0 h20 hj0 (by omega); rw [hs0] at this; exact this.2.1
  have hne : ¬ (p = p0 ∧ j = j0) := by rintro ⟨a, b⟩; rw [a, b, hs0] at hs; omega
  have hpi : p ≠ i := hn 0
  have hpar := T.par i p0 j0 hp0 h20 hj0 hs0 hf
  have hin : ∀ q l, q < 16 → 2 ≤ l → l < 24 → s q l = i → q = p0 ∧ l = j0 := by
    intro q l hq hl1 hl2 hz
    have a := T.par i q l hq hl1 hl2 hz hf
    have b : q = p0 := by rw [← a, hpar]
    subst b
    exact ⟨rfl, (T.t4 q j0 l hp0 h20 hj0 hl1 hl2 (by omega) (by omega) (by rw [hs0]; exact hf)).symm⟩
  have g : ∀ q l, u2 (u2 (u2 s p j i) p0 j0 0) i 1 p q l = if q = i ∧ l = 1 then p else if q = p0 ∧ l = j0 then 0 else if q = p ∧ l = j then i else s q l := fun q l => rfl
  refine ⟨?_, ?_, ?_, ?_, ?_, ?_, ?_, ?_, ?_, ?_⟩
  · exact T.k2
  · intro q l hq hl h; have := T.t0 q l hq hl; clear hr c1 c2 c3 hn hin; grind
  · intro q hq h; have := T.t1 q hq; clear hr c1 c2 c3 hn hin; grind
  · exact n0
  · exact n1
  · rw [g]; clear hr c1 c2 c3 hn hin; grind
  · intro q l hq hl1 hl2 h
    have a1 := T.t3 q l hq hl1 hl2
    have a2 := hin q l hq hl1 hl2
    have g1 := g q l
    rw [if_neg (by omega)] at g1
    rw [g1] at h ⊢
    have g2 := g (s q l) 1
    have g3 := g i 1
    clear hr c1 c2 c3 hn hin g; grind
  · intro q l l' hq hl1 hl2 hl3 hl4 h h' hk'
    have a1 := T.t4 q l l' hq hl1 hl2 hl3 hl4
    have a2 := hin q l hq hl1 hl2
    have a3 := hin q l' hq hl3 hl4
    have g1 := g q l
    have g2 := g q l'
    rw [if_neg (by omega)] at g1 g2
    rw [g1] at h h' hk'
    rw [g2] at h'
    clear hr c1 c2 c3 hn hin g; grind
  · refine ⟨fun q => if k q = 2 ∧ ¬ (∃ n, iu s q n = i) then r q else r q + r p + 1, ?_⟩
    intro q hq hkq hq1
    show ∃ p' j', p' < 16 ∧ 2 ≤ j' ∧ j' < 24 ∧ u2 (u2 (u2 s p j i) p0 j0 0) i 1 p p' j' = q ∧
      (if k p' = 2 ∧ ¬ (∃ n, iu s p' n = i) then r p' else r p' + r p + 1) < (if k q = 2 ∧ ¬ (∃ n, iu s q n = i) then r q else r q + r p + 1)
    have hq0 : q ≠ 0 := by intro z; rw [z] at hkq; exact hkq n0
    by_cases a : q = i
    · subst a
      have x1 : ¬ ∃ n, iu s p n = q := by rintro ⟨n, z⟩; exact hn n z
      have x2 : ∃ n, iu s q n = q := ⟨0, rfl⟩
      refine ⟨p, j, hp, h2, hj, ?_, ?_⟩
      · rw [g]; clear hr c1 c2 c3 hn hin; grind
      · rw [if_pos ⟨hk, x1⟩, if_neg (fun z => z.2 x2)]; omega
    · obtain ⟨p', j', b1, b2, b3, b4, b5⟩ := hr q hq hkq hq1
      have b6 := T.nz p' j' b1 b3 (by omega)
      refine ⟨p', j', b1, b2, b3, ?_, ?_⟩
      · rw [g, if_neg (by omega)]
        have : ¬ (p' = p0 ∧ j' = j0) := by rintro ⟨z1, z2⟩; rw [z1, z2, hs0] at b4; exact a b4.symm
        rw [if_neg this]
        have : ¬ (p' = p ∧ j' = j) := by rintro ⟨z1, z2⟩; rw [z1, z2, hs] at b4; omega
        rw [if_neg this]; exact b4
      · by_cases y : k q = 2
        · have z := T.par q p' j' b1 b2 b3 b4 y
          have w : (∃ n, iu s q n = i) ↔ (∃ n, iu s p' n = i) := by
            constructor
            · rintro ⟨n, hz⟩
              cases n with
              | zero => exact absurd hz a
              | succ n => rw [iu, z] at hz; exact ⟨n, hz⟩
            · rintro ⟨n, hz⟩; exact ⟨n + 1, by rw [iu, z]; exact hz⟩
          simp only [w, y, b6.2.2]
          split <;> omega
        · rw [if_neg (fun z : k q = 2 ∧ _ => y z.1)]
          split <;> omega
  · intro q hq h
    have a1 := c1 q
    have a2 := c2 q
    have a3 := c3 q
    have b := T.t6 q hq h
    have e : ¬ 0 = q := by intro z; rw [← z, n0] at h; omega
    have e1 : ¬ i = q := by intro z; rw [z] at hf; omega
    have e3 : ¬ p = q := by intro z; rw [z] at hk; omega
    rw [if_neg e] at a2
    rw [if_neg e1] at a1
    rw [if_neg e3] at a3
    omega
