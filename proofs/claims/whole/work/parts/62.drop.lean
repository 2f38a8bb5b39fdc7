theorem dk_dp (d : Nat → Nat) (hd : dk d) (a v : Nat) : dk (dp d a v) := by
  constructor
  · intro k; have := hd.1 k; unfold dp; split <;> omega
  · intro k hk
    have := hd.2 k hk
    unfold dp; split <;> omega
theorem dk_cz (d : Nat → Nat) (hd : dk d) (a m : Nat) : dk (cz d a m) := by
  constructor
  · intro k; have := hd.1 k; unfold cz; split <;> omega
  · intro k hk
    have := hd.2 k hk
    unfold cz; split <;> omega
theorem data_file {d d'} (E : qE d) (i w o v : Nat) (hi : i < 16) (hw : w < 38) (ho : o < 32) (hk : d (32 + (16 * i)) = 1) (hq : qb d i w ≠ 0) (hd' : d' = dp d (qb d i w * 32 + o) v) :
    qE d' ∧ qI d d' ∧ (∀ j k, j < 16 → k < 16 → d' (32 + (16 * j) + k) = d (32 + (16 * j) + k)) ∧ (∀ j v, j < 16 → v ≤ 38 → qb d' j v = qb d j v) := by
  subst hd'
  obtain ⟨B, R, M⟩ := E
  have b := B.b1 i w hi (by omega)
  have ne : ∀ x, x ≠ qb d i w * 32 + o → dp d (qb d i w * 32 + o) v x = d x := fun x h => dp_ne _ _ _ _ h
  have hT : ∀ j k, j < 16 → k < 16 → dp d (qb d i w * 32 + o) v (32 + (16 * j) + k) = d (32 + (16 * j) + k) := fun j k hj hk => ne _ (by omega)
  have hqb : ∀ j u, j < 16 → u ≤ 38 → qb (dp d (qb d i w * 32 + o) v) j u = qb d j u := by
    intro j u hj hu
    apply qb_ext d _ j u hu (fun k hk => hT j k hj hk)
    intro h0 o' ho'
    have := B.b2 i w j 38 hi (by omega) hj (by omega) hq
    rw [qb_ix] at this
    exact ne _ (by omega)
  have z2 := hT i 2 hi (by omega)
  have z3 := hT i 3 hi (by omega)
  refine ⟨⟨⟨dk_dp d B.dk _ _, ?_, ?_, ?_, ?_⟩, rows_file d _ i R hk (fun j k hj hk _ => hT j k hj hk) (by rw [z2, z3]; exact R.fi i hi hk), ⟨?_, ?_⟩⟩, ⟨?_, ?_, ?_, ?_⟩, hT, hqb⟩
  · intro j u hj hu; rw [hqb j u hj hu]; exact B.b1 j u hj hu
  · intro j u j' u' hj hu hj' hu'
    rw [hqb j u hj hu, hqb j' u' hj' hu']; exact B.b2 j u j' u' hj hu hj' hu'
  · rw [bt_ext d _ 1 0 (ne _ (by omega))]; exact B.m1
  · intro c hc; rw [bt_ext d _ 3 c (ne _ (by omega))]; exact B.m3 c hc
  · intro j hj hn
    have := hT j 0 hj (by omega)
    simp only [Nat.add_zero] at this
    rw [this] at hn
    rw [bt_ext d _ 1 j (ne _ (by omega))]; exact M.c1 j hj hn
  · intro j u hj hu hn
    rw [hqb j u hj hu] at hn ⊢
    have := B.b1 j u hj hu
    rw [bt_ext d _ 3 _ (ne _ (by omega))]; exact M.c2 j u hj hu hn
  · intro j hj; exact hT j 0 hj (by omega)
  · intro j hj; exact hT j 1 hj (by omega)
  · apply slots_file d _ i B R hk (fun j k hj hk _ => hT j k hj hk)
    intro p u o' hp hk' hu h9 h64 ho'
    have n2 := B.b2 p u i w hp (by omega) hi (by omega) (by omega)
    have : p ≠ i := by intro z; rw [z] at hk'; omega
    exact ne _ (by omega)
  · exact ne _ (by omega)
theorem row_ne (d d' : Nat → Nat) (B : qB d) (M : qM d) (hd : dk d') (h : ∀ x, ¬ (32 ≤ x ∧ x < 288) → d' x = d x)
    (hT : ∀ j k, j < 16 → k < 16 → (k = 0 ∨ (4 ≤ k ∧ k ≤ 10)) → d' (32 + (16 * j) + k) = d (32 + (16 * j) + k)) :
    qB d' ∧ qM d' ∧ ∀ j u, j < 16 → u ≤ 38 → qb d' j u = qb d j u := by
  have hqb : ∀ j u, j < 16 → u ≤ 38 → qb d' j u = qb d j u := by
    intro j u hj hu
    have h10 := hT j 10 hj (by omega) (by omega)
    unfold qb
    rw [h10]
    by_cases a : u < 6
    · rw [if_pos a, if_pos a]
      have := hT j (4 + u) hj (by omega) (by omega)
      rw [← Nat.add_assoc] at this; exact this
    · rw [if_neg a, if_neg a]
      by_cases b : u = 38
      · rw [if_pos b, if_pos b]
      · rw [if_neg b, if_neg b]
        by_cases c : d (32 + (16 * j) + 10) = 0
        · rw [if_pos c, if_pos c]
        · rw [if_neg c, if_neg c]
          have := B.b1 j 38 hj (by omega)
          rw [qb_ix] at this
          exact h _ (by omega)
  refine ⟨⟨hd, ?_, ?_, ?_, ?_⟩, ⟨?_, ?_⟩, hqb⟩
  · intro j u hj hu; rw [hqb j u hj hu]; exact B.b1 j u hj hu
  · intro j u j' u' hj hu hj' hu'
    rw [hqb j u hj hu, hqb j' u' hj' hu']; exact B.b2 j u j' u' hj hu hj' hu'
  · rw [bt_ext d _ 1 0 (h _ (by omega))]; exact B.m1
  · intro c hc; rw [bt_ext d _ 3 c (h _ (by omega))]; exact B.m3 c hc
  · intro j hj hn
    have := hT j 0 hj (by omega) (by omega)
    simp only [Nat.add_zero] at this
    rw [this] at hn
    rw [bt_ext d _ 1 j (h _ (by omega))]; exact M.c1 j hj hn
  · intro j u hj hu hn
    rw [hqb j u hj hu] at hn ⊢
    have := B.b1 j u hj hu
    rw [bt_ext d _ 3 _ (h _ (by omega))]; exact M.c2 j u hj hu hn
theorem ss_at (d : Nat → Nat) (i v x : Nat) (hi : i < 16) : ss d i v x = if x = 32 + (16 * i) + 3 then v / 256 % 256 else if x = 32 + (16 * i) + 2 then v % 256 else d x := by
  unfold ss
  by_cases a : x = 32 + (16 * i) + 3
  · rw [if_pos a, a]; exact dp_at _ _ _ (by omega)
  · rw [if_neg a, dp_ne _ _ _ _ (by omega)]
    by_cases b : x = 32 + (16 * i) + 2
    · rw [if_pos b, b]; exact dp_at _ _ _ (by omega)
    · rw [if_neg b, dp_ne _ _ _ _ b]
theorem ss_file {d} (E : qE d) (i v : Nat) (hi : i < 16) (hk : d (32 + (16 * i)) = 1) (hv : v ≤ 1216) : qE (ss d i v) ∧ qI d (ss d i v) ∧ (∀ j u, j < 16 → u ≤ 38 → qb (ss d i v) j u = qb d j u) := by
  have ne : ∀ x, x ≠ 32 + (16 * i) + 2 → x ≠ 32 + (16 * i) + 3 → ss d i v x = d x := by
    intro x h1 h2; rw [ss_at _ _ _ _ hi, if_neg h2, if_neg h1]
  have z2 : ss d i v (32 + (16 * i) + 2) = v % 256 := by rw [ss_at _ _ _ _ hi, if_neg (by omega), if_pos rfl]
  have z3 : ss d i v (32 + (16 * i) + 3) = v / 256 % 256 := by rw [ss_at _ _ _ _ hi, if_pos rfl]
  have hT : ∀ j k, j < 16 → k < 16 → ¬ (j = i ∧ 2 ≤ k) → ss d i v (32 + (16 * j) + k) = d (32 + (16 * j) + k) :=
    fun j k hj hk hn => ne _ (by omega) (by omega)
  have G := row_ne d (ss d i v) E.B E.M (dk_dp _ (dk_dp _ E.B.dk _ _) _ _) (fun x hx => ne _ (by omega) (by omega)) (fun j k hj hk hn => ne _ (by omega) (by omega))
  refine ⟨⟨G.1, rows_file d _ i E.R hk hT (by rw [z2, z3]; omega), G.2.1⟩, ⟨?_, ?_, ?_, ?_⟩, G.2.2⟩
  · intro j hj; exact hT j 0 hj (by omega) (by omega)
  · intro j hj; exact hT j 1 hj (by omega) (by omega)
  · apply slots_file d _ i E.B E.R hk hT
    intro p u o' hp hk' hu h9 h64 ho'
    exact ne _ (by omega) (by omega)
  · exact ne _ (by omega) (by omega)
theorem gb_7_at (d : Nat → Nat) (b x : Nat) (h : ¬ (3 ≤ x ∧ x < 11)) : gb_7 d b x = d x := by
  unfold gb_7
  by_cases c : (9 ≤ b ∧ b < 64) ∧ bt d 3 b = true
  · rw [if_pos c, tb_ne _ _ _ _ (by omega)]
  · rw [if_neg c]
theorem gb_7_bt (d : Nat → Nat) (b c : Nat) (hb : 9 ≤ b ∧ b < 64) : bt (gb_7 d b) 3 c = if c = b then false else bt d 3 c := by
  unfold gb_7
  by_cases e : bt d 3 b = true
  · rw [if_pos ⟨hb, e⟩, bt_tb _ _ _ _ (by omega), e]; rfl
  · rw [if_neg (fun z => e z.2)]
    by_cases f : c = b
    · rw [if_pos f, f]; simpa using e
    · rw [if_neg f]
theorem gb_7_1 (d : Nat → Nat) (b c : Nat) (hc : c < 16) : bt (gb_7 d b) 1 c = bt d 1 c := bt_ext _ _ _ _ (by
  unfold gb_7
  by_cases e : (9 ≤ b ∧ b < 64) ∧ bt d 3 b = true
  · rw [if_pos e, tb_ne _ _ _ _ (by omega)]
  · rw [if_neg e])
theorem dk_gb7 (d : Nat → Nat) (hd : dk d) (b : Nat) : dk (gb_7 d b) := by
  unfold gb_7; split
  · exact dk_dp _ hd _ _
  · exact hd
def qX (d d' : Nat → Nat) (i : Nat) : Prop :=
  (qB d') ∧
  (∀ i w, i < 16 → w ≤ 38 → qb d' i w ≠ 0 → bt d' 3 (qb d' i w) = true) ∧
  (∀ c, c < 16 → bt d' 1 c = bt d 1 c) ∧
  (∀ j k, j < 16 → k < 16 → ¬ (j = i ∧ 4 ≤ k ∧ k ≤ 10) → d' (32 + (16 * j) + k) = d (32 + (16 * j) + k)) ∧
  (∀ c o, 9 ≤ c → c < 64 → c ≠ qb d i 38 → o < 32 → d' (c * 32 + o) = d (c * 32 + o)) ∧
  (∀ j v, j < 16 → v ≤ 38 → j ≠ i → qb d' j v = qb d j v) ∧
  (∀ v, v ≤ 38 → qb d' i v = 0 ∨ qb d' i v = qb d i v) ∧
  (d' 11 = d 11)
theorem qX.B {d d' : Nat → Nat} {i : Nat} (h : qX d d' i) : qB d' := h.1
theorem qX.c2 {d d' : Nat → Nat} {i : Nat} (h : qX d d' i) : ∀ i w, i < 16 → w ≤ 38 → qb d' i w ≠ 0 → bt d' 3 (qb d' i w) = true := h.2.1
theorem qX.t1 {d d' : Nat → Nat} {i : Nat} (h : qX d d' i) : ∀ c, c < 16 → bt d' 1 c = bt d 1 c := h.2.2.1
theorem qX.T {d d' : Nat → Nat} {i : Nat} (h : qX d d' i) : ∀ j k, j < 16 → k < 16 → ¬ (j = i ∧ 4 ≤ k ∧ k ≤ 10) → d' (32 + (16 * j) + k) = d (32 + (16 * j) + k) := h.2.2.2.1
theorem qX.blk {d d' : Nat → Nat} {i : Nat} (h : qX d d' i) : ∀ c o, 9 ≤ c → c < 64 → c ≠ qb d i 38 → o < 32 → d' (c * 32 + o) = d (c * 32 + o) := h.2.2.2.2.1
theorem qX.oth {d d' : Nat → Nat} {i : Nat} (h : qX d d' i) : ∀ j v, j < 16 → v ≤ 38 → j ≠ i → qb d' j v = qb d j v := h.2.2.2.2.2.1
theorem qX.sub {d d' : Nat → Nat} {i : Nat} (h : qX d d' i) : ∀ v, v ≤ 38 → qb d' i v = 0 ∨ qb d' i v = qb d i v := h.2.2.2.2.2.2.1
theorem qX.c {d d' : Nat → Nat} {i : Nat} (h : qX d d' i) : d' 11 = d 11 := h.2.2.2.2.2.2.2
theorem qX.refl {d} (B : qB d) (M : qM d) (i : Nat) : qX d d i :=
  ⟨B, M.c2, fun _ _ => rfl, fun _ _ _ _ _ => rfl, fun _ _ _ _ _ _ => rfl, fun _ _ _ _ _ => rfl, fun _ _ => Or.inr rfl, rfl⟩
theorem qX.trans {a b c : Nat → Nat} {i : Nat} (h : qX a b i) (g : qX b c i) : qX a c i := by
  refine ⟨g.B, g.c2, fun x hx => (g.t1 x hx).trans (h.t1 x hx), fun j k hj hk hn => (g.T j k hj hk hn).trans (h.T j k hj hk hn), ?_, fun j v hj hv hn => (g.oth j v hj hv hn).trans (h.oth j v hj hv hn), ?_, g.c.trans h.c⟩
  · intro x o h9 h64 hn ho
    rw [g.blk x o h9 h64 (by rcases h.sub 38 (by omega) with z | z <;> omega) ho, h.blk x o h9 h64 hn ho]
  · intro v hv
    rcases g.sub v hv with z | z
    · exact Or.inl z
    · rw [z]; exact h.sub v hv
theorem drop1 {d} (B : qB d) (hc2 : ∀ i w, i < 16 → w ≤ 38 → qb d i w ≠ 0 → bt d 3 (qb d i w) = true) (i w : Nat) (hi : i < 16) (hw : w ≤ 38) (hx : w < 6 ∨ w = 38 ∨ d (32 + (16 * i) + 10) ≠ 0)
    (h38 : w = 38 → ∀ v, 6 ≤ v → v < 38 → qb d i v = 0) (hn : qb d i w ≠ 0) :
    qX d (dp (gb_7 d (qb d i w)) (ea d i w) 0) i ∧ (∀ v, v ≤ 38 → qb (dp (gb_7 d (qb d i w)) (ea d i w) 0) i v = if v = w then 0 else qb d i v) := by
  have hb := B.b1 i w hi hw
  have hea := ea_ge d B i w hi hw hx
  have ne : ∀ x, ¬ (3 ≤ x ∧ x < 11) → x ≠ ea d i w → dp (gb_7 d (qb d i w)) (ea d i w) 0 x = d x := by
    intro x h1 h2
    rw [dp_ne _ _ _ _ h2, gb_7_at _ _ _ h1]
  have hat : dp (gb_7 d (qb d i w)) (ea d i w) 0 (ea d i w) = 0 := by rw [dp_at _ _ _ (by omega)]
  have t3 : ∀ c, c < 64 → bt (dp (gb_7 d (qb d i w)) (ea d i w) 0) 3 c = if c = qb d i w then false else bt d 3 c := by
    intro c hc
    rw [bt_ext (gb_7 d (qb d i w)) _ 3 c (dp_ne _ _ _ _ (by omega)), gb_7_bt _ _ _ (by omega)]
  have t1 : ∀ c, c < 16 → bt (dp (gb_7 d (qb d i w)) (ea d i w) 0) 1 c = bt d 1 c := by
    intro c hc
    rw [bt_ext (gb_7 d (qb d i w)) _ 1 c (dp_ne _ _ _ _ (by omega)), gb_7_1 _ _ _ hc]
  have hqb : ∀ j v, j < 16 → v ≤ 38 → qb (dp (gb_7 d (qb d i w)) (ea d i w) 0) j v = if j = i ∧ v = w then 0 else qb d j v := by
    intro j v hj hv
    have bj := B.b1 j 38 hj (by omega)
    have sj := B.b2 j 38 i 38 hj (by omega) hi (by omega)
    rw [qb_ix] at bj sj
    rw [qb_ix] at sj
    rw [qb_ix] at hea
    by_cases e : j = i ∧ v = w
    · rw [if_pos e]
      obtain ⟨e1, e2⟩ := e
      subst e1; subst e2
      by_cases v6 : v < 6
      · have : ea d j v = 32 + (16 * j) + 4 + v := by unfold ea; rw [if_pos v6]
        rw [qb_lo _ _ _ v6, ← this]; exact hat
      · by_cases v38 : v = 38
        · subst v38
          have := ea_38 d j
          rw [qb_ix, ← this]; exact hat
        · have ixe : dp (gb_7 d (qb d j v)) (ea d j v) 0 (32 + (16 * j) + 10) = d (32 + (16 * j) + 10) := ne _ (by omega) (by omega)
          have ix0 : d (32 + (16 * j) + 10) ≠ 0 := by omega
          have ee : d (32 + (16 * j) + 10) * 32 + v - 6 = ea d j v := by unfold ea; rw [if_neg v6, if_neg v38]
          have e2 : qb (dp (gb_7 d (qb d j v)) (ea d j v) 0) j v = dp (gb_7 d (qb d j v)) (ea d j v) 0 (dp (gb_7 d (qb d j v)) (ea d j v) 0 (32 + (16 * j) + 10) * 32 + v - 6) := by
            generalize dp (gb_7 d (qb d j v)) (ea d j v) 0 = g at ixe ⊢
            unfold qb
            rw [if_neg v6, if_neg v38, if_neg (by omega)]
          rw [e2, ixe, ee]; exact hat
    · rw [if_neg e]
      by_cases v6 : v < 6
      · rw [qb_lo _ _ _ v6, qb_lo _ _ _ v6, ne _ (by omega) (by omega)]
      · by_cases v38 : v = 38
        · subst v38
          rw [qb_ix, qb_ix, ne _ (by omega) (by omega)]
        · by_cases w38 : j = i ∧ w = 38
          · obtain ⟨e1, e2⟩ := w38
            subst e1; subst e2
            have ix0 : dp (gb_7 d (qb d j 38)) (ea d j 38) 0 (32 + (16 * j) + 10) = 0 := by
              have := ea_38 d j
              rw [← this]; exact hat
            have z := h38 rfl v (by omega) (by omega)
            rw [z]
            generalize dp (gb_7 d (qb d j 38)) (ea d j 38) 0 = g at ix0 ⊢
            unfold qb
            rw [if_neg v6, if_neg v38, if_pos ix0]
          · have ixe : dp (gb_7 d (qb d i w)) (ea d i w) 0 (32 + (16 * j) + 10) = d (32 + (16 * j) + 10) := ne _ (by omega) (by omega)
            by_cases c : d (32 + (16 * j) + 10) = 0
            · have l : qb d j v = 0 := by unfold qb; rw [if_neg v6, if_neg v38, if_pos c]
              rw [l]
              generalize dp (gb_7 d (qb d i w)) (ea d i w) 0 = g at ixe ⊢
              unfold qb
              rw [if_neg v6, if_neg v38, if_pos (by omega)]
            · have l : qb d j v = d (d (32 + (16 * j) + 10) * 32 + v - 6) := by unfold qb; rw [if_neg v6, if_neg v38, if_neg c]
              have nn := ne (d (32 + (16 * j) + 10) * 32 + v - 6) (by omega) (by omega)
              rw [l, ← nn]
              generalize dp (gb_7 d (qb d i w)) (ea d i w) 0 = g at ixe ⊢
              unfold qb
              rw [if_neg v6, if_neg v38, if_neg (by omega), ixe]
  refine ⟨⟨⟨dk_dp _ (dk_gb7 _ B.dk _) _ _, ?_, ?_, ?_, ?_⟩, ?_, t1, ?_, ?_, ?_, ?_, ?_⟩, ?_⟩
  · intro j v hj hv
    rw [hqb j v hj hv]
    split
    · exact Or.inl rfl
    · exact B.b1 j v hj hv
  · intro j v j' v' hj hv hj' hv' h0 he
    rw [hqb j v hj hv] at h0 he
    rw [hqb j' v' hj' hv'] at he
    by_cases e : j = i ∧ v = w
    · rw [if_pos e] at h0; omega
    · rw [if_neg e] at h0 he
      by_cases e' : j' = i ∧ v' = w
      · rw [if_pos e'] at he; omega
      · rw [if_neg e'] at he; exact B.b2 j v j' v' hj hv hj' hv' h0 he
  · rw [t1 0 (by omega)]; exact B.m1
  · intro c hc; rw [t3 c (by omega), if_neg (by omega)]; exact B.m3 c hc
  · intro j v hj hv h0
    rw [hqb j v hj hv] at h0 ⊢
    by_cases e : j = i ∧ v = w
    · rw [if_pos e] at h0; omega
    · rw [if_neg e] at h0 ⊢
      have := B.b1 j v hj hv
      have n := B.b2 j v i w hj hv hi hw h0
      rw [t3 _ (by omega), if_neg (fun z => e (n z))]
      exact hc2 j v hj hv h0
  · intro j k hj hk hn'
    exact ne _ (by omega) (by omega)
  · intro c o h9 h64 hc ho
    exact ne _ (by omega) (by omega)
  · intro j v hj hv hji
    rw [hqb j v hj hv, if_neg (fun z => hji z.1)]
  · intro v hv
    rw [hqb i v hi hv]
    split
    · exact Or.inl rfl
    · exact Or.inr rfl
  · exact ne _ (by omega) (by omega)
  · intro v hv
    rw [hqb i v hi hv]
    by_cases e : v = w
    · rw [if_pos ⟨rfl, e⟩, if_pos e]
    · rw [if_neg (fun z => e z.2), if_neg e]
theorem dp_same (d : Nat → Nat) (a : Nat) (h : d a = 0) : dp d a 0 = d := by
  funext k
  unfold dp
  by_cases e : k = a ∧ a < 2048
  · rw [if_pos e, e.1, h]
  · rw [if_neg e]
theorem gb_7_0 (d : Nat → Nat) : gb_7 d 0 = d := by unfold gb_7; rw [if_neg (by omega)]
theorem d1_0 (d : Nat → Nat) (i w : Nat) (h : bo d i w = 0) : d1 d i w = d := by
  unfold d1
  rw [h, gb_7_0]
  unfold bo at h
  generalize eo d i w = e at h ⊢
  cases e with
  | none => rfl
  | some e => exact dp_same d e h
theorem d1_1 (d : Nat → Nat) (i w : Nat) (hw : w < 38) (h : bo d i w ≠ 0) : (w < 6 ∨ d (32 + (16 * i) + 10) ≠ 0) ∧ d1 d i w = dp (gb_7 d (qb d i w)) (ea d i w) 0 := by
  have hx : w < 6 ∨ d (32 + (16 * i) + 10) ≠ 0 := by
    by_cases a : w < 6
    · exact Or.inl a
    · right; intro z
      apply h
      unfold bo eo
      rw [if_neg a, if_pos z]; rfl
  refine ⟨hx, ?_⟩
  unfold d1
  rw [eo_ea d i w hw hx, qb_bo _ _ _ hw]
  rfl
theorem dl_drop (i : Nat) (hi : i < 16) (n : Nat) : ∀ (d : Nat → Nat) (w : Nat), qB d → (∀ i w, i < 16 → w ≤ 38 → qb d i w ≠ 0 → bt d 3 (qb d i w) = true) → w + n ≤ 38 →
    qX d (dl i d w n) i ∧ (∀ v, v ≤ 38 → qb (dl i d w n) i v = if w ≤ v ∧ v < w + n then 0 else qb d i v) := by
  induction n with
  | zero =>
    intro d w B c2 _
    refine ⟨⟨B, c2, fun _ _ => rfl, fun _ _ _ _ _ => rfl, fun _ _ _ _ _ _ => rfl, fun _ _ _ _ _ => rfl, fun _ _ => Or.inr rfl, rfl⟩, fun v hv => ?_⟩
    rw [if_neg (by omega)]; rfl
  | succ n ih =>
    intro d w B c2 hw
    rw [dl]
    by_cases h : bo d i w = 0
    · rw [d1_0 d i w h]
      have G := ih d (w + 1) B c2 (by omega)
      refine ⟨G.1, fun v hv => ?_⟩
      rw [G.2 v hv]
      by_cases e : v = w
      · have hq : qb d i w = 0 := by rw [qb_bo _ _ _ (by omega)]; exact h
        rw [e, if_neg (by omega), if_pos (by omega), hq]
      · by_cases f : w + 1 ≤ v ∧ v < w + 1 + n
        · rw [if_pos f, if_pos (by omega)]
        · rw [if_neg f, if_neg (by omega)]
    · have hq : qb d i w ≠ 0 := by rw [qb_bo _ _ _ (by omega)]; exact h
      have H := d1_1 d i w (by omega) h
      have D := drop1 B c2 i w hi (by omega) (by omega) (by omega) hq
      rw [← H.2] at D
      have G := ih (d1 d i w) (w + 1) D.1.B D.1.c2 (by omega)
      refine ⟨D.1.trans G.1, fun v hv => ?_⟩
      rw [G.2 v hv, D.2 v hv]
      by_cases e : v = w
      · rw [e, if_neg (by omega), if_pos rfl, if_pos (by omega)]
      · by_cases f : w + 1 ≤ v ∧ v < w + 1 + n
        · rw [if_pos f, if_pos (by omega)]
        · rw [if_neg f, if_neg e, if_neg (by omega)]
theorem sp_no (d : Nat → Nat) (i n : Nat) : ∀ w, sp d i w n = false → ∀ v, w ≤ v → v < w + n → bo d i v = 0 := by
  induction n with
  | zero => intro w _ v h1 h2; omega
  | succ n ih =>
    intro w h v h1 h2
    rw [sp] at h
    by_cases b : bo d i w = 0
    · rw [if_pos b] at h
      by_cases e : v = w
      · rw [e]; exact b
      · exact ih (w + 1) h v (by omega) (by omega)
    · rw [if_neg b] at h; exact Bool.noConfusion h
theorem sp_yes (d : Nat → Nat) (i n : Nat) : ∀ w, sp d i w n = true → ∃ v, w ≤ v ∧ v < w + n ∧ bo d i v ≠ 0 := by
  induction n with
  | zero => intro w h; exact Bool.noConfusion h
  | succ n ih =>
    intro w h
    rw [sp] at h
    by_cases b : bo d i w = 0
    · rw [if_pos b] at h
      obtain ⟨v, h1, h2, h3⟩ := ih (w + 1) h
      exact ⟨v, by omega, by omega, h3⟩
    · exact ⟨w, by omega, by omega, b⟩
theorem dr_drop {d} (B : qB d) (c2 : ∀ i w, i < 16 → w ≤ 38 → qb d i w ≠ 0 → bt d 3 (qb d i w) = true) (i u : Nat) (hi : i < 16) (hu : u ≤ 38) :
    qX d (dr d i u) i ∧ (∀ v, v < 38 → qb (dr d i u) i v = if u ≤ v then 0 else qb d i v) ∧ (u ≤ 6 → qb (dr d i u) i 38 = 0) := by
  have L := dl_drop i hi (38 - u) d u B c2 (by omega)
  unfold dr
  generalize dl i d u (38 - u) = e at L ⊢
  have L2 : ∀ v, v < 38 → qb e i v = if u ≤ v then 0 else qb d i v := by
    intro v hv
    rw [L.2 v (by omega)]
    by_cases a : u ≤ v
    · rw [if_pos a, if_pos (by omega)]
    · rw [if_neg a, if_neg (by omega)]
  unfold d2
  by_cases s : sp e i 6 32 = true
  · rw [if_pos s]
    refine ⟨L.1, L2, fun h => ?_⟩
    obtain ⟨v, h1, h2, h3⟩ := sp_yes e i 32 6 s
    rw [← qb_bo _ _ _ (by omega), L2 v (by omega), if_pos (by omega)] at h3
    exact absurd rfl h3
  · rw [if_neg s]
    have s' := sp_no e i 32 6 (by simpa using s)
    by_cases x : e (32 + (16 * i) + 10) = 0
    · rw [x, gb_7_0, dp_same e _ x]
      exact ⟨L.1, L2, fun _ => by rw [qb_ix]; exact x⟩
    · have D := drop1 L.1.B L.1.c2 i 38 hi (by omega) (Or.inr (Or.inl rfl)) (fun _ v h1 h2 => by
        rw [qb_bo _ _ _ h2]; exact s' v h1 (by omega)) (by rw [qb_ix]; exact x)
      rw [ea_38, qb_ix] at D
      refine ⟨L.1.trans D.1, fun v hv => ?_, fun _ => ?_⟩
      · rw [D.2 v (by omega), if_neg (by omega), L2 v hv]
      · rw [D.2 38 (by omega), if_pos rfl]
theorem dr_file {d} (E : qE d) (i u : Nat) (hi : i < 16) (hu : u ≤ 38) (hk : d (32 + (16 * i)) = 1) : qE (dr d i u) ∧ qI d (dr d i u) ∧
    dr d i u (32 + (16 * i) + 2) = d (32 + (16 * i) + 2) ∧ dr d i u (32 + (16 * i) + 3) = d (32 + (16 * i) + 3) := by
  have D := (dr_drop E.B E.M.c2 i u hi hu).1
  generalize dr d i u = e at D ⊢
  have hT : ∀ j k, j < 16 → k < 16 → ¬ (j = i ∧ 2 ≤ k) → e (32 + (16 * j) + k) = d (32 + (16 * j) + k) :=
    fun j k hj hk hn => D.T j k hj hk (by omega)
  have z2 := D.T i 2 hi (by omega) (by omega)
  have z3 := D.T i 3 hi (by omega) (by omega)
  refine ⟨⟨D.B, rows_file d _ i E.R hk hT (by rw [z2, z3]; exact E.R.fi i hi hk), ⟨?_, D.c2⟩⟩, ⟨?_, ?_, ?_, D.c⟩, z2, z3⟩
  · intro j hj hn
    have := hT j 0 hj (by omega) (by omega)
    simp only [Nat.add_zero] at this
    rw [this] at hn
    rw [D.t1 j hj]; exact E.M.c1 j hj hn
  · intro j hj; exact hT j 0 hj (by omega) (by omega)
  · intro j hj; exact hT j 1 hj (by omega) (by omega)
  · apply slots_file d _ i E.B E.R hk hT
    intro p v o hp hk' hv h9 h64 ho
    have n2 := E.B.b2 p v i 38 hp (by omega) hi (by omega) (by omega)
    exact D.blk _ o h9 h64 (by omega) ho
def qG (d d' : Nat → Nat) (i : Nat) : Prop :=
  (qE d') ∧
  (∀ k, k < 16 → d' (32 + (16 * i) + k) = 0) ∧
  (∀ j k, j < 16 → k < 16 → j ≠ i → d' (32 + (16 * j) + k) = d (32 + (16 * j) + k)) ∧
  (∀ p j, p < 16 → j < 24 → qs d' p j = if p = i then 0 else qs d p j) ∧
  (d' 11 = d 11)
theorem qG.E {d d' : Nat → Nat} {i : Nat} (h : qG d d' i) : qE d' := h.1
theorem qG.z {d d' : Nat → Nat} {i : Nat} (h : qG d d' i) : ∀ k, k < 16 → d' (32 + (16 * i) + k) = 0 := h.2.1
theorem qG.T {d d' : Nat → Nat} {i : Nat} (h : qG d d' i) : ∀ j k, j < 16 → k < 16 → j ≠ i → d' (32 + (16 * j) + k) = d (32 + (16 * j) + k) := h.2.2.1
theorem qG.s {d d' : Nat → Nat} {i : Nat} (h : qG d d' i) : ∀ p j, p < 16 → j < 24 → qs d' p j = if p = i then 0 else qs d p j := h.2.2.2.1
theorem qG.c {d d' : Nat → Nat} {i : Nat} (h : qG d d' i) : d' 11 = d 11 := h.2.2.2.2
theorem gi_drop {d} (B : qB d) (M : qM d) (i : Nat) (hi : i < 16) (h1 : 1 ≤ i)
    (hz : ∀ j k, j < 16 → k < 16 → j ≠ i → d (32 + (16 * j)) = 0 → d (32 + (16 * j) + k) = 0)
    (hdr : ∀ j, j < 16 → j ≠ i → d (32 + (16 * j)) = 2 → d (32 + (16 * j) + 10) = 0 ∧ d (32 + (16 * j) + 2) + (256 * (d (32 + (16 * j) + 3))) = 8 * sn d j ∧ 2 ≤ sn d j ∧
      ∀ w, w < 6 → (d (32 + (16 * j) + 4 + w) ≠ 0 ↔ 4 * w < sn d j))
    (hfi : ∀ j, j < 16 → j ≠ i → d (32 + (16 * j)) = 1 → d (32 + (16 * j) + 2) + (256 * (d (32 + (16 * j) + 3))) ≤ 1216) : qG d (gi d i) i := by
  have D := dr_drop B M.c2 i 0 hi (by omega)
  unfold gi
  generalize dr d i 0 = e at D ⊢
  obtain ⟨X, D2, D3⟩ := D
  have ne : ∀ x, ¬ (1 ≤ x ∧ x < 3) → ¬ (32 + (16 * i) ≤ x ∧ x < 32 + (16 * i) + 16) → gb_6 (cz e (32 + (16 * i)) 16) i x = e x := by
    intro x h1 h2
    unfold gb_6
    split
    · rw [tb_ne _ _ _ _ (by omega), cz_ne _ _ _ _ h2]
    · rw [cz_ne _ _ _ _ h2]
  have hz0 : ∀ k, k < 16 → gb_6 (cz e (32 + (16 * i)) 16) i (32 + (16 * i) + k) = 0 := by
    intro k hk
    unfold gb_6
    split
    · rw [tb_ne _ _ _ _ (by omega), cz_in _ _ _ _ (by omega)]
    · rw [cz_in _ _ _ _ (by omega)]
  have t3 : ∀ c, c < 64 → bt (gb_6 (cz e (32 + (16 * i)) 16) i) 3 c = bt e 3 c := fun c hc => bt_ext _ _ _ _ (ne _ (by omega) (by omega))
  have t1 : ∀ c, c < 16 → c ≠ i → bt (gb_6 (cz e (32 + (16 * i)) 16) i) 1 c = bt e 1 c := by
    intro c hc hn
    unfold gb_6
    split
    · rw [bt_tb _ _ _ _ (by omega), if_neg hn, bt_ext _ _ _ _ (cz_ne _ _ _ _ (by omega))]
    · rw [bt_ext _ _ _ _ (cz_ne _ _ _ _ (by omega))]
  have hdk : dk (gb_6 (cz e (32 + (16 * i)) 16) i) := by
    unfold gb_6
    split
    · exact dk_dp _ (dk_cz _ X.B.dk _ _) _ _
    · exact dk_cz _ X.B.dk _ _
  have hT : ∀ j k, j < 16 → k < 16 → j ≠ i → gb_6 (cz e (32 + (16 * i)) 16) i (32 + (16 * j) + k) = d (32 + (16 * j) + k) := by
    intro j k hj hk hn
    rw [ne _ (by omega) (by omega), X.T j k hj hk (by omega)]
  generalize gb_6 (cz e (32 + (16 * i)) 16) i = g at ne hz0 t3 t1 hdk hT ⊢
  have q0 : ∀ v, v ≤ 38 → qb g i v = 0 := by
    intro v hv
    by_cases a : v < 6
    · rw [qb_lo _ _ _ a]
      have := hz0 (4 + v) (by omega)
      rw [← Nat.add_assoc] at this; exact this
    · unfold qb
      have := hz0 10 (by omega)
      rw [if_neg a]
      by_cases b : v = 38
      · rw [if_pos b]; exact this
      · rw [if_neg b, if_pos this]
  have q1 : ∀ j v, j < 16 → v ≤ 38 → j ≠ i → qb g j v = qb d j v := by
    intro j v hj hv hn
    rw [← X.oth j v hj hv hn]
    apply qb_ext e g j v hv
    · intro k hk; exact ne _ (by omega) (by omega)
    · intro h0 o ho
      have := X.B.b1 j 38 hj (by omega)
      rw [qb_ix] at this
      exact ne _ (by omega) (by omega)
  have h0 : ∀ j, j < 16 → j ≠ i → g (32 + (16 * j)) = d (32 + (16 * j)) := fun j hj hn => hT j 0 hj (by omega) hn
  have hi0 : g (32 + (16 * i)) = 0 := hz0 0 (by omega)
  have hsn : ∀ j, j < 16 → j ≠ i → sn g j = sn d j := fun j hj hn => sn_ext d g j (hT j 2 hj (by omega) hn) (hT j 3 hj (by omega) hn)
  refine ⟨⟨⟨hdk, ?_, ?_, ?_, ?_⟩, ⟨?_, ?_, ?_⟩, ⟨?_, ?_⟩⟩, hz0, hT, ?_, ?_⟩
  · intro j v hj hv
    by_cases a : j = i
    · rw [a]; exact Or.inl (q0 v hv)
    · rw [q1 j v hj hv a]; exact B.b1 j v hj hv
  · intro j v j' v' hj hv hj' hv' hn he
    have a : j ≠ i := by intro z; rw [z, q0 v hv] at hn; exact hn rfl
    have a' : j' ≠ i := by intro z; rw [z, q0 v' hv'] at he; exact hn he
    rw [q1 j v hj hv a] at hn he
    rw [q1 j' v' hj' hv' a'] at he
    exact B.b2 j v j' v' hj hv hj' hv' hn he
  · rw [t1 0 (by omega) (by omega), X.t1 0 (by omega)]; exact B.m1
  · intro c hc; rw [t3 c (by omega)]; exact X.B.m3 c hc
  · intro j k hj hk hz'
    by_cases a : j = i
    · rw [a]; exact hz0 k hk
    · rw [h0 j hj a] at hz'
      rw [hT j k hj hk a]; exact hz j k hj hk a hz'
  · intro j hj h2
    by_cases a : j = i
    · rw [a] at h2; omega
    · rw [h0 j hj a] at h2
      rw [hT j 10 hj (by omega) a, hT j 2 hj (by omega) a, hT j 3 hj (by omega) a, hsn j hj a]
      have r := hdr j hj a h2
      refine ⟨r.1, r.2.1, r.2.2.1, fun w hw => ?_⟩
      have := hT j (4 + w) hj (by omega) a
      rw [← Nat.add_assoc] at this
      rw [this]; exact r.2.2.2 w hw
  · intro j hj h2
    by_cases a : j = i
    · rw [a] at h2; omega
    · rw [h0 j hj a] at h2
      rw [hT j 2 hj (by omega) a, hT j 3 hj (by omega) a]
      exact hfi j hj a h2
  · intro j hj hn
    by_cases a : j = i
    · rw [a] at hn; omega
    · rw [h0 j hj a] at hn
      rw [t1 j hj a, X.t1 j hj]; exact M.c1 j hj hn
  · intro j v hj hv hn
    have a : j ≠ i := by intro z; rw [z, q0 v hv] at hn; exact hn rfl
    have := X.c2 j v hj hv
    rw [X.oth j v hj hv a] at this
    rw [q1 j v hj hv a] at hn ⊢
    have b := B.b1 j v hj hv
    rw [t3 _ (by omega)]; exact this hn
  · intro p j hp hj
    by_cases a : p = i
    · rw [if_pos a]
      unfold qs
      rw [a, if_neg (by omega)]
    · rw [if_neg a]
      apply qs_ext d g p j hj
      · intro k hk; exact hT p k hp hk a
      · intro h2 hjs
        have r := hdr p hp a h2
        have h24 := sn_le d p
        have hqb : qb d p (j / 4) = d (32 + (16 * p) + 4 + j / 4) := qb_lo _ _ _ (by omega)
        have hne := (r.2.2.2 (j / 4) (by omega)).mpr (by omega)
        have hb := B.b1 p (j / 4) hp (by omega)
        have n2 := B.b2 p (j / 4) i 38 hp (by omega) hi (by omega) (by omega)
        unfold sa
        rw [← hqb, ne _ (by omega) (by omega)]
        exact X.blk _ _ (by omega) (by omega) (by omega) (by omega)
  · rw [ne _ (by omega) (by omega)]; exact X.c
theorem al_ne (d : Nat → Nat) (i v x : Nat) (h : x ≠ 32 + (16 * i) + 1) : al d i v x = d x := dp_ne _ _ _ _ h
theorem al_at (d : Nat → Nat) (i v : Nat) (hi : i < 16) : al d i v (32 + (16 * i) + 1) = (d (32 + (16 * i) + 1) + v) % 256 := dp_at _ _ _ (by omega)
theorem al_E {d} (E : qE d) (i v : Nat) (hi : i < 16) (hk : d (32 + (16 * i)) ≠ 0) :
    qE (al d i v) ∧ (∀ j u, j < 16 → u ≤ 38 → qb (al d i v) j u = qb d j u) ∧ (∀ p j, p < 16 → j < 24 → qs (al d i v) p j = qs d p j) := by
  have ne : ∀ x, x ≠ 32 + (16 * i) + 1 → al d i v x = d x := fun x h => al_ne d i v x h
  have hdk : dk (al d i v) := dk_dp _ E.B.dk _ _
  generalize al d i v = g at ne hdk ⊢
  have G := row_ne d g E.B E.M hdk (fun x hx => ne _ (by omega)) (fun j k hj hk hn => ne _ (by omega))
  have hsn : ∀ j, sn g j = sn d j := fun j => sn_ext d g j (ne _ (by omega)) (ne _ (by omega))
  have h0 : ∀ j, g (32 + (16 * j)) = d (32 + (16 * j)) := fun j => ne _ (by omega)
  refine ⟨⟨G.1, ⟨?_, ?_, ?_⟩, G.2.1⟩, G.2.2, ?_⟩
  · intro j k hj hk' hz
    rw [h0 j] at hz
    have : j ≠ i := by intro z; rw [z] at hz; exact hk hz
    rw [ne _ (by omega)]; exact E.R.z j k hj hk' hz
  · intro j hj h2
    rw [h0 j] at h2
    have r := E.R.dr j hj h2
    rw [ne _ (by omega), ne (32 + (16 * j) + 2) (by omega), ne (32 + (16 * j) + 3) (by omega), hsn j]
    exact ⟨r.1, r.2.1, r.2.2.1, fun w hw => by rw [ne _ (by omega)]; exact r.2.2.2 w hw⟩
  · intro j hj h2
    rw [h0 j] at h2
    rw [ne (32 + (16 * j) + 2) (by omega), ne (32 + (16 * j) + 3) (by omega)]
    exact E.R.fi j hj h2
  · intro p j hp hj
    unfold qs si
    rw [h0 p, hsn p]
    by_cases a : d (32 + (16 * p)) = 2 ∧ j < sn d p
    · rw [if_pos a, if_pos a]
      have s := E.R.sa E.B p j hp a.1 a.2
      have e : sa g p j = sa d p j := by unfold sa; rw [ne (32 + (16 * p) + 4 + j / 4) (by omega)]
      rw [e, s.1]; exact ne _ (by omega)
    · rw [if_neg a, if_neg a]
theorem slot_w {d d'} (E : qE d) (p j : Nat) (hp : p < 16) (hk : d (32 + (16 * p)) = 2) (hj : j < sn d p) (hd : dk d') (h : ∀ x, ¬ (sa d p j ≤ x ∧ x < sa d p j + 8) → d' x = d x) :
    qE d' ∧ (∀ x, x < 288 → d' x = d x) ∧ (∀ j u, j < 16 → u ≤ 38 → qb d' j u = qb d j u) ∧ (∀ q l, q < 16 → l < 24 → qs d' q l = if q = p ∧ l = j then d' (sa d p j) else qs d q l) := by
  obtain ⟨B, R, M⟩ := E
  have s := R.sa B p j hp hk hj
  have h24 := sn_le d p
  have lo : ∀ x, x < 288 → d' x = d x := fun x hx => h x (by omega)
  have hqb : ∀ i u, i < 16 → u ≤ 38 → qb d' i u = qb d i u := by
    intro i u hi hu
    apply qb_ext d d' i u hu (fun k hk => lo _ (by omega))
    intro h0 o ho
    have := B.b2 p (j / 4) i 38 hp (by omega) hi (by omega) (by omega)
    rw [qb_ix] at this
    exact h _ (by omega)
  have h0 : ∀ i, i < 16 → d' (32 + (16 * i)) = d (32 + (16 * i)) := fun i hi => lo _ (by omega)
  have hsn : ∀ i, i < 16 → sn d' i = sn d i := fun i hi => sn_ext d d' i (lo _ (by omega)) (lo _ (by omega))
  refine ⟨⟨⟨hd, ?_, ?_, ?_, ?_⟩, ⟨?_, ?_, ?_⟩, ⟨?_, ?_⟩⟩, lo, hqb, ?_⟩
  · intro i u hi hu; rw [hqb i u hi hu]; exact B.b1 i u hi hu
  · intro i u i' u' hi hu hi' hu'
    rw [hqb i u hi hu, hqb i' u' hi' hu']; exact B.b2 i u i' u' hi hu hi' hu'
  · rw [bt_ext d _ 1 0 (lo _ (by omega))]; exact B.m1
  · intro c hc; rw [bt_ext d _ 3 c (lo _ (by omega))]; exact B.m3 c hc
  · intro i k hi hk' hz
    rw [h0 i hi] at hz
    rw [lo _ (by omega)]; exact R.z i k hi hk' hz
  · intro i hi h2
    rw [h0 i hi] at h2
    rw [lo _ (by omega), lo (32 + (16 * i) + 2) (by omega), lo (32 + (16 * i) + 3) (by omega), hsn i hi]
    have r := R.dr i hi h2
    exact ⟨r.1, r.2.1, r.2.2.1, fun w hw => by rw [lo _ (by omega)]; exact r.2.2.2 w hw⟩
  · intro i hi h2
    rw [h0 i hi] at h2
    rw [lo (32 + (16 * i) + 2) (by omega), lo (32 + (16 * i) + 3) (by omega)]
    exact R.fi i hi h2
  · intro i hi hn
    rw [h0 i hi] at hn
    rw [bt_ext d _ 1 i (lo _ (by omega))]; exact M.c1 i hi hn
  · intro i u hi hu hn
    rw [hqb i u hi hu] at hn ⊢
    have := B.b1 i u hi hu
    rw [bt_ext d _ 3 _ (lo _ (by omega))]; exact M.c2 i u hi hu hn
  · intro q l hq hl
    have e : sa d' q l = sa d q l := by unfold sa; rw [lo (32 + (16 * q) + 4 + l / 4) (by omega)]
    by_cases a : q = p ∧ l = j
    · rw [if_pos a]
      obtain ⟨a1, a2⟩ := a
      subst a1; subst a2
      unfold qs si
      rw [h0 q hq, hsn q hq, if_pos ⟨hk, hj⟩, e]
    · rw [if_neg a]
      unfold qs si
      rw [h0 q hq, hsn q hq, e]
      by_cases c : d (32 + (16 * q)) = 2 ∧ l < sn d q
      · rw [if_pos c, if_pos c]
        have s' := R.sa B q l hq c.1 c.2
        have n := B.b2 p (j / 4) q (l / 4) hp (by omega) hq (by omega) (by omega)
        apply h
        rw [s.1, s'.1]
        intro z
        have : qb d p (j / 4) = qb d q (l / 4) := by omega
        have := n this
        omega
      · rw [if_neg c, if_neg c]
theorem wn_at (a : Nat) (nm : Nat → Nat) (n : Nat) : ∀ (d : Nat → Nat) (k x : Nat), ¬ (a + 1 + k ≤ x ∧ x < a + 1 + k + n) → wn a nm d k n x = d x := by
  induction n with
  | zero => intro d k x _; rfl
  | succ n ih =>
    intro d k x h
    rw [wn, ih _ _ _ (by omega), dp_ne _ _ _ _ (by omega)]
theorem dk_wn (a : Nat) (nm : Nat → Nat) (n : Nat) : ∀ (d : Nat → Nat) (k : Nat), dk d → dk (wn a nm d k n) := by
  induction n with
  | zero => intro d k h; exact h
  | succ n ih => intro d k h; rw [wn]; exact ih _ _ (dk_dp _ h _ _)
theorem fl_E {d} (E : qE d) (p j v : Nat) (nm : Nat → Nat) (hp : p < 16) (hk : d (32 + (16 * p)) = 2) (hj : j < sn d p) (hv : v < 16) (hkv : d (32 + (16 * v)) ≠ 0) :
    qE (fl d p j v nm) ∧ (∀ x, x < 288 → x ≠ 32 + (16 * v) + 1 → fl d p j v nm x = d x) ∧ fl d p j v nm (32 + (16 * v) + 1) = (d (32 + (16 * v) + 1) + 1) % 256 ∧
    (∀ i u, i < 16 → u ≤ 38 → qb (fl d p j v nm) i u = qb d i u) ∧ (∀ q l, q < 16 → l < 24 → qs (fl d p j v nm) q l = if q = p ∧ l = j then v else qs d q l) := by
  have s := E.R.sa E.B p j hp hk hj
  have W := slot_w (d' := wn (sa d p j) nm (dp d (sa d p j) v) 0 7) E p j hp hk hj (dk_wn _ _ _ _ _ (dk_dp _ E.B.dk _ _))
    (fun x hx => by rw [wn_at _ _ _ _ _ _ (by omega), dp_ne _ _ _ _ (by omega)])
  have hat : wn (sa d p j) nm (dp d (sa d p j) v) 0 7 (sa d p j) = v := by
    rw [wn_at _ _ _ _ _ _ (by omega), dp_at _ _ _ (by omega)]; omega
  unfold fl
  generalize wn (sa d p j) nm (dp d (sa d p j) v) 0 7 = g at W hat ⊢
  have A := al_E W.1 v 1 hv (by rw [W.2.1 _ (by omega)]; exact hkv)
  refine ⟨A.1, ?_, ?_, ?_, ?_⟩
  · intro x hx hn; rw [al_ne _ _ _ _ hn, W.2.1 x hx]
  · rw [al_at _ _ _ hv, W.2.1 _ (by omega)]
  · intro i u hi hu; rw [A.2.1 i u hi hu, W.2.2.1 i u hi hu]
  · intro q l hq hl; rw [A.2.2 q l hq hl, W.2.2.2 q l hq hl, hat]
theorem fr_E {d} (E : qE d) (p j v : Nat) (hp : p < 16) (hk : d (32 + (16 * p)) = 2) (hj : j < sn d p) (hs : qs d p j = v) (hv : v < 16) (hkv : d (32 + (16 * v)) ≠ 0) :
    qE (fr_ d p j) ∧ (∀ x, x < 288 → x ≠ 32 + (16 * v) + 1 → fr_ d p j x = d x) ∧ fr_ d p j (32 + (16 * v) + 1) = (d (32 + (16 * v) + 1) + 4294967295) % 256 ∧
    (∀ i u, i < 16 → u ≤ 38 → qb (fr_ d p j) i u = qb d i u) ∧ (∀ q l, q < 16 → l < 24 → qs (fr_ d p j) q l = if q = p ∧ l = j then 0 else qs d q l) := by
  have hsi : si d p j = v := by unfold qs at hs; rw [if_pos ⟨hk, hj⟩] at hs; exact hs
  have s := E.R.sa E.B p j hp hk hj
  have A := al_E E v 4294967295 hv hkv
  have ane : ∀ x, x ≠ 32 + (16 * v) + 1 → al d v 4294967295 x = d x := fun x h => al_ne _ _ _ _ h
  have aat := al_at d v 4294967295 hv
  unfold fr_
  rw [hsi]
  generalize al d v 4294967295 = g at A ane aat ⊢
  have h24 := sn_le d p
  have e : sa g p j = sa d p j := by unfold sa; rw [ane _ (by omega)]
  have hsn : sn g p = sn d p := sn_ext d g p (ane _ (by omega)) (ane _ (by omega))
  have W := slot_w (d' := cz g (sa d p j) 8) A.1 p j hp (by rw [ane _ (by omega)]; exact hk) (by rw [hsn]; exact hj) (dk_cz _ A.1.B.dk _ _)
    (fun x hx => by rw [e] at hx; exact cz_ne _ _ _ _ hx)
  rw [e] at W
  refine ⟨W.1, ?_, ?_, ?_, ?_⟩
  · intro x hx hn; rw [W.2.1 x hx, ane x hn]
  · rw [W.2.1 _ (by omega), aat]
  · intro i u hi hu; rw [W.2.2.1 i u hi hu, A.2.1 i u hi hu]
  · intro q l hq hl; rw [W.2.2.2 q l hq hl, A.2.2 q l hq hl, cz_in _ _ _ _ (by omega)]
theorem pu_E {d} (E : qE d) (p o v : Nat) (hp : p < 16) (hk : d (32 + (16 * p)) = 2) (hs : qs d p 1 = o) (ho : o < 16) (hko : d (32 + (16 * o)) ≠ 0) (hv : v < 16) (hkv : d (32 + (16 * v)) ≠ 0) :
    qE (pu d p v) ∧ (∀ x, x < 288 → x ≠ 32 + (16 * o) + 1 → x ≠ 32 + (16 * v) + 1 → pu d p v x = d x) ∧
    (o ≠ v → pu d p v (32 + (16 * o) + 1) = (d (32 + (16 * o) + 1) + 4294967295) % 256 ∧ pu d p v (32 + (16 * v) + 1) = (d (32 + (16 * v) + 1) + 1) % 256) ∧
    (o = v → pu d p v (32 + (16 * v) + 1) = d (32 + (16 * v) + 1)) ∧
    (∀ j u, j < 16 → u ≤ 38 → qb (pu d p v) j u = qb d j u) ∧ (∀ q l, q < 16 → l < 24 → qs (pu d p v) q l = if q = p ∧ l = 1 then v else qs d q l) := by
  have r := E.R.dr p hp hk
  have hj : 1 < sn d p := by omega
  have hsi : si d p 1 = o := by unfold qs at hs; rw [if_pos ⟨hk, hj⟩] at hs; exact hs
  have s := E.R.sa E.B p 1 hp hk hj
  have A := al_E E o 4294967295 ho hko
  have ane : ∀ x, x ≠ 32 + (16 * o) + 1 → al d o 4294967295 x = d x := fun x h => al_ne _ _ _ _ h
  have aat := al_at d o 4294967295 ho
  have hl := E.B.dk.1 (32 + (16 * v) + 1)
  unfold pu
  rw [hsi]
  generalize al d o 4294967295 = g at A ane aat ⊢
  have e : sa g p 1 = sa d p 1 := by unfold sa; rw [ane _ (by omega)]
  have hsn : sn g p = sn d p := sn_ext d g p (ane _ (by omega)) (ane _ (by omega))
  have W := slot_w (d' := dp g (sa d p 1) v) A.1 p 1 hp (by rw [ane _ (by omega)]; exact hk) (by rw [hsn]; exact hj) (dk_dp _ A.1.B.dk _ _)
    (fun x hx => by rw [e] at hx; exact dp_ne _ _ _ _ (by omega))
  rw [e] at W
  have wat : dp g (sa d p 1) v (sa d p 1) = v := by rw [dp_at _ _ _ (by omega)]; omega
  generalize dp g (sa d p 1) v = f at W wat ⊢
  have C := al_E W.1 v 1 hv (by rw [W.2.1 _ (by omega), ane _ (by omega)]; exact hkv)
  have cat := al_at f v 1 hv
  refine ⟨C.1, ?_, ?_, ?_, ?_, ?_⟩
  · intro x hx hn hn'; rw [al_ne _ _ _ _ hn', W.2.1 x hx, ane x hn]
  · intro hn
    refine ⟨?_, ?_⟩
    · rw [al_ne _ _ _ _ (by omega), W.2.1 _ (by omega), aat]
    · rw [cat, W.2.1 _ (by omega), ane _ (by omega)]
  · intro hn
    subst hn
    rw [cat, W.2.1 _ (by omega), aat]; omega
  · intro i u hi hu; rw [C.2.1 i u hi hu, W.2.2.1 i u hi hu, A.2.1 i u hi hu]
  · intro q l hq hl'; rw [C.2.2 q l hq hl', W.2.2.2 q l hq hl', A.2.2 q l hq hl', wat]
theorem fs_spec (d : Nat → Nat) (i e n : Nat) : ∀ j, (fs d i e j n = e ∧ ∀ l, j ≤ l → l < j + n → si d i l ≠ 0) ∨ (j ≤ fs d i e j n ∧ fs d i e j n < j + n ∧ si d i (fs d i e j n) = 0) := by
  induction n with
  | zero => intro j; exact Or.inl ⟨rfl, fun l h1 h2 => by omega⟩
  | succ n ih =>
    intro j
    rw [fs]
    by_cases a : si d i j = 0
    · rw [if_pos a]; exact Or.inr ⟨by omega, by omega, a⟩
    · rw [if_neg a]
      rcases ih (j + 1) with h | h
      · refine Or.inl ⟨h.1, fun l h1 h2 => ?_⟩
        by_cases c : l = j
        · rw [c]; exact a
        · exact h.2 l (by omega) (by omega)
      · exact Or.inr ⟨by omega, by omega, h.2.2⟩
theorem nsl_spec (d : Nat → Nat) (p : Nat) (h2 : 2 ≤ sn d p) (hn : nsl d p ≠ 0) : 2 ≤ nsl d p ∧ nsl d p < 24 ∧ nsl d p ≤ sn d p ∧ qs d p (nsl d p) = 0 := by
  have h24 := sn_le d p
  have F := fs_spec d p (if sn d p < 24 then sn d p else 0) (sn d p - 2) 2
  unfold nsl at hn ⊢
  generalize fs d p (if sn d p < 24 then sn d p else 0) 2 (sn d p - 2) = f at F hn ⊢
  rcases F with h | h
  · have e := h.1
    by_cases c : sn d p < 24
    · rw [if_pos c] at e
      subst e
      exact ⟨by omega, by omega, by omega, by unfold qs; rw [if_neg (by omega)]⟩
    · rw [if_neg c] at e; exact absurd e hn
  · refine ⟨by omega, by omega, by omega, ?_⟩
    unfold qs
    split
    · exact h.2.2
    · rfl
theorem fs_ext (d d' : Nat → Nat) (i e n : Nat) : ∀ j, (∀ l, j ≤ l → l < j + n → si d' i l = si d i l) → fs d' i e j n = fs d i e j n := by
  induction n with
  | zero => intro j _; rfl
  | succ n ih =>
    intro j h
    rw [fs, fs, h j (by omega) (by omega), ih (j + 1) (fun l h1 h2 => h l (by omega) (by omega))]
theorem nsl_ext (d d' : Nat → Nat) (p : Nat) (hs : sn d' p = sn d p) (h : ∀ l, 2 ≤ l → l < sn d p → si d' p l = si d p l) : nsl d' p = nsl d p := by
  unfold nsl
  rw [hs]
  exact fs_ext d d' p _ _ 2 (fun l h1 h2 => h l h1 (by omega))
