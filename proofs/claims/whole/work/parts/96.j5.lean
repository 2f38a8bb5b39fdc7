def jV (L : Nat) (xs : Nat → Int32) (kc kr lc lr : Nat) (a1 a2 : List Value) (A B : gT) (U V : gU) (S : gS) (d : Nat → Nat) (m : Nat) (N : Nat → Nat) (R : gS) (t : Nat) (g : Nat → Int64) (es : mj_H) (k : Nat) : Prop :=
  ∃ (v : Int32) (A' B' : gT) (U' V' : gU) (S' : gS) (d' : Nat → Nat) (m' : Nat) (N' : Nat → Nat) (R' : gS) (t' : Nat),
    eE mm_P 1074 (12984 + (14 + L)) 12 lc kc a1 (Wd (L, xs, A, B, U, V, S, d) d A B m N R t (oC g :: es)) (.inl (some (.int v)), Wd (L, xs, A', B', U', V', S', d') d A B m N R t (oC g :: es)) ∧
    eE mm_P 1074 (12984 + (14 + L)) 12 lr kr a2 (Wd (L, xs, A', B', U', V', S', d') d A B m N R t (oC g :: es)) (.inl (some (.int v)), Wd (L, xs, A', B', U', V', S', d') d' A' B' m' N' R' t' (oC g :: es)) ∧
    jI A' B' U' V' S' d' N' R' es (k + 1)
theorem jV_K {L : Nat} {xs : Nat → Int32} {A B : gT} {U V : gU} {S : gS} {d : Nat → Nat} {m : Nat} {N : Nat → Nat} {R : gS} {t : Nat} {g : Nat → Int64} {es : mj_H} {k : Nat} {kc kr lc lr m' : Nat} {a1 a2 : List Value} (A' B' : gT) (U' V' : gU) (S' : gS) (d' : Nat → Nat) {N' : Nat → Nat} {R' : gS} {v : Int32} {t' : Nat}
    (h1 : eE mm_P 1074 (12984 + (14 + L)) 12 lc kc a1 (Wd (L, xs, A, B, U, V, S, d) d A B m N R t (oC g :: es)) (.inl (some (.int v)), Wd (L, xs, A', B', U', V', S', d') d A B m N R t (oC g :: es)))
    (h2 : eE mm_P 1074 (12984 + (14 + L)) 12 lr kr a2 (Wd (L, xs, A', B', U', V', S', d') d A B m N R t (oC g :: es)) (.inl (some (.int v)), Wd (L, xs, A', B', U', V', S', d') d' A' B' m' N' R' t' (oC g :: es)))
    (I : jI A' B' U' V' S' d' N' R' es (k + 1)) : jV L xs kc kr lc lr a1 a2 A B U V S d m N R t g es k :=
  ⟨v, A', B', U', V', S', d', m', N', R', t', h1, h2, I⟩
theorem jV_S {L : Nat} {xs : Nat → Int32} {A B : gT} {U V : gU} {S : gS} {d : Nat → Nat} {m : Nat} {N : Nat → Nat} {R : gS} {t : Nat} {g : Nat → Int64} {es : mj_H} {k : Nat} {kc kr lc lr : Nat} {a1 a2 : List Value} {v : Int32} {t' : Nat}
    (I : jI A B U V S d N R es k)
    (h1 : eE mm_P 1074 (12984 + (14 + L)) 12 lc kc a1 (Wd (L, xs, A, B, U, V, S, d) d A B m N R t (oC g :: es)) (.inl (some (.int v)), Wd (L, xs, A, B, U, V, S, d) d A B m N R t (oC g :: es)))
    (h2 : eE mm_P 1074 (12984 + (14 + L)) 12 lr kr a2 (Wd (L, xs, A, B, U, V, S, d) d A B m N R t (oC g :: es)) (.inl (some (.int v)), Wd (L, xs, A, B, U, V, S, d) d A B m N R t' (oC g :: es)))
    : jV L xs kc kr lc lr a1 a2 A B U V S d m N R t g es k :=
  ⟨v, A, B, U, V, S, d, m, N, R, t', h1, h2, I.step⟩
theorem jV_D {L : Nat} {xs : Nat → Int32} {A B : gT} {U V : gU} {S : gS} {d : Nat → Nat} {m : Nat} {N : Nat → Nat} {R : gS} {t : Nat} {g : Nat → Int64} {es : mj_H} {k : Nat} {kc kr lc lr : Nat} {a1 a2 : List Value} {v : Int32} {t' : Nat} {d' : Nat → Nat}
    (I : jI A B U V S d N R es k) (Q' : qV d')
    (h1 : eE mm_P 1074 (12984 + (14 + L)) 12 lc kc a1 (Wd (L, xs, A, B, U, V, S, d) d A B m N R t (oC g :: es)) (.inl (some (.int v)), Wd (L, xs, A, B, U, V, S, d') d A B m N R t (oC g :: es)))
    (h2 : eE mm_P 1074 (12984 + (14 + L)) 12 lr kr a2 (Wd (L, xs, A, B, U, V, S, d') d A B m N R t (oC g :: es)) (.inl (some (.int v)), Wd (L, xs, A, B, U, V, S, d') d' A B m N R t' (oC g :: es)))
    : jV L xs kc kr lc lr a1 a2 A B U V S d m N R t g es k := by
  obtain ⟨a, b, c, e, f, h, i, j, l, n⟩ := I.step
  exact ⟨v, A, B, U, V, S, d', m, N, R, t', h1, h2, Q', b, c, e, f, h, i, j, l, n⟩
theorem i2c_nat (x : Int32) : ∃ c, c < 65536 ∧ (x.toUInt32 % 65536).toInt32 = nI c := by
  refine ⟨(x.toUInt32 % 65536).toNat, ?_, ?_⟩
  · rw [UInt32.toNat_mod]
    exact Nat.mod_lt _ (by decide)
  · apply Int32.toBitVec_inj.mp
    apply BitVec.eq_of_toNat_eq
    show ((x.toUInt32 % 65536).toNat) = (BitVec.ofNat 32 ((x.toUInt32 % 65536).toNat)).toNat
    rw [BitVec.toNat_ofNat]
    exact (Nat.mod_eq_of_lt (x.toUInt32 % 65536).toNat_lt).symm
theorem bc_lt (s : Nat → Nat) (hs : ∀ k, s k < 65536) (n : Nat) : ∀ (t : Nat → Nat) (i : Nat), (∀ k, t k < 65536) → ∀ k, bc s t i n k < 65536 := by
  induction n with
  | zero => intro t i h; exact h
  | succ n ih =>
    intro t i h
    rw [bc]
    refine ih _ _ (fun k => ?_)
    unfold ut
    split
    · exact hs _
    · exact h k
theorem sv_sT (d : Nat → Nat) (n : Nat) : ∀ (k : Nat) (S : gS), sv S → sv (sT d S k n) := by
  induction n with
  | zero => intro k S h; exact h
  | succ n ih =>
    intro k S h
    rw [sT]
    split
    · exact ih _ _ (sv_sG d _ h)
    · exact h
theorem sv_sW (d : Nat → Nat) {S : gS} (h : sv S) : sv (sW d S) := sv_sT d 16 0 _ (sv_sI (S := fg S) ⟨h.1, Nat.zero_le _⟩ (by decide))
theorem tN_le (d : Nat → Nat) (S : gS) (x i : Nat) : (tN d S x).2.2.1 i ≤ S.2.2.1 i + 1 := by
  have h : (tN d S x).2.2.1 = ut S.2.2.1 x (S.2.2.1 x + 1) := by
    unfold tN
    split <;> rfl
  rw [h]
  unfold ut
  split
  · next z => rw [z]; exact Nat.le_refl _
  · omega
theorem tJ_le (d : Nat → Nat) (S : gS) (x i : Nat) : (tJ d S x).2.2.1 i ≤ S.2.2.1 i + 1 := by
  have h := tN_le d S x i
  unfold tJ
  split
  · omega
  · split
    · exact h
    · split
      · exact h
      · exact h
theorem tS_le (d : Nat → Nat) (p i n : Nat) : ∀ (S : gS) (j : Nat), (tS d p S j n).2.2.1 i ≤ S.2.2.1 i + n := by
  induction n with
  | zero => intro S j; exact Nat.le_refl _
  | succ n ih =>
    intro S j
    rw [tS]
    have a := ih (tJ d S (si d p j)) (j + 1)
    have b := tJ_le d S (si d p j) i
    omega
theorem tW_le (d : Nat → Nat) (i n : Nat) : ∀ S : gS, (tW d n S).2.2.1 i ≤ S.2.2.1 i + 24 * n := by
  induction n with
  | zero => intro S; exact Nat.le_refl _
  | succ n ih =>
    intro S
    rw [tW]
    split
    · omega
    · have a := ih (tP d S)
      have b := tS_le d (S.2.2.2.1 (S.2.2.2.2 - 1)) i (sn d (S.2.2.2.1 (S.2.2.2.2 - 1))) (to S) 0
      have c := sn_le d (S.2.2.2.1 (S.2.2.2.2 - 1))
      have e : (to S).2.2.1 i = S.2.2.1 i := rfl
      have f : (tP d S).2.2.1 i = (tS d (S.2.2.2.1 (S.2.2.2.2 - 1)) (to S) 0 (sn d (S.2.2.2.1 (S.2.2.2.2 - 1)))).2.2.1 i := rfl
      omega
theorem tA_le (d : Nat → Nat) (S : gS) (i : Nat) : (tA d S).2.2.1 i ≤ S.2.2.1 i + 400 := by
  have a := tW_le d i 16 (tR d S)
  have b : (tR d S).2.2.1 i ≤ (tN d (tz S) 1).2.2.1 i := by
    show ut (tN d (tz S) 1).2.2.1 1 0 i ≤ _
    unfold ut
    split <;> omega
  have c := tN_le d (tz S) 1 i
  have e : (tz S).2.2.1 i ≤ S.2.2.1 i := by
    show zn S.2.2.1 0 16 i ≤ _
    rw [zn_at]
    split <;> omega
  show (tW d 16 (tR d S)).2.2.1 i ≤ _
  omega
theorem j_type {L : Nat} {xs : Nat → Int32} {A B : gT} {U V : gU} {S : gS} {d : Nat → Nat} {m : Nat} {N : Nat → Nat} {R : gS} {t : Nat} {g : Nat → Int64} {es : mj_H} {k : Nat} {x : Int32} (I : jI A B U V S d N R es k) (hk : k < 512) : jV L xs 30 120 467 467 [.ref 3, .int ((x.toUInt32 % 65536).toInt32)] [.ref 23, .int ((x.toUInt32 % 65536).toInt32)] A B U V S d m N R t g es k := by
  have I0 := I
  obtain ⟨Q, ⟨ht, hl⟩, ⟨ht2, hl2⟩, hn, hn2, hS, hN, hRb, hes, hsl⟩ := I0
  have hd : dk d := Q.B.dk
  obtain ⟨c, hc, e⟩ := i2c_nat x
  rw [e]
  by_cases h : A.2 < 40
  · exact jV_K (ut A.1 A.2 c, A.2 + 1) B U V S d (c_type (cm := 1074) (sm := (12984 + (14 + L))) (L := L) (xs := xs) (A := A) (B := B) (U := U) (V := V) (S := S) (d := d) (by decide) h hc) (m_type (cm := 1074) (sm := (12984 + (14 + L))) (C := (L, xs, (ut A.1 A.2 c, A.2 + 1), B, U, V, S, d)) (e := d) (P := A) (Q := B) (m := m) (N := N) (R := R) (t := t) (Z := oC g :: es) hc h) (jI.step ⟨Q, ⟨fun k => ut_lt ht hc k, by show A.2 + 1 ≤ 40; omega⟩, ⟨ht2, hl2⟩, hn, hn2, hS, hN, hRb, hes, hsl⟩)
  · exact jV_S I (c_typeF (cm := 1074) (sm := (12984 + (14 + L))) (L := L) (xs := xs) (A := A) (B := B) (U := U) (V := V) (S := S) (d := d) (by decide) (by omega) (by omega)) (m_typeF (cm := 1074) (sm := (12984 + (14 + L))) (C := (L, xs, A, B, U, V, S, d)) (e := d) (P := A) (Q := B) (m := m) (N := N) (R := R) (t := t) (Z := oC g :: es) (by omega))
theorem j_keep {L : Nat} {xs : Nat → Int32} {A B : gT} {U V : gU} {S : gS} {d : Nat → Nat} {m : Nat} {N : Nat → Nat} {R : gS} {t : Nat} {g : Nat → Int64} {es : mj_H} {k : Nat} (I : jI A B U V S d N R es k) (hk : k < 512) : jV L xs 32 121 468 467 [.ref 3] [.ref 23] A B U V S d m N R t g es k := by
  have I0 := I
  obtain ⟨Q, ⟨ht, hl⟩, ⟨ht2, hl2⟩, hn, hn2, hS, hN, hRb, hes, hsl⟩ := I0
  have hd : dk d := Q.B.dk
  exact jV_K (A.1, 0) (bc A.1 B.1 0 A.2, A.2) U V S d (c_keep (cm := 1074) (sm := (12984 + (14 + L))) (L := L) (xs := xs) (A := A) (B := B) (U := U) (V := V) (S := S) (d := d) (by decide) ht hl) (m_keep (cm := 1074) (sm := (12984 + (14 + L))) (C := (L, xs, (A.1, 0), (bc A.1 B.1 0 A.2, A.2), U, V, S, d)) (e := d) (P := A) (Q := B) (m := m) (N := N) (R := R) (t := t) (Z := oC g :: es) ht hl) (jI.step ⟨Q, ⟨ht, Nat.zero_le _⟩, ⟨bc_lt _ ht _ _ _ ht2, hl⟩, hn, hn2, hS, hN, hRb, hes, hsl⟩)
theorem j_spoil {L : Nat} {xs : Nat → Int32} {A B : gT} {U V : gU} {S : gS} {d : Nat → Nat} {m : Nat} {N : Nat → Nat} {R : gS} {t : Nat} {g : Nat → Int64} {es : mj_H} {k : Nat} {y x v : Int32} (I : jI A B U V S d N R es k) (hk : k < 512) : jV L xs 36 158 464 462 [.ref 3, .int y, .int x, .int v] [.ref 23, .int y, .int x, .int v] A B U V S d m N R t g es k := by
  have I0 := I
  obtain ⟨Q, ⟨ht, hl⟩, ⟨ht2, hl2⟩, hn, hn2, hS, hN, hRb, hes, hsl⟩ := I0
  have hd : dk d := Q.B.dk
  by_cases y0 : y = 0
  · subst y0
    rcases i32_cases x with hx | ⟨n, hn3, rfl⟩
    · exact jV_S I (c_spoil0M (cm := 1074) (sm := (12984 + (14 + L))) (L := L) (xs := xs) (A := A) (B := B) (U := U) (V := V) (S := S) (d := d) (by decide) hx) (m_spoil0M (cm := 1074) (sm := (12984 + (14 + L))) (C := (L, xs, A, B, U, V, S, d)) (e := d) (P := A) (Q := B) (m := m) (N := N) (R := R) (t := t) (Z := oC g :: es) (by decide) hx)
    by_cases h : 1 ≤ n ∧ n < 16
    · exact jV_D I (Q.spoil1 n h.1 h.2) (c_spoil0 (cm := 1074) (sm := (12984 + (14 + L))) (L := L) (xs := xs) (A := A) (B := B) (U := U) (V := V) (S := S) (d := d) (by decide) hd h) (m_spoil0 (cm := 1074) (sm := (12984 + (14 + L))) (C := (L, xs, A, B, U, V, S, dp (tb d 1 n) 11 0)) (e := d) (P := A) (Q := B) (m := m) (N := N) (R := R) (t := t) (Z := oC g :: es) (by decide) hd h)
    · exact jV_S I (c_spoil0N (cm := 1074) (sm := (12984 + (14 + L))) (L := L) (xs := xs) (A := A) (B := B) (U := U) (V := V) (S := S) (d := d) (by decide) hn3 h) (m_spoil0N (cm := 1074) (sm := (12984 + (14 + L))) (C := (L, xs, A, B, U, V, S, d)) (e := d) (P := A) (Q := B) (m := m) (N := N) (R := R) (t := t) (Z := oC g :: es) (by decide) hn3 h)
  by_cases y1 : y = nI 1
  · subst y1
    rcases i32_cases x with hx | ⟨n, hn3, rfl⟩
    · exact jV_S I (c_spoil1M (cm := 1074) (sm := (12984 + (14 + L))) (L := L) (xs := xs) (A := A) (B := B) (U := U) (V := V) (S := S) (d := d) (by decide) hx) (m_spoil1M (cm := 1074) (sm := (12984 + (14 + L))) (C := (L, xs, A, B, U, V, S, d)) (e := d) (P := A) (Q := B) (m := m) (N := N) (R := R) (t := t) (Z := oC g :: es) (by decide) hx)
    by_cases h : 9 ≤ n ∧ n < 64
    · exact jV_D I (Q.spoil3 n h.1 h.2) (c_spoil1 (cm := 1074) (sm := (12984 + (14 + L))) (L := L) (xs := xs) (A := A) (B := B) (U := U) (V := V) (S := S) (d := d) (by decide) hd h) (m_spoil1 (cm := 1074) (sm := (12984 + (14 + L))) (C := (L, xs, A, B, U, V, S, dp (tb d 3 n) 11 0)) (e := d) (P := A) (Q := B) (m := m) (N := N) (R := R) (t := t) (Z := oC g :: es) (by decide) hd h)
    · exact jV_S I (c_spoil1N (cm := 1074) (sm := (12984 + (14 + L))) (L := L) (xs := xs) (A := A) (B := B) (U := U) (V := V) (S := S) (d := d) (by decide) hn3 h) (m_spoil1N (cm := 1074) (sm := (12984 + (14 + L))) (C := (L, xs, A, B, U, V, S, d)) (e := d) (P := A) (Q := B) (m := m) (N := N) (R := R) (t := t) (Z := oC g :: es) (by decide) hn3 h)
  by_cases y2 : y = nI 2
  · subst y2
    rcases i32_cases x with hx | ⟨n, hn3, rfl⟩
    · exact jV_S I (c_spoil2M (cm := 1074) (sm := (12984 + (14 + L))) (L := L) (xs := xs) (A := A) (B := B) (U := U) (V := V) (S := S) (d := d) (by decide) hx) (m_spoil2M (cm := 1074) (sm := (12984 + (14 + L))) (C := (L, xs, A, B, U, V, S, d)) (e := d) (P := A) (Q := B) (m := m) (N := N) (R := R) (t := t) (Z := oC g :: es) (by decide) hx)
    by_cases h : 1 ≤ n ∧ n < 16
    case neg => exact jV_S I (c_spoil2N0 (cm := 1074) (sm := (12984 + (14 + L))) (L := L) (xs := xs) (A := A) (B := B) (U := U) (V := V) (S := S) (d := d) (by decide) hn3 h) (m_spoil2N0 (cm := 1074) (sm := (12984 + (14 + L))) (C := (L, xs, A, B, U, V, S, d)) (e := d) (P := A) (Q := B) (m := m) (N := N) (R := R) (t := t) (Z := oC g :: es) (by decide) hn3 h)
    by_cases h1 : d (32 + (16 * n)) = 0
    · exact jV_S I (c_spoil2N1 (cm := 1074) (sm := (12984 + (14 + L))) (L := L) (xs := xs) (A := A) (B := B) (U := U) (V := V) (S := S) (d := d) (by decide) hd h h1) (m_spoil2N1 (cm := 1074) (sm := (12984 + (14 + L))) (C := (L, xs, A, B, U, V, S, d)) (e := d) (P := A) (Q := B) (m := m) (N := N) (R := R) (t := t) (Z := oC g :: es) (by decide) hd h h1)
    rcases i32_cases v with hv | ⟨u, hu3, rfl⟩
    · exact jV_S I (c_spoil2N2 (cm := 1074) (sm := (12984 + (14 + L))) (L := L) (xs := xs) (A := A) (B := B) (U := U) (V := V) (S := S) (d := d) (by decide) hd h h1 hv) (m_spoil2N2 (cm := 1074) (sm := (12984 + (14 + L))) (C := (L, xs, A, B, U, V, S, d)) (e := d) (P := A) (Q := B) (m := m) (N := N) (R := R) (t := t) (Z := oC g :: es) (by decide) hd h h1 hv)
    by_cases h2 : 255 < u
    · exact jV_S I (c_spoil2N3 (cm := 1074) (sm := (12984 + (14 + L))) (L := L) (xs := xs) (A := A) (B := B) (U := U) (V := V) (S := S) (d := d) (by decide) hd h h1 hu3 h2) (m_spoil2N3 (cm := 1074) (sm := (12984 + (14 + L))) (C := (L, xs, A, B, U, V, S, d)) (e := d) (P := A) (Q := B) (m := m) (N := N) (R := R) (t := t) (Z := oC g :: es) (by decide) hd h h1 hu3 h2)
    · exact jV_D I (Q.spoil2 n u h.2 h1) (c_spoil2 (cm := 1074) (sm := (12984 + (14 + L))) (L := L) (xs := xs) (A := A) (B := B) (U := U) (V := V) (S := S) (d := d) (by decide) hd h h1 (by omega)) (m_spoil2 (cm := 1074) (sm := (12984 + (14 + L))) (C := (L, xs, A, B, U, V, S, dp (dp d (32 + (16 * n) + 1) u) 11 0)) (e := d) (P := A) (Q := B) (m := m) (N := N) (R := R) (t := t) (Z := oC g :: es) (by decide) hd h h1 (by omega))
  exact jV_S I (c_spoil3 (cm := 1074) (sm := (12984 + (14 + L))) (L := L) (xs := xs) (A := A) (B := B) (U := U) (V := V) (S := S) (d := d) (by decide) y0 y1 y2) (m_spoil3 (cm := 1074) (sm := (12984 + (14 + L))) (C := (L, xs, A, B, U, V, S, d)) (e := d) (P := A) (Q := B) (m := m) (N := N) (R := R) (t := t) (Z := oC g :: es) (by decide) y0 y1 y2)
theorem j_byteAt {L : Nat} {xs : Nat → Int32} {A B : gT} {U V : gU} {S : gS} {d : Nat → Nat} {m : Nat} {N : Nat → Nat} {R : gS} {t : Nat} {g : Nat → Int64} {es : mj_H} {k : Nat} {x : Int32} (I : jI A B U V S d N R es k) (hk : k < 512) : jV L xs 60 162 467 467 [.ref 3, .int x] [.ref 23, .int x] A B U V S d m N R t g es k := by
  have I0 := I
  obtain ⟨Q, ⟨ht, hl⟩, ⟨ht2, hl2⟩, hn, hn2, hS, hN, hRb, hes, hsl⟩ := I0
  have hd : dk d := Q.B.dk
  rcases i32_cases x with hx | ⟨n, hn3, rfl⟩
  · exact jV_S I (c_byteAtM (cm := 1074) (sm := (12984 + (14 + L))) (L := L) (xs := xs) (A := A) (B := B) (U := U) (V := V) (S := S) (d := d) (by decide) hx) (m_byteAtM (cm := 1074) (sm := (12984 + (14 + L))) (C := (L, xs, A, B, U, V, S, d)) (e := d) (P := A) (Q := B) (m := m) (N := N) (R := R) (t := t) (Z := oC g :: es) hx)
  by_cases h : n < 2048
  · exact jV_S I (c_byteAt0 (cm := 1074) (sm := (12984 + (14 + L))) (L := L) (xs := xs) (A := A) (B := B) (U := U) (V := V) (S := S) (d := d) (by decide) hd h) (m_byteAt0 (cm := 1074) (sm := (12984 + (14 + L))) (C := (L, xs, A, B, U, V, S, d)) (e := d) (P := A) (Q := B) (m := m) (N := N) (R := R) (t := t) (Z := oC g :: es) h)
  · exact jV_S I (c_byteAt1 (cm := 1074) (sm := (12984 + (14 + L))) (L := L) (xs := xs) (A := A) (B := B) (U := U) (V := V) (S := S) (d := d) (by decide) hn3 (by omega)) (m_byteAt1 (cm := 1074) (sm := (12984 + (14 + L))) (C := (L, xs, A, B, U, V, S, d)) (e := d) (P := A) (Q := B) (m := m) (N := N) (R := R) (t := t) (Z := oC g :: es) hn3 (by omega))
theorem j_count {L : Nat} {xs : Nat → Int32} {A B : gT} {U V : gU} {S : gS} {d : Nat → Nat} {m : Nat} {N : Nat → Nat} {R : gS} {t : Nat} {g : Nat → Int64} {es : mj_H} {k : Nat} {x : Int32} (I : jI A B U V S d N R es k) (hk : k < 512) : jV L xs 61 163 467 467 [.ref 3, .int x] [.ref 23, .int x] A B U V S d m N R t g es k := by
  have I0 := I
  obtain ⟨Q, ⟨ht, hl⟩, ⟨ht2, hl2⟩, hn, hn2, hS, hN, hRb, hes, hsl⟩ := I0
  have hd : dk d := Q.B.dk
  by_cases y0 : x = 0
  · subst y0
    have r := fun fr => m_count0 (cm := 1074) (sm := (12984 + (14 + L))) (C := (L, xs, A, B, U, V, S, d)) (e := d) (P := A) (Q := B) (m := m) (N := N) (R := R) (t := t) (Z := oC g :: es) (fr := fr) (lo := 467) (by decide) hd
    rw [cf_1 Q.B.m1] at r
    exact jV_S I (c_count0 (cm := 1074) (sm := (12984 + (14 + L))) (L := L) (xs := xs) (A := A) (B := B) (U := U) (V := V) (S := S) (d := d) (by decide) hd) (r 9)
  by_cases y1 : x = nI 1
  · subst y1
    have r := fun fr => m_count1 (cm := 1074) (sm := (12984 + (14 + L))) (C := (L, xs, A, B, U, V, S, d)) (e := d) (P := A) (Q := B) (m := m) (N := N) (R := R) (t := t) (Z := oC g :: es) (fr := fr) (lo := 467) (by decide) hd
    rw [cf_3 Q.B.m3] at r
    exact jV_S I (c_count1 (cm := 1074) (sm := (12984 + (14 + L))) (L := L) (xs := xs) (A := A) (B := B) (U := U) (V := V) (S := S) (d := d) (by decide) hd) (r 9)
  by_cases y2 : x = nI 2
  · subst y2
    exact jV_S I (c_count2 (cm := 1074) (sm := (12984 + (14 + L))) (L := L) (xs := xs) (A := A) (B := B) (U := U) (V := V) (S := S) (d := d) (by decide) hd) (m_count2 (cm := 1074) (sm := (12984 + (14 + L))) (C := (L, xs, A, B, U, V, S, d)) (e := d) (P := A) (Q := B) (m := m) (N := N) (R := R) (t := t) (Z := oC g :: es) (by decide) hd)
  have hx : x.toInt < 0 ∨ 2 < x.toInt := by
    rcases i32_cases x with hx | ⟨n, hn3, rfl⟩
    · exact Or.inl (i32_neg hx)
    · right
      rw [nI_toInt hn3]
      have a0 : n ≠ 0 := fun z => y0 (by rw [z]; rfl)
      have a1 : n ≠ 1 := fun z => y1 (by rw [z])
      have a2 : n ≠ 2 := fun z => y2 (by rw [z])
      omega
  exact jV_S I (c_countD (cm := 1074) (sm := (12984 + (14 + L))) (L := L) (xs := xs) (A := A) (B := B) (U := U) (V := V) (S := S) (d := d) (by decide) hx) (m_countD (cm := 1074) (sm := (12984 + (14 + L))) (C := (L, xs, A, B, U, V, S, d)) (e := d) (P := A) (Q := B) (m := m) (N := N) (R := R) (t := t) (Z := oC g :: es) (by decide) y0 y1 y2)
theorem j_check0 {L : Nat} {xs : Nat → Int32} {A B : gT} {U V : gU} {S : gS} {d : Nat → Nat} {m : Nat} {N : Nat → Nat} {R : gS} {t : Nat} {g : Nat → Int64} {es : mj_H} {k : Nat} (I : jI A B U V S d N R es k) (hk : k < 512) : jV L xs 42 159 466 465 [.ref 3, .int (nI 0)] [.ref 23, .int (nI 0)] A B U V S d m N R t g es k := by
  have I0 := I
  obtain ⟨Q, ⟨ht, hl⟩, ⟨ht2, hl2⟩, hn, hn2, hS, hN, hRb, hes, hsl⟩ := I0
  have hd : dk d := Q.B.dk
  have T := tA_all Q.T R
  have r := fun fr => m_check0 (cm := 1074) (sm := (12984 + (14 + L))) (C := (L, xs, A, B, U, V, sW d S, kd d S false)) (e := d) (P := A) (Q := B) (m := m) (N := N) (R := R) (t := t) (Z := oC g :: es) (fr := fr) (lo := 465) (by decide) Q (fun i h1 h2 h3 => by
    have := Q.cnt i h2 ((T.2.1 i h2).mp h3)
    rw [T.2.2.1 i h1 h2]; omega) (fun i => by have := tA_le d R i; have := hRb i; omega)
  rw [(e_check Q S R false).1, (e_check Q S R false).2] at r
  have c := c_check (cm := 1074) (sm := (12984 + (14 + L))) (L := L) (xs := xs) (A := A) (B := B) (U := U) (V := V) (S := S) (d := d) (fr := 6) (lo := 466) (X := .inr (12, [.ref 24, .int (nI A.2), .ref 25, .int (nI B.2), .ref 26, .int (nI m), .ref 27, .ref 28, .ref 29, .ref 30, .ref 31, .int (nI t)]) :: .inl (3, (2048, .inl fun k => nI (d k))) ::
     .inl (2, (40, .inl fun k => nI (A.1 k))) :: .inl (2, (40, .inl fun k => nI (B.1 k))) :: .inl (3, (140, .inl fun k => nI (N k))) :: .inl (1, (16, .inl fun k => nI (bi (R.1 k)))) ::
     .inl (3, (16, .inl fun k => nI (R.2.2.1 k))) :: .inl (1, (64, .inl fun k => nI (bi (R.2.1 k)))) :: .inl (3, (16, .inl fun k => nI (R.2.2.2.1 k))) :: oC g :: es) (r := false) (by decide) hd hS
  exact jV_K A B U V (sW d S) (kd d S false) c (r 5) ⟨by rw [kd_f]; exact Q, ⟨ht, hl⟩, ⟨ht2, hl2⟩, hn, hn2, sv_sW d hS, hN, fun i => by have := tA_le d R i; have := hRb i; omega, by omega, by omega⟩
theorem j_check1 {L : Nat} {xs : Nat → Int32} {A B : gT} {U V : gU} {S : gS} {d : Nat → Nat} {m : Nat} {N : Nat → Nat} {R : gS} {t : Nat} {g : Nat → Int64} {es : mj_H} {k : Nat} (I : jI A B U V S d N R es k) (hk : k < 512) : jV L xs 42 159 466 465 [.ref 3, .int (nI 1)] [.ref 23, .int (nI 1)] A B U V S d m N R t g es k := by
  have I0 := I
  obtain ⟨Q, ⟨ht, hl⟩, ⟨ht2, hl2⟩, hn, hn2, hS, hN, hRb, hes, hsl⟩ := I0
  have hd : dk d := Q.B.dk
  have T := tA_all Q.T R
  have r := fun fr => m_check1 (cm := 1074) (sm := (12984 + (14 + L))) (C := (L, xs, A, B, U, V, sW d S, kd d S true)) (e := d) (P := A) (Q := B) (m := m) (N := N) (R := R) (t := t) (Z := oC g :: es) (fr := fr) (lo := 465) (by decide) Q (fun i h1 h2 h3 => by
    have := Q.cnt i h2 ((T.2.1 i h2).mp h3)
    rw [T.2.2.1 i h1 h2]; omega) (fun i => by have := tA_le d R i; have := hRb i; omega)
  rw [(e_check Q S R true).1, (e_check Q S R true).2] at r
  have c := c_check (cm := 1074) (sm := (12984 + (14 + L))) (L := L) (xs := xs) (A := A) (B := B) (U := U) (V := V) (S := S) (d := d) (fr := 6) (lo := 466) (X := .inr (12, [.ref 24, .int (nI A.2), .ref 25, .int (nI B.2), .ref 26, .int (nI m), .ref 27, .ref 28, .ref 29, .ref 30, .ref 31, .int (nI t)]) :: .inl (3, (2048, .inl fun k => nI (d k))) ::
     .inl (2, (40, .inl fun k => nI (A.1 k))) :: .inl (2, (40, .inl fun k => nI (B.1 k))) :: .inl (3, (140, .inl fun k => nI (N k))) :: .inl (1, (16, .inl fun k => nI (bi (R.1 k)))) ::
     .inl (3, (16, .inl fun k => nI (R.2.2.1 k))) :: .inl (1, (64, .inl fun k => nI (bi (R.2.1 k)))) :: .inl (3, (16, .inl fun k => nI (R.2.2.2.1 k))) :: oC g :: es) (r := true) (by decide) hd hS
  exact jV_K A B U V (sW d S) (kd d S true) c (r 5) ⟨Q.check S, ⟨ht, hl⟩, ⟨ht2, hl2⟩, hn, hn2, sv_sW d hS, hN, fun i => by have := tA_le d R i; have := hRb i; omega, by omega, by omega⟩
theorem j_format {L : Nat} {xs : Nat → Int32} {A B : gT} {U V : gU} {S : gS} {d : Nat → Nat} {m : Nat} {N : Nat → Nat} {R : gS} {t : Nat} {g : Nat → Int64} {es : mj_H} {k : Nat} (I : jI A B U V S d N R es k) : eE mm_P 1074 (12984 + (14 + L)) 12 467 8 [.ref 3] (Wd (L, xs, A, B, U, V, S, d) d A B m N R t (oC g :: es)) (.inl none, Wd (L, xs, A, B, U, V, S, fz) d A B m N R t (oC g :: es)) ∧
    eE mm_P 1074 (12984 + (14 + L)) 12 467 106 [.ref 23] (Wd (L, xs, A, B, U, V, S, fz) d A B m N R t (oC g :: es)) (.inl none, Wd (L, xs, A, B, U, V, S, fz) fz A B m N R 0 (oC g :: es)) ∧ jI A B U V S fz N R es (k + 1) := by
  obtain ⟨Q, b, c, e, f, h, i, j, l, n⟩ := I.step
  have hd : dk d := Q.B.dk
  have w := c_format (cm := 1074) (sm := (12984 + (14 + L))) (L := L) (xs := xs) (A := A) (B := B) (U := U) (V := V) (S := S) (d := d) (fr := 6) (lo := 467) (X := .inr (12, [.ref 24, .int (nI A.2), .ref 25, .int (nI B.2), .ref 26, .int (nI m), .ref 27, .ref 28, .ref 29, .ref 30, .ref 31, .int (nI t)]) :: .inl (3, (2048, .inl fun k => nI (d k))) ::
     .inl (2, (40, .inl fun k => nI (A.1 k))) :: .inl (2, (40, .inl fun k => nI (B.1 k))) :: .inl (3, (140, .inl fun k => nI (N k))) :: .inl (1, (16, .inl fun k => nI (bi (R.1 k)))) ::
     .inl (3, (16, .inl fun k => nI (R.2.2.1 k))) :: .inl (1, (64, .inl fun k => nI (bi (R.2.1 k)))) :: .inl (3, (16, .inl fun k => nI (R.2.2.2.1 k))) :: oC g :: es) (by decide) hd
  rw [fm_z d hd] at w
  exact ⟨w, m_format (cm := 1074) (sm := (12984 + (14 + L))) (C := (L, xs, A, B, U, V, S, fz)) (e := d) (P := A) (Q := B) (m := m) (N := N) (R := R) (t := t) (Z := oC g :: es) (by decide) hd, qV.fz, b, c, e, f, h, i, j, l, n⟩

