theorem lg_self (x : Int64) : lg_cmp x x = 0 := by
  unfold lg_cmp
  simp
theorem eR.ldS {fr lo k pc L a : Nat} {xs : Nat → Int32} {cm sm : Nat} {A B : gT} {U V : gU} {S : gS} {d e : Nat → Nat} {P Q : gT} {m : Nat} {N : Nat → Nat} {R : gS} {t : Nat} {Z : mj_H} {lv : mj_L} {st : List Value} {r : mj_O × mj_H} (hr : mm_P.2.1 k pc = some (.iaload, 1, [])) (ha : a < L) (hL : L ≤ 2560)
    (w : eR mm_P cm sm fr lo k (pc + 1, lv, .int (xs a) :: st) (Wd (L, xs, A, B, U, V, S, d) e P Q m N R t Z) r) : eR mm_P cm sm fr lo k (pc, lv, .int (nI a) :: .ref 2 :: st) (Wd (L, xs, A, B, U, V, S, d) e P Q m N R t Z) r := by
  refine eR.sim hr (F := (pc + 1, lv, .int (xs a) :: st)) (h' := Wd (L, xs, A, B, U, V, S, d) e P Q m N R t Z) ?_ w
  simp [mj_sim, mj_ar, mj_gi, Wd, Gc, na_ix ha (by omega)]
theorem eR.ld32 {fr lo k pc : Nat} {cm sm : Nat} {C : gC} {e : Nat → Nat} {P Q : gT} {m : Nat} {N : Nat → Nat} {R : gS} {t : Nat} {g : Nat → Int64} {es : mj_H} {lv : mj_L} {st : List Value} {r : mj_O × mj_H} (hr : mm_P.2.1 k pc = some (.laload, 1, []))
    (w : eR mm_P cm sm fr lo k (pc + 1, lv, .long (g 0) :: st) (Wd C e P Q m N R t (oC g :: es)) r) : eR mm_P cm sm fr lo k (pc, lv, .int (nI 0) :: .ref 32 :: st) (Wd C e P Q m N R t (oC g :: es)) r := by
  refine eR.sim hr (F := (pc + 1, lv, .long (g 0) :: st)) (h' := Wd C e P Q m N R t (oC g :: es)) ?_ w
  simp [mj_sim, mj_ar, mj_gl, mj_ix, Wd, Gc, oC, nI]
def tlo (tl : mj_L) : Prop := tl = [] ∨ ∃ u w, tl = [(5, u), (6, w)]
def lG (L : Nat) (xs : Nat → Int32) (pc i : Nat) (tl : mj_L) (A B : gT) (U V : gU) (S : gS) (d : Nat → Nat) (m : Nat) (N : Nat → Nat) (R : gS) (t : Nat) (g : Nat → Int64) (es : mj_H) : Prop :=
  ∃ h', eR mm_P 1074 (12984 + (14 + L)) 12 488 166 (pc, (0, .ref 2) :: (1, .ref 3) :: (2, .ref 23) :: (3, .ref 32) :: (4, .int (nI i)) :: tl, []) (Wd (L, xs, A, B, U, V, S, d) d A B m N R t (oC g :: es)) (.inl (some (.int (nI 1))), h')
def lK (L : Nat) (xs : Nat → Int32) (i k : Nat) : Prop :=
  ∀ (A B : gT) (U V : gU) (S : gS) (d : Nat → Nat) (m : Nat) (N : Nat → Nat) (R : gS) (t : Nat) (g : Nat → Int64) (es : mj_H) (tl : mj_L), tlo tl → jI A B U V S d N R es (k + 1) → lG L xs 854 i tl A B U V S d m N R t g es
theorem law_format {L : Nat} {xs : Nat → Int32} {A B : gT} {U V : gU} {S : gS} {d : Nat → Nat} {m : Nat} {N : Nat → Nat} {R : gS} {t : Nat} {g : Nat → Int64} {es : mj_H} {k i : Nat} {tl : mj_L} (ht : tlo tl) (I : jI A B U V S d N R es k) (hk : k < 512) (hi : i + 5 ≤ L) (hL : L ≤ 2560) (K : lK L xs i k) : lG L xs 120 i tl A B U V S d m N R t g es := by
  obtain ⟨h1, h2, h5⟩ := j_format (L := L) (xs := xs) (m := m) (t := t) (g := g) I
  obtain ⟨h', w⟩ := K A B U V S fz m N R 0 g es tl ht h5
  refine ⟨h', ?_⟩
  rcases ht with rfl | ⟨u, w0, rfl⟩
  · refine eR.step 1 (F' := (121, [(0, .ref 2), (1, .ref 3), (2, .ref 23), (3, .ref 32), (4, .int (nI (i)))], [.ref 3])) (h' := (Wd (L, xs, A, B, U, V, S, d) d A B m N R t (oC g :: es))) (fun _ _ => rfl) ?_
    refine eR.call (k' := 8) (as := [.ref 3]) (rest := []) (v := none) (h1 := (Wd (L, xs, A, B, U, V, S, fz) d A B m N R t (oC g :: es))) rfl rfl rfl rfl rfl (h1) ?_
    refine eR.step 1 (F' := (125, [(0, .ref 2), (1, .ref 3), (2, .ref 23), (3, .ref 32), (4, .int (nI (i)))], [.ref 23])) (h' := (Wd (L, xs, A, B, U, V, S, fz) d A B m N R t (oC g :: es))) (fun _ _ => rfl) ?_
    refine eR.call (k' := 106) (as := [.ref 23]) (rest := []) (v := none) (h1 := (Wd (L, xs, A, B, U, V, S, fz) fz A B m N R 0 (oC g :: es))) rfl rfl rfl rfl rfl (h2) ?_
    refine eR.step 1 (F' := (854, [(0, .ref 2), (1, .ref 3), (2, .ref 23), (3, .ref 32), (4, .int (nI (i)))], [])) (h' := (Wd (L, xs, A, B, U, V, S, fz) fz A B m N R 0 (oC g :: es))) (fun _ _ => rfl) ?_
    exact w
  · refine eR.step 1 (F' := (121, [(0, .ref 2), (1, .ref 3), (2, .ref 23), (3, .ref 32), (4, .int (nI (i))), (5, u), (6, w0)], [.ref 3])) (h' := (Wd (L, xs, A, B, U, V, S, d) d A B m N R t (oC g :: es))) (fun _ _ => rfl) ?_
    refine eR.call (k' := 8) (as := [.ref 3]) (rest := []) (v := none) (h1 := (Wd (L, xs, A, B, U, V, S, fz) d A B m N R t (oC g :: es))) rfl rfl rfl rfl rfl (h1) ?_
    refine eR.step 1 (F' := (125, [(0, .ref 2), (1, .ref 3), (2, .ref 23), (3, .ref 32), (4, .int (nI (i))), (5, u), (6, w0)], [.ref 23])) (h' := (Wd (L, xs, A, B, U, V, S, fz) d A B m N R t (oC g :: es))) (fun _ _ => rfl) ?_
    refine eR.call (k' := 106) (as := [.ref 23]) (rest := []) (v := none) (h1 := (Wd (L, xs, A, B, U, V, S, fz) fz A B m N R 0 (oC g :: es))) rfl rfl rfl rfl rfl (h2) ?_
    refine eR.step 1 (F' := (854, [(0, .ref 2), (1, .ref 3), (2, .ref 23), (3, .ref 32), (4, .int (nI (i))), (5, u), (6, w0)], [])) (h' := (Wd (L, xs, A, B, U, V, S, fz) fz A B m N R 0 (oC g :: es))) (fun _ _ => rfl) ?_
    exact w
theorem law_type {L : Nat} {xs : Nat → Int32} {A B : gT} {U V : gU} {S : gS} {d : Nat → Nat} {m : Nat} {N : Nat → Nat} {R : gS} {t : Nat} {g : Nat → Int64} {es : mj_H} {k i : Nat} {tl : mj_L} (ht : tlo tl) (I : jI A B U V S d N R es k) (hk : k < 512) (hi : i + 5 ≤ L) (hL : L ≤ 2560) (K : lK L xs i k) : lG L xs 131 i tl A B U V S d m N R t g es := by
  obtain ⟨v, A', B', U', V', S', d', m', N', R', t', h1, h2, h5⟩ := j_type (L := L) (xs := xs) (m := m) (t := t) (g := g) (x := xs (i + 1)) I hk
  obtain ⟨h', w⟩ := K A' B' U' V' S' d' m' N' R' t' g es tl ht h5
  refine ⟨h', ?_⟩
  rcases ht with rfl | ⟨u, w0, rfl⟩
  · refine eR.step 4 (F' := (136, [(0, .ref 2), (1, .ref 3), (2, .ref 23), (3, .ref 32), (4, .int (nI (i)))], [.int (nI 1), .int (nI (i)), .ref 2, .ref 3])) (h' := (Wd (L, xs, A, B, U, V, S, d) d A B m N R t (oC g :: es))) (fun _ _ => rfl) ?_
    refine eR.nadd rfl ?_
    refine eR.ldS rfl (by omega) (by omega) ?_
    refine eR.step 1 (F' := (139, [(0, .ref 2), (1, .ref 3), (2, .ref 23), (3, .ref 32), (4, .int (nI (i)))], [.int (((xs (i + 1)).toUInt32 % 65536).toInt32), .ref 3])) (h' := (Wd (L, xs, A, B, U, V, S, d) d A B m N R t (oC g :: es))) (fun _ _ => rfl) ?_
    refine eR.call (k' := 30) (as := [.ref 3, .int (((xs (i + 1)).toUInt32 % 65536).toInt32)]) (rest := []) (v := some (.int (v))) (h1 := (Wd (L, xs, A', B', U', V', S', d') d A B m N R t (oC g :: es))) rfl rfl rfl rfl rfl (h1) ?_
    refine eR.step 4 (F' := (147, [(0, .ref 2), (1, .ref 3), (2, .ref 23), (3, .ref 32), (4, .int (nI (i)))], [.int (nI 1), .int (nI (i)), .ref 2, .ref 23, .int (v)])) (h' := (Wd (L, xs, A', B', U', V', S', d') d A B m N R t (oC g :: es))) (fun _ _ => rfl) ?_
    refine eR.nadd rfl ?_
    refine eR.ldS rfl (by omega) (by omega) ?_
    refine eR.step 1 (F' := (150, [(0, .ref 2), (1, .ref 3), (2, .ref 23), (3, .ref 32), (4, .int (nI (i)))], [.int (((xs (i + 1)).toUInt32 % 65536).toInt32), .ref 23, .int (v)])) (h' := (Wd (L, xs, A', B', U', V', S', d') d A B m N R t (oC g :: es))) (fun _ _ => rfl) ?_
    refine eR.call (k' := 120) (as := [.ref 23, .int (((xs (i + 1)).toUInt32 % 65536).toInt32)]) (rest := [.int (v)]) (v := some (.int (v))) (h1 := (Wd (L, xs, A', B', U', V', S', d') d' A' B' m' N' R' t' (oC g :: es))) rfl rfl rfl rfl rfl (h2) ?_
    refine eR.icmp rfl true (decide_eq_true rfl) ?_
    exact w
  · refine eR.step 4 (F' := (136, [(0, .ref 2), (1, .ref 3), (2, .ref 23), (3, .ref 32), (4, .int (nI (i))), (5, u), (6, w0)], [.int (nI 1), .int (nI (i)), .ref 2, .ref 3])) (h' := (Wd (L, xs, A, B, U, V, S, d) d A B m N R t (oC g :: es))) (fun _ _ => rfl) ?_
    refine eR.nadd rfl ?_
    refine eR.ldS rfl (by omega) (by omega) ?_
    refine eR.step 1 (F' := (139, [(0, .ref 2), (1, .ref 3), (2, .ref 23), (3, .ref 32), (4, .int (nI (i))), (5, u), (6, w0)], [.int (((xs (i + 1)).toUInt32 % 65536).toInt32), .ref 3])) (h' := (Wd (L, xs, A, B, U, V, S, d) d A B m N R t (oC g :: es))) (fun _ _ => rfl) ?_
    refine eR.call (k' := 30) (as := [.ref 3, .int (((xs (i + 1)).toUInt32 % 65536).toInt32)]) (rest := []) (v := some (.int (v))) (h1 := (Wd (L, xs, A', B', U', V', S', d') d A B m N R t (oC g :: es))) rfl rfl rfl rfl rfl (h1) ?_
    refine eR.step 4 (F' := (147, [(0, .ref 2), (1, .ref 3), (2, .ref 23), (3, .ref 32), (4, .int (nI (i))), (5, u), (6, w0)], [.int (nI 1), .int (nI (i)), .ref 2, .ref 23, .int (v)])) (h' := (Wd (L, xs, A', B', U', V', S', d') d A B m N R t (oC g :: es))) (fun _ _ => rfl) ?_
    refine eR.nadd rfl ?_
    refine eR.ldS rfl (by omega) (by omega) ?_
    refine eR.step 1 (F' := (150, [(0, .ref 2), (1, .ref 3), (2, .ref 23), (3, .ref 32), (4, .int (nI (i))), (5, u), (6, w0)], [.int (((xs (i + 1)).toUInt32 % 65536).toInt32), .ref 23, .int (v)])) (h' := (Wd (L, xs, A', B', U', V', S', d') d A B m N R t (oC g :: es))) (fun _ _ => rfl) ?_
    refine eR.call (k' := 120) (as := [.ref 23, .int (((xs (i + 1)).toUInt32 % 65536).toInt32)]) (rest := [.int (v)]) (v := some (.int (v))) (h1 := (Wd (L, xs, A', B', U', V', S', d') d' A' B' m' N' R' t' (oC g :: es))) rfl rfl rfl rfl rfl (h2) ?_
    refine eR.icmp rfl true (decide_eq_true rfl) ?_
    exact w
theorem law_keep {L : Nat} {xs : Nat → Int32} {A B : gT} {U V : gU} {S : gS} {d : Nat → Nat} {m : Nat} {N : Nat → Nat} {R : gS} {t : Nat} {g : Nat → Int64} {es : mj_H} {k i : Nat} {tl : mj_L} (ht : tlo tl) (I : jI A B U V S d N R es k) (hk : k < 512) (hi : i + 5 ≤ L) (hL : L ≤ 2560) (K : lK L xs i k) : lG L xs 158 i tl A B U V S d m N R t g es := by
  obtain ⟨v, A', B', U', V', S', d', m', N', R', t', h1, h2, h5⟩ := j_keep (L := L) (xs := xs) (m := m) (t := t) (g := g) I hk
  obtain ⟨h', w⟩ := K A' B' U' V' S' d' m' N' R' t' g es tl ht h5
  refine ⟨h', ?_⟩
  rcases ht with rfl | ⟨u, w0, rfl⟩
  · refine eR.step 1 (F' := (159, [(0, .ref 2), (1, .ref 3), (2, .ref 23), (3, .ref 32), (4, .int (nI (i)))], [.ref 3])) (h' := (Wd (L, xs, A, B, U, V, S, d) d A B m N R t (oC g :: es))) (fun _ _ => rfl) ?_
    refine eR.call (k' := 32) (as := [.ref 3]) (rest := []) (v := some (.int (v))) (h1 := (Wd (L, xs, A', B', U', V', S', d') d A B m N R t (oC g :: es))) rfl rfl rfl rfl rfl (h1) ?_
    refine eR.step 1 (F' := (163, [(0, .ref 2), (1, .ref 3), (2, .ref 23), (3, .ref 32), (4, .int (nI (i)))], [.ref 23, .int (v)])) (h' := (Wd (L, xs, A', B', U', V', S', d') d A B m N R t (oC g :: es))) (fun _ _ => rfl) ?_
    refine eR.call (k' := 121) (as := [.ref 23]) (rest := [.int (v)]) (v := some (.int (v))) (h1 := (Wd (L, xs, A', B', U', V', S', d') d' A' B' m' N' R' t' (oC g :: es))) rfl rfl rfl rfl rfl (h2) ?_
    refine eR.icmp rfl true (decide_eq_true rfl) ?_
    exact w
  · refine eR.step 1 (F' := (159, [(0, .ref 2), (1, .ref 3), (2, .ref 23), (3, .ref 32), (4, .int (nI (i))), (5, u), (6, w0)], [.ref 3])) (h' := (Wd (L, xs, A, B, U, V, S, d) d A B m N R t (oC g :: es))) (fun _ _ => rfl) ?_
    refine eR.call (k' := 32) (as := [.ref 3]) (rest := []) (v := some (.int (v))) (h1 := (Wd (L, xs, A', B', U', V', S', d') d A B m N R t (oC g :: es))) rfl rfl rfl rfl rfl (h1) ?_
    refine eR.step 1 (F' := (163, [(0, .ref 2), (1, .ref 3), (2, .ref 23), (3, .ref 32), (4, .int (nI (i))), (5, u), (6, w0)], [.ref 23, .int (v)])) (h' := (Wd (L, xs, A', B', U', V', S', d') d A B m N R t (oC g :: es))) (fun _ _ => rfl) ?_
    refine eR.call (k' := 121) (as := [.ref 23]) (rest := [.int (v)]) (v := some (.int (v))) (h1 := (Wd (L, xs, A', B', U', V', S', d') d' A' B' m' N' R' t' (oC g :: es))) rfl rfl rfl rfl rfl (h2) ?_
    refine eR.icmp rfl true (decide_eq_true rfl) ?_
    exact w
theorem law_create {L : Nat} {xs : Nat → Int32} {A B : gT} {U V : gU} {S : gS} {d : Nat → Nat} {m : Nat} {N : Nat → Nat} {R : gS} {t : Nat} {g : Nat → Int64} {es : mj_H} {k i : Nat} {tl : mj_L} (ht : tlo tl) (I : jI A B U V S d N R es k) (hk : k < 512) (hi : i + 5 ≤ L) (hL : L ≤ 2560) (K : lK L xs i k) : lG L xs 171 i tl A B U V S d m N R t g es := by
  obtain ⟨c, v, g', es', A', B', U', V', S', d', m', N', R', h1, h2, h3, h4, h5⟩ := j_create (L := L) (xs := xs) (m := m) (t := t) (g := g) I hk
  obtain ⟨h', w⟩ := K A' B' U' V' S' d' m' N' R' c g' es' [(5, .int (nI c)), (6, .int v)] (Or.inr ⟨_, _, rfl⟩) h5
  refine ⟨h', ?_⟩
  rcases ht with rfl | ⟨u, w0, rfl⟩
  · refine eR.step 2 (F' := (173, [(0, .ref 2), (1, .ref 3), (2, .ref 23), (3, .ref 32), (4, .int (nI (i)))], [.ref 32, .ref 3])) (h' := (Wd (L, xs, A, B, U, V, S, d) d A B m N R t (oC g :: es))) (fun _ _ => rfl) ?_
    refine eR.call (k' := 167) (as := [.ref 3, .ref 32]) (rest := []) (v := some (.int (nI (c)))) (h1 := (Wd (L, xs, A', B', U', V', S', d') d A B m N R t (oC g' :: es'))) rfl rfl rfl rfl rfl (h1) ?_
    refine eR.step 2 (F' := (179, [(0, .ref 2), (1, .ref 3), (2, .ref 23), (3, .ref 32), (4, .int (nI (i))), (5, .int (nI (c)))], [.ref 23])) (h' := (Wd (L, xs, A', B', U', V', S', d') d A B m N R t (oC g' :: es'))) (fun _ _ => rfl) ?_
    refine eR.call (k' := 122) (as := [.ref 23]) (rest := []) (v := some (.int (v))) (h1 := (Wd (L, xs, A', B', U', V', S', d') d' A' B' m' N' R' c (oC g' :: es'))) rfl rfl rfl rfl rfl (h2) ?_
    refine eR.step 2 (F' := (185, [(0, .ref 2), (1, .ref 3), (2, .ref 23), (3, .ref 32), (4, .int (nI (i))), (5, .int (nI (c))), (6, .int (v))], [.ref 23])) (h' := (Wd (L, xs, A', B', U', V', S', d') d' A' B' m' N' R' c (oC g' :: es'))) (fun _ _ => rfl) ?_
    refine eR.call (k' := 119) (as := [.ref 23]) (rest := []) (v := some (.int (nI (c)))) (h1 := (Wd (L, xs, A', B', U', V', S', d') d' A' B' m' N' R' c (oC g' :: es'))) rfl rfl rfl rfl rfl (m_thrown) ?_
    refine eR.step 1 (F' := (190, [(0, .ref 2), (1, .ref 3), (2, .ref 23), (3, .ref 32), (4, .int (nI (i))), (5, .int (nI (c))), (6, .int (v))], [.int (nI (c)), .int (nI (c))])) (h' := (Wd (L, xs, A', B', U', V', S', d') d' A' B' m' N' R' c (oC g' :: es'))) (fun _ _ => rfl) ?_
    refine eR.icmp rfl true (decide_eq_true rfl) ?_
    refine eR.step 1 (F' := (197, [(0, .ref 2), (1, .ref 3), (2, .ref 23), (3, .ref 32), (4, .int (nI (i))), (5, .int (nI (c))), (6, .int (v))], [.int (nI (c))])) (h' := (Wd (L, xs, A', B', U', V', S', d') d' A' B' m' N' R' c (oC g' :: es'))) (fun _ _ => rfl) ?_
    by_cases hc : c = 0
    · refine eR.ifc rfl false ((nc_ne (b := 0) (by omega) (by decide)).trans (decide_eq_false (by omega))) ?_
      refine eR.step 2 (F' := (202, [(0, .ref 2), (1, .ref 3), (2, .ref 23), (3, .ref 32), (4, .int (nI (i))), (5, .int (nI (c))), (6, .int (v))], [.int (nI 0), .ref 32])) (h' := (Wd (L, xs, A', B', U', V', S', d') d' A' B' m' N' R' c (oC g' :: es'))) (fun _ _ => rfl) ?_
      refine eR.ld32 rfl ?_
      refine eR.step 1 (F' := (205, [(0, .ref 2), (1, .ref 3), (2, .ref 23), (3, .ref 32), (4, .int (nI (i))), (5, .int (nI (c))), (6, .int (v))], [.int (v), .long (g' 0)])) (h' := (Wd (L, xs, A', B', U', V', S', d') d' A' B' m' N' R' c (oC g' :: es'))) (fun _ _ => rfl) ?_
      refine eR.step 1 (F' := (206, [(0, .ref 2), (1, .ref 3), (2, .ref 23), (3, .ref 32), (4, .int (nI (i))), (5, .int (nI (c))), (6, .int (v))], [.long ((v).toInt64), .long (g' 0)])) (h' := (Wd (L, xs, A', B', U', V', S', d') d' A' B' m' N' R' c (oC g' :: es'))) (fun _ _ => rfl) ?_
      refine eR.step 1 (F' := (207, [(0, .ref 2), (1, .ref 3), (2, .ref 23), (3, .ref 32), (4, .int (nI (i))), (5, .int (nI (c))), (6, .int (v))], [.int (lg_cmp (g' 0) ((v).toInt64))])) (h' := (Wd (L, xs, A', B', U', V', S', d') d' A' B' m' N' R' c (oC g' :: es'))) (fun _ _ => rfl) ?_
      refine eR.ifc rfl true (by rw [h3 hc, lg_self]; rfl) ?_
      refine eR.step 1 (F' := (854, [(0, .ref 2), (1, .ref 3), (2, .ref 23), (3, .ref 32), (4, .int (nI (i))), (5, .int (nI (c))), (6, .int (v))], [])) (h' := (Wd (L, xs, A', B', U', V', S', d') d' A' B' m' N' R' c (oC g' :: es'))) (fun _ _ => rfl) ?_
      exact w
    · refine eR.ifc rfl true ((nc_ne (b := 0) (by omega) (by decide)).trans (decide_eq_true (hc))) ?_
      refine eR.step 1 (F' := (854, [(0, .ref 2), (1, .ref 3), (2, .ref 23), (3, .ref 32), (4, .int (nI (i))), (5, .int (nI (c))), (6, .int (v))], [])) (h' := (Wd (L, xs, A', B', U', V', S', d') d' A' B' m' N' R' c (oC g' :: es'))) (fun _ _ => rfl) ?_
      exact w
  · refine eR.step 2 (F' := (173, [(0, .ref 2), (1, .ref 3), (2, .ref 23), (3, .ref 32), (4, .int (nI (i))), (5, u), (6, w0)], [.ref 32, .ref 3])) (h' := (Wd (L, xs, A, B, U, V, S, d) d A B m N R t (oC g :: es))) (fun _ _ => rfl) ?_
    refine eR.call (k' := 167) (as := [.ref 3, .ref 32]) (rest := []) (v := some (.int (nI (c)))) (h1 := (Wd (L, xs, A', B', U', V', S', d') d A B m N R t (oC g' :: es'))) rfl rfl rfl rfl rfl (h1) ?_
    refine eR.step 2 (F' := (179, [(0, .ref 2), (1, .ref 3), (2, .ref 23), (3, .ref 32), (4, .int (nI (i))), (5, .int (nI (c))), (6, w0)], [.ref 23])) (h' := (Wd (L, xs, A', B', U', V', S', d') d A B m N R t (oC g' :: es'))) (fun _ _ => rfl) ?_
    refine eR.call (k' := 122) (as := [.ref 23]) (rest := []) (v := some (.int (v))) (h1 := (Wd (L, xs, A', B', U', V', S', d') d' A' B' m' N' R' c (oC g' :: es'))) rfl rfl rfl rfl rfl (h2) ?_
    refine eR.step 2 (F' := (185, [(0, .ref 2), (1, .ref 3), (2, .ref 23), (3, .ref 32), (4, .int (nI (i))), (5, .int (nI (c))), (6, .int (v))], [.ref 23])) (h' := (Wd (L, xs, A', B', U', V', S', d') d' A' B' m' N' R' c (oC g' :: es'))) (fun _ _ => rfl) ?_
    refine eR.call (k' := 119) (as := [.ref 23]) (rest := []) (v := some (.int (nI (c)))) (h1 := (Wd (L, xs, A', B', U', V', S', d') d' A' B' m' N' R' c (oC g' :: es'))) rfl rfl rfl rfl rfl (m_thrown) ?_
    refine eR.step 1 (F' := (190, [(0, .ref 2), (1, .ref 3), (2, .ref 23), (3, .ref 32), (4, .int (nI (i))), (5, .int (nI (c))), (6, .int (v))], [.int (nI (c)), .int (nI (c))])) (h' := (Wd (L, xs, A', B', U', V', S', d') d' A' B' m' N' R' c (oC g' :: es'))) (fun _ _ => rfl) ?_
    refine eR.icmp rfl true (decide_eq_true rfl) ?_
    refine eR.step 1 (F' := (197, [(0, .ref 2), (1, .ref 3), (2, .ref 23), (3, .ref 32), (4, .int (nI (i))), (5, .int (nI (c))), (6, .int (v))], [.int (nI (c))])) (h' := (Wd (L, xs, A', B', U', V', S', d') d' A' B' m' N' R' c (oC g' :: es'))) (fun _ _ => rfl) ?_
    by_cases hc : c = 0
    · refine eR.ifc rfl false ((nc_ne (b := 0) (by omega) (by decide)).trans (decide_eq_false (by omega))) ?_
      refine eR.step 2 (F' := (202, [(0, .ref 2), (1, .ref 3), (2, .ref 23), (3, .ref 32), (4, .int (nI (i))), (5, .int (nI (c))), (6, .int (v))], [.int (nI 0), .ref 32])) (h' := (Wd (L, xs, A', B', U', V', S', d') d' A' B' m' N' R' c (oC g' :: es'))) (fun _ _ => rfl) ?_
      refine eR.ld32 rfl ?_
      refine eR.step 1 (F' := (205, [(0, .ref 2), (1, .ref 3), (2, .ref 23), (3, .ref 32), (4, .int (nI (i))), (5, .int (nI (c))), (6, .int (v))], [.int (v), .long (g' 0)])) (h' := (Wd (L, xs, A', B', U', V', S', d') d' A' B' m' N' R' c (oC g' :: es'))) (fun _ _ => rfl) ?_
      refine eR.step 1 (F' := (206, [(0, .ref 2), (1, .ref 3), (2, .ref 23), (3, .ref 32), (4, .int (nI (i))), (5, .int (nI (c))), (6, .int (v))], [.long ((v).toInt64), .long (g' 0)])) (h' := (Wd (L, xs, A', B', U', V', S', d') d' A' B' m' N' R' c (oC g' :: es'))) (fun _ _ => rfl) ?_
      refine eR.step 1 (F' := (207, [(0, .ref 2), (1, .ref 3), (2, .ref 23), (3, .ref 32), (4, .int (nI (i))), (5, .int (nI (c))), (6, .int (v))], [.int (lg_cmp (g' 0) ((v).toInt64))])) (h' := (Wd (L, xs, A', B', U', V', S', d') d' A' B' m' N' R' c (oC g' :: es'))) (fun _ _ => rfl) ?_
      refine eR.ifc rfl true (by rw [h3 hc, lg_self]; rfl) ?_
      refine eR.step 1 (F' := (854, [(0, .ref 2), (1, .ref 3), (2, .ref 23), (3, .ref 32), (4, .int (nI (i))), (5, .int (nI (c))), (6, .int (v))], [])) (h' := (Wd (L, xs, A', B', U', V', S', d') d' A' B' m' N' R' c (oC g' :: es'))) (fun _ _ => rfl) ?_
      exact w
    · refine eR.ifc rfl true ((nc_ne (b := 0) (by omega) (by decide)).trans (decide_eq_true (hc))) ?_
      refine eR.step 1 (F' := (854, [(0, .ref 2), (1, .ref 3), (2, .ref 23), (3, .ref 32), (4, .int (nI (i))), (5, .int (nI (c))), (6, .int (v))], [])) (h' := (Wd (L, xs, A', B', U', V', S', d') d' A' B' m' N' R' c (oC g' :: es'))) (fun _ _ => rfl) ?_
      exact w
theorem law_mkdir {L : Nat} {xs : Nat → Int32} {A B : gT} {U V : gU} {S : gS} {d : Nat → Nat} {m : Nat} {N : Nat → Nat} {R : gS} {t : Nat} {g : Nat → Int64} {es : mj_H} {k i : Nat} {tl : mj_L} (ht : tlo tl) (I : jI A B U V S d N R es k) (hk : k < 512) (hi : i + 5 ≤ L) (hL : L ≤ 2560) (K : lK L xs i k) : lG L xs 215 i tl A B U V S d m N R t g es := by
  obtain ⟨c, v, g', es', A', B', U', V', S', d', m', N', R', h1, h2, h3, h4, h5⟩ := j_mkdir (L := L) (xs := xs) (m := m) (t := t) (g := g) I hk
  obtain ⟨h', w⟩ := K A' B' U' V' S' d' m' N' R' c g' es' [(5, .int (nI c)), (6, .int v)] (Or.inr ⟨_, _, rfl⟩) h5
  refine ⟨h', ?_⟩
  rcases ht with rfl | ⟨u, w0, rfl⟩
  · refine eR.step 2 (F' := (217, [(0, .ref 2), (1, .ref 3), (2, .ref 23), (3, .ref 32), (4, .int (nI (i)))], [.ref 32, .ref 3])) (h' := (Wd (L, xs, A, B, U, V, S, d) d A B m N R t (oC g :: es))) (fun _ _ => rfl) ?_
    refine eR.call (k' := 168) (as := [.ref 3, .ref 32]) (rest := []) (v := some (.int (nI (c)))) (h1 := (Wd (L, xs, A', B', U', V', S', d') d A B m N R t (oC g' :: es'))) rfl rfl rfl rfl rfl (h1) ?_
    refine eR.step 2 (F' := (223, [(0, .ref 2), (1, .ref 3), (2, .ref 23), (3, .ref 32), (4, .int (nI (i))), (5, .int (nI (c)))], [.ref 23])) (h' := (Wd (L, xs, A', B', U', V', S', d') d A B m N R t (oC g' :: es'))) (fun _ _ => rfl) ?_
    refine eR.call (k' := 139) (as := [.ref 23]) (rest := []) (v := some (.int (v))) (h1 := (Wd (L, xs, A', B', U', V', S', d') d' A' B' m' N' R' c (oC g' :: es'))) rfl rfl rfl rfl rfl (h2) ?_
    refine eR.step 2 (F' := (229, [(0, .ref 2), (1, .ref 3), (2, .ref 23), (3, .ref 32), (4, .int (nI (i))), (5, .int (nI (c))), (6, .int (v))], [.ref 23])) (h' := (Wd (L, xs, A', B', U', V', S', d') d' A' B' m' N' R' c (oC g' :: es'))) (fun _ _ => rfl) ?_
    refine eR.call (k' := 119) (as := [.ref 23]) (rest := []) (v := some (.int (nI (c)))) (h1 := (Wd (L, xs, A', B', U', V', S', d') d' A' B' m' N' R' c (oC g' :: es'))) rfl rfl rfl rfl rfl (m_thrown) ?_
    refine eR.step 1 (F' := (234, [(0, .ref 2), (1, .ref 3), (2, .ref 23), (3, .ref 32), (4, .int (nI (i))), (5, .int (nI (c))), (6, .int (v))], [.int (nI (c)), .int (nI (c))])) (h' := (Wd (L, xs, A', B', U', V', S', d') d' A' B' m' N' R' c (oC g' :: es'))) (fun _ _ => rfl) ?_
    refine eR.icmp rfl true (decide_eq_true rfl) ?_
    refine eR.step 1 (F' := (241, [(0, .ref 2), (1, .ref 3), (2, .ref 23), (3, .ref 32), (4, .int (nI (i))), (5, .int (nI (c))), (6, .int (v))], [.int (nI (c))])) (h' := (Wd (L, xs, A', B', U', V', S', d') d' A' B' m' N' R' c (oC g' :: es'))) (fun _ _ => rfl) ?_
    by_cases hc : c = 0
    · refine eR.ifc rfl false ((nc_ne (b := 0) (by omega) (by decide)).trans (decide_eq_false (by omega))) ?_
      refine eR.step 2 (F' := (246, [(0, .ref 2), (1, .ref 3), (2, .ref 23), (3, .ref 32), (4, .int (nI (i))), (5, .int (nI (c))), (6, .int (v))], [.int (nI 0), .ref 32])) (h' := (Wd (L, xs, A', B', U', V', S', d') d' A' B' m' N' R' c (oC g' :: es'))) (fun _ _ => rfl) ?_
      refine eR.ld32 rfl ?_
      refine eR.step 1 (F' := (249, [(0, .ref 2), (1, .ref 3), (2, .ref 23), (3, .ref 32), (4, .int (nI (i))), (5, .int (nI (c))), (6, .int (v))], [.int (v), .long (g' 0)])) (h' := (Wd (L, xs, A', B', U', V', S', d') d' A' B' m' N' R' c (oC g' :: es'))) (fun _ _ => rfl) ?_
      refine eR.step 1 (F' := (250, [(0, .ref 2), (1, .ref 3), (2, .ref 23), (3, .ref 32), (4, .int (nI (i))), (5, .int (nI (c))), (6, .int (v))], [.long ((v).toInt64), .long (g' 0)])) (h' := (Wd (L, xs, A', B', U', V', S', d') d' A' B' m' N' R' c (oC g' :: es'))) (fun _ _ => rfl) ?_
      refine eR.step 1 (F' := (251, [(0, .ref 2), (1, .ref 3), (2, .ref 23), (3, .ref 32), (4, .int (nI (i))), (5, .int (nI (c))), (6, .int (v))], [.int (lg_cmp (g' 0) ((v).toInt64))])) (h' := (Wd (L, xs, A', B', U', V', S', d') d' A' B' m' N' R' c (oC g' :: es'))) (fun _ _ => rfl) ?_
      refine eR.ifc rfl true (by rw [h3 hc, lg_self]; rfl) ?_
      refine eR.step 1 (F' := (854, [(0, .ref 2), (1, .ref 3), (2, .ref 23), (3, .ref 32), (4, .int (nI (i))), (5, .int (nI (c))), (6, .int (v))], [])) (h' := (Wd (L, xs, A', B', U', V', S', d') d' A' B' m' N' R' c (oC g' :: es'))) (fun _ _ => rfl) ?_
      exact w
    · refine eR.ifc rfl true ((nc_ne (b := 0) (by omega) (by decide)).trans (decide_eq_true (hc))) ?_
      refine eR.step 1 (F' := (854, [(0, .ref 2), (1, .ref 3), (2, .ref 23), (3, .ref 32), (4, .int (nI (i))), (5, .int (nI (c))), (6, .int (v))], [])) (h' := (Wd (L, xs, A', B', U', V', S', d') d' A' B' m' N' R' c (oC g' :: es'))) (fun _ _ => rfl) ?_
      exact w
  · refine eR.step 2 (F' := (217, [(0, .ref 2), (1, .ref 3), (2, .ref 23), (3, .ref 32), (4, .int (nI (i))), (5, u), (6, w0)], [.ref 32, .ref 3])) (h' := (Wd (L, xs, A, B, U, V, S, d) d A B m N R t (oC g :: es))) (fun _ _ => rfl) ?_
    refine eR.call (k' := 168) (as := [.ref 3, .ref 32]) (rest := []) (v := some (.int (nI (c)))) (h1 := (Wd (L, xs, A', B', U', V', S', d') d A B m N R t (oC g' :: es'))) rfl rfl rfl rfl rfl (h1) ?_
    refine eR.step 2 (F' := (223, [(0, .ref 2), (1, .ref 3), (2, .ref 23), (3, .ref 32), (4, .int (nI (i))), (5, .int (nI (c))), (6, w0)], [.ref 23])) (h' := (Wd (L, xs, A', B', U', V', S', d') d A B m N R t (oC g' :: es'))) (fun _ _ => rfl) ?_
    refine eR.call (k' := 139) (as := [.ref 23]) (rest := []) (v := some (.int (v))) (h1 := (Wd (L, xs, A', B', U', V', S', d') d' A' B' m' N' R' c (oC g' :: es'))) rfl rfl rfl rfl rfl (h2) ?_
    refine eR.step 2 (F' := (229, [(0, .ref 2), (1, .ref 3), (2, .ref 23), (3, .ref 32), (4, .int (nI (i))), (5, .int (nI (c))), (6, .int (v))], [.ref 23])) (h' := (Wd (L, xs, A', B', U', V', S', d') d' A' B' m' N' R' c (oC g' :: es'))) (fun _ _ => rfl) ?_
    refine eR.call (k' := 119) (as := [.ref 23]) (rest := []) (v := some (.int (nI (c)))) (h1 := (Wd (L, xs, A', B', U', V', S', d') d' A' B' m' N' R' c (oC g' :: es'))) rfl rfl rfl rfl rfl (m_thrown) ?_
    refine eR.step 1 (F' := (234, [(0, .ref 2), (1, .ref 3), (2, .ref 23), (3, .ref 32), (4, .int (nI (i))), (5, .int (nI (c))), (6, .int (v))], [.int (nI (c)), .int (nI (c))])) (h' := (Wd (L, xs, A', B', U', V', S', d') d' A' B' m' N' R' c (oC g' :: es'))) (fun _ _ => rfl) ?_
    refine eR.icmp rfl true (decide_eq_true rfl) ?_
    refine eR.step 1 (F' := (241, [(0, .ref 2), (1, .ref 3), (2, .ref 23), (3, .ref 32), (4, .int (nI (i))), (5, .int (nI (c))), (6, .int (v))], [.int (nI (c))])) (h' := (Wd (L, xs, A', B', U', V', S', d') d' A' B' m' N' R' c (oC g' :: es'))) (fun _ _ => rfl) ?_
    by_cases hc : c = 0
    · refine eR.ifc rfl false ((nc_ne (b := 0) (by omega) (by decide)).trans (decide_eq_false (by omega))) ?_
      refine eR.step 2 (F' := (246, [(0, .ref 2), (1, .ref 3), (2, .ref 23), (3, .ref 32), (4, .int (nI (i))), (5, .int (nI (c))), (6, .int (v))], [.int (nI 0), .ref 32])) (h' := (Wd (L, xs, A', B', U', V', S', d') d' A' B' m' N' R' c (oC g' :: es'))) (fun _ _ => rfl) ?_
      refine eR.ld32 rfl ?_
      refine eR.step 1 (F' := (249, [(0, .ref 2), (1, .ref 3), (2, .ref 23), (3, .ref 32), (4, .int (nI (i))), (5, .int (nI (c))), (6, .int (v))], [.int (v), .long (g' 0)])) (h' := (Wd (L, xs, A', B', U', V', S', d') d' A' B' m' N' R' c (oC g' :: es'))) (fun _ _ => rfl) ?_
      refine eR.step 1 (F' := (250, [(0, .ref 2), (1, .ref 3), (2, .ref 23), (3, .ref 32), (4, .int (nI (i))), (5, .int (nI (c))), (6, .int (v))], [.long ((v).toInt64), .long (g' 0)])) (h' := (Wd (L, xs, A', B', U', V', S', d') d' A' B' m' N' R' c (oC g' :: es'))) (fun _ _ => rfl) ?_
      refine eR.step 1 (F' := (251, [(0, .ref 2), (1, .ref 3), (2, .ref 23), (3, .ref 32), (4, .int (nI (i))), (5, .int (nI (c))), (6, .int (v))], [.int (lg_cmp (g' 0) ((v).toInt64))])) (h' := (Wd (L, xs, A', B', U', V', S', d') d' A' B' m' N' R' c (oC g' :: es'))) (fun _ _ => rfl) ?_
      refine eR.ifc rfl true (by rw [h3 hc, lg_self]; rfl) ?_
      refine eR.step 1 (F' := (854, [(0, .ref 2), (1, .ref 3), (2, .ref 23), (3, .ref 32), (4, .int (nI (i))), (5, .int (nI (c))), (6, .int (v))], [])) (h' := (Wd (L, xs, A', B', U', V', S', d') d' A' B' m' N' R' c (oC g' :: es'))) (fun _ _ => rfl) ?_
      exact w
    · refine eR.ifc rfl true ((nc_ne (b := 0) (by omega) (by decide)).trans (decide_eq_true (hc))) ?_
      refine eR.step 1 (F' := (854, [(0, .ref 2), (1, .ref 3), (2, .ref 23), (3, .ref 32), (4, .int (nI (i))), (5, .int (nI (c))), (6, .int (v))], [])) (h' := (Wd (L, xs, A', B', U', V', S', d') d' A' B' m' N' R' c (oC g' :: es'))) (fun _ _ => rfl) ?_
      exact w
theorem law_link {L : Nat} {xs : Nat → Int32} {A B : gT} {U V : gU} {S : gS} {d : Nat → Nat} {m : Nat} {N : Nat → Nat} {R : gS} {t : Nat} {g : Nat → Int64} {es : mj_H} {k i : Nat} {tl : mj_L} (ht : tlo tl) (I : jI A B U V S d N R es k) (hk : k < 512) (hi : i + 5 ≤ L) (hL : L ≤ 2560) (K : lK L xs i k) : lG L xs 259 i tl A B U V S d m N R t g es := by
  obtain ⟨c, v, g', es', A', B', U', V', S', d', m', N', R', h1, h2, h3, h4, h5⟩ := j_link (L := L) (xs := xs) (m := m) (t := t) (g := g) I hk
  obtain ⟨h', w⟩ := K A' B' U' V' S' d' m' N' R' c g' es' [(5, .int (nI c)), (6, .int v)] (Or.inr ⟨_, _, rfl⟩) h5
  refine ⟨h', ?_⟩
  rcases ht with rfl | ⟨u, w0, rfl⟩
  · refine eR.step 2 (F' := (261, [(0, .ref 2), (1, .ref 3), (2, .ref 23), (3, .ref 32), (4, .int (nI (i)))], [.ref 32, .ref 3])) (h' := (Wd (L, xs, A, B, U, V, S, d) d A B m N R t (oC g :: es))) (fun _ _ => rfl) ?_
    refine eR.call (k' := 169) (as := [.ref 3, .ref 32]) (rest := []) (v := some (.int (nI (c)))) (h1 := (Wd (L, xs, A', B', U', V', S', d') d A B m N R t (oC g' :: es'))) rfl rfl rfl rfl rfl (h1) ?_
    refine eR.step 2 (F' := (267, [(0, .ref 2), (1, .ref 3), (2, .ref 23), (3, .ref 32), (4, .int (nI (i))), (5, .int (nI (c)))], [.ref 23])) (h' := (Wd (L, xs, A', B', U', V', S', d') d A B m N R t (oC g' :: es'))) (fun _ _ => rfl) ?_
    refine eR.call (k' := 141) (as := [.ref 23]) (rest := []) (v := some (.int (v))) (h1 := (Wd (L, xs, A', B', U', V', S', d') d' A' B' m' N' R' c (oC g' :: es'))) rfl rfl rfl rfl rfl (h2) ?_
    refine eR.step 2 (F' := (273, [(0, .ref 2), (1, .ref 3), (2, .ref 23), (3, .ref 32), (4, .int (nI (i))), (5, .int (nI (c))), (6, .int (v))], [.ref 23])) (h' := (Wd (L, xs, A', B', U', V', S', d') d' A' B' m' N' R' c (oC g' :: es'))) (fun _ _ => rfl) ?_
    refine eR.call (k' := 119) (as := [.ref 23]) (rest := []) (v := some (.int (nI (c)))) (h1 := (Wd (L, xs, A', B', U', V', S', d') d' A' B' m' N' R' c (oC g' :: es'))) rfl rfl rfl rfl rfl (m_thrown) ?_
    refine eR.step 1 (F' := (278, [(0, .ref 2), (1, .ref 3), (2, .ref 23), (3, .ref 32), (4, .int (nI (i))), (5, .int (nI (c))), (6, .int (v))], [.int (nI (c)), .int (nI (c))])) (h' := (Wd (L, xs, A', B', U', V', S', d') d' A' B' m' N' R' c (oC g' :: es'))) (fun _ _ => rfl) ?_
    refine eR.icmp rfl true (decide_eq_true rfl) ?_
    refine eR.step 1 (F' := (285, [(0, .ref 2), (1, .ref 3), (2, .ref 23), (3, .ref 32), (4, .int (nI (i))), (5, .int (nI (c))), (6, .int (v))], [.int (nI (c))])) (h' := (Wd (L, xs, A', B', U', V', S', d') d' A' B' m' N' R' c (oC g' :: es'))) (fun _ _ => rfl) ?_
    by_cases hc : c = 0
    · refine eR.ifc rfl false ((nc_ne (b := 0) (by omega) (by decide)).trans (decide_eq_false (by omega))) ?_
      refine eR.step 2 (F' := (290, [(0, .ref 2), (1, .ref 3), (2, .ref 23), (3, .ref 32), (4, .int (nI (i))), (5, .int (nI (c))), (6, .int (v))], [.int (nI 0), .ref 32])) (h' := (Wd (L, xs, A', B', U', V', S', d') d' A' B' m' N' R' c (oC g' :: es'))) (fun _ _ => rfl) ?_
      refine eR.ld32 rfl ?_
      refine eR.step 1 (F' := (293, [(0, .ref 2), (1, .ref 3), (2, .ref 23), (3, .ref 32), (4, .int (nI (i))), (5, .int (nI (c))), (6, .int (v))], [.int (v), .long (g' 0)])) (h' := (Wd (L, xs, A', B', U', V', S', d') d' A' B' m' N' R' c (oC g' :: es'))) (fun _ _ => rfl) ?_
      refine eR.step 1 (F' := (294, [(0, .ref 2), (1, .ref 3), (2, .ref 23), (3, .ref 32), (4, .int (nI (i))), (5, .int (nI (c))), (6, .int (v))], [.long ((v).toInt64), .long (g' 0)])) (h' := (Wd (L, xs, A', B', U', V', S', d') d' A' B' m' N' R' c (oC g' :: es'))) (fun _ _ => rfl) ?_
      refine eR.step 1 (F' := (295, [(0, .ref 2), (1, .ref 3), (2, .ref 23), (3, .ref 32), (4, .int (nI (i))), (5, .int (nI (c))), (6, .int (v))], [.int (lg_cmp (g' 0) ((v).toInt64))])) (h' := (Wd (L, xs, A', B', U', V', S', d') d' A' B' m' N' R' c (oC g' :: es'))) (fun _ _ => rfl) ?_
      refine eR.ifc rfl true (by rw [h3 hc, lg_self]; rfl) ?_
      refine eR.step 1 (F' := (854, [(0, .ref 2), (1, .ref 3), (2, .ref 23), (3, .ref 32), (4, .int (nI (i))), (5, .int (nI (c))), (6, .int (v))], [])) (h' := (Wd (L, xs, A', B', U', V', S', d') d' A' B' m' N' R' c (oC g' :: es'))) (fun _ _ => rfl) ?_
      exact w
    · refine eR.ifc rfl true ((nc_ne (b := 0) (by omega) (by decide)).trans (decide_eq_true (hc))) ?_
      refine eR.step 1 (F' := (854, [(0, .ref 2), (1, .ref 3), (2, .ref 23), (3, .ref 32), (4, .int (nI (i))), (5, .int (nI (c))), (6, .int (v))], [])) (h' := (Wd (L, xs, A', B', U', V', S', d') d' A' B' m' N' R' c (oC g' :: es'))) (fun _ _ => rfl) ?_
      exact w
  · refine eR.step 2 (F' := (261, [(0, .ref 2), (1, .ref 3), (2, .ref 23), (3, .ref 32), (4, .int (nI (i))), (5, u), (6, w0)], [.ref 32, .ref 3])) (h' := (Wd (L, xs, A, B, U, V, S, d) d A B m N R t (oC g :: es))) (fun _ _ => rfl) ?_
    refine eR.call (k' := 169) (as := [.ref 3, .ref 32]) (rest := []) (v := some (.int (nI (c)))) (h1 := (Wd (L, xs, A', B', U', V', S', d') d A B m N R t (oC g' :: es'))) rfl rfl rfl rfl rfl (h1) ?_
    refine eR.step 2 (F' := (267, [(0, .ref 2), (1, .ref 3), (2, .ref 23), (3, .ref 32), (4, .int (nI (i))), (5, .int (nI (c))), (6, w0)], [.ref 23])) (h' := (Wd (L, xs, A', B', U', V', S', d') d A B m N R t (oC g' :: es'))) (fun _ _ => rfl) ?_
    refine eR.call (k' := 141) (as := [.ref 23]) (rest := []) (v := some (.int (v))) (h1 := (Wd (L, xs, A', B', U', V', S', d') d' A' B' m' N' R' c (oC g' :: es'))) rfl rfl rfl rfl rfl (h2) ?_
    refine eR.step 2 (F' := (273, [(0, .ref 2), (1, .ref 3), (2, .ref 23), (3, .ref 32), (4, .int (nI (i))), (5, .int (nI (c))), (6, .int (v))], [.ref 23])) (h' := (Wd (L, xs, A', B', U', V', S', d') d' A' B' m' N' R' c (oC g' :: es'))) (fun _ _ => rfl) ?_
    refine eR.call (k' := 119) (as := [.ref 23]) (rest := []) (v := some (.int (nI (c)))) (h1 := (Wd (L, xs, A', B', U', V', S', d') d' A' B' m' N' R' c (oC g' :: es'))) rfl rfl rfl rfl rfl (m_thrown) ?_
    refine eR.step 1 (F' := (278, [(0, .ref 2), (1, .ref 3), (2, .ref 23), (3, .ref 32), (4, .int (nI (i))), (5, .int (nI (c))), (6, .int (v))], [.int (nI (c)), .int (nI (c))])) (h' := (Wd (L, xs, A', B', U', V', S', d') d' A' B' m' N' R' c (oC g' :: es'))) (fun _ _ => rfl) ?_
    refine eR.icmp rfl true (decide_eq_true rfl) ?_
    refine eR.step 1 (F' := (285, [(0, .ref 2), (1, .ref 3), (2, .ref 23), (3, .ref 32), (4, .int (nI (i))), (5, .int (nI (c))), (6, .int (v))], [.int (nI (c))])) (h' := (Wd (L, xs, A', B', U', V', S', d') d' A' B' m' N' R' c (oC g' :: es'))) (fun _ _ => rfl) ?_
    by_cases hc : c = 0
    · refine eR.ifc rfl false ((nc_ne (b := 0) (by omega) (by decide)).trans (decide_eq_false (by omega))) ?_
      refine eR.step 2 (F' := (290, [(0, .ref 2), (1, .ref 3), (2, .ref 23), (3, .ref 32), (4, .int (nI (i))), (5, .int (nI (c))), (6, .int (v))], [.int (nI 0), .ref 32])) (h' := (Wd (L, xs, A', B', U', V', S', d') d' A' B' m' N' R' c (oC g' :: es'))) (fun _ _ => rfl) ?_
      refine eR.ld32 rfl ?_
      refine eR.step 1 (F' := (293, [(0, .ref 2), (1, .ref 3), (2, .ref 23), (3, .ref 32), (4, .int (nI (i))), (5, .int (nI (c))), (6, .int (v))], [.int (v), .long (g' 0)])) (h' := (Wd (L, xs, A', B', U', V', S', d') d' A' B' m' N' R' c (oC g' :: es'))) (fun _ _ => rfl) ?_
      refine eR.step 1 (F' := (294, [(0, .ref 2), (1, .ref 3), (2, .ref 23), (3, .ref 32), (4, .int (nI (i))), (5, .int (nI (c))), (6, .int (v))], [.long ((v).toInt64), .long (g' 0)])) (h' := (Wd (L, xs, A', B', U', V', S', d') d' A' B' m' N' R' c (oC g' :: es'))) (fun _ _ => rfl) ?_
      refine eR.step 1 (F' := (295, [(0, .ref 2), (1, .ref 3), (2, .ref 23), (3, .ref 32), (4, .int (nI (i))), (5, .int (nI (c))), (6, .int (v))], [.int (lg_cmp (g' 0) ((v).toInt64))])) (h' := (Wd (L, xs, A', B', U', V', S', d') d' A' B' m' N' R' c (oC g' :: es'))) (fun _ _ => rfl) ?_
      refine eR.ifc rfl true (by rw [h3 hc, lg_self]; rfl) ?_
      refine eR.step 1 (F' := (854, [(0, .ref 2), (1, .ref 3), (2, .ref 23), (3, .ref 32), (4, .int (nI (i))), (5, .int (nI (c))), (6, .int (v))], [])) (h' := (Wd (L, xs, A', B', U', V', S', d') d' A' B' m' N' R' c (oC g' :: es'))) (fun _ _ => rfl) ?_
      exact w
    · refine eR.ifc rfl true ((nc_ne (b := 0) (by omega) (by decide)).trans (decide_eq_true (hc))) ?_
      refine eR.step 1 (F' := (854, [(0, .ref 2), (1, .ref 3), (2, .ref 23), (3, .ref 32), (4, .int (nI (i))), (5, .int (nI (c))), (6, .int (v))], [])) (h' := (Wd (L, xs, A', B', U', V', S', d') d' A' B' m' N' R' c (oC g' :: es'))) (fun _ _ => rfl) ?_
      exact w
theorem law_unlink {L : Nat} {xs : Nat → Int32} {A B : gT} {U V : gU} {S : gS} {d : Nat → Nat} {m : Nat} {N : Nat → Nat} {R : gS} {t : Nat} {g : Nat → Int64} {es : mj_H} {k i : Nat} {tl : mj_L} (ht : tlo tl) (I : jI A B U V S d N R es k) (hk : k < 512) (hi : i + 5 ≤ L) (hL : L ≤ 2560) (K : lK L xs i k) : lG L xs 303 i tl A B U V S d m N R t g es := by
  obtain ⟨c, v, g', es', A', B', U', V', S', d', m', N', R', h1, h2, h3, h4, h5⟩ := j_unlink (L := L) (xs := xs) (m := m) (t := t) (g := g) I hk
  obtain ⟨h', w⟩ := K A' B' U' V' S' d' m' N' R' c g' es' [(5, .int (nI c)), (6, .int v)] (Or.inr ⟨_, _, rfl⟩) h5
  refine ⟨h', ?_⟩
  rcases ht with rfl | ⟨u, w0, rfl⟩
  · refine eR.step 2 (F' := (305, [(0, .ref 2), (1, .ref 3), (2, .ref 23), (3, .ref 32), (4, .int (nI (i)))], [.ref 32, .ref 3])) (h' := (Wd (L, xs, A, B, U, V, S, d) d A B m N R t (oC g :: es))) (fun _ _ => rfl) ?_
    refine eR.call (k' := 170) (as := [.ref 3, .ref 32]) (rest := []) (v := some (.int (nI (c)))) (h1 := (Wd (L, xs, A', B', U', V', S', d') d A B m N R t (oC g' :: es'))) rfl rfl rfl rfl rfl (h1) ?_
    refine eR.step 2 (F' := (311, [(0, .ref 2), (1, .ref 3), (2, .ref 23), (3, .ref 32), (4, .int (nI (i))), (5, .int (nI (c)))], [.ref 23])) (h' := (Wd (L, xs, A', B', U', V', S', d') d A B m N R t (oC g' :: es'))) (fun _ _ => rfl) ?_
    refine eR.call (k' := 143) (as := [.ref 23]) (rest := []) (v := some (.int (v))) (h1 := (Wd (L, xs, A', B', U', V', S', d') d' A' B' m' N' R' c (oC g' :: es'))) rfl rfl rfl rfl rfl (h2) ?_
    refine eR.step 2 (F' := (317, [(0, .ref 2), (1, .ref 3), (2, .ref 23), (3, .ref 32), (4, .int (nI (i))), (5, .int (nI (c))), (6, .int (v))], [.ref 23])) (h' := (Wd (L, xs, A', B', U', V', S', d') d' A' B' m' N' R' c (oC g' :: es'))) (fun _ _ => rfl) ?_
    refine eR.call (k' := 119) (as := [.ref 23]) (rest := []) (v := some (.int (nI (c)))) (h1 := (Wd (L, xs, A', B', U', V', S', d') d' A' B' m' N' R' c (oC g' :: es'))) rfl rfl rfl rfl rfl (m_thrown) ?_
    refine eR.step 1 (F' := (322, [(0, .ref 2), (1, .ref 3), (2, .ref 23), (3, .ref 32), (4, .int (nI (i))), (5, .int (nI (c))), (6, .int (v))], [.int (nI (c)), .int (nI (c))])) (h' := (Wd (L, xs, A', B', U', V', S', d') d' A' B' m' N' R' c (oC g' :: es'))) (fun _ _ => rfl) ?_
    refine eR.icmp rfl true (decide_eq_true rfl) ?_
    refine eR.step 1 (F' := (329, [(0, .ref 2), (1, .ref 3), (2, .ref 23), (3, .ref 32), (4, .int (nI (i))), (5, .int (nI (c))), (6, .int (v))], [.int (nI (c))])) (h' := (Wd (L, xs, A', B', U', V', S', d') d' A' B' m' N' R' c (oC g' :: es'))) (fun _ _ => rfl) ?_
    by_cases hc : c = 0
    · refine eR.ifc rfl false ((nc_ne (b := 0) (by omega) (by decide)).trans (decide_eq_false (by omega))) ?_
      refine eR.step 2 (F' := (334, [(0, .ref 2), (1, .ref 3), (2, .ref 23), (3, .ref 32), (4, .int (nI (i))), (5, .int (nI (c))), (6, .int (v))], [.int (nI 0), .ref 32])) (h' := (Wd (L, xs, A', B', U', V', S', d') d' A' B' m' N' R' c (oC g' :: es'))) (fun _ _ => rfl) ?_
      refine eR.ld32 rfl ?_
      refine eR.step 1 (F' := (337, [(0, .ref 2), (1, .ref 3), (2, .ref 23), (3, .ref 32), (4, .int (nI (i))), (5, .int (nI (c))), (6, .int (v))], [.int (v), .long (g' 0)])) (h' := (Wd (L, xs, A', B', U', V', S', d') d' A' B' m' N' R' c (oC g' :: es'))) (fun _ _ => rfl) ?_
      refine eR.step 1 (F' := (338, [(0, .ref 2), (1, .ref 3), (2, .ref 23), (3, .ref 32), (4, .int (nI (i))), (5, .int (nI (c))), (6, .int (v))], [.long ((v).toInt64), .long (g' 0)])) (h' := (Wd (L, xs, A', B', U', V', S', d') d' A' B' m' N' R' c (oC g' :: es'))) (fun _ _ => rfl) ?_
      refine eR.step 1 (F' := (339, [(0, .ref 2), (1, .ref 3), (2, .ref 23), (3, .ref 32), (4, .int (nI (i))), (5, .int (nI (c))), (6, .int (v))], [.int (lg_cmp (g' 0) ((v).toInt64))])) (h' := (Wd (L, xs, A', B', U', V', S', d') d' A' B' m' N' R' c (oC g' :: es'))) (fun _ _ => rfl) ?_
      refine eR.ifc rfl true (by rw [h3 hc, lg_self]; rfl) ?_
      refine eR.step 1 (F' := (854, [(0, .ref 2), (1, .ref 3), (2, .ref 23), (3, .ref 32), (4, .int (nI (i))), (5, .int (nI (c))), (6, .int (v))], [])) (h' := (Wd (L, xs, A', B', U', V', S', d') d' A' B' m' N' R' c (oC g' :: es'))) (fun _ _ => rfl) ?_
      exact w
    · refine eR.ifc rfl true ((nc_ne (b := 0) (by omega) (by decide)).trans (decide_eq_true (hc))) ?_
      refine eR.step 1 (F' := (854, [(0, .ref 2), (1, .ref 3), (2, .ref 23), (3, .ref 32), (4, .int (nI (i))), (5, .int (nI (c))), (6, .int (v))], [])) (h' := (Wd (L, xs, A', B', U', V', S', d') d' A' B' m' N' R' c (oC g' :: es'))) (fun _ _ => rfl) ?_
      exact w
  · refine eR.step 2 (F' := (305, [(0, .ref 2), (1, .ref 3), (2, .ref 23), (3, .ref 32), (4, .int (nI (i))), (5, u), (6, w0)], [.ref 32, .ref 3])) (h' := (Wd (L, xs, A, B, U, V, S, d) d A B m N R t (oC g :: es))) (fun _ _ => rfl) ?_
    refine eR.call (k' := 170) (as := [.ref 3, .ref 32]) (rest := []) (v := some (.int (nI (c)))) (h1 := (Wd (L, xs, A', B', U', V', S', d') d A B m N R t (oC g' :: es'))) rfl rfl rfl rfl rfl (h1) ?_
    refine eR.step 2 (F' := (311, [(0, .ref 2), (1, .ref 3), (2, .ref 23), (3, .ref 32), (4, .int (nI (i))), (5, .int (nI (c))), (6, w0)], [.ref 23])) (h' := (Wd (L, xs, A', B', U', V', S', d') d A B m N R t (oC g' :: es'))) (fun _ _ => rfl) ?_
    refine eR.call (k' := 143) (as := [.ref 23]) (rest := []) (v := some (.int (v))) (h1 := (Wd (L, xs, A', B', U', V', S', d') d' A' B' m' N' R' c (oC g' :: es'))) rfl rfl rfl rfl rfl (h2) ?_
    refine eR.step 2 (F' := (317, [(0, .ref 2), (1, .ref 3), (2, .ref 23), (3, .ref 32), (4, .int (nI (i))), (5, .int (nI (c))), (6, .int (v))], [.ref 23])) (h' := (Wd (L, xs, A', B', U', V', S', d') d' A' B' m' N' R' c (oC g' :: es'))) (fun _ _ => rfl) ?_
    refine eR.call (k' := 119) (as := [.ref 23]) (rest := []) (v := some (.int (nI (c)))) (h1 := (Wd (L, xs, A', B', U', V', S', d') d' A' B' m' N' R' c (oC g' :: es'))) rfl rfl rfl rfl rfl (m_thrown) ?_
    refine eR.step 1 (F' := (322, [(0, .ref 2), (1, .ref 3), (2, .ref 23), (3, .ref 32), (4, .int (nI (i))), (5, .int (nI (c))), (6, .int (v))], [.int (nI (c)), .int (nI (c))])) (h' := (Wd (L, xs, A', B', U', V', S', d') d' A' B' m' N' R' c (oC g' :: es'))) (fun _ _ => rfl) ?_
    refine eR.icmp rfl true (decide_eq_true rfl) ?_
    refine eR.step 1 (F' := (329, [(0, .ref 2), (1, .ref 3), (2, .ref 23), (3, .ref 32), (4, .int (nI (i))), (5, .int (nI (c))), (6, .int (v))], [.int (nI (c))])) (h' := (Wd (L, xs, A', B', U', V', S', d') d' A' B' m' N' R' c (oC g' :: es'))) (fun _ _ => rfl) ?_
    by_cases hc : c = 0
    · refine eR.ifc rfl false ((nc_ne (b := 0) (by omega) (by decide)).trans (decide_eq_false (by omega))) ?_
      refine eR.step 2 (F' := (334, [(0, .ref 2), (1, .ref 3), (2, .ref 23), (3, .ref 32), (4, .int (nI (i))), (5, .int (nI (c))), (6, .int (v))], [.int (nI 0), .ref 32])) (h' := (Wd (L, xs, A', B', U', V', S', d') d' A' B' m' N' R' c (oC g' :: es'))) (fun _ _ => rfl) ?_
      refine eR.ld32 rfl ?_
      refine eR.step 1 (F' := (337, [(0, .ref 2), (1, .ref 3), (2, .ref 23), (3, .ref 32), (4, .int (nI (i))), (5, .int (nI (c))), (6, .int (v))], [.int (v), .long (g' 0)])) (h' := (Wd (L, xs, A', B', U', V', S', d') d' A' B' m' N' R' c (oC g' :: es'))) (fun _ _ => rfl) ?_
      refine eR.step 1 (F' := (338, [(0, .ref 2), (1, .ref 3), (2, .ref 23), (3, .ref 32), (4, .int (nI (i))), (5, .int (nI (c))), (6, .int (v))], [.long ((v).toInt64), .long (g' 0)])) (h' := (Wd (L, xs, A', B', U', V', S', d') d' A' B' m' N' R' c (oC g' :: es'))) (fun _ _ => rfl) ?_
      refine eR.step 1 (F' := (339, [(0, .ref 2), (1, .ref 3), (2, .ref 23), (3, .ref 32), (4, .int (nI (i))), (5, .int (nI (c))), (6, .int (v))], [.int (lg_cmp (g' 0) ((v).toInt64))])) (h' := (Wd (L, xs, A', B', U', V', S', d') d' A' B' m' N' R' c (oC g' :: es'))) (fun _ _ => rfl) ?_
      refine eR.ifc rfl true (by rw [h3 hc, lg_self]; rfl) ?_
      refine eR.step 1 (F' := (854, [(0, .ref 2), (1, .ref 3), (2, .ref 23), (3, .ref 32), (4, .int (nI (i))), (5, .int (nI (c))), (6, .int (v))], [])) (h' := (Wd (L, xs, A', B', U', V', S', d') d' A' B' m' N' R' c (oC g' :: es'))) (fun _ _ => rfl) ?_
      exact w
    · refine eR.ifc rfl true ((nc_ne (b := 0) (by omega) (by decide)).trans (decide_eq_true (hc))) ?_
      refine eR.step 1 (F' := (854, [(0, .ref 2), (1, .ref 3), (2, .ref 23), (3, .ref 32), (4, .int (nI (i))), (5, .int (nI (c))), (6, .int (v))], [])) (h' := (Wd (L, xs, A', B', U', V', S', d') d' A' B' m' N' R' c (oC g' :: es'))) (fun _ _ => rfl) ?_
      exact w
theorem law_rmdir {L : Nat} {xs : Nat → Int32} {A B : gT} {U V : gU} {S : gS} {d : Nat → Nat} {m : Nat} {N : Nat → Nat} {R : gS} {t : Nat} {g : Nat → Int64} {es : mj_H} {k i : Nat} {tl : mj_L} (ht : tlo tl) (I : jI A B U V S d N R es k) (hk : k < 512) (hi : i + 5 ≤ L) (hL : L ≤ 2560) (K : lK L xs i k) : lG L xs 347 i tl A B U V S d m N R t g es := by
  obtain ⟨c, v, g', es', A', B', U', V', S', d', m', N', R', h1, h2, h3, h4, h5⟩ := j_rmdir (L := L) (xs := xs) (m := m) (t := t) (g := g) I hk
  obtain ⟨h', w⟩ := K A' B' U' V' S' d' m' N' R' c g' es' [(5, .int (nI c)), (6, .int v)] (Or.inr ⟨_, _, rfl⟩) h5
  refine ⟨h', ?_⟩
  rcases ht with rfl | ⟨u, w0, rfl⟩
  · refine eR.step 2 (F' := (349, [(0, .ref 2), (1, .ref 3), (2, .ref 23), (3, .ref 32), (4, .int (nI (i)))], [.ref 32, .ref 3])) (h' := (Wd (L, xs, A, B, U, V, S, d) d A B m N R t (oC g :: es))) (fun _ _ => rfl) ?_
    refine eR.call (k' := 171) (as := [.ref 3, .ref 32]) (rest := []) (v := some (.int (nI (c)))) (h1 := (Wd (L, xs, A', B', U', V', S', d') d A B m N R t (oC g' :: es'))) rfl rfl rfl rfl rfl (h1) ?_
    refine eR.step 2 (F' := (355, [(0, .ref 2), (1, .ref 3), (2, .ref 23), (3, .ref 32), (4, .int (nI (i))), (5, .int (nI (c)))], [.ref 23])) (h' := (Wd (L, xs, A', B', U', V', S', d') d A B m N R t (oC g' :: es'))) (fun _ _ => rfl) ?_
    refine eR.call (k' := 148) (as := [.ref 23]) (rest := []) (v := some (.int (v))) (h1 := (Wd (L, xs, A', B', U', V', S', d') d' A' B' m' N' R' c (oC g' :: es'))) rfl rfl rfl rfl rfl (h2) ?_
    refine eR.step 2 (F' := (361, [(0, .ref 2), (1, .ref 3), (2, .ref 23), (3, .ref 32), (4, .int (nI (i))), (5, .int (nI (c))), (6, .int (v))], [.ref 23])) (h' := (Wd (L, xs, A', B', U', V', S', d') d' A' B' m' N' R' c (oC g' :: es'))) (fun _ _ => rfl) ?_
    refine eR.call (k' := 119) (as := [.ref 23]) (rest := []) (v := some (.int (nI (c)))) (h1 := (Wd (L, xs, A', B', U', V', S', d') d' A' B' m' N' R' c (oC g' :: es'))) rfl rfl rfl rfl rfl (m_thrown) ?_
    refine eR.step 1 (F' := (366, [(0, .ref 2), (1, .ref 3), (2, .ref 23), (3, .ref 32), (4, .int (nI (i))), (5, .int (nI (c))), (6, .int (v))], [.int (nI (c)), .int (nI (c))])) (h' := (Wd (L, xs, A', B', U', V', S', d') d' A' B' m' N' R' c (oC g' :: es'))) (fun _ _ => rfl) ?_
    refine eR.icmp rfl true (decide_eq_true rfl) ?_
    refine eR.step 1 (F' := (373, [(0, .ref 2), (1, .ref 3), (2, .ref 23), (3, .ref 32), (4, .int (nI (i))), (5, .int (nI (c))), (6, .int (v))], [.int (nI (c))])) (h' := (Wd (L, xs, A', B', U', V', S', d') d' A' B' m' N' R' c (oC g' :: es'))) (fun _ _ => rfl) ?_
    by_cases hc : c = 0
    · refine eR.ifc rfl false ((nc_ne (b := 0) (by omega) (by decide)).trans (decide_eq_false (by omega))) ?_
      refine eR.step 2 (F' := (378, [(0, .ref 2), (1, .ref 3), (2, .ref 23), (3, .ref 32), (4, .int (nI (i))), (5, .int (nI (c))), (6, .int (v))], [.int (nI 0), .ref 32])) (h' := (Wd (L, xs, A', B', U', V', S', d') d' A' B' m' N' R' c (oC g' :: es'))) (fun _ _ => rfl) ?_
      refine eR.ld32 rfl ?_
      refine eR.step 1 (F' := (381, [(0, .ref 2), (1, .ref 3), (2, .ref 23), (3, .ref 32), (4, .int (nI (i))), (5, .int (nI (c))), (6, .int (v))], [.int (v), .long (g' 0)])) (h' := (Wd (L, xs, A', B', U', V', S', d') d' A' B' m' N' R' c (oC g' :: es'))) (fun _ _ => rfl) ?_
      refine eR.step 1 (F' := (382, [(0, .ref 2), (1, .ref 3), (2, .ref 23), (3, .ref 32), (4, .int (nI (i))), (5, .int (nI (c))), (6, .int (v))], [.long ((v).toInt64), .long (g' 0)])) (h' := (Wd (L, xs, A', B', U', V', S', d') d' A' B' m' N' R' c (oC g' :: es'))) (fun _ _ => rfl) ?_
      refine eR.step 1 (F' := (383, [(0, .ref 2), (1, .ref 3), (2, .ref 23), (3, .ref 32), (4, .int (nI (i))), (5, .int (nI (c))), (6, .int (v))], [.int (lg_cmp (g' 0) ((v).toInt64))])) (h' := (Wd (L, xs, A', B', U', V', S', d') d' A' B' m' N' R' c (oC g' :: es'))) (fun _ _ => rfl) ?_
      refine eR.ifc rfl true (by rw [h3 hc, lg_self]; rfl) ?_
      refine eR.step 1 (F' := (854, [(0, .ref 2), (1, .ref 3), (2, .ref 23), (3, .ref 32), (4, .int (nI (i))), (5, .int (nI (c))), (6, .int (v))], [])) (h' := (Wd (L, xs, A', B', U', V', S', d') d' A' B' m' N' R' c (oC g' :: es'))) (fun _ _ => rfl) ?_
      exact w
    · refine eR.ifc rfl true ((nc_ne (b := 0) (by omega) (by decide)).trans (decide_eq_true (hc))) ?_
      refine eR.step 1 (F' := (854, [(0, .ref 2), (1, .ref 3), (2, .ref 23), (3, .ref 32), (4, .int (nI (i))), (5, .int (nI (c))), (6, .int (v))], [])) (h' := (Wd (L, xs, A', B', U', V', S', d') d' A' B' m' N' R' c (oC g' :: es'))) (fun _ _ => rfl) ?_
      exact w
  · refine eR.step 2 (F' := (349, [(0, .ref 2), (1, .ref 3), (2, .ref 23), (3, .ref 32), (4, .int (nI (i))), (5, u), (6, w0)], [.ref 32, .ref 3])) (h' := (Wd (L, xs, A, B, U, V, S, d) d A B m N R t (oC g :: es))) (fun _ _ => rfl) ?_
    refine eR.call (k' := 171) (as := [.ref 3, .ref 32]) (rest := []) (v := some (.int (nI (c)))) (h1 := (Wd (L, xs, A', B', U', V', S', d') d A B m N R t (oC g' :: es'))) rfl rfl rfl rfl rfl (h1) ?_
    refine eR.step 2 (F' := (355, [(0, .ref 2), (1, .ref 3), (2, .ref 23), (3, .ref 32), (4, .int (nI (i))), (5, .int (nI (c))), (6, w0)], [.ref 23])) (h' := (Wd (L, xs, A', B', U', V', S', d') d A B m N R t (oC g' :: es'))) (fun _ _ => rfl) ?_
    refine eR.call (k' := 148) (as := [.ref 23]) (rest := []) (v := some (.int (v))) (h1 := (Wd (L, xs, A', B', U', V', S', d') d' A' B' m' N' R' c (oC g' :: es'))) rfl rfl rfl rfl rfl (h2) ?_
    refine eR.step 2 (F' := (361, [(0, .ref 2), (1, .ref 3), (2, .ref 23), (3, .ref 32), (4, .int (nI (i))), (5, .int (nI (c))), (6, .int (v))], [.ref 23])) (h' := (Wd (L, xs, A', B', U', V', S', d') d' A' B' m' N' R' c (oC g' :: es'))) (fun _ _ => rfl) ?_
    refine eR.call (k' := 119) (as := [.ref 23]) (rest := []) (v := some (.int (nI (c)))) (h1 := (Wd (L, xs, A', B', U', V', S', d') d' A' B' m' N' R' c (oC g' :: es'))) rfl rfl rfl rfl rfl (m_thrown) ?_
    refine eR.step 1 (F' := (366, [(0, .ref 2), (1, .ref 3), (2, .ref 23), (3, .ref 32), (4, .int (nI (i))), (5, .int (nI (c))), (6, .int (v))], [.int (nI (c)), .int (nI (c))])) (h' := (Wd (L, xs, A', B', U', V', S', d') d' A' B' m' N' R' c (oC g' :: es'))) (fun _ _ => rfl) ?_
    refine eR.icmp rfl true (decide_eq_true rfl) ?_
    refine eR.step 1 (F' := (373, [(0, .ref 2), (1, .ref 3), (2, .ref 23), (3, .ref 32), (4, .int (nI (i))), (5, .int (nI (c))), (6, .int (v))], [.int (nI (c))])) (h' := (Wd (L, xs, A', B', U', V', S', d') d' A' B' m' N' R' c (oC g' :: es'))) (fun _ _ => rfl) ?_
    by_cases hc : c = 0
    · refine eR.ifc rfl false ((nc_ne (b := 0) (by omega) (by decide)).trans (decide_eq_false (by omega))) ?_
      refine eR.step 2 (F' := (378, [(0, .ref 2), (1, .ref 3), (2, .ref 23), (3, .ref 32), (4, .int (nI (i))), (5, .int (nI (c))), (6, .int (v))], [.int (nI 0), .ref 32])) (h' := (Wd (L, xs, A', B', U', V', S', d') d' A' B' m' N' R' c (oC g' :: es'))) (fun _ _ => rfl) ?_
      refine eR.ld32 rfl ?_
      refine eR.step 1 (F' := (381, [(0, .ref 2), (1, .ref 3), (2, .ref 23), (3, .ref 32), (4, .int (nI (i))), (5, .int (nI (c))), (6, .int (v))], [.int (v), .long (g' 0)])) (h' := (Wd (L, xs, A', B', U', V', S', d') d' A' B' m' N' R' c (oC g' :: es'))) (fun _ _ => rfl) ?_
      refine eR.step 1 (F' := (382, [(0, .ref 2), (1, .ref 3), (2, .ref 23), (3, .ref 32), (4, .int (nI (i))), (5, .int (nI (c))), (6, .int (v))], [.long ((v).toInt64), .long (g' 0)])) (h' := (Wd (L, xs, A', B', U', V', S', d') d' A' B' m' N' R' c (oC g' :: es'))) (fun _ _ => rfl) ?_
      refine eR.step 1 (F' := (383, [(0, .ref 2), (1, .ref 3), (2, .ref 23), (3, .ref 32), (4, .int (nI (i))), (5, .int (nI (c))), (6, .int (v))], [.int (lg_cmp (g' 0) ((v).toInt64))])) (h' := (Wd (L, xs, A', B', U', V', S', d') d' A' B' m' N' R' c (oC g' :: es'))) (fun _ _ => rfl) ?_
      refine eR.ifc rfl true (by rw [h3 hc, lg_self]; rfl) ?_
      refine eR.step 1 (F' := (854, [(0, .ref 2), (1, .ref 3), (2, .ref 23), (3, .ref 32), (4, .int (nI (i))), (5, .int (nI (c))), (6, .int (v))], [])) (h' := (Wd (L, xs, A', B', U', V', S', d') d' A' B' m' N' R' c (oC g' :: es'))) (fun _ _ => rfl) ?_
      exact w
    · refine eR.ifc rfl true ((nc_ne (b := 0) (by omega) (by decide)).trans (decide_eq_true (hc))) ?_
      refine eR.step 1 (F' := (854, [(0, .ref 2), (1, .ref 3), (2, .ref 23), (3, .ref 32), (4, .int (nI (i))), (5, .int (nI (c))), (6, .int (v))], [])) (h' := (Wd (L, xs, A', B', U', V', S', d') d' A' B' m' N' R' c (oC g' :: es'))) (fun _ _ => rfl) ?_
      exact w
theorem law_rename {L : Nat} {xs : Nat → Int32} {A B : gT} {U V : gU} {S : gS} {d : Nat → Nat} {m : Nat} {N : Nat → Nat} {R : gS} {t : Nat} {g : Nat → Int64} {es : mj_H} {k i : Nat} {tl : mj_L} (ht : tlo tl) (I : jI A B U V S d N R es k) (hk : k < 512) (hi : i + 5 ≤ L) (hL : L ≤ 2560) (K : lK L xs i k) : lG L xs 391 i tl A B U V S d m N R t g es := by
  obtain ⟨c, v, g', es', A', B', U', V', S', d', m', N', R', h1, h2, h3, h4, h5⟩ := j_rename (L := L) (xs := xs) (m := m) (t := t) (g := g) I hk
  obtain ⟨h', w⟩ := K A' B' U' V' S' d' m' N' R' c g' es' [(5, .int (nI c)), (6, .int v)] (Or.inr ⟨_, _, rfl⟩) h5
  refine ⟨h', ?_⟩
  rcases ht with rfl | ⟨u, w0, rfl⟩
  · refine eR.step 2 (F' := (393, [(0, .ref 2), (1, .ref 3), (2, .ref 23), (3, .ref 32), (4, .int (nI (i)))], [.ref 32, .ref 3])) (h' := (Wd (L, xs, A, B, U, V, S, d) d A B m N R t (oC g :: es))) (fun _ _ => rfl) ?_
    refine eR.call (k' := 172) (as := [.ref 3, .ref 32]) (rest := []) (v := some (.int (nI (c)))) (h1 := (Wd (L, xs, A', B', U', V', S', d') d A B m N R t (oC g' :: es'))) rfl rfl rfl rfl rfl (h1) ?_
    refine eR.step 2 (F' := (399, [(0, .ref 2), (1, .ref 3), (2, .ref 23), (3, .ref 32), (4, .int (nI (i))), (5, .int (nI (c)))], [.ref 23])) (h' := (Wd (L, xs, A', B', U', V', S', d') d A B m N R t (oC g' :: es'))) (fun _ _ => rfl) ?_
    refine eR.call (k' := 150) (as := [.ref 23]) (rest := []) (v := some (.int (v))) (h1 := (Wd (L, xs, A', B', U', V', S', d') d' A' B' m' N' R' c (oC g' :: es'))) rfl rfl rfl rfl rfl (h2) ?_
    refine eR.step 2 (F' := (405, [(0, .ref 2), (1, .ref 3), (2, .ref 23), (3, .ref 32), (4, .int (nI (i))), (5, .int (nI (c))), (6, .int (v))], [.ref 23])) (h' := (Wd (L, xs, A', B', U', V', S', d') d' A' B' m' N' R' c (oC g' :: es'))) (fun _ _ => rfl) ?_
    refine eR.call (k' := 119) (as := [.ref 23]) (rest := []) (v := some (.int (nI (c)))) (h1 := (Wd (L, xs, A', B', U', V', S', d') d' A' B' m' N' R' c (oC g' :: es'))) rfl rfl rfl rfl rfl (m_thrown) ?_
    refine eR.step 1 (F' := (410, [(0, .ref 2), (1, .ref 3), (2, .ref 23), (3, .ref 32), (4, .int (nI (i))), (5, .int (nI (c))), (6, .int (v))], [.int (nI (c)), .int (nI (c))])) (h' := (Wd (L, xs, A', B', U', V', S', d') d' A' B' m' N' R' c (oC g' :: es'))) (fun _ _ => rfl) ?_
    refine eR.icmp rfl true (decide_eq_true rfl) ?_
    refine eR.step 1 (F' := (417, [(0, .ref 2), (1, .ref 3), (2, .ref 23), (3, .ref 32), (4, .int (nI (i))), (5, .int (nI (c))), (6, .int (v))], [.int (nI (c))])) (h' := (Wd (L, xs, A', B', U', V', S', d') d' A' B' m' N' R' c (oC g' :: es'))) (fun _ _ => rfl) ?_
    by_cases hc : c = 0
    · refine eR.ifc rfl false ((nc_ne (b := 0) (by omega) (by decide)).trans (decide_eq_false (by omega))) ?_
      refine eR.step 2 (F' := (422, [(0, .ref 2), (1, .ref 3), (2, .ref 23), (3, .ref 32), (4, .int (nI (i))), (5, .int (nI (c))), (6, .int (v))], [.int (nI 0), .ref 32])) (h' := (Wd (L, xs, A', B', U', V', S', d') d' A' B' m' N' R' c (oC g' :: es'))) (fun _ _ => rfl) ?_
      refine eR.ld32 rfl ?_
      refine eR.step 1 (F' := (425, [(0, .ref 2), (1, .ref 3), (2, .ref 23), (3, .ref 32), (4, .int (nI (i))), (5, .int (nI (c))), (6, .int (v))], [.int (v), .long (g' 0)])) (h' := (Wd (L, xs, A', B', U', V', S', d') d' A' B' m' N' R' c (oC g' :: es'))) (fun _ _ => rfl) ?_
      refine eR.step 1 (F' := (426, [(0, .ref 2), (1, .ref 3), (2, .ref 23), (3, .ref 32), (4, .int (nI (i))), (5, .int (nI (c))), (6, .int (v))], [.long ((v).toInt64), .long (g' 0)])) (h' := (Wd (L, xs, A', B', U', V', S', d') d' A' B' m' N' R' c (oC g' :: es'))) (fun _ _ => rfl) ?_
      refine eR.step 1 (F' := (427, [(0, .ref 2), (1, .ref 3), (2, .ref 23), (3, .ref 32), (4, .int (nI (i))), (5, .int (nI (c))), (6, .int (v))], [.int (lg_cmp (g' 0) ((v).toInt64))])) (h' := (Wd (L, xs, A', B', U', V', S', d') d' A' B' m' N' R' c (oC g' :: es'))) (fun _ _ => rfl) ?_
      refine eR.ifc rfl true (by rw [h3 hc, lg_self]; rfl) ?_
      refine eR.step 1 (F' := (854, [(0, .ref 2), (1, .ref 3), (2, .ref 23), (3, .ref 32), (4, .int (nI (i))), (5, .int (nI (c))), (6, .int (v))], [])) (h' := (Wd (L, xs, A', B', U', V', S', d') d' A' B' m' N' R' c (oC g' :: es'))) (fun _ _ => rfl) ?_
      exact w
    · refine eR.ifc rfl true ((nc_ne (b := 0) (by omega) (by decide)).trans (decide_eq_true (hc))) ?_
      refine eR.step 1 (F' := (854, [(0, .ref 2), (1, .ref 3), (2, .ref 23), (3, .ref 32), (4, .int (nI (i))), (5, .int (nI (c))), (6, .int (v))], [])) (h' := (Wd (L, xs, A', B', U', V', S', d') d' A' B' m' N' R' c (oC g' :: es'))) (fun _ _ => rfl) ?_
      exact w
  · refine eR.step 2 (F' := (393, [(0, .ref 2), (1, .ref 3), (2, .ref 23), (3, .ref 32), (4, .int (nI (i))), (5, u), (6, w0)], [.ref 32, .ref 3])) (h' := (Wd (L, xs, A, B, U, V, S, d) d A B m N R t (oC g :: es))) (fun _ _ => rfl) ?_
    refine eR.call (k' := 172) (as := [.ref 3, .ref 32]) (rest := []) (v := some (.int (nI (c)))) (h1 := (Wd (L, xs, A', B', U', V', S', d') d A B m N R t (oC g' :: es'))) rfl rfl rfl rfl rfl (h1) ?_
    refine eR.step 2 (F' := (399, [(0, .ref 2), (1, .ref 3), (2, .ref 23), (3, .ref 32), (4, .int (nI (i))), (5, .int (nI (c))), (6, w0)], [.ref 23])) (h' := (Wd (L, xs, A', B', U', V', S', d') d A B m N R t (oC g' :: es'))) (fun _ _ => rfl) ?_
    refine eR.call (k' := 150) (as := [.ref 23]) (rest := []) (v := some (.int (v))) (h1 := (Wd (L, xs, A', B', U', V', S', d') d' A' B' m' N' R' c (oC g' :: es'))) rfl rfl rfl rfl rfl (h2) ?_
    refine eR.step 2 (F' := (405, [(0, .ref 2), (1, .ref 3), (2, .ref 23), (3, .ref 32), (4, .int (nI (i))), (5, .int (nI (c))), (6, .int (v))], [.ref 23])) (h' := (Wd (L, xs, A', B', U', V', S', d') d' A' B' m' N' R' c (oC g' :: es'))) (fun _ _ => rfl) ?_
    refine eR.call (k' := 119) (as := [.ref 23]) (rest := []) (v := some (.int (nI (c)))) (h1 := (Wd (L, xs, A', B', U', V', S', d') d' A' B' m' N' R' c (oC g' :: es'))) rfl rfl rfl rfl rfl (m_thrown) ?_
    refine eR.step 1 (F' := (410, [(0, .ref 2), (1, .ref 3), (2, .ref 23), (3, .ref 32), (4, .int (nI (i))), (5, .int (nI (c))), (6, .int (v))], [.int (nI (c)), .int (nI (c))])) (h' := (Wd (L, xs, A', B', U', V', S', d') d' A' B' m' N' R' c (oC g' :: es'))) (fun _ _ => rfl) ?_
    refine eR.icmp rfl true (decide_eq_true rfl) ?_
    refine eR.step 1 (F' := (417, [(0, .ref 2), (1, .ref 3), (2, .ref 23), (3, .ref 32), (4, .int (nI (i))), (5, .int (nI (c))), (6, .int (v))], [.int (nI (c))])) (h' := (Wd (L, xs, A', B', U', V', S', d') d' A' B' m' N' R' c (oC g' :: es'))) (fun _ _ => rfl) ?_
    by_cases hc : c = 0
    · refine eR.ifc rfl false ((nc_ne (b := 0) (by omega) (by decide)).trans (decide_eq_false (by omega))) ?_
      refine eR.step 2 (F' := (422, [(0, .ref 2), (1, .ref 3), (2, .ref 23), (3, .ref 32), (4, .int (nI (i))), (5, .int (nI (c))), (6, .int (v))], [.int (nI 0), .ref 32])) (h' := (Wd (L, xs, A', B', U', V', S', d') d' A' B' m' N' R' c (oC g' :: es'))) (fun _ _ => rfl) ?_
      refine eR.ld32 rfl ?_
      refine eR.step 1 (F' := (425, [(0, .ref 2), (1, .ref 3), (2, .ref 23), (3, .ref 32), (4, .int (nI (i))), (5, .int (nI (c))), (6, .int (v))], [.int (v), .long (g' 0)])) (h' := (Wd (L, xs, A', B', U', V', S', d') d' A' B' m' N' R' c (oC g' :: es'))) (fun _ _ => rfl) ?_
      refine eR.step 1 (F' := (426, [(0, .ref 2), (1, .ref 3), (2, .ref 23), (3, .ref 32), (4, .int (nI (i))), (5, .int (nI (c))), (6, .int (v))], [.long ((v).toInt64), .long (g' 0)])) (h' := (Wd (L, xs, A', B', U', V', S', d') d' A' B' m' N' R' c (oC g' :: es'))) (fun _ _ => rfl) ?_
      refine eR.step 1 (F' := (427, [(0, .ref 2), (1, .ref 3), (2, .ref 23), (3, .ref 32), (4, .int (nI (i))), (5, .int (nI (c))), (6, .int (v))], [.int (lg_cmp (g' 0) ((v).toInt64))])) (h' := (Wd (L, xs, A', B', U', V', S', d') d' A' B' m' N' R' c (oC g' :: es'))) (fun _ _ => rfl) ?_
      refine eR.ifc rfl true (by rw [h3 hc, lg_self]; rfl) ?_
      refine eR.step 1 (F' := (854, [(0, .ref 2), (1, .ref 3), (2, .ref 23), (3, .ref 32), (4, .int (nI (i))), (5, .int (nI (c))), (6, .int (v))], [])) (h' := (Wd (L, xs, A', B', U', V', S', d') d' A' B' m' N' R' c (oC g' :: es'))) (fun _ _ => rfl) ?_
      exact w
    · refine eR.ifc rfl true ((nc_ne (b := 0) (by omega) (by decide)).trans (decide_eq_true (hc))) ?_
      refine eR.step 1 (F' := (854, [(0, .ref 2), (1, .ref 3), (2, .ref 23), (3, .ref 32), (4, .int (nI (i))), (5, .int (nI (c))), (6, .int (v))], [])) (h' := (Wd (L, xs, A', B', U', V', S', d') d' A' B' m' N' R' c (oC g' :: es'))) (fun _ _ => rfl) ?_
      exact w
set_option maxRecDepth 4000 in
theorem law_write {L : Nat} {xs : Nat → Int32} {A B : gT} {U V : gU} {S : gS} {d : Nat → Nat} {m : Nat} {N : Nat → Nat} {R : gS} {t : Nat} {g : Nat → Int64} {es : mj_H} {k i : Nat} {tl : mj_L} (ht : tlo tl) (I : jI A B U V S d N R es k) (hk : k < 512) (hi : i + 5 ≤ L) (hL : L ≤ 2560) (K : lK L xs i k) : lG L xs 435 i tl A B U V S d m N R t g es := by
  obtain ⟨c, v, g', es', A', B', U', V', S', d', m', N', R', h1, h2, h3, h4, h5⟩ := j_write (L := L) (xs := xs) (m := m) (t := t) (g := g) (p := xs (i + 1)) (q := xs (i + 2)) (w := (((xs (i + 3)).toInt64) <<< ((nI 32).toInt64 &&& 63)) ||| (((xs (i + 4)).toInt64) &&& (Int64.ofNat 4294967295))) I hk
  obtain ⟨h', w⟩ := K A' B' U' V' S' d' m' N' R' c g' es' [(5, .int (nI c)), (6, .int v)] (Or.inr ⟨_, _, rfl⟩) h5
  refine ⟨h', ?_⟩
  rcases ht with rfl | ⟨u, w0, rfl⟩
  · refine eR.step 4 (F' := (440, [(0, .ref 2), (1, .ref 3), (2, .ref 23), (3, .ref 32), (4, .int (nI (i)))], [.int (nI 1), .int (nI (i)), .ref 2, .ref 3])) (h' := (Wd (L, xs, A, B, U, V, S, d) d A B m N R t (oC g :: es))) (fun _ _ => rfl) ?_
    refine eR.nadd rfl ?_
    refine eR.ldS rfl (by omega) (by omega) ?_
    refine eR.step 3 (F' := (446, [(0, .ref 2), (1, .ref 3), (2, .ref 23), (3, .ref 32), (4, .int (nI (i)))], [.int (nI 2), .int (nI (i)), .ref 2, .int (xs (i + 1)), .ref 3])) (h' := (Wd (L, xs, A, B, U, V, S, d) d A B m N R t (oC g :: es))) (fun _ _ => rfl) ?_
    refine eR.nadd rfl ?_
    refine eR.ldS rfl (by omega) (by omega) ?_
    refine eR.step 3 (F' := (452, [(0, .ref 2), (1, .ref 3), (2, .ref 23), (3, .ref 32), (4, .int (nI (i)))], [.int (nI 3), .int (nI (i)), .ref 2, .int (xs (i + 2)), .int (xs (i + 1)), .ref 3])) (h' := (Wd (L, xs, A, B, U, V, S, d) d A B m N R t (oC g :: es))) (fun _ _ => rfl) ?_
    refine eR.nadd rfl ?_
    refine eR.ldS rfl (by omega) (by omega) ?_
    refine eR.step 1 (F' := (455, [(0, .ref 2), (1, .ref 3), (2, .ref 23), (3, .ref 32), (4, .int (nI (i)))], [.long ((xs (i + 3)).toInt64), .int (xs (i + 2)), .int (xs (i + 1)), .ref 3])) (h' := (Wd (L, xs, A, B, U, V, S, d) d A B m N R t (oC g :: es))) (fun _ _ => rfl) ?_
    refine eR.step 1 (F' := (457, [(0, .ref 2), (1, .ref 3), (2, .ref 23), (3, .ref 32), (4, .int (nI (i)))], [.int (nI 32), .long ((xs (i + 3)).toInt64), .int (xs (i + 2)), .int (xs (i + 1)), .ref 3])) (h' := (Wd (L, xs, A, B, U, V, S, d) d A B m N R t (oC g :: es))) (fun _ _ => rfl) ?_
    refine eR.step 1 (F' := (458, [(0, .ref 2), (1, .ref 3), (2, .ref 23), (3, .ref 32), (4, .int (nI (i)))], [.long (((xs (i + 3)).toInt64) <<< ((nI 32).toInt64 &&& 63)), .int (xs (i + 2)), .int (xs (i + 1)), .ref 3])) (h' := (Wd (L, xs, A, B, U, V, S, d) d A B m N R t (oC g :: es))) (fun _ _ => rfl) ?_
    refine eR.step 3 (F' := (462, [(0, .ref 2), (1, .ref 3), (2, .ref 23), (3, .ref 32), (4, .int (nI (i)))], [.int (nI 4), .int (nI (i)), .ref 2, .long (((xs (i + 3)).toInt64) <<< ((nI 32).toInt64 &&& 63)), .int (xs (i + 2)), .int (xs (i + 1)), .ref 3])) (h' := (Wd (L, xs, A, B, U, V, S, d) d A B m N R t (oC g :: es))) (fun _ _ => rfl) ?_
    refine eR.nadd rfl ?_
    refine eR.ldS rfl (by omega) (by omega) ?_
    refine eR.step 1 (F' := (465, [(0, .ref 2), (1, .ref 3), (2, .ref 23), (3, .ref 32), (4, .int (nI (i)))], [.long ((xs (i + 4)).toInt64), .long (((xs (i + 3)).toInt64) <<< ((nI 32).toInt64 &&& 63)), .int (xs (i + 2)), .int (xs (i + 1)), .ref 3])) (h' := (Wd (L, xs, A, B, U, V, S, d) d A B m N R t (oC g :: es))) (fun _ _ => rfl) ?_
    refine eR.step 1 (F' := (468, [(0, .ref 2), (1, .ref 3), (2, .ref 23), (3, .ref 32), (4, .int (nI (i)))], [.long (Int64.ofNat 4294967295), .long ((xs (i + 4)).toInt64), .long (((xs (i + 3)).toInt64) <<< ((nI 32).toInt64 &&& 63)), .int (xs (i + 2)), .int (xs (i + 1)), .ref 3])) (h' := (Wd (L, xs, A, B, U, V, S, d) d A B m N R t (oC g :: es))) (fun _ _ => rfl) ?_
    refine eR.step 1 (F' := (469, [(0, .ref 2), (1, .ref 3), (2, .ref 23), (3, .ref 32), (4, .int (nI (i)))], [.long (((xs (i + 4)).toInt64) &&& (Int64.ofNat 4294967295)), .long (((xs (i + 3)).toInt64) <<< ((nI 32).toInt64 &&& 63)), .int (xs (i + 2)), .int (xs (i + 1)), .ref 3])) (h' := (Wd (L, xs, A, B, U, V, S, d) d A B m N R t (oC g :: es))) (fun _ _ => rfl) ?_
    refine eR.step 1 (F' := (470, [(0, .ref 2), (1, .ref 3), (2, .ref 23), (3, .ref 32), (4, .int (nI (i)))], [.long ((((xs (i + 3)).toInt64) <<< ((nI 32).toInt64 &&& 63)) ||| (((xs (i + 4)).toInt64) &&& (Int64.ofNat 4294967295))), .int (xs (i + 2)), .int (xs (i + 1)), .ref 3])) (h' := (Wd (L, xs, A, B, U, V, S, d) d A B m N R t (oC g :: es))) (fun _ _ => rfl) ?_
    refine eR.step 1 (F' := (471, [(0, .ref 2), (1, .ref 3), (2, .ref 23), (3, .ref 32), (4, .int (nI (i)))], [.ref 32, .long ((((xs (i + 3)).toInt64) <<< ((nI 32).toInt64 &&& 63)) ||| (((xs (i + 4)).toInt64) &&& (Int64.ofNat 4294967295))), .int (xs (i + 2)), .int (xs (i + 1)), .ref 3])) (h' := (Wd (L, xs, A, B, U, V, S, d) d A B m N R t (oC g :: es))) (fun _ _ => rfl) ?_
    refine eR.call (k' := 173) (as := [.ref 3, .int (xs (i + 1)), .int (xs (i + 2)), .long ((((xs (i + 3)).toInt64) <<< ((nI 32).toInt64 &&& 63)) ||| (((xs (i + 4)).toInt64) &&& (Int64.ofNat 4294967295))), .ref 32]) (rest := []) (v := some (.int (nI (c)))) (h1 := (Wd (L, xs, A', B', U', V', S', d') d A B m N R t (oC g' :: es'))) rfl rfl rfl rfl rfl (h1) ?_
    refine eR.step 5 (F' := (481, [(0, .ref 2), (1, .ref 3), (2, .ref 23), (3, .ref 32), (4, .int (nI (i))), (5, .int (nI (c)))], [.int (nI 1), .int (nI (i)), .ref 2, .ref 23])) (h' := (Wd (L, xs, A', B', U', V', S', d') d A B m N R t (oC g' :: es'))) (fun _ _ => rfl) ?_
    refine eR.nadd rfl ?_
    refine eR.ldS rfl (by omega) (by omega) ?_
    refine eR.step 3 (F' := (487, [(0, .ref 2), (1, .ref 3), (2, .ref 23), (3, .ref 32), (4, .int (nI (i))), (5, .int (nI (c)))], [.int (nI 2), .int (nI (i)), .ref 2, .int (xs (i + 1)), .ref 23])) (h' := (Wd (L, xs, A', B', U', V', S', d') d A B m N R t (oC g' :: es'))) (fun _ _ => rfl) ?_
    refine eR.nadd rfl ?_
    refine eR.ldS rfl (by omega) (by omega) ?_
    refine eR.step 3 (F' := (493, [(0, .ref 2), (1, .ref 3), (2, .ref 23), (3, .ref 32), (4, .int (nI (i))), (5, .int (nI (c)))], [.int (nI 3), .int (nI (i)), .ref 2, .int (xs (i + 2)), .int (xs (i + 1)), .ref 23])) (h' := (Wd (L, xs, A', B', U', V', S', d') d A B m N R t (oC g' :: es'))) (fun _ _ => rfl) ?_
    refine eR.nadd rfl ?_
    refine eR.ldS rfl (by omega) (by omega) ?_
    refine eR.step 1 (F' := (496, [(0, .ref 2), (1, .ref 3), (2, .ref 23), (3, .ref 32), (4, .int (nI (i))), (5, .int (nI (c)))], [.long ((xs (i + 3)).toInt64), .int (xs (i + 2)), .int (xs (i + 1)), .ref 23])) (h' := (Wd (L, xs, A', B', U', V', S', d') d A B m N R t (oC g' :: es'))) (fun _ _ => rfl) ?_
    refine eR.step 1 (F' := (498, [(0, .ref 2), (1, .ref 3), (2, .ref 23), (3, .ref 32), (4, .int (nI (i))), (5, .int (nI (c)))], [.int (nI 32), .long ((xs (i + 3)).toInt64), .int (xs (i + 2)), .int (xs (i + 1)), .ref 23])) (h' := (Wd (L, xs, A', B', U', V', S', d') d A B m N R t (oC g' :: es'))) (fun _ _ => rfl) ?_
    refine eR.step 1 (F' := (499, [(0, .ref 2), (1, .ref 3), (2, .ref 23), (3, .ref 32), (4, .int (nI (i))), (5, .int (nI (c)))], [.long (((xs (i + 3)).toInt64) <<< ((nI 32).toInt64 &&& 63)), .int (xs (i + 2)), .int (xs (i + 1)), .ref 23])) (h' := (Wd (L, xs, A', B', U', V', S', d') d A B m N R t (oC g' :: es'))) (fun _ _ => rfl) ?_
    refine eR.step 3 (F' := (503, [(0, .ref 2), (1, .ref 3), (2, .ref 23), (3, .ref 32), (4, .int (nI (i))), (5, .int (nI (c)))], [.int (nI 4), .int (nI (i)), .ref 2, .long (((xs (i + 3)).toInt64) <<< ((nI 32).toInt64 &&& 63)), .int (xs (i + 2)), .int (xs (i + 1)), .ref 23])) (h' := (Wd (L, xs, A', B', U', V', S', d') d A B m N R t (oC g' :: es'))) (fun _ _ => rfl) ?_
    refine eR.nadd rfl ?_
    refine eR.ldS rfl (by omega) (by omega) ?_
    refine eR.step 1 (F' := (506, [(0, .ref 2), (1, .ref 3), (2, .ref 23), (3, .ref 32), (4, .int (nI (i))), (5, .int (nI (c)))], [.long ((xs (i + 4)).toInt64), .long (((xs (i + 3)).toInt64) <<< ((nI 32).toInt64 &&& 63)), .int (xs (i + 2)), .int (xs (i + 1)), .ref 23])) (h' := (Wd (L, xs, A', B', U', V', S', d') d A B m N R t (oC g' :: es'))) (fun _ _ => rfl) ?_
    refine eR.step 1 (F' := (509, [(0, .ref 2), (1, .ref 3), (2, .ref 23), (3, .ref 32), (4, .int (nI (i))), (5, .int (nI (c)))], [.long (Int64.ofNat 4294967295), .long ((xs (i + 4)).toInt64), .long (((xs (i + 3)).toInt64) <<< ((nI 32).toInt64 &&& 63)), .int (xs (i + 2)), .int (xs (i + 1)), .ref 23])) (h' := (Wd (L, xs, A', B', U', V', S', d') d A B m N R t (oC g' :: es'))) (fun _ _ => rfl) ?_
    refine eR.step 1 (F' := (510, [(0, .ref 2), (1, .ref 3), (2, .ref 23), (3, .ref 32), (4, .int (nI (i))), (5, .int (nI (c)))], [.long (((xs (i + 4)).toInt64) &&& (Int64.ofNat 4294967295)), .long (((xs (i + 3)).toInt64) <<< ((nI 32).toInt64 &&& 63)), .int (xs (i + 2)), .int (xs (i + 1)), .ref 23])) (h' := (Wd (L, xs, A', B', U', V', S', d') d A B m N R t (oC g' :: es'))) (fun _ _ => rfl) ?_
    refine eR.step 1 (F' := (511, [(0, .ref 2), (1, .ref 3), (2, .ref 23), (3, .ref 32), (4, .int (nI (i))), (5, .int (nI (c)))], [.long ((((xs (i + 3)).toInt64) <<< ((nI 32).toInt64 &&& 63)) ||| (((xs (i + 4)).toInt64) &&& (Int64.ofNat 4294967295))), .int (xs (i + 2)), .int (xs (i + 1)), .ref 23])) (h' := (Wd (L, xs, A', B', U', V', S', d') d A B m N R t (oC g' :: es'))) (fun _ _ => rfl) ?_
    refine eR.call (k' := 152) (as := [.ref 23, .int (xs (i + 1)), .int (xs (i + 2)), .long ((((xs (i + 3)).toInt64) <<< ((nI 32).toInt64 &&& 63)) ||| (((xs (i + 4)).toInt64) &&& (Int64.ofNat 4294967295)))]) (rest := []) (v := some (.int (v))) (h1 := (Wd (L, xs, A', B', U', V', S', d') d' A' B' m' N' R' c (oC g' :: es'))) rfl rfl rfl rfl rfl (h2) ?_
    refine eR.step 2 (F' := (517, [(0, .ref 2), (1, .ref 3), (2, .ref 23), (3, .ref 32), (4, .int (nI (i))), (5, .int (nI (c))), (6, .int (v))], [.ref 23])) (h' := (Wd (L, xs, A', B', U', V', S', d') d' A' B' m' N' R' c (oC g' :: es'))) (fun _ _ => rfl) ?_
    refine eR.call (k' := 119) (as := [.ref 23]) (rest := []) (v := some (.int (nI (c)))) (h1 := (Wd (L, xs, A', B', U', V', S', d') d' A' B' m' N' R' c (oC g' :: es'))) rfl rfl rfl rfl rfl (m_thrown) ?_
    refine eR.step 1 (F' := (522, [(0, .ref 2), (1, .ref 3), (2, .ref 23), (3, .ref 32), (4, .int (nI (i))), (5, .int (nI (c))), (6, .int (v))], [.int (nI (c)), .int (nI (c))])) (h' := (Wd (L, xs, A', B', U', V', S', d') d' A' B' m' N' R' c (oC g' :: es'))) (fun _ _ => rfl) ?_
    refine eR.icmp rfl true (decide_eq_true rfl) ?_
    refine eR.step 1 (F' := (529, [(0, .ref 2), (1, .ref 3), (2, .ref 23), (3, .ref 32), (4, .int (nI (i))), (5, .int (nI (c))), (6, .int (v))], [.int (nI (c))])) (h' := (Wd (L, xs, A', B', U', V', S', d') d' A' B' m' N' R' c (oC g' :: es'))) (fun _ _ => rfl) ?_
    by_cases hc : c = 0
    · refine eR.ifc rfl false ((nc_ne (b := 0) (by omega) (by decide)).trans (decide_eq_false (by omega))) ?_
      refine eR.step 2 (F' := (534, [(0, .ref 2), (1, .ref 3), (2, .ref 23), (3, .ref 32), (4, .int (nI (i))), (5, .int (nI (c))), (6, .int (v))], [.int (nI 0), .ref 32])) (h' := (Wd (L, xs, A', B', U', V', S', d') d' A' B' m' N' R' c (oC g' :: es'))) (fun _ _ => rfl) ?_
      refine eR.ld32 rfl ?_
      refine eR.step 1 (F' := (537, [(0, .ref 2), (1, .ref 3), (2, .ref 23), (3, .ref 32), (4, .int (nI (i))), (5, .int (nI (c))), (6, .int (v))], [.int (v), .long (g' 0)])) (h' := (Wd (L, xs, A', B', U', V', S', d') d' A' B' m' N' R' c (oC g' :: es'))) (fun _ _ => rfl) ?_
      refine eR.step 1 (F' := (538, [(0, .ref 2), (1, .ref 3), (2, .ref 23), (3, .ref 32), (4, .int (nI (i))), (5, .int (nI (c))), (6, .int (v))], [.long ((v).toInt64), .long (g' 0)])) (h' := (Wd (L, xs, A', B', U', V', S', d') d' A' B' m' N' R' c (oC g' :: es'))) (fun _ _ => rfl) ?_
      refine eR.step 1 (F' := (539, [(0, .ref 2), (1, .ref 3), (2, .ref 23), (3, .ref 32), (4, .int (nI (i))), (5, .int (nI (c))), (6, .int (v))], [.int (lg_cmp (g' 0) ((v).toInt64))])) (h' := (Wd (L, xs, A', B', U', V', S', d') d' A' B' m' N' R' c (oC g' :: es'))) (fun _ _ => rfl) ?_
      refine eR.ifc rfl true (by rw [h3 hc, lg_self]; rfl) ?_
      refine eR.step 1 (F' := (854, [(0, .ref 2), (1, .ref 3), (2, .ref 23), (3, .ref 32), (4, .int (nI (i))), (5, .int (nI (c))), (6, .int (v))], [])) (h' := (Wd (L, xs, A', B', U', V', S', d') d' A' B' m' N' R' c (oC g' :: es'))) (fun _ _ => rfl) ?_
      exact w
    · refine eR.ifc rfl true ((nc_ne (b := 0) (by omega) (by decide)).trans (decide_eq_true (hc))) ?_
      refine eR.step 1 (F' := (854, [(0, .ref 2), (1, .ref 3), (2, .ref 23), (3, .ref 32), (4, .int (nI (i))), (5, .int (nI (c))), (6, .int (v))], [])) (h' := (Wd (L, xs, A', B', U', V', S', d') d' A' B' m' N' R' c (oC g' :: es'))) (fun _ _ => rfl) ?_
      exact w
  · refine eR.step 4 (F' := (440, [(0, .ref 2), (1, .ref 3), (2, .ref 23), (3, .ref 32), (4, .int (nI (i))), (5, u), (6, w0)], [.int (nI 1), .int (nI (i)), .ref 2, .ref 3])) (h' := (Wd (L, xs, A, B, U, V, S, d) d A B m N R t (oC g :: es))) (fun _ _ => rfl) ?_
    refine eR.nadd rfl ?_
    refine eR.ldS rfl (by omega) (by omega) ?_
    refine eR.step 3 (F' := (446, [(0, .ref 2), (1, .ref 3), (2, .ref 23), (3, .ref 32), (4, .int (nI (i))), (5, u), (6, w0)], [.int (nI 2), .int (nI (i)), .ref 2, .int (xs (i + 1)), .ref 3])) (h' := (Wd (L, xs, A, B, U, V, S, d) d A B m N R t (oC g :: es))) (fun _ _ => rfl) ?_
    refine eR.nadd rfl ?_
    refine eR.ldS rfl (by omega) (by omega) ?_
    refine eR.step 3 (F' := (452, [(0, .ref 2), (1, .ref 3), (2, .ref 23), (3, .ref 32), (4, .int (nI (i))), (5, u), (6, w0)], [.int (nI 3), .int (nI (i)), .ref 2, .int (xs (i + 2)), .int (xs (i + 1)), .ref 3])) (h' := (Wd (L, xs, A, B, U, V, S, d) d A B m N R t (oC g :: es))) (fun _ _ => rfl) ?_
    refine eR.nadd rfl ?_
    refine eR.ldS rfl (by omega) (by omega) ?_
    refine eR.step 1 (F' := (455, [(0, .ref 2), (1, .ref 3), (2, .ref 23), (3, .ref 32), (4, .int (nI (i))), (5, u), (6, w0)], [.long ((xs (i + 3)).toInt64), .int (xs (i + 2)), .int (xs (i + 1)), .ref 3])) (h' := (Wd (L, xs, A, B, U, V, S, d) d A B m N R t (oC g :: es))) (fun _ _ => rfl) ?_
    refine eR.step 1 (F' := (457, [(0, .ref 2), (1, .ref 3), (2, .ref 23), (3, .ref 32), (4, .int (nI (i))), (5, u), (6, w0)], [.int (nI 32), .long ((xs (i + 3)).toInt64), .int (xs (i + 2)), .int (xs (i + 1)), .ref 3])) (h' := (Wd (L, xs, A, B, U, V, S, d) d A B m N R t (oC g :: es))) (fun _ _ => rfl) ?_
    refine eR.step 1 (F' := (458, [(0, .ref 2), (1, .ref 3), (2, .ref 23), (3, .ref 32), (4, .int (nI (i))), (5, u), (6, w0)], [.long (((xs (i + 3)).toInt64) <<< ((nI 32).toInt64 &&& 63)), .int (xs (i + 2)), .int (xs (i + 1)), .ref 3])) (h' := (Wd (L, xs, A, B, U, V, S, d) d A B m N R t (oC g :: es))) (fun _ _ => rfl) ?_
    refine eR.step 3 (F' := (462, [(0, .ref 2), (1, .ref 3), (2, .ref 23), (3, .ref 32), (4, .int (nI (i))), (5, u), (6, w0)], [.int (nI 4), .int (nI (i)), .ref 2, .long (((xs (i + 3)).toInt64) <<< ((nI 32).toInt64 &&& 63)), .int (xs (i + 2)), .int (xs (i + 1)), .ref 3])) (h' := (Wd (L, xs, A, B, U, V, S, d) d A B m N R t (oC g :: es))) (fun _ _ => rfl) ?_
    refine eR.nadd rfl ?_
    refine eR.ldS rfl (by omega) (by omega) ?_
    refine eR.step 1 (F' := (465, [(0, .ref 2), (1, .ref 3), (2, .ref 23), (3, .ref 32), (4, .int (nI (i))), (5, u), (6, w0)], [.long ((xs (i + 4)).toInt64), .long (((xs (i + 3)).toInt64) <<< ((nI 32).toInt64 &&& 63)), .int (xs (i + 2)), .int (xs (i + 1)), .ref 3])) (h' := (Wd (L, xs, A, B, U, V, S, d) d A B m N R t (oC g :: es))) (fun _ _ => rfl) ?_
    refine eR.step 1 (F' := (468, [(0, .ref 2), (1, .ref 3), (2, .ref 23), (3, .ref 32), (4, .int (nI (i))), (5, u), (6, w0)], [.long (Int64.ofNat 4294967295), .long ((xs (i + 4)).toInt64), .long (((xs (i + 3)).toInt64) <<< ((nI 32).toInt64 &&& 63)), .int (xs (i + 2)), .int (xs (i + 1)), .ref 3])) (h' := (Wd (L, xs, A, B, U, V, S, d) d A B m N R t (oC g :: es))) (fun _ _ => rfl) ?_
    refine eR.step 1 (F' := (469, [(0, .ref 2), (1, .ref 3), (2, .ref 23), (3, .ref 32), (4, .int (nI (i))), (5, u), (6, w0)], [.long (((xs (i + 4)).toInt64) &&& (Int64.ofNat 4294967295)), .long (((xs (i + 3)).toInt64) <<< ((nI 32).toInt64 &&& 63)), .int (xs (i + 2)), .int (xs (i + 1)), .ref 3])) (h' := (Wd (L, xs, A, B, U, V, S, d) d A B m N R t (oC g :: es))) (fun _ _ => rfl) ?_
    refine eR.step 1 (F' := (470, [(0, .ref 2), (1, .ref 3), (2, .ref 23), (3, .ref 32), (4, .int (nI (i))), (5, u), (6, w0)], [.long ((((xs (i + 3)).toInt64) <<< ((nI 32).toInt64 &&& 63)) ||| (((xs (i + 4)).toInt64) &&& (Int64.ofNat 4294967295))), .int (xs (i + 2)), .int (xs (i + 1)), .ref 3])) (h' := (Wd (L, xs, A, B, U, V, S, d) d A B m N R t (oC g :: es))) (fun _ _ => rfl) ?_
    refine eR.step 1 (F' := (471, [(0, .ref 2), (1, .ref 3), (2, .ref 23), (3, .ref 32), (4, .int (nI (i))), (5, u), (6, w0)], [.ref 32, .long ((((xs (i + 3)).toInt64) <<< ((nI 32).toInt64 &&& 63)) ||| (((xs (i + 4)).toInt64) &&& (Int64.ofNat 4294967295))), .int (xs (i + 2)), .int (xs (i + 1)), .ref 3])) (h' := (Wd (L, xs, A, B, U, V, S, d) d A B m N R t (oC g :: es))) (fun _ _ => rfl) ?_
    refine eR.call (k' := 173) (as := [.ref 3, .int (xs (i + 1)), .int (xs (i + 2)), .long ((((xs (i + 3)).toInt64) <<< ((nI 32).toInt64 &&& 63)) ||| (((xs (i + 4)).toInt64) &&& (Int64.ofNat 4294967295))), .ref 32]) (rest := []) (v := some (.int (nI (c)))) (h1 := (Wd (L, xs, A', B', U', V', S', d') d A B m N R t (oC g' :: es'))) rfl rfl rfl rfl rfl (h1) ?_
    refine eR.step 5 (F' := (481, [(0, .ref 2), (1, .ref 3), (2, .ref 23), (3, .ref 32), (4, .int (nI (i))), (5, .int (nI (c))), (6, w0)], [.int (nI 1), .int (nI (i)), .ref 2, .ref 23])) (h' := (Wd (L, xs, A', B', U', V', S', d') d A B m N R t (oC g' :: es'))) (fun _ _ => rfl) ?_
    refine eR.nadd rfl ?_
    refine eR.ldS rfl (by omega) (by omega) ?_
    refine eR.step 3 (F' := (487, [(0, .ref 2), (1, .ref 3), (2, .ref 23), (3, .ref 32), (4, .int (nI (i))), (5, .int (nI (c))), (6, w0)], [.int (nI 2), .int (nI (i)), .ref 2, .int (xs (i + 1)), .ref 23])) (h' := (Wd (L, xs, A', B', U', V', S', d') d A B m N R t (oC g' :: es'))) (fun _ _ => rfl) ?_
    refine eR.nadd rfl ?_
    refine eR.ldS rfl (by omega) (by omega) ?_
    refine eR.step 3 (F' := (493, [(0, .ref 2), (1, .ref 3), (2, .ref 23), (3, .ref 32), (4, .int (nI (i))), (5, .int (nI (c))), (6, w0)], [.int (nI 3), .int (nI (i)), .ref 2, .int (xs (i + 2)), .int (xs (i + 1)), .ref 23])) (h' := (Wd (L, xs, A', B', U', V', S', d') d A B m N R t (oC g' :: es'))) (fun _ _ => rfl) ?_
    refine eR.nadd rfl ?_
    refine eR.ldS rfl (by omega) (by omega) ?_
    refine eR.step 1 (F' := (496, [(0, .ref 2), (1, .ref 3), (2, .ref 23), (3, .ref 32), (4, .int (nI (i))), (5, .int (nI (c))), (6, w0)], [.long ((xs (i + 3)).toInt64), .int (xs (i + 2)), .int (xs (i + 1)), .ref 23])) (h' := (Wd (L, xs, A', B', U', V', S', d') d A B m N R t (oC g' :: es'))) (fun _ _ => rfl) ?_
    refine eR.step 1 (F' := (498, [(0, .ref 2), (1, .ref 3), (2, .ref 23), (3, .ref 32), (4, .int (nI (i))), (5, .int (nI (c))), (6, w0)], [.int (nI 32), .long ((xs (i + 3)).toInt64), .int (xs (i + 2)), .int (xs (i + 1)), .ref 23])) (h' := (Wd (L, xs, A', B', U', V', S', d') d A B m N R t (oC g' :: es'))) (fun _ _ => rfl) ?_
    refine eR.step 1 (F' := (499, [(0, .ref 2), (1, .ref 3), (2, .ref 23), (3, .ref 32), (4, .int (nI (i))), (5, .int (nI (c))), (6, w0)], [.long (((xs (i + 3)).toInt64) <<< ((nI 32).toInt64 &&& 63)), .int (xs (i + 2)), .int (xs (i + 1)), .ref 23])) (h' := (Wd (L, xs, A', B', U', V', S', d') d A B m N R t (oC g' :: es'))) (fun _ _ => rfl) ?_
    refine eR.step 3 (F' := (503, [(0, .ref 2), (1, .ref 3), (2, .ref 23), (3, .ref 32), (4, .int (nI (i))), (5, .int (nI (c))), (6, w0)], [.int (nI 4), .int (nI (i)), .ref 2, .long (((xs (i + 3)).toInt64) <<< ((nI 32).toInt64 &&& 63)), .int (xs (i + 2)), .int (xs (i + 1)), .ref 23])) (h' := (Wd (L, xs, A', B', U', V', S', d') d A B m N R t (oC g' :: es'))) (fun _ _ => rfl) ?_
    refine eR.nadd rfl ?_
    refine eR.ldS rfl (by omega) (by omega) ?_
    refine eR.step 1 (F' := (506, [(0, .ref 2), (1, .ref 3), (2, .ref 23), (3, .ref 32), (4, .int (nI (i))), (5, .int (nI (c))), (6, w0)], [.long ((xs (i + 4)).toInt64), .long (((xs (i + 3)).toInt64) <<< ((nI 32).toInt64 &&& 63)), .int (xs (i + 2)), .int (xs (i + 1)), .ref 23])) (h' := (Wd (L, xs, A', B', U', V', S', d') d A B m N R t (oC g' :: es'))) (fun _ _ => rfl) ?_
    refine eR.step 1 (F' := (509, [(0, .ref 2), (1, .ref 3), (2, .ref 23), (3, .ref 32), (4, .int (nI (i))), (5, .int (nI (c))), (6, w0)], [.long (Int64.ofNat 4294967295), .long ((xs (i + 4)).toInt64), .long (((xs (i + 3)).toInt64) <<< ((nI 32).toInt64 &&& 63)), .int (xs (i + 2)), .int (xs (i + 1)), .ref 23])) (h' := (Wd (L, xs, A', B', U', V', S', d') d A B m N R t (oC g' :: es'))) (fun _ _ => rfl) ?_
    refine eR.step 1 (F' := (510, [(0, .ref 2), (1, .ref 3), (2, .ref 23), (3, .ref 32), (4, .int (nI (i))), (5, .int (nI (c))), (6, w0)], [.long (((xs (i + 4)).toInt64) &&& (Int64.ofNat 4294967295)), .long (((xs (i + 3)).toInt64) <<< ((nI 32).toInt64 &&& 63)), .int (xs (i + 2)), .int (xs (i + 1)), .ref 23])) (h' := (Wd (L, xs, A', B', U', V', S', d') d A B m N R t (oC g' :: es'))) (fun _ _ => rfl) ?_
    refine eR.step 1 (F' := (511, [(0, .ref 2), (1, .ref 3), (2, .ref 23), (3, .ref 32), (4, .int (nI (i))), (5, .int (nI (c))), (6, w0)], [.long ((((xs (i + 3)).toInt64) <<< ((nI 32).toInt64 &&& 63)) ||| (((xs (i + 4)).toInt64) &&& (Int64.ofNat 4294967295))), .int (xs (i + 2)), .int (xs (i + 1)), .ref 23])) (h' := (Wd (L, xs, A', B', U', V', S', d') d A B m N R t (oC g' :: es'))) (fun _ _ => rfl) ?_
    refine eR.call (k' := 152) (as := [.ref 23, .int (xs (i + 1)), .int (xs (i + 2)), .long ((((xs (i + 3)).toInt64) <<< ((nI 32).toInt64 &&& 63)) ||| (((xs (i + 4)).toInt64) &&& (Int64.ofNat 4294967295)))]) (rest := []) (v := some (.int (v))) (h1 := (Wd (L, xs, A', B', U', V', S', d') d' A' B' m' N' R' c (oC g' :: es'))) rfl rfl rfl rfl rfl (h2) ?_
    refine eR.step 2 (F' := (517, [(0, .ref 2), (1, .ref 3), (2, .ref 23), (3, .ref 32), (4, .int (nI (i))), (5, .int (nI (c))), (6, .int (v))], [.ref 23])) (h' := (Wd (L, xs, A', B', U', V', S', d') d' A' B' m' N' R' c (oC g' :: es'))) (fun _ _ => rfl) ?_
    refine eR.call (k' := 119) (as := [.ref 23]) (rest := []) (v := some (.int (nI (c)))) (h1 := (Wd (L, xs, A', B', U', V', S', d') d' A' B' m' N' R' c (oC g' :: es'))) rfl rfl rfl rfl rfl (m_thrown) ?_
    refine eR.step 1 (F' := (522, [(0, .ref 2), (1, .ref 3), (2, .ref 23), (3, .ref 32), (4, .int (nI (i))), (5, .int (nI (c))), (6, .int (v))], [.int (nI (c)), .int (nI (c))])) (h' := (Wd (L, xs, A', B', U', V', S', d') d' A' B' m' N' R' c (oC g' :: es'))) (fun _ _ => rfl) ?_
    refine eR.icmp rfl true (decide_eq_true rfl) ?_
    refine eR.step 1 (F' := (529, [(0, .ref 2), (1, .ref 3), (2, .ref 23), (3, .ref 32), (4, .int (nI (i))), (5, .int (nI (c))), (6, .int (v))], [.int (nI (c))])) (h' := (Wd (L, xs, A', B', U', V', S', d') d' A' B' m' N' R' c (oC g' :: es'))) (fun _ _ => rfl) ?_
    by_cases hc : c = 0
    · refine eR.ifc rfl false ((nc_ne (b := 0) (by omega) (by decide)).trans (decide_eq_false (by omega))) ?_
      refine eR.step 2 (F' := (534, [(0, .ref 2), (1, .ref 3), (2, .ref 23), (3, .ref 32), (4, .int (nI (i))), (5, .int (nI (c))), (6, .int (v))], [.int (nI 0), .ref 32])) (h' := (Wd (L, xs, A', B', U', V', S', d') d' A' B' m' N' R' c (oC g' :: es'))) (fun _ _ => rfl) ?_
      refine eR.ld32 rfl ?_
      refine eR.step 1 (F' := (537, [(0, .ref 2), (1, .ref 3), (2, .ref 23), (3, .ref 32), (4, .int (nI (i))), (5, .int (nI (c))), (6, .int (v))], [.int (v), .long (g' 0)])) (h' := (Wd (L, xs, A', B', U', V', S', d') d' A' B' m' N' R' c (oC g' :: es'))) (fun _ _ => rfl) ?_
      refine eR.step 1 (F' := (538, [(0, .ref 2), (1, .ref 3), (2, .ref 23), (3, .ref 32), (4, .int (nI (i))), (5, .int (nI (c))), (6, .int (v))], [.long ((v).toInt64), .long (g' 0)])) (h' := (Wd (L, xs, A', B', U', V', S', d') d' A' B' m' N' R' c (oC g' :: es'))) (fun _ _ => rfl) ?_
      refine eR.step 1 (F' := (539, [(0, .ref 2), (1, .ref 3), (2, .ref 23), (3, .ref 32), (4, .int (nI (i))), (5, .int (nI (c))), (6, .int (v))], [.int (lg_cmp (g' 0) ((v).toInt64))])) (h' := (Wd (L, xs, A', B', U', V', S', d') d' A' B' m' N' R' c (oC g' :: es'))) (fun _ _ => rfl) ?_
      refine eR.ifc rfl true (by rw [h3 hc, lg_self]; rfl) ?_
      refine eR.step 1 (F' := (854, [(0, .ref 2), (1, .ref 3), (2, .ref 23), (3, .ref 32), (4, .int (nI (i))), (5, .int (nI (c))), (6, .int (v))], [])) (h' := (Wd (L, xs, A', B', U', V', S', d') d' A' B' m' N' R' c (oC g' :: es'))) (fun _ _ => rfl) ?_
      exact w
    · refine eR.ifc rfl true ((nc_ne (b := 0) (by omega) (by decide)).trans (decide_eq_true (hc))) ?_
      refine eR.step 1 (F' := (854, [(0, .ref 2), (1, .ref 3), (2, .ref 23), (3, .ref 32), (4, .int (nI (i))), (5, .int (nI (c))), (6, .int (v))], [])) (h' := (Wd (L, xs, A', B', U', V', S', d') d' A' B' m' N' R' c (oC g' :: es'))) (fun _ _ => rfl) ?_
      exact w
set_option maxRecDepth 4000 in
theorem law_read {L : Nat} {xs : Nat → Int32} {A B : gT} {U V : gU} {S : gS} {d : Nat → Nat} {m : Nat} {N : Nat → Nat} {R : gS} {t : Nat} {g : Nat → Int64} {es : mj_H} {k i : Nat} {tl : mj_L} (ht : tlo tl) (I : jI A B U V S d N R es k) (hk : k < 512) (hi : i + 5 ≤ L) (hL : L ≤ 2560) (K : lK L xs i k) : lG L xs 547 i tl A B U V S d m N R t g es := by
  obtain ⟨c, v, g', es', A', B', U', V', S', d', m', N', R', h1, h2, h3, h4, h5⟩ := j_read (L := L) (xs := xs) (m := m) (t := t) (g := g) (p := xs (i + 1)) I hk
  obtain ⟨h', w⟩ := K A' B' U' V' S' d' m' N' R' c g' es' [(5, .int (nI c)), (6, .long v)] (Or.inr ⟨_, _, rfl⟩) h5
  refine ⟨h', ?_⟩
  rcases ht with rfl | ⟨u, w0, rfl⟩
  · refine eR.step 4 (F' := (552, [(0, .ref 2), (1, .ref 3), (2, .ref 23), (3, .ref 32), (4, .int (nI (i)))], [.int (nI 1), .int (nI (i)), .ref 2, .ref 3])) (h' := (Wd (L, xs, A, B, U, V, S, d) d A B m N R t (oC g :: es))) (fun _ _ => rfl) ?_
    refine eR.nadd rfl ?_
    refine eR.ldS rfl (by omega) (by omega) ?_
    refine eR.step 1 (F' := (555, [(0, .ref 2), (1, .ref 3), (2, .ref 23), (3, .ref 32), (4, .int (nI (i)))], [.ref 32, .int (xs (i + 1)), .ref 3])) (h' := (Wd (L, xs, A, B, U, V, S, d) d A B m N R t (oC g :: es))) (fun _ _ => rfl) ?_
    refine eR.call (k' := 174) (as := [.ref 3, .int (xs (i + 1)), .ref 32]) (rest := []) (v := some (.int (nI (c)))) (h1 := (Wd (L, xs, A', B', U', V', S', d') d A B m N R t (oC g' :: es'))) rfl rfl rfl rfl rfl (h1) ?_
    refine eR.step 5 (F' := (565, [(0, .ref 2), (1, .ref 3), (2, .ref 23), (3, .ref 32), (4, .int (nI (i))), (5, .int (nI (c)))], [.int (nI 1), .int (nI (i)), .ref 2, .ref 23])) (h' := (Wd (L, xs, A', B', U', V', S', d') d A B m N R t (oC g' :: es'))) (fun _ _ => rfl) ?_
    refine eR.nadd rfl ?_
    refine eR.ldS rfl (by omega) (by omega) ?_
    refine eR.call (k' := 154) (as := [.ref 23, .int (xs (i + 1))]) (rest := []) (v := some (.long (v))) (h1 := (Wd (L, xs, A', B', U', V', S', d') d' A' B' m' N' R' c (oC g' :: es'))) rfl rfl rfl rfl rfl (h2) ?_
    refine eR.step 2 (F' := (573, [(0, .ref 2), (1, .ref 3), (2, .ref 23), (3, .ref 32), (4, .int (nI (i))), (5, .int (nI (c))), (6, .long (v))], [.ref 23])) (h' := (Wd (L, xs, A', B', U', V', S', d') d' A' B' m' N' R' c (oC g' :: es'))) (fun _ _ => rfl) ?_
    refine eR.call (k' := 119) (as := [.ref 23]) (rest := []) (v := some (.int (nI (c)))) (h1 := (Wd (L, xs, A', B', U', V', S', d') d' A' B' m' N' R' c (oC g' :: es'))) rfl rfl rfl rfl rfl (m_thrown) ?_
    refine eR.step 1 (F' := (578, [(0, .ref 2), (1, .ref 3), (2, .ref 23), (3, .ref 32), (4, .int (nI (i))), (5, .int (nI (c))), (6, .long (v))], [.int (nI (c)), .int (nI (c))])) (h' := (Wd (L, xs, A', B', U', V', S', d') d' A' B' m' N' R' c (oC g' :: es'))) (fun _ _ => rfl) ?_
    refine eR.icmp rfl true (decide_eq_true rfl) ?_
    refine eR.step 1 (F' := (585, [(0, .ref 2), (1, .ref 3), (2, .ref 23), (3, .ref 32), (4, .int (nI (i))), (5, .int (nI (c))), (6, .long (v))], [.int (nI (c))])) (h' := (Wd (L, xs, A', B', U', V', S', d') d' A' B' m' N' R' c (oC g' :: es'))) (fun _ _ => rfl) ?_
    by_cases hc : c = 0
    · refine eR.ifc rfl false ((nc_ne (b := 0) (by omega) (by decide)).trans (decide_eq_false (by omega))) ?_
      refine eR.step 2 (F' := (590, [(0, .ref 2), (1, .ref 3), (2, .ref 23), (3, .ref 32), (4, .int (nI (i))), (5, .int (nI (c))), (6, .long (v))], [.int (nI 0), .ref 32])) (h' := (Wd (L, xs, A', B', U', V', S', d') d' A' B' m' N' R' c (oC g' :: es'))) (fun _ _ => rfl) ?_
      refine eR.ld32 rfl ?_
      refine eR.step 1 (F' := (593, [(0, .ref 2), (1, .ref 3), (2, .ref 23), (3, .ref 32), (4, .int (nI (i))), (5, .int (nI (c))), (6, .long (v))], [.long (v), .long (g' 0)])) (h' := (Wd (L, xs, A', B', U', V', S', d') d' A' B' m' N' R' c (oC g' :: es'))) (fun _ _ => rfl) ?_
      refine eR.step 1 (F' := (594, [(0, .ref 2), (1, .ref 3), (2, .ref 23), (3, .ref 32), (4, .int (nI (i))), (5, .int (nI (c))), (6, .long (v))], [.int (lg_cmp (g' 0) (v))])) (h' := (Wd (L, xs, A', B', U', V', S', d') d' A' B' m' N' R' c (oC g' :: es'))) (fun _ _ => rfl) ?_
      refine eR.ifc rfl true (by rw [h3 hc, lg_self]; rfl) ?_
      refine eR.step 1 (F' := (854, [(0, .ref 2), (1, .ref 3), (2, .ref 23), (3, .ref 32), (4, .int (nI (i))), (5, .int (nI (c))), (6, .long (v))], [])) (h' := (Wd (L, xs, A', B', U', V', S', d') d' A' B' m' N' R' c (oC g' :: es'))) (fun _ _ => rfl) ?_
      exact w
    · refine eR.ifc rfl true ((nc_ne (b := 0) (by omega) (by decide)).trans (decide_eq_true (hc))) ?_
      refine eR.step 1 (F' := (854, [(0, .ref 2), (1, .ref 3), (2, .ref 23), (3, .ref 32), (4, .int (nI (i))), (5, .int (nI (c))), (6, .long (v))], [])) (h' := (Wd (L, xs, A', B', U', V', S', d') d' A' B' m' N' R' c (oC g' :: es'))) (fun _ _ => rfl) ?_
      exact w
  · refine eR.step 4 (F' := (552, [(0, .ref 2), (1, .ref 3), (2, .ref 23), (3, .ref 32), (4, .int (nI (i))), (5, u), (6, w0)], [.int (nI 1), .int (nI (i)), .ref 2, .ref 3])) (h' := (Wd (L, xs, A, B, U, V, S, d) d A B m N R t (oC g :: es))) (fun _ _ => rfl) ?_
    refine eR.nadd rfl ?_
    refine eR.ldS rfl (by omega) (by omega) ?_
    refine eR.step 1 (F' := (555, [(0, .ref 2), (1, .ref 3), (2, .ref 23), (3, .ref 32), (4, .int (nI (i))), (5, u), (6, w0)], [.ref 32, .int (xs (i + 1)), .ref 3])) (h' := (Wd (L, xs, A, B, U, V, S, d) d A B m N R t (oC g :: es))) (fun _ _ => rfl) ?_
    refine eR.call (k' := 174) (as := [.ref 3, .int (xs (i + 1)), .ref 32]) (rest := []) (v := some (.int (nI (c)))) (h1 := (Wd (L, xs, A', B', U', V', S', d') d A B m N R t (oC g' :: es'))) rfl rfl rfl rfl rfl (h1) ?_
    refine eR.step 5 (F' := (565, [(0, .ref 2), (1, .ref 3), (2, .ref 23), (3, .ref 32), (4, .int (nI (i))), (5, .int (nI (c))), (6, w0)], [.int (nI 1), .int (nI (i)), .ref 2, .ref 23])) (h' := (Wd (L, xs, A', B', U', V', S', d') d A B m N R t (oC g' :: es'))) (fun _ _ => rfl) ?_
    refine eR.nadd rfl ?_
    refine eR.ldS rfl (by omega) (by omega) ?_
    refine eR.call (k' := 154) (as := [.ref 23, .int (xs (i + 1))]) (rest := []) (v := some (.long (v))) (h1 := (Wd (L, xs, A', B', U', V', S', d') d' A' B' m' N' R' c (oC g' :: es'))) rfl rfl rfl rfl rfl (h2) ?_
    refine eR.step 2 (F' := (573, [(0, .ref 2), (1, .ref 3), (2, .ref 23), (3, .ref 32), (4, .int (nI (i))), (5, .int (nI (c))), (6, .long (v))], [.ref 23])) (h' := (Wd (L, xs, A', B', U', V', S', d') d' A' B' m' N' R' c (oC g' :: es'))) (fun _ _ => rfl) ?_
    refine eR.call (k' := 119) (as := [.ref 23]) (rest := []) (v := some (.int (nI (c)))) (h1 := (Wd (L, xs, A', B', U', V', S', d') d' A' B' m' N' R' c (oC g' :: es'))) rfl rfl rfl rfl rfl (m_thrown) ?_
    refine eR.step 1 (F' := (578, [(0, .ref 2), (1, .ref 3), (2, .ref 23), (3, .ref 32), (4, .int (nI (i))), (5, .int (nI (c))), (6, .long (v))], [.int (nI (c)), .int (nI (c))])) (h' := (Wd (L, xs, A', B', U', V', S', d') d' A' B' m' N' R' c (oC g' :: es'))) (fun _ _ => rfl) ?_
    refine eR.icmp rfl true (decide_eq_true rfl) ?_
    refine eR.step 1 (F' := (585, [(0, .ref 2), (1, .ref 3), (2, .ref 23), (3, .ref 32), (4, .int (nI (i))), (5, .int (nI (c))), (6, .long (v))], [.int (nI (c))])) (h' := (Wd (L, xs, A', B', U', V', S', d') d' A' B' m' N' R' c (oC g' :: es'))) (fun _ _ => rfl) ?_
    by_cases hc : c = 0
    · refine eR.ifc rfl false ((nc_ne (b := 0) (by omega) (by decide)).trans (decide_eq_false (by omega))) ?_
      refine eR.step 2 (F' := (590, [(0, .ref 2), (1, .ref 3), (2, .ref 23), (3, .ref 32), (4, .int (nI (i))), (5, .int (nI (c))), (6, .long (v))], [.int (nI 0), .ref 32])) (h' := (Wd (L, xs, A', B', U', V', S', d') d' A' B' m' N' R' c (oC g' :: es'))) (fun _ _ => rfl) ?_
      refine eR.ld32 rfl ?_
      refine eR.step 1 (F' := (593, [(0, .ref 2), (1, .ref 3), (2, .ref 23), (3, .ref 32), (4, .int (nI (i))), (5, .int (nI (c))), (6, .long (v))], [.long (v), .long (g' 0)])) (h' := (Wd (L, xs, A', B', U', V', S', d') d' A' B' m' N' R' c (oC g' :: es'))) (fun _ _ => rfl) ?_
      refine eR.step 1 (F' := (594, [(0, .ref 2), (1, .ref 3), (2, .ref 23), (3, .ref 32), (4, .int (nI (i))), (5, .int (nI (c))), (6, .long (v))], [.int (lg_cmp (g' 0) (v))])) (h' := (Wd (L, xs, A', B', U', V', S', d') d' A' B' m' N' R' c (oC g' :: es'))) (fun _ _ => rfl) ?_
      refine eR.ifc rfl true (by rw [h3 hc, lg_self]; rfl) ?_
      refine eR.step 1 (F' := (854, [(0, .ref 2), (1, .ref 3), (2, .ref 23), (3, .ref 32), (4, .int (nI (i))), (5, .int (nI (c))), (6, .long (v))], [])) (h' := (Wd (L, xs, A', B', U', V', S', d') d' A' B' m' N' R' c (oC g' :: es'))) (fun _ _ => rfl) ?_
      exact w
    · refine eR.ifc rfl true ((nc_ne (b := 0) (by omega) (by decide)).trans (decide_eq_true (hc))) ?_
      refine eR.step 1 (F' := (854, [(0, .ref 2), (1, .ref 3), (2, .ref 23), (3, .ref 32), (4, .int (nI (i))), (5, .int (nI (c))), (6, .long (v))], [])) (h' := (Wd (L, xs, A', B', U', V', S', d') d' A' B' m' N' R' c (oC g' :: es'))) (fun _ _ => rfl) ?_
      exact w
set_option maxRecDepth 4000 in
theorem law_trunc {L : Nat} {xs : Nat → Int32} {A B : gT} {U V : gU} {S : gS} {d : Nat → Nat} {m : Nat} {N : Nat → Nat} {R : gS} {t : Nat} {g : Nat → Int64} {es : mj_H} {k i : Nat} {tl : mj_L} (ht : tlo tl) (I : jI A B U V S d N R es k) (hk : k < 512) (hi : i + 5 ≤ L) (hL : L ≤ 2560) (K : lK L xs i k) : lG L xs 602 i tl A B U V S d m N R t g es := by
  obtain ⟨c, v, g', es', A', B', U', V', S', d', m', N', R', h1, h2, h3, h4, h5⟩ := j_trunc (L := L) (xs := xs) (m := m) (t := t) (g := g) (p := xs (i + 1)) I hk
  obtain ⟨h', w⟩ := K A' B' U' V' S' d' m' N' R' c g' es' [(5, .int (nI c)), (6, .int v)] (Or.inr ⟨_, _, rfl⟩) h5
  refine ⟨h', ?_⟩
  rcases ht with rfl | ⟨u, w0, rfl⟩
  · refine eR.step 4 (F' := (607, [(0, .ref 2), (1, .ref 3), (2, .ref 23), (3, .ref 32), (4, .int (nI (i)))], [.int (nI 1), .int (nI (i)), .ref 2, .ref 3])) (h' := (Wd (L, xs, A, B, U, V, S, d) d A B m N R t (oC g :: es))) (fun _ _ => rfl) ?_
    refine eR.nadd rfl ?_
    refine eR.ldS rfl (by omega) (by omega) ?_
    refine eR.step 1 (F' := (610, [(0, .ref 2), (1, .ref 3), (2, .ref 23), (3, .ref 32), (4, .int (nI (i)))], [.ref 32, .int (xs (i + 1)), .ref 3])) (h' := (Wd (L, xs, A, B, U, V, S, d) d A B m N R t (oC g :: es))) (fun _ _ => rfl) ?_
    refine eR.call (k' := 175) (as := [.ref 3, .int (xs (i + 1)), .ref 32]) (rest := []) (v := some (.int (nI (c)))) (h1 := (Wd (L, xs, A', B', U', V', S', d') d A B m N R t (oC g' :: es'))) rfl rfl rfl rfl rfl (h1) ?_
    refine eR.step 5 (F' := (620, [(0, .ref 2), (1, .ref 3), (2, .ref 23), (3, .ref 32), (4, .int (nI (i))), (5, .int (nI (c)))], [.int (nI 1), .int (nI (i)), .ref 2, .ref 23])) (h' := (Wd (L, xs, A', B', U', V', S', d') d A B m N R t (oC g' :: es'))) (fun _ _ => rfl) ?_
    refine eR.nadd rfl ?_
    refine eR.ldS rfl (by omega) (by omega) ?_
    refine eR.call (k' := 156) (as := [.ref 23, .int (xs (i + 1))]) (rest := []) (v := some (.int (v))) (h1 := (Wd (L, xs, A', B', U', V', S', d') d' A' B' m' N' R' c (oC g' :: es'))) rfl rfl rfl rfl rfl (h2) ?_
    refine eR.step 2 (F' := (628, [(0, .ref 2), (1, .ref 3), (2, .ref 23), (3, .ref 32), (4, .int (nI (i))), (5, .int (nI (c))), (6, .int (v))], [.ref 23])) (h' := (Wd (L, xs, A', B', U', V', S', d') d' A' B' m' N' R' c (oC g' :: es'))) (fun _ _ => rfl) ?_
    refine eR.call (k' := 119) (as := [.ref 23]) (rest := []) (v := some (.int (nI (c)))) (h1 := (Wd (L, xs, A', B', U', V', S', d') d' A' B' m' N' R' c (oC g' :: es'))) rfl rfl rfl rfl rfl (m_thrown) ?_
    refine eR.step 1 (F' := (633, [(0, .ref 2), (1, .ref 3), (2, .ref 23), (3, .ref 32), (4, .int (nI (i))), (5, .int (nI (c))), (6, .int (v))], [.int (nI (c)), .int (nI (c))])) (h' := (Wd (L, xs, A', B', U', V', S', d') d' A' B' m' N' R' c (oC g' :: es'))) (fun _ _ => rfl) ?_
    refine eR.icmp rfl true (decide_eq_true rfl) ?_
    refine eR.step 1 (F' := (640, [(0, .ref 2), (1, .ref 3), (2, .ref 23), (3, .ref 32), (4, .int (nI (i))), (5, .int (nI (c))), (6, .int (v))], [.int (nI (c))])) (h' := (Wd (L, xs, A', B', U', V', S', d') d' A' B' m' N' R' c (oC g' :: es'))) (fun _ _ => rfl) ?_
    by_cases hc : c = 0
    · refine eR.ifc rfl false ((nc_ne (b := 0) (by omega) (by decide)).trans (decide_eq_false (by omega))) ?_
      refine eR.step 2 (F' := (645, [(0, .ref 2), (1, .ref 3), (2, .ref 23), (3, .ref 32), (4, .int (nI (i))), (5, .int (nI (c))), (6, .int (v))], [.int (nI 0), .ref 32])) (h' := (Wd (L, xs, A', B', U', V', S', d') d' A' B' m' N' R' c (oC g' :: es'))) (fun _ _ => rfl) ?_
      refine eR.ld32 rfl ?_
      refine eR.step 1 (F' := (648, [(0, .ref 2), (1, .ref 3), (2, .ref 23), (3, .ref 32), (4, .int (nI (i))), (5, .int (nI (c))), (6, .int (v))], [.int (v), .long (g' 0)])) (h' := (Wd (L, xs, A', B', U', V', S', d') d' A' B' m' N' R' c (oC g' :: es'))) (fun _ _ => rfl) ?_
      refine eR.step 1 (F' := (649, [(0, .ref 2), (1, .ref 3), (2, .ref 23), (3, .ref 32), (4, .int (nI (i))), (5, .int (nI (c))), (6, .int (v))], [.long ((v).toInt64), .long (g' 0)])) (h' := (Wd (L, xs, A', B', U', V', S', d') d' A' B' m' N' R' c (oC g' :: es'))) (fun _ _ => rfl) ?_
      refine eR.step 1 (F' := (650, [(0, .ref 2), (1, .ref 3), (2, .ref 23), (3, .ref 32), (4, .int (nI (i))), (5, .int (nI (c))), (6, .int (v))], [.int (lg_cmp (g' 0) ((v).toInt64))])) (h' := (Wd (L, xs, A', B', U', V', S', d') d' A' B' m' N' R' c (oC g' :: es'))) (fun _ _ => rfl) ?_
      refine eR.ifc rfl true (by rw [h3 hc, lg_self]; rfl) ?_
      refine eR.step 1 (F' := (854, [(0, .ref 2), (1, .ref 3), (2, .ref 23), (3, .ref 32), (4, .int (nI (i))), (5, .int (nI (c))), (6, .int (v))], [])) (h' := (Wd (L, xs, A', B', U', V', S', d') d' A' B' m' N' R' c (oC g' :: es'))) (fun _ _ => rfl) ?_
      exact w
    · refine eR.ifc rfl true ((nc_ne (b := 0) (by omega) (by decide)).trans (decide_eq_true (hc))) ?_
      refine eR.step 1 (F' := (854, [(0, .ref 2), (1, .ref 3), (2, .ref 23), (3, .ref 32), (4, .int (nI (i))), (5, .int (nI (c))), (6, .int (v))], [])) (h' := (Wd (L, xs, A', B', U', V', S', d') d' A' B' m' N' R' c (oC g' :: es'))) (fun _ _ => rfl) ?_
      exact w
  · refine eR.step 4 (F' := (607, [(0, .ref 2), (1, .ref 3), (2, .ref 23), (3, .ref 32), (4, .int (nI (i))), (5, u), (6, w0)], [.int (nI 1), .int (nI (i)), .ref 2, .ref 3])) (h' := (Wd (L, xs, A, B, U, V, S, d) d A B m N R t (oC g :: es))) (fun _ _ => rfl) ?_
    refine eR.nadd rfl ?_
    refine eR.ldS rfl (by omega) (by omega) ?_
    refine eR.step 1 (F' := (610, [(0, .ref 2), (1, .ref 3), (2, .ref 23), (3, .ref 32), (4, .int (nI (i))), (5, u), (6, w0)], [.ref 32, .int (xs (i + 1)), .ref 3])) (h' := (Wd (L, xs, A, B, U, V, S, d) d A B m N R t (oC g :: es))) (fun _ _ => rfl) ?_
    refine eR.call (k' := 175) (as := [.ref 3, .int (xs (i + 1)), .ref 32]) (rest := []) (v := some (.int (nI (c)))) (h1 := (Wd (L, xs, A', B', U', V', S', d') d A B m N R t (oC g' :: es'))) rfl rfl rfl rfl rfl (h1) ?_
    refine eR.step 5 (F' := (620, [(0, .ref 2), (1, .ref 3), (2, .ref 23), (3, .ref 32), (4, .int (nI (i))), (5, .int (nI (c))), (6, w0)], [.int (nI 1), .int (nI (i)), .ref 2, .ref 23])) (h' := (Wd (L, xs, A', B', U', V', S', d') d A B m N R t (oC g' :: es'))) (fun _ _ => rfl) ?_
    refine eR.nadd rfl ?_
    refine eR.ldS rfl (by omega) (by omega) ?_
    refine eR.call (k' := 156) (as := [.ref 23, .int (xs (i + 1))]) (rest := []) (v := some (.int (v))) (h1 := (Wd (L, xs, A', B', U', V', S', d') d' A' B' m' N' R' c (oC g' :: es'))) rfl rfl rfl rfl rfl (h2) ?_
    refine eR.step 2 (F' := (628, [(0, .ref 2), (1, .ref 3), (2, .ref 23), (3, .ref 32), (4, .int (nI (i))), (5, .int (nI (c))), (6, .int (v))], [.ref 23])) (h' := (Wd (L, xs, A', B', U', V', S', d') d' A' B' m' N' R' c (oC g' :: es'))) (fun _ _ => rfl) ?_
    refine eR.call (k' := 119) (as := [.ref 23]) (rest := []) (v := some (.int (nI (c)))) (h1 := (Wd (L, xs, A', B', U', V', S', d') d' A' B' m' N' R' c (oC g' :: es'))) rfl rfl rfl rfl rfl (m_thrown) ?_
    refine eR.step 1 (F' := (633, [(0, .ref 2), (1, .ref 3), (2, .ref 23), (3, .ref 32), (4, .int (nI (i))), (5, .int (nI (c))), (6, .int (v))], [.int (nI (c)), .int (nI (c))])) (h' := (Wd (L, xs, A', B', U', V', S', d') d' A' B' m' N' R' c (oC g' :: es'))) (fun _ _ => rfl) ?_
    refine eR.icmp rfl true (decide_eq_true rfl) ?_
    refine eR.step 1 (F' := (640, [(0, .ref 2), (1, .ref 3), (2, .ref 23), (3, .ref 32), (4, .int (nI (i))), (5, .int (nI (c))), (6, .int (v))], [.int (nI (c))])) (h' := (Wd (L, xs, A', B', U', V', S', d') d' A' B' m' N' R' c (oC g' :: es'))) (fun _ _ => rfl) ?_
    by_cases hc : c = 0
    · refine eR.ifc rfl false ((nc_ne (b := 0) (by omega) (by decide)).trans (decide_eq_false (by omega))) ?_
      refine eR.step 2 (F' := (645, [(0, .ref 2), (1, .ref 3), (2, .ref 23), (3, .ref 32), (4, .int (nI (i))), (5, .int (nI (c))), (6, .int (v))], [.int (nI 0), .ref 32])) (h' := (Wd (L, xs, A', B', U', V', S', d') d' A' B' m' N' R' c (oC g' :: es'))) (fun _ _ => rfl) ?_
      refine eR.ld32 rfl ?_
      refine eR.step 1 (F' := (648, [(0, .ref 2), (1, .ref 3), (2, .ref 23), (3, .ref 32), (4, .int (nI (i))), (5, .int (nI (c))), (6, .int (v))], [.int (v), .long (g' 0)])) (h' := (Wd (L, xs, A', B', U', V', S', d') d' A' B' m' N' R' c (oC g' :: es'))) (fun _ _ => rfl) ?_
      refine eR.step 1 (F' := (649, [(0, .ref 2), (1, .ref 3), (2, .ref 23), (3, .ref 32), (4, .int (nI (i))), (5, .int (nI (c))), (6, .int (v))], [.long ((v).toInt64), .long (g' 0)])) (h' := (Wd (L, xs, A', B', U', V', S', d') d' A' B' m' N' R' c (oC g' :: es'))) (fun _ _ => rfl) ?_
      refine eR.step 1 (F' := (650, [(0, .ref 2), (1, .ref 3), (2, .ref 23), (3, .ref 32), (4, .int (nI (i))), (5, .int (nI (c))), (6, .int (v))], [.int (lg_cmp (g' 0) ((v).toInt64))])) (h' := (Wd (L, xs, A', B', U', V', S', d') d' A' B' m' N' R' c (oC g' :: es'))) (fun _ _ => rfl) ?_
      refine eR.ifc rfl true (by rw [h3 hc, lg_self]; rfl) ?_
      refine eR.step 1 (F' := (854, [(0, .ref 2), (1, .ref 3), (2, .ref 23), (3, .ref 32), (4, .int (nI (i))), (5, .int (nI (c))), (6, .int (v))], [])) (h' := (Wd (L, xs, A', B', U', V', S', d') d' A' B' m' N' R' c (oC g' :: es'))) (fun _ _ => rfl) ?_
      exact w
    · refine eR.ifc rfl true ((nc_ne (b := 0) (by omega) (by decide)).trans (decide_eq_true (hc))) ?_
      refine eR.step 1 (F' := (854, [(0, .ref 2), (1, .ref 3), (2, .ref 23), (3, .ref 32), (4, .int (nI (i))), (5, .int (nI (c))), (6, .int (v))], [])) (h' := (Wd (L, xs, A', B', U', V', S', d') d' A' B' m' N' R' c (oC g' :: es'))) (fun _ _ => rfl) ?_
      exact w
set_option maxRecDepth 4000 in
theorem law_stat {L : Nat} {xs : Nat → Int32} {A B : gT} {U V : gU} {S : gS} {d : Nat → Nat} {m : Nat} {N : Nat → Nat} {R : gS} {t : Nat} {g : Nat → Int64} {es : mj_H} {k i : Nat} {tl : mj_L} (ht : tlo tl) (I : jI A B U V S d N R es k) (hk : k < 512) (hi : i + 5 ≤ L) (hL : L ≤ 2560) (K : lK L xs i k) : lG L xs 658 i tl A B U V S d m N R t g es := by
  obtain ⟨c, v, g', es', A', B', U', V', S', d', m', N', R', h1, h2, h3, h4, h5⟩ := j_stat (L := L) (xs := xs) (m := m) (t := t) (g := g) (p := xs (i + 1)) I hk
  obtain ⟨h', w⟩ := K A' B' U' V' S' d' m' N' R' c g' es' [(5, .int (nI c)), (6, .int v)] (Or.inr ⟨_, _, rfl⟩) h5
  refine ⟨h', ?_⟩
  rcases ht with rfl | ⟨u, w0, rfl⟩
  · refine eR.step 4 (F' := (663, [(0, .ref 2), (1, .ref 3), (2, .ref 23), (3, .ref 32), (4, .int (nI (i)))], [.int (nI 1), .int (nI (i)), .ref 2, .ref 3])) (h' := (Wd (L, xs, A, B, U, V, S, d) d A B m N R t (oC g :: es))) (fun _ _ => rfl) ?_
    refine eR.nadd rfl ?_
    refine eR.ldS rfl (by omega) (by omega) ?_
    refine eR.step 1 (F' := (666, [(0, .ref 2), (1, .ref 3), (2, .ref 23), (3, .ref 32), (4, .int (nI (i)))], [.ref 32, .int (xs (i + 1)), .ref 3])) (h' := (Wd (L, xs, A, B, U, V, S, d) d A B m N R t (oC g :: es))) (fun _ _ => rfl) ?_
    refine eR.call (k' := 176) (as := [.ref 3, .int (xs (i + 1)), .ref 32]) (rest := []) (v := some (.int (nI (c)))) (h1 := (Wd (L, xs, A', B', U', V', S', d') d A B m N R t (oC g' :: es'))) rfl rfl rfl rfl rfl (h1) ?_
    refine eR.step 5 (F' := (676, [(0, .ref 2), (1, .ref 3), (2, .ref 23), (3, .ref 32), (4, .int (nI (i))), (5, .int (nI (c)))], [.int (nI 1), .int (nI (i)), .ref 2, .ref 23])) (h' := (Wd (L, xs, A', B', U', V', S', d') d A B m N R t (oC g' :: es'))) (fun _ _ => rfl) ?_
    refine eR.nadd rfl ?_
    refine eR.ldS rfl (by omega) (by omega) ?_
    refine eR.call (k' := 157) (as := [.ref 23, .int (xs (i + 1))]) (rest := []) (v := some (.int (v))) (h1 := (Wd (L, xs, A', B', U', V', S', d') d' A' B' m' N' R' c (oC g' :: es'))) rfl rfl rfl rfl rfl (h2) ?_
    refine eR.step 2 (F' := (684, [(0, .ref 2), (1, .ref 3), (2, .ref 23), (3, .ref 32), (4, .int (nI (i))), (5, .int (nI (c))), (6, .int (v))], [.ref 23])) (h' := (Wd (L, xs, A', B', U', V', S', d') d' A' B' m' N' R' c (oC g' :: es'))) (fun _ _ => rfl) ?_
    refine eR.call (k' := 119) (as := [.ref 23]) (rest := []) (v := some (.int (nI (c)))) (h1 := (Wd (L, xs, A', B', U', V', S', d') d' A' B' m' N' R' c (oC g' :: es'))) rfl rfl rfl rfl rfl (m_thrown) ?_
    refine eR.step 1 (F' := (689, [(0, .ref 2), (1, .ref 3), (2, .ref 23), (3, .ref 32), (4, .int (nI (i))), (5, .int (nI (c))), (6, .int (v))], [.int (nI (c)), .int (nI (c))])) (h' := (Wd (L, xs, A', B', U', V', S', d') d' A' B' m' N' R' c (oC g' :: es'))) (fun _ _ => rfl) ?_
    refine eR.icmp rfl true (decide_eq_true rfl) ?_
    refine eR.step 1 (F' := (696, [(0, .ref 2), (1, .ref 3), (2, .ref 23), (3, .ref 32), (4, .int (nI (i))), (5, .int (nI (c))), (6, .int (v))], [.int (nI (c))])) (h' := (Wd (L, xs, A', B', U', V', S', d') d' A' B' m' N' R' c (oC g' :: es'))) (fun _ _ => rfl) ?_
    by_cases hc : c = 0
    · refine eR.ifc rfl false ((nc_ne (b := 0) (by omega) (by decide)).trans (decide_eq_false (by omega))) ?_
      refine eR.step 2 (F' := (701, [(0, .ref 2), (1, .ref 3), (2, .ref 23), (3, .ref 32), (4, .int (nI (i))), (5, .int (nI (c))), (6, .int (v))], [.int (nI 0), .ref 32])) (h' := (Wd (L, xs, A', B', U', V', S', d') d' A' B' m' N' R' c (oC g' :: es'))) (fun _ _ => rfl) ?_
      refine eR.ld32 rfl ?_
      refine eR.step 1 (F' := (704, [(0, .ref 2), (1, .ref 3), (2, .ref 23), (3, .ref 32), (4, .int (nI (i))), (5, .int (nI (c))), (6, .int (v))], [.int (v), .long (g' 0)])) (h' := (Wd (L, xs, A', B', U', V', S', d') d' A' B' m' N' R' c (oC g' :: es'))) (fun _ _ => rfl) ?_
      refine eR.step 1 (F' := (705, [(0, .ref 2), (1, .ref 3), (2, .ref 23), (3, .ref 32), (4, .int (nI (i))), (5, .int (nI (c))), (6, .int (v))], [.long ((v).toInt64), .long (g' 0)])) (h' := (Wd (L, xs, A', B', U', V', S', d') d' A' B' m' N' R' c (oC g' :: es'))) (fun _ _ => rfl) ?_
      refine eR.step 1 (F' := (706, [(0, .ref 2), (1, .ref 3), (2, .ref 23), (3, .ref 32), (4, .int (nI (i))), (5, .int (nI (c))), (6, .int (v))], [.int (lg_cmp (g' 0) ((v).toInt64))])) (h' := (Wd (L, xs, A', B', U', V', S', d') d' A' B' m' N' R' c (oC g' :: es'))) (fun _ _ => rfl) ?_
      refine eR.ifc rfl true (by rw [h3 hc, lg_self]; rfl) ?_
      refine eR.step 1 (F' := (854, [(0, .ref 2), (1, .ref 3), (2, .ref 23), (3, .ref 32), (4, .int (nI (i))), (5, .int (nI (c))), (6, .int (v))], [])) (h' := (Wd (L, xs, A', B', U', V', S', d') d' A' B' m' N' R' c (oC g' :: es'))) (fun _ _ => rfl) ?_
      exact w
    · refine eR.ifc rfl true ((nc_ne (b := 0) (by omega) (by decide)).trans (decide_eq_true (hc))) ?_
      refine eR.step 1 (F' := (854, [(0, .ref 2), (1, .ref 3), (2, .ref 23), (3, .ref 32), (4, .int (nI (i))), (5, .int (nI (c))), (6, .int (v))], [])) (h' := (Wd (L, xs, A', B', U', V', S', d') d' A' B' m' N' R' c (oC g' :: es'))) (fun _ _ => rfl) ?_
      exact w
  · refine eR.step 4 (F' := (663, [(0, .ref 2), (1, .ref 3), (2, .ref 23), (3, .ref 32), (4, .int (nI (i))), (5, u), (6, w0)], [.int (nI 1), .int (nI (i)), .ref 2, .ref 3])) (h' := (Wd (L, xs, A, B, U, V, S, d) d A B m N R t (oC g :: es))) (fun _ _ => rfl) ?_
    refine eR.nadd rfl ?_
    refine eR.ldS rfl (by omega) (by omega) ?_
    refine eR.step 1 (F' := (666, [(0, .ref 2), (1, .ref 3), (2, .ref 23), (3, .ref 32), (4, .int (nI (i))), (5, u), (6, w0)], [.ref 32, .int (xs (i + 1)), .ref 3])) (h' := (Wd (L, xs, A, B, U, V, S, d) d A B m N R t (oC g :: es))) (fun _ _ => rfl) ?_
    refine eR.call (k' := 176) (as := [.ref 3, .int (xs (i + 1)), .ref 32]) (rest := []) (v := some (.int (nI (c)))) (h1 := (Wd (L, xs, A', B', U', V', S', d') d A B m N R t (oC g' :: es'))) rfl rfl rfl rfl rfl (h1) ?_
    refine eR.step 5 (F' := (676, [(0, .ref 2), (1, .ref 3), (2, .ref 23), (3, .ref 32), (4, .int (nI (i))), (5, .int (nI (c))), (6, w0)], [.int (nI 1), .int (nI (i)), .ref 2, .ref 23])) (h' := (Wd (L, xs, A', B', U', V', S', d') d A B m N R t (oC g' :: es'))) (fun _ _ => rfl) ?_
    refine eR.nadd rfl ?_
    refine eR.ldS rfl (by omega) (by omega) ?_
    refine eR.call (k' := 157) (as := [.ref 23, .int (xs (i + 1))]) (rest := []) (v := some (.int (v))) (h1 := (Wd (L, xs, A', B', U', V', S', d') d' A' B' m' N' R' c (oC g' :: es'))) rfl rfl rfl rfl rfl (h2) ?_
    refine eR.step 2 (F' := (684, [(0, .ref 2), (1, .ref 3), (2, .ref 23), (3, .ref 32), (4, .int (nI (i))), (5, .int (nI (c))), (6, .int (v))], [.ref 23])) (h' := (Wd (L, xs, A', B', U', V', S', d') d' A' B' m' N' R' c (oC g' :: es'))) (fun _ _ => rfl) ?_
    refine eR.call (k' := 119) (as := [.ref 23]) (rest := []) (v := some (.int (nI (c)))) (h1 := (Wd (L, xs, A', B', U', V', S', d') d' A' B' m' N' R' c (oC g' :: es'))) rfl rfl rfl rfl rfl (m_thrown) ?_
    refine eR.step 1 (F' := (689, [(0, .ref 2), (1, .ref 3), (2, .ref 23), (3, .ref 32), (4, .int (nI (i))), (5, .int (nI (c))), (6, .int (v))], [.int (nI (c)), .int (nI (c))])) (h' := (Wd (L, xs, A', B', U', V', S', d') d' A' B' m' N' R' c (oC g' :: es'))) (fun _ _ => rfl) ?_
    refine eR.icmp rfl true (decide_eq_true rfl) ?_
    refine eR.step 1 (F' := (696, [(0, .ref 2), (1, .ref 3), (2, .ref 23), (3, .ref 32), (4, .int (nI (i))), (5, .int (nI (c))), (6, .int (v))], [.int (nI (c))])) (h' := (Wd (L, xs, A', B', U', V', S', d') d' A' B' m' N' R' c (oC g' :: es'))) (fun _ _ => rfl) ?_
    by_cases hc : c = 0
    · refine eR.ifc rfl false ((nc_ne (b := 0) (by omega) (by decide)).trans (decide_eq_false (by omega))) ?_
      refine eR.step 2 (F' := (701, [(0, .ref 2), (1, .ref 3), (2, .ref 23), (3, .ref 32), (4, .int (nI (i))), (5, .int (nI (c))), (6, .int (v))], [.int (nI 0), .ref 32])) (h' := (Wd (L, xs, A', B', U', V', S', d') d' A' B' m' N' R' c (oC g' :: es'))) (fun _ _ => rfl) ?_
      refine eR.ld32 rfl ?_
      refine eR.step 1 (F' := (704, [(0, .ref 2), (1, .ref 3), (2, .ref 23), (3, .ref 32), (4, .int (nI (i))), (5, .int (nI (c))), (6, .int (v))], [.int (v), .long (g' 0)])) (h' := (Wd (L, xs, A', B', U', V', S', d') d' A' B' m' N' R' c (oC g' :: es'))) (fun _ _ => rfl) ?_
      refine eR.step 1 (F' := (705, [(0, .ref 2), (1, .ref 3), (2, .ref 23), (3, .ref 32), (4, .int (nI (i))), (5, .int (nI (c))), (6, .int (v))], [.long ((v).toInt64), .long (g' 0)])) (h' := (Wd (L, xs, A', B', U', V', S', d') d' A' B' m' N' R' c (oC g' :: es'))) (fun _ _ => rfl) ?_
      refine eR.step 1 (F' := (706, [(0, .ref 2), (1, .ref 3), (2, .ref 23), (3, .ref 32), (4, .int (nI (i))), (5, .int (nI (c))), (6, .int (v))], [.int (lg_cmp (g' 0) ((v).toInt64))])) (h' := (Wd (L, xs, A', B', U', V', S', d') d' A' B' m' N' R' c (oC g' :: es'))) (fun _ _ => rfl) ?_
      refine eR.ifc rfl true (by rw [h3 hc, lg_self]; rfl) ?_
      refine eR.step 1 (F' := (854, [(0, .ref 2), (1, .ref 3), (2, .ref 23), (3, .ref 32), (4, .int (nI (i))), (5, .int (nI (c))), (6, .int (v))], [])) (h' := (Wd (L, xs, A', B', U', V', S', d') d' A' B' m' N' R' c (oC g' :: es'))) (fun _ _ => rfl) ?_
      exact w
    · refine eR.ifc rfl true ((nc_ne (b := 0) (by omega) (by decide)).trans (decide_eq_true (hc))) ?_
      refine eR.step 1 (F' := (854, [(0, .ref 2), (1, .ref 3), (2, .ref 23), (3, .ref 32), (4, .int (nI (i))), (5, .int (nI (c))), (6, .int (v))], [])) (h' := (Wd (L, xs, A', B', U', V', S', d') d' A' B' m' N' R' c (oC g' :: es'))) (fun _ _ => rfl) ?_
      exact w
set_option maxRecDepth 4000 in
theorem law_spoil {L : Nat} {xs : Nat → Int32} {A B : gT} {U V : gU} {S : gS} {d : Nat → Nat} {m : Nat} {N : Nat → Nat} {R : gS} {t : Nat} {g : Nat → Int64} {es : mj_H} {k i : Nat} {tl : mj_L} (ht : tlo tl) (I : jI A B U V S d N R es k) (hk : k < 512) (hi : i + 5 ≤ L) (hL : L ≤ 2560) (K : lK L xs i k) : lG L xs 714 i tl A B U V S d m N R t g es := by
  obtain ⟨v, A', B', U', V', S', d', m', N', R', t', h1, h2, h5⟩ := j_spoil (L := L) (xs := xs) (m := m) (t := t) (g := g) (y := xs (i + 1)) (x := xs (i + 2)) (v := xs (i + 3)) I hk
  obtain ⟨h', w⟩ := K A' B' U' V' S' d' m' N' R' t' g es tl ht h5
  refine ⟨h', ?_⟩
  rcases ht with rfl | ⟨u, w0, rfl⟩
  · refine eR.step 4 (F' := (719, [(0, .ref 2), (1, .ref 3), (2, .ref 23), (3, .ref 32), (4, .int (nI (i)))], [.int (nI 1), .int (nI (i)), .ref 2, .ref 3])) (h' := (Wd (L, xs, A, B, U, V, S, d) d A B m N R t (oC g :: es))) (fun _ _ => rfl) ?_
    refine eR.nadd rfl ?_
    refine eR.ldS rfl (by omega) (by omega) ?_
    refine eR.step 3 (F' := (725, [(0, .ref 2), (1, .ref 3), (2, .ref 23), (3, .ref 32), (4, .int (nI (i)))], [.int (nI 2), .int (nI (i)), .ref 2, .int (xs (i + 1)), .ref 3])) (h' := (Wd (L, xs, A, B, U, V, S, d) d A B m N R t (oC g :: es))) (fun _ _ => rfl) ?_
    refine eR.nadd rfl ?_
    refine eR.ldS rfl (by omega) (by omega) ?_
    refine eR.step 3 (F' := (731, [(0, .ref 2), (1, .ref 3), (2, .ref 23), (3, .ref 32), (4, .int (nI (i)))], [.int (nI 3), .int (nI (i)), .ref 2, .int (xs (i + 2)), .int (xs (i + 1)), .ref 3])) (h' := (Wd (L, xs, A, B, U, V, S, d) d A B m N R t (oC g :: es))) (fun _ _ => rfl) ?_
    refine eR.nadd rfl ?_
    refine eR.ldS rfl (by omega) (by omega) ?_
    refine eR.call (k' := 36) (as := [.ref 3, .int (xs (i + 1)), .int (xs (i + 2)), .int (xs (i + 3))]) (rest := []) (v := some (.int (v))) (h1 := (Wd (L, xs, A', B', U', V', S', d') d A B m N R t (oC g :: es))) rfl rfl rfl rfl rfl (h1) ?_
    refine eR.step 4 (F' := (741, [(0, .ref 2), (1, .ref 3), (2, .ref 23), (3, .ref 32), (4, .int (nI (i)))], [.int (nI 1), .int (nI (i)), .ref 2, .ref 23, .int (v)])) (h' := (Wd (L, xs, A', B', U', V', S', d') d A B m N R t (oC g :: es))) (fun _ _ => rfl) ?_
    refine eR.nadd rfl ?_
    refine eR.ldS rfl (by omega) (by omega) ?_
    refine eR.step 3 (F' := (747, [(0, .ref 2), (1, .ref 3), (2, .ref 23), (3, .ref 32), (4, .int (nI (i)))], [.int (nI 2), .int (nI (i)), .ref 2, .int (xs (i + 1)), .ref 23, .int (v)])) (h' := (Wd (L, xs, A', B', U', V', S', d') d A B m N R t (oC g :: es))) (fun _ _ => rfl) ?_
    refine eR.nadd rfl ?_
    refine eR.ldS rfl (by omega) (by omega) ?_
    refine eR.step 3 (F' := (753, [(0, .ref 2), (1, .ref 3), (2, .ref 23), (3, .ref 32), (4, .int (nI (i)))], [.int (nI 3), .int (nI (i)), .ref 2, .int (xs (i + 2)), .int (xs (i + 1)), .ref 23, .int (v)])) (h' := (Wd (L, xs, A', B', U', V', S', d') d A B m N R t (oC g :: es))) (fun _ _ => rfl) ?_
    refine eR.nadd rfl ?_
    refine eR.ldS rfl (by omega) (by omega) ?_
    refine eR.call (k' := 158) (as := [.ref 23, .int (xs (i + 1)), .int (xs (i + 2)), .int (xs (i + 3))]) (rest := [.int (v)]) (v := some (.int (v))) (h1 := (Wd (L, xs, A', B', U', V', S', d') d' A' B' m' N' R' t' (oC g :: es))) rfl rfl rfl rfl rfl (h2) ?_
    refine eR.icmp rfl true (decide_eq_true rfl) ?_
    exact w
  · refine eR.step 4 (F' := (719, [(0, .ref 2), (1, .ref 3), (2, .ref 23), (3, .ref 32), (4, .int (nI (i))), (5, u), (6, w0)], [.int (nI 1), .int (nI (i)), .ref 2, .ref 3])) (h' := (Wd (L, xs, A, B, U, V, S, d) d A B m N R t (oC g :: es))) (fun _ _ => rfl) ?_
    refine eR.nadd rfl ?_
    refine eR.ldS rfl (by omega) (by omega) ?_
    refine eR.step 3 (F' := (725, [(0, .ref 2), (1, .ref 3), (2, .ref 23), (3, .ref 32), (4, .int (nI (i))), (5, u), (6, w0)], [.int (nI 2), .int (nI (i)), .ref 2, .int (xs (i + 1)), .ref 3])) (h' := (Wd (L, xs, A, B, U, V, S, d) d A B m N R t (oC g :: es))) (fun _ _ => rfl) ?_
    refine eR.nadd rfl ?_
    refine eR.ldS rfl (by omega) (by omega) ?_
    refine eR.step 3 (F' := (731, [(0, .ref 2), (1, .ref 3), (2, .ref 23), (3, .ref 32), (4, .int (nI (i))), (5, u), (6, w0)], [.int (nI 3), .int (nI (i)), .ref 2, .int (xs (i + 2)), .int (xs (i + 1)), .ref 3])) (h' := (Wd (L, xs, A, B, U, V, S, d) d A B m N R t (oC g :: es))) (fun _ _ => rfl) ?_
    refine eR.nadd rfl ?_
    refine eR.ldS rfl (by omega) (by omega) ?_
    refine eR.call (k' := 36) (as := [.ref 3, .int (xs (i + 1)), .int (xs (i + 2)), .int (xs (i + 3))]) (rest := []) (v := some (.int (v))) (h1 := (Wd (L, xs, A', B', U', V', S', d') d A B m N R t (oC g :: es))) rfl rfl rfl rfl rfl (h1) ?_
    refine eR.step 4 (F' := (741, [(0, .ref 2), (1, .ref 3), (2, .ref 23), (3, .ref 32), (4, .int (nI (i))), (5, u), (6, w0)], [.int (nI 1), .int (nI (i)), .ref 2, .ref 23, .int (v)])) (h' := (Wd (L, xs, A', B', U', V', S', d') d A B m N R t (oC g :: es))) (fun _ _ => rfl) ?_
    refine eR.nadd rfl ?_
    refine eR.ldS rfl (by omega) (by omega) ?_
    refine eR.step 3 (F' := (747, [(0, .ref 2), (1, .ref 3), (2, .ref 23), (3, .ref 32), (4, .int (nI (i))), (5, u), (6, w0)], [.int (nI 2), .int (nI (i)), .ref 2, .int (xs (i + 1)), .ref 23, .int (v)])) (h' := (Wd (L, xs, A', B', U', V', S', d') d A B m N R t (oC g :: es))) (fun _ _ => rfl) ?_
    refine eR.nadd rfl ?_
    refine eR.ldS rfl (by omega) (by omega) ?_
    refine eR.step 3 (F' := (753, [(0, .ref 2), (1, .ref 3), (2, .ref 23), (3, .ref 32), (4, .int (nI (i))), (5, u), (6, w0)], [.int (nI 3), .int (nI (i)), .ref 2, .int (xs (i + 2)), .int (xs (i + 1)), .ref 23, .int (v)])) (h' := (Wd (L, xs, A', B', U', V', S', d') d A B m N R t (oC g :: es))) (fun _ _ => rfl) ?_
    refine eR.nadd rfl ?_
    refine eR.ldS rfl (by omega) (by omega) ?_
    refine eR.call (k' := 158) (as := [.ref 23, .int (xs (i + 1)), .int (xs (i + 2)), .int (xs (i + 3))]) (rest := [.int (v)]) (v := some (.int (v))) (h1 := (Wd (L, xs, A', B', U', V', S', d') d' A' B' m' N' R' t' (oC g :: es))) rfl rfl rfl rfl rfl (h2) ?_
    refine eR.icmp rfl true (decide_eq_true rfl) ?_
    exact w
set_option maxRecDepth 4000 in
theorem law_check {L : Nat} {xs : Nat → Int32} {A B : gT} {U V : gU} {S : gS} {d : Nat → Nat} {m : Nat} {N : Nat → Nat} {R : gS} {t : Nat} {g : Nat → Int64} {es : mj_H} {k i : Nat} {tl : mj_L} (ht : tlo tl) (I : jI A B U V S d N R es k) (hk : k < 512) (hi : i + 5 ≤ L) (hL : L ≤ 2560) (K : lK L xs i k) : lG L xs 763 i tl A B U V S d m N R t g es := by
  by_cases hx : xs (i + 1) = 0
  · obtain ⟨v, A', B', U', V', S', d', m', N', R', t', h1, h2, h5⟩ := j_check0 (L := L) (xs := xs) (m := m) (t := t) (g := g) I hk
    obtain ⟨h', w⟩ := K A' B' U' V' S' d' m' N' R' t' g es tl ht h5
    refine ⟨h', ?_⟩
    rcases ht with rfl | ⟨u, w0, rfl⟩
    · refine eR.step 4 (F' := (768, [(0, .ref 2), (1, .ref 3), (2, .ref 23), (3, .ref 32), (4, .int (nI (i)))], [.int (nI 1), .int (nI (i)), .ref 2, .ref 3])) (h' := (Wd (L, xs, A, B, U, V, S, d) d A B m N R t (oC g :: es))) (fun _ _ => rfl) ?_
      refine eR.nadd rfl ?_
      refine eR.ldS rfl (by omega) (by omega) ?_
      refine eR.ifc rfl true (decide_eq_true hx) ?_
      refine eR.step 1 (F' := (778, [(0, .ref 2), (1, .ref 3), (2, .ref 23), (3, .ref 32), (4, .int (nI (i)))], [.int (nI 0), .ref 3])) (h' := (Wd (L, xs, A, B, U, V, S, d) d A B m N R t (oC g :: es))) (fun _ _ => rfl) ?_
      refine eR.call (k' := 42) (as := [.ref 3, .int (nI 0)]) (rest := []) (v := some (.int (v))) (h1 := (Wd (L, xs, A', B', U', V', S', d') d A B m N R t (oC g :: es))) rfl rfl rfl rfl rfl (h1) ?_
      refine eR.step 4 (F' := (786, [(0, .ref 2), (1, .ref 3), (2, .ref 23), (3, .ref 32), (4, .int (nI (i)))], [.int (nI 1), .int (nI (i)), .ref 2, .ref 23, .int (v)])) (h' := (Wd (L, xs, A', B', U', V', S', d') d A B m N R t (oC g :: es))) (fun _ _ => rfl) ?_
      refine eR.nadd rfl ?_
      refine eR.ldS rfl (by omega) (by omega) ?_
      refine eR.ifc rfl true (decide_eq_true hx) ?_
      refine eR.step 1 (F' := (796, [(0, .ref 2), (1, .ref 3), (2, .ref 23), (3, .ref 32), (4, .int (nI (i)))], [.int (nI 0), .ref 23, .int (v)])) (h' := (Wd (L, xs, A', B', U', V', S', d') d A B m N R t (oC g :: es))) (fun _ _ => rfl) ?_
      refine eR.call (k' := 159) (as := [.ref 23, .int (nI 0)]) (rest := [.int (v)]) (v := some (.int (v))) (h1 := (Wd (L, xs, A', B', U', V', S', d') d' A' B' m' N' R' t' (oC g :: es))) rfl rfl rfl rfl rfl (h2) ?_
      refine eR.icmp rfl true (decide_eq_true rfl) ?_
      exact w
    · refine eR.step 4 (F' := (768, [(0, .ref 2), (1, .ref 3), (2, .ref 23), (3, .ref 32), (4, .int (nI (i))), (5, u), (6, w0)], [.int (nI 1), .int (nI (i)), .ref 2, .ref 3])) (h' := (Wd (L, xs, A, B, U, V, S, d) d A B m N R t (oC g :: es))) (fun _ _ => rfl) ?_
      refine eR.nadd rfl ?_
      refine eR.ldS rfl (by omega) (by omega) ?_
      refine eR.ifc rfl true (decide_eq_true hx) ?_
      refine eR.step 1 (F' := (778, [(0, .ref 2), (1, .ref 3), (2, .ref 23), (3, .ref 32), (4, .int (nI (i))), (5, u), (6, w0)], [.int (nI 0), .ref 3])) (h' := (Wd (L, xs, A, B, U, V, S, d) d A B m N R t (oC g :: es))) (fun _ _ => rfl) ?_
      refine eR.call (k' := 42) (as := [.ref 3, .int (nI 0)]) (rest := []) (v := some (.int (v))) (h1 := (Wd (L, xs, A', B', U', V', S', d') d A B m N R t (oC g :: es))) rfl rfl rfl rfl rfl (h1) ?_
      refine eR.step 4 (F' := (786, [(0, .ref 2), (1, .ref 3), (2, .ref 23), (3, .ref 32), (4, .int (nI (i))), (5, u), (6, w0)], [.int (nI 1), .int (nI (i)), .ref 2, .ref 23, .int (v)])) (h' := (Wd (L, xs, A', B', U', V', S', d') d A B m N R t (oC g :: es))) (fun _ _ => rfl) ?_
      refine eR.nadd rfl ?_
      refine eR.ldS rfl (by omega) (by omega) ?_
      refine eR.ifc rfl true (decide_eq_true hx) ?_
      refine eR.step 1 (F' := (796, [(0, .ref 2), (1, .ref 3), (2, .ref 23), (3, .ref 32), (4, .int (nI (i))), (5, u), (6, w0)], [.int (nI 0), .ref 23, .int (v)])) (h' := (Wd (L, xs, A', B', U', V', S', d') d A B m N R t (oC g :: es))) (fun _ _ => rfl) ?_
      refine eR.call (k' := 159) (as := [.ref 23, .int (nI 0)]) (rest := [.int (v)]) (v := some (.int (v))) (h1 := (Wd (L, xs, A', B', U', V', S', d') d' A' B' m' N' R' t' (oC g :: es))) rfl rfl rfl rfl rfl (h2) ?_
      refine eR.icmp rfl true (decide_eq_true rfl) ?_
      exact w
  · obtain ⟨v, A', B', U', V', S', d', m', N', R', t', h1, h2, h5⟩ := j_check1 (L := L) (xs := xs) (m := m) (t := t) (g := g) I hk
    obtain ⟨h', w⟩ := K A' B' U' V' S' d' m' N' R' t' g es tl ht h5
    refine ⟨h', ?_⟩
    rcases ht with rfl | ⟨u, w0, rfl⟩
    · refine eR.step 4 (F' := (768, [(0, .ref 2), (1, .ref 3), (2, .ref 23), (3, .ref 32), (4, .int (nI (i)))], [.int (nI 1), .int (nI (i)), .ref 2, .ref 3])) (h' := (Wd (L, xs, A, B, U, V, S, d) d A B m N R t (oC g :: es))) (fun _ _ => rfl) ?_
      refine eR.nadd rfl ?_
      refine eR.ldS rfl (by omega) (by omega) ?_
      refine eR.ifc rfl false (decide_eq_false hx) ?_
      refine eR.step 2 (F' := (778, [(0, .ref 2), (1, .ref 3), (2, .ref 23), (3, .ref 32), (4, .int (nI (i)))], [.int (nI 1), .ref 3])) (h' := (Wd (L, xs, A, B, U, V, S, d) d A B m N R t (oC g :: es))) (fun _ _ => rfl) ?_
      refine eR.call (k' := 42) (as := [.ref 3, .int (nI 1)]) (rest := []) (v := some (.int (v))) (h1 := (Wd (L, xs, A', B', U', V', S', d') d A B m N R t (oC g :: es))) rfl rfl rfl rfl rfl (h1) ?_
      refine eR.step 4 (F' := (786, [(0, .ref 2), (1, .ref 3), (2, .ref 23), (3, .ref 32), (4, .int (nI (i)))], [.int (nI 1), .int (nI (i)), .ref 2, .ref 23, .int (v)])) (h' := (Wd (L, xs, A', B', U', V', S', d') d A B m N R t (oC g :: es))) (fun _ _ => rfl) ?_
      refine eR.nadd rfl ?_
      refine eR.ldS rfl (by omega) (by omega) ?_
      refine eR.ifc rfl false (decide_eq_false hx) ?_
      refine eR.step 2 (F' := (796, [(0, .ref 2), (1, .ref 3), (2, .ref 23), (3, .ref 32), (4, .int (nI (i)))], [.int (nI 1), .ref 23, .int (v)])) (h' := (Wd (L, xs, A', B', U', V', S', d') d A B m N R t (oC g :: es))) (fun _ _ => rfl) ?_
      refine eR.call (k' := 159) (as := [.ref 23, .int (nI 1)]) (rest := [.int (v)]) (v := some (.int (v))) (h1 := (Wd (L, xs, A', B', U', V', S', d') d' A' B' m' N' R' t' (oC g :: es))) rfl rfl rfl rfl rfl (h2) ?_
      refine eR.icmp rfl true (decide_eq_true rfl) ?_
      exact w
    · refine eR.step 4 (F' := (768, [(0, .ref 2), (1, .ref 3), (2, .ref 23), (3, .ref 32), (4, .int (nI (i))), (5, u), (6, w0)], [.int (nI 1), .int (nI (i)), .ref 2, .ref 3])) (h' := (Wd (L, xs, A, B, U, V, S, d) d A B m N R t (oC g :: es))) (fun _ _ => rfl) ?_
      refine eR.nadd rfl ?_
      refine eR.ldS rfl (by omega) (by omega) ?_
      refine eR.ifc rfl false (decide_eq_false hx) ?_
      refine eR.step 2 (F' := (778, [(0, .ref 2), (1, .ref 3), (2, .ref 23), (3, .ref 32), (4, .int (nI (i))), (5, u), (6, w0)], [.int (nI 1), .ref 3])) (h' := (Wd (L, xs, A, B, U, V, S, d) d A B m N R t (oC g :: es))) (fun _ _ => rfl) ?_
      refine eR.call (k' := 42) (as := [.ref 3, .int (nI 1)]) (rest := []) (v := some (.int (v))) (h1 := (Wd (L, xs, A', B', U', V', S', d') d A B m N R t (oC g :: es))) rfl rfl rfl rfl rfl (h1) ?_
      refine eR.step 4 (F' := (786, [(0, .ref 2), (1, .ref 3), (2, .ref 23), (3, .ref 32), (4, .int (nI (i))), (5, u), (6, w0)], [.int (nI 1), .int (nI (i)), .ref 2, .ref 23, .int (v)])) (h' := (Wd (L, xs, A', B', U', V', S', d') d A B m N R t (oC g :: es))) (fun _ _ => rfl) ?_
      refine eR.nadd rfl ?_
      refine eR.ldS rfl (by omega) (by omega) ?_
      refine eR.ifc rfl false (decide_eq_false hx) ?_
      refine eR.step 2 (F' := (796, [(0, .ref 2), (1, .ref 3), (2, .ref 23), (3, .ref 32), (4, .int (nI (i))), (5, u), (6, w0)], [.int (nI 1), .ref 23, .int (v)])) (h' := (Wd (L, xs, A', B', U', V', S', d') d A B m N R t (oC g :: es))) (fun _ _ => rfl) ?_
      refine eR.call (k' := 159) (as := [.ref 23, .int (nI 1)]) (rest := [.int (v)]) (v := some (.int (v))) (h1 := (Wd (L, xs, A', B', U', V', S', d') d' A' B' m' N' R' t' (oC g :: es))) rfl rfl rfl rfl rfl (h2) ?_
      refine eR.icmp rfl true (decide_eq_true rfl) ?_
      exact w
set_option maxRecDepth 4000 in
theorem law_byteAt {L : Nat} {xs : Nat → Int32} {A B : gT} {U V : gU} {S : gS} {d : Nat → Nat} {m : Nat} {N : Nat → Nat} {R : gS} {t : Nat} {g : Nat → Int64} {es : mj_H} {k i : Nat} {tl : mj_L} (ht : tlo tl) (I : jI A B U V S d N R es k) (hk : k < 512) (hi : i + 5 ≤ L) (hL : L ≤ 2560) (K : lK L xs i k) : lG L xs 804 i tl A B U V S d m N R t g es := by
  obtain ⟨v, A', B', U', V', S', d', m', N', R', t', h1, h2, h5⟩ := j_byteAt (L := L) (xs := xs) (m := m) (t := t) (g := g) (x := xs (i + 1)) I hk
  obtain ⟨h', w⟩ := K A' B' U' V' S' d' m' N' R' t' g es tl ht h5
  refine ⟨h', ?_⟩
  rcases ht with rfl | ⟨u, w0, rfl⟩
  · refine eR.step 4 (F' := (809, [(0, .ref 2), (1, .ref 3), (2, .ref 23), (3, .ref 32), (4, .int (nI (i)))], [.int (nI 1), .int (nI (i)), .ref 2, .ref 3])) (h' := (Wd (L, xs, A, B, U, V, S, d) d A B m N R t (oC g :: es))) (fun _ _ => rfl) ?_
    refine eR.nadd rfl ?_
    refine eR.ldS rfl (by omega) (by omega) ?_
    refine eR.call (k' := 60) (as := [.ref 3, .int (xs (i + 1))]) (rest := []) (v := some (.int (v))) (h1 := (Wd (L, xs, A', B', U', V', S', d') d A B m N R t (oC g :: es))) rfl rfl rfl rfl rfl (h1) ?_
    refine eR.step 4 (F' := (819, [(0, .ref 2), (1, .ref 3), (2, .ref 23), (3, .ref 32), (4, .int (nI (i)))], [.int (nI 1), .int (nI (i)), .ref 2, .ref 23, .int (v)])) (h' := (Wd (L, xs, A', B', U', V', S', d') d A B m N R t (oC g :: es))) (fun _ _ => rfl) ?_
    refine eR.nadd rfl ?_
    refine eR.ldS rfl (by omega) (by omega) ?_
    refine eR.call (k' := 162) (as := [.ref 23, .int (xs (i + 1))]) (rest := [.int (v)]) (v := some (.int (v))) (h1 := (Wd (L, xs, A', B', U', V', S', d') d' A' B' m' N' R' t' (oC g :: es))) rfl rfl rfl rfl rfl (h2) ?_
    refine eR.icmp rfl true (decide_eq_true rfl) ?_
    exact w
  · refine eR.step 4 (F' := (809, [(0, .ref 2), (1, .ref 3), (2, .ref 23), (3, .ref 32), (4, .int (nI (i))), (5, u), (6, w0)], [.int (nI 1), .int (nI (i)), .ref 2, .ref 3])) (h' := (Wd (L, xs, A, B, U, V, S, d) d A B m N R t (oC g :: es))) (fun _ _ => rfl) ?_
    refine eR.nadd rfl ?_
    refine eR.ldS rfl (by omega) (by omega) ?_
    refine eR.call (k' := 60) (as := [.ref 3, .int (xs (i + 1))]) (rest := []) (v := some (.int (v))) (h1 := (Wd (L, xs, A', B', U', V', S', d') d A B m N R t (oC g :: es))) rfl rfl rfl rfl rfl (h1) ?_
    refine eR.step 4 (F' := (819, [(0, .ref 2), (1, .ref 3), (2, .ref 23), (3, .ref 32), (4, .int (nI (i))), (5, u), (6, w0)], [.int (nI 1), .int (nI (i)), .ref 2, .ref 23, .int (v)])) (h' := (Wd (L, xs, A', B', U', V', S', d') d A B m N R t (oC g :: es))) (fun _ _ => rfl) ?_
    refine eR.nadd rfl ?_
    refine eR.ldS rfl (by omega) (by omega) ?_
    refine eR.call (k' := 162) (as := [.ref 23, .int (xs (i + 1))]) (rest := [.int (v)]) (v := some (.int (v))) (h1 := (Wd (L, xs, A', B', U', V', S', d') d' A' B' m' N' R' t' (oC g :: es))) rfl rfl rfl rfl rfl (h2) ?_
    refine eR.icmp rfl true (decide_eq_true rfl) ?_
    exact w
set_option maxRecDepth 4000 in
theorem law_count {L : Nat} {xs : Nat → Int32} {A B : gT} {U V : gU} {S : gS} {d : Nat → Nat} {m : Nat} {N : Nat → Nat} {R : gS} {t : Nat} {g : Nat → Int64} {es : mj_H} {k i : Nat} {tl : mj_L} (ht : tlo tl) (I : jI A B U V S d N R es k) (hk : k < 512) (hi : i + 5 ≤ L) (hL : L ≤ 2560) (K : lK L xs i k) : lG L xs 829 i tl A B U V S d m N R t g es := by
  obtain ⟨v, A', B', U', V', S', d', m', N', R', t', h1, h2, h5⟩ := j_count (L := L) (xs := xs) (m := m) (t := t) (g := g) (x := xs (i + 1)) I hk
  obtain ⟨h', w⟩ := K A' B' U' V' S' d' m' N' R' t' g es tl ht h5
  refine ⟨h', ?_⟩
  rcases ht with rfl | ⟨u, w0, rfl⟩
  · refine eR.step 4 (F' := (834, [(0, .ref 2), (1, .ref 3), (2, .ref 23), (3, .ref 32), (4, .int (nI (i)))], [.int (nI 1), .int (nI (i)), .ref 2, .ref 3])) (h' := (Wd (L, xs, A, B, U, V, S, d) d A B m N R t (oC g :: es))) (fun _ _ => rfl) ?_
    refine eR.nadd rfl ?_
    refine eR.ldS rfl (by omega) (by omega) ?_
    refine eR.call (k' := 61) (as := [.ref 3, .int (xs (i + 1))]) (rest := []) (v := some (.int (v))) (h1 := (Wd (L, xs, A', B', U', V', S', d') d A B m N R t (oC g :: es))) rfl rfl rfl rfl rfl (h1) ?_
    refine eR.step 4 (F' := (844, [(0, .ref 2), (1, .ref 3), (2, .ref 23), (3, .ref 32), (4, .int (nI (i)))], [.int (nI 1), .int (nI (i)), .ref 2, .ref 23, .int (v)])) (h' := (Wd (L, xs, A', B', U', V', S', d') d A B m N R t (oC g :: es))) (fun _ _ => rfl) ?_
    refine eR.nadd rfl ?_
    refine eR.ldS rfl (by omega) (by omega) ?_
    refine eR.call (k' := 163) (as := [.ref 23, .int (xs (i + 1))]) (rest := [.int (v)]) (v := some (.int (v))) (h1 := (Wd (L, xs, A', B', U', V', S', d') d' A' B' m' N' R' t' (oC g :: es))) rfl rfl rfl rfl rfl (h2) ?_
    refine eR.icmp rfl true (decide_eq_true rfl) ?_
    exact w
  · refine eR.step 4 (F' := (834, [(0, .ref 2), (1, .ref 3), (2, .ref 23), (3, .ref 32), (4, .int (nI (i))), (5, u), (6, w0)], [.int (nI 1), .int (nI (i)), .ref 2, .ref 3])) (h' := (Wd (L, xs, A, B, U, V, S, d) d A B m N R t (oC g :: es))) (fun _ _ => rfl) ?_
    refine eR.nadd rfl ?_
    refine eR.ldS rfl (by omega) (by omega) ?_
    refine eR.call (k' := 61) (as := [.ref 3, .int (xs (i + 1))]) (rest := []) (v := some (.int (v))) (h1 := (Wd (L, xs, A', B', U', V', S', d') d A B m N R t (oC g :: es))) rfl rfl rfl rfl rfl (h1) ?_
    refine eR.step 4 (F' := (844, [(0, .ref 2), (1, .ref 3), (2, .ref 23), (3, .ref 32), (4, .int (nI (i))), (5, u), (6, w0)], [.int (nI 1), .int (nI (i)), .ref 2, .ref 23, .int (v)])) (h' := (Wd (L, xs, A', B', U', V', S', d') d A B m N R t (oC g :: es))) (fun _ _ => rfl) ?_
    refine eR.nadd rfl ?_
    refine eR.ldS rfl (by omega) (by omega) ?_
    refine eR.call (k' := 163) (as := [.ref 23, .int (xs (i + 1))]) (rest := [.int (v)]) (v := some (.int (v))) (h1 := (Wd (L, xs, A', B', U', V', S', d') d' A' B' m' N' R' t' (oC g :: es))) rfl rfl rfl rfl rfl (h2) ?_
    refine eR.icmp rfl true (decide_eq_true rfl) ?_
    exact w

