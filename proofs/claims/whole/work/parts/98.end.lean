theorem law_pre {L : Nat} {xs : Nat → Int32} {A B : gT} {U V : gU} {S : gS} {d : Nat → Nat} {m : Nat} {N : Nat → Nat} {R : gS} {t : Nat} {g : Nat → Int64} {es : mj_H} {i : Nat} {tl : mj_L} {r : mj_O × mj_H} (hi : i < L) (hL : L ≤ 2560) (w : eR mm_P 1074 (12984 + (14 + L)) 12 488 166 (39, (0, .ref 2) :: (1, .ref 3) :: (2, .ref 23) :: (3, .ref 32) :: (4, .int (nI i)) :: tl, [.int (xs i &&& nI 31)]) (Wd (L, xs, A, B, U, V, S, d) d A B m N R t (oC g :: es)) r) : eR mm_P 1074 (12984 + (14 + L)) 12 488 166 (32, (0, .ref 2) :: (1, .ref 3) :: (2, .ref 23) :: (3, .ref 32) :: (4, .int (nI i)) :: tl, []) (Wd (L, xs, A, B, U, V, S, d) d A B m N R t (oC g :: es)) r := by
  refine eR.step 2 (F' := (35, (0, .ref 2) :: (1, .ref 3) :: (2, .ref 23) :: (3, .ref 32) :: (4, .int (nI i)) :: tl, [.int (nI i), .ref 2])) (h' := (Wd (L, xs, A, B, U, V, S, d) d A B m N R t (oC g :: es))) (fun _ _ => rfl) ?_
  refine eR.ldS rfl hi hL ?_
  refine eR.step 2 (F' := (39, (0, .ref 2) :: (1, .ref 3) :: (2, .ref 23) :: (3, .ref 32) :: (4, .int (nI i)) :: tl, [.int (xs i &&& nI 31)])) (h' := (Wd (L, xs, A, B, U, V, S, d) d A B m N R t (oC g :: es))) (fun _ _ => rfl) ?_
  exact w
theorem law_step {L : Nat} {xs : Nat → Int32} {A B : gT} {U V : gU} {S : gS} {d : Nat → Nat} {m : Nat} {N : Nat → Nat} {R : gS} {t : Nat} {g : Nat → Int64} {es : mj_H} {k i : Nat} {tl : mj_L} (ht : tlo tl) (I : jI A B U V S d N R es k) (hk : k < 512) (hi : i + 5 ≤ L) (hL : L ≤ 2560) (K : lK L xs i k) : lG L xs 32 i tl A B U V S d m N R t g es := by
  have dflt : ((xs i &&& nI 31).toInt < 0 ∨ 16 < (xs i &&& nI 31).toInt) → lG L xs 32 i tl A B U V S d m N R t g es := fun hx => by
    obtain ⟨h', w⟩ := K A B U V S d m N R t g es tl ht I.step
    exact ⟨h', law_pre (by omega) hL (eR.swd rfl hx w)⟩
  have go : ∀ n t', n ≤ 16 → xs i &&& nI 31 = nI n → [120, 131, 158, 171, 215, 259, 303, 347, 391, 435, 547, 602, 658, 714, 763, 804, 829][n]? = some t' → lG L xs t' i tl A B U V S d m N R t g es → lG L xs 32 i tl A B U V S d m N R t g es := fun n t' hn hy h ⟨h', w⟩ => by
    refine ⟨h', law_pre (by omega) hL ?_⟩
    rw [hy]
    exact eR.swi rfl (by omega) (by omega) h w
  rcases i32_cases (xs i &&& nI 31) with hy | ⟨n, hn, hy⟩
  · exact dflt (Or.inl (i32_neg hy))
  by_cases h16 : n ≤ 16
  case neg => exact dflt (Or.inr (by rw [hy, nI_toInt hn]; omega))
  have hc : n = 0 ∨ n = 1 ∨ n = 2 ∨ n = 3 ∨ n = 4 ∨ n = 5 ∨ n = 6 ∨ n = 7 ∨ n = 8 ∨ n = 9 ∨ n = 10 ∨ n = 11 ∨ n = 12 ∨ n = 13 ∨ n = 14 ∨ n = 15 ∨ n = 16 := by omega
  rcases hc with h | h | h | h | h | h | h | h | h | h | h | h | h | h | h | h | h
  · exact go n _ h16 hy (by rw [h]; rfl) (law_format ht I hk hi hL K)
  · exact go n _ h16 hy (by rw [h]; rfl) (law_type ht I hk hi hL K)
  · exact go n _ h16 hy (by rw [h]; rfl) (law_keep ht I hk hi hL K)
  · exact go n _ h16 hy (by rw [h]; rfl) (law_create ht I hk hi hL K)
  · exact go n _ h16 hy (by rw [h]; rfl) (law_mkdir ht I hk hi hL K)
  · exact go n _ h16 hy (by rw [h]; rfl) (law_link ht I hk hi hL K)
  · exact go n _ h16 hy (by rw [h]; rfl) (law_unlink ht I hk hi hL K)
  · exact go n _ h16 hy (by rw [h]; rfl) (law_rmdir ht I hk hi hL K)
  · exact go n _ h16 hy (by rw [h]; rfl) (law_rename ht I hk hi hL K)
  · exact go n _ h16 hy (by rw [h]; rfl) (law_write ht I hk hi hL K)
  · exact go n _ h16 hy (by rw [h]; rfl) (law_read ht I hk hi hL K)
  · exact go n _ h16 hy (by rw [h]; rfl) (law_trunc ht I hk hi hL K)
  · exact go n _ h16 hy (by rw [h]; rfl) (law_stat ht I hk hi hL K)
  · exact go n _ h16 hy (by rw [h]; rfl) (law_spoil ht I hk hi hL K)
  · exact go n _ h16 hy (by rw [h]; rfl) (law_check ht I hk hi hL K)
  · exact go n _ h16 hy (by rw [h]; rfl) (law_byteAt ht I hk hi hL K)
  · exact go n _ h16 hy (by rw [h]; rfl) (law_count ht I hk hi hL K)
theorem lt5 {L i : Nat} (hL : L ≤ 2560) (hi : i ≤ 3000) : nI L - nI 5 < nI i ↔ L < i + 5 := by
  rw [Int32.lt_iff_toInt_lt, Int32.toInt_sub, nI_toInt (by omega), nI_toInt (by omega), nI_toInt (by omega), Int.bmod_eq_of_le (by omega) (by omega)]
  omega
set_option maxRecDepth 4000 in
theorem law_exit {L : Nat} {xs : Nat → Int32} {A B : gT} {U V : gU} {S : gS} {d : Nat → Nat} {m : Nat} {N : Nat → Nat} {R : gS} {t : Nat} {g : Nat → Int64} {es : mj_H} {i : Nat} {tl : mj_L} (hL : L ≤ 2560) (hi : i ≤ 3000) (h : L < i + 5) : lG L xs 23 i tl A B U V S d m N R t g es := by
  refine ⟨(Wd (L, xs, A, B, U, V, S, d) d A B m N R t (oC g :: es)), ?_⟩
  refine eR.step 5 (F' := (29, (0, .ref 2) :: (1, .ref 3) :: (2, .ref 23) :: (3, .ref 32) :: (4, .int (nI i)) :: tl, [.int (nI L - nI 5), .int (nI i)])) (h' := (Wd (L, xs, A, B, U, V, S, d) d A B m N R t (oC g :: es))) (fun _ _ => rfl) ?_
  refine eR.icmp rfl true (decide_eq_true ((lt5 hL hi).mpr h)) ?_
  refine eR.step 1 (F' := (861, (0, .ref 2) :: (1, .ref 3) :: (2, .ref 23) :: (3, .ref 32) :: (4, .int (nI i)) :: tl, [.int (nI 1)])) (h' := (Wd (L, xs, A, B, U, V, S, d) d A B m N R t (oC g :: es))) (fun _ _ => rfl) ?_
  exact eR.ret rfl rfl rfl
theorem law_in {L : Nat} {xs : Nat → Int32} {A B : gT} {U V : gU} {S : gS} {d : Nat → Nat} {m : Nat} {N : Nat → Nat} {R : gS} {t : Nat} {g : Nat → Int64} {es : mj_H} {i : Nat} {tl : mj_L} (hL : L ≤ 2560) (hi : i ≤ 3000) (h : ¬ L < i + 5) (w : lG L xs 32 i tl A B U V S d m N R t g es) : lG L xs 23 i tl A B U V S d m N R t g es := by
  obtain ⟨h', w⟩ := w
  refine ⟨h', ?_⟩
  refine eR.step 5 (F' := (29, (0, .ref 2) :: (1, .ref 3) :: (2, .ref 23) :: (3, .ref 32) :: (4, .int (nI i)) :: tl, [.int (nI L - nI 5), .int (nI i)])) (h' := (Wd (L, xs, A, B, U, V, S, d) d A B m N R t (oC g :: es))) (fun _ _ => rfl) ?_
  refine eR.icmp rfl false (decide_eq_false (fun z => h ((lt5 hL hi).mp z))) ?_
  exact w
set_option maxRecDepth 4000 in
theorem law_next {L : Nat} {xs : Nat → Int32} {A B : gT} {U V : gU} {S : gS} {d : Nat → Nat} {m : Nat} {N : Nat → Nat} {R : gS} {t : Nat} {g : Nat → Int64} {es : mj_H} {i : Nat} {tl : mj_L} (ht : tlo tl) (w : lG L xs 23 (i + 5) tl A B U V S d m N R t g es) : lG L xs 854 i tl A B U V S d m N R t g es := by
  obtain ⟨h', w⟩ := w
  have e : nI i + 5 = nI (i + 5) := nI_add i 5
  rw [← e] at w
  refine ⟨h', ?_⟩
  rcases ht with rfl | ⟨u, w0, rfl⟩
  · refine eR.step 2 (F' := (23, [(0, .ref 2), (1, .ref 3), (2, .ref 23), (3, .ref 32), (4, .int (nI i + 5))], [])) (h' := (Wd (L, xs, A, B, U, V, S, d) d A B m N R t (oC g :: es))) (fun _ _ => rfl) ?_
    exact w
  · refine eR.step 2 (F' := (23, [(0, .ref 2), (1, .ref 3), (2, .ref 23), (3, .ref 32), (4, .int (nI i + 5)), (5, u), (6, w0)], [])) (h' := (Wd (L, xs, A, B, U, V, S, d) d A B m N R t (oC g :: es))) (fun _ _ => rfl) ?_
    exact w
theorem law_loop {L : Nat} {xs : Nat → Int32} (hL : L ≤ 2560) (n : Nat) : ∀ (i k : Nat) (A B : gT) (U V : gU) (S : gS) (d : Nat → Nat) (m : Nat) (N : Nat → Nat) (R : gS) (t : Nat) (g : Nat → Int64) (es : mj_H) (tl : mj_L), L < i + 5 + 5 * n → i = 5 * k → i ≤ 2600 → tlo tl → jI A B U V S d N R es k → lG L xs 23 i tl A B U V S d m N R t g es := by
  induction n with
  | zero =>
    intro i k A B U V S d m N R t g es tl h1 h2 h3 ht I
    exact law_exit hL (by omega) (by omega)
  | succ n ih =>
    intro i k A B U V S d m N R t g es tl h1 h2 h3 ht I
    by_cases h : L < i + 5
    · exact law_exit hL (by omega) h
    refine law_in hL (by omega) h (law_step ht I (by omega) (by omega) hL ?_)
    intro A' B' U' V' S' d' m' N' R' t' g' es' tl' ht' I'
    exact law_next ht' (ih (i + 5) (k + 1) A' B' U' V' S' d' m' N' R' t' g' es' tl' (by omega) (by omega) (by omega) ht' I')
theorem law_all (L : Nat) (xs : Nat → Int32) (hL : L ≤ 2560) : ∃ h', eE mm_P 1074 (12984 + (14 + L)) 13 488 166 [.ref 2] (mm_h0 L xs) (.inl (some (.int (nI 1))), h') := by
  have I : jI (fun _ => 0, 0) (fun _ => 0, 0) (0, 0, 0, fun _ => 0) (0, 0, 0, fun _ => 0) (fun _ => false, fun _ => false, fun _ => 0, fun _ => 0, 0) fz (fun _ => 0) (fun _ => false, fun _ => false, fun _ => 0, fun _ => 0, 0) [] 0 :=
    ⟨qV.fz, ⟨fun _ => by show (0 : Nat) < 65536; omega, Nat.zero_le _⟩, ⟨fun _ => by show (0 : Nat) < 65536; omega, Nat.zero_le _⟩, fun _ => by show (0 : Nat) < 128; omega, fun _ => by show (0 : Nat) < 128; omega, ⟨fun _ => by show (0 : Nat) < 16; omega, Nat.zero_le _⟩, fun _ => by show (0 : Nat) < 256; omega, fun _ => Nat.zero_le _, Nat.zero_le _, Nat.zero_le _⟩
  obtain ⟨h', w⟩ := law_loop (xs := xs) hL 512 0 0 _ _ _ _ _ _ 0 _ _ 0 (fun _ => 0) [] [] (by omega) rfl (by omega) (Or.inl rfl) I
  refine ⟨h', eE.of ?_⟩
  refine eR.newo (h' := [.inl (0, (7, .inl mm_f0)), .inl (0, (7, .inl mm_f1)), .inl (3, (L, .inl xs)), .inr (4, [.null, .null, .null, .null, .null, .null, .null, .null, .null, .null])]) rfl (Nat.le_of_ble_eq_true rfl) (by show mj_sl mm_P (mm_h0 L xs) + 10 ≤ (12984 + (14 + L)); rw [show mj_sl mm_P (mm_h0 L xs) = 14 + L by simp only [mm_h0, mj_sl, mj_cs]; omega]; omega) rfl ?_
  refine eR.step 1 (F' := (4, [(0, .ref 2)], [.ref 3, .ref 3])) (h' := [.inl (0, (7, .inl mm_f0)), .inl (0, (7, .inl mm_f1)), .inl (3, (L, .inl xs)), .inr (4, [.null, .null, .null, .null, .null, .null, .null, .null, .null, .null])]) (fun _ _ => rfl) ?_
  refine eR.call (k' := 0) (as := [.ref 3]) (rest := [.ref 3]) (v := none) (h1 := (Gc L xs (fun _ => 0, 0) (fun _ => 0, 0) (0, 0, 0, fun _ => 0) (0, 0, 0, fun _ => 0) (fun _ => false, fun _ => false, fun _ => 0, fun _ => 0, 0) fz [])) rfl rfl rfl rfl rfl (k_disk L xs) ?_
  refine eR.step 1 (F' := (8, [(0, .ref 2), (1, .ref 3)], [])) (h' := (Gc L xs (fun _ => 0, 0) (fun _ => 0, 0) (0, 0, 0, fun _ => 0) (0, 0, 0, fun _ => 0) (fun _ => false, fun _ => false, fun _ => 0, fun _ => 0, 0) fz [])) (fun _ _ => rfl) ?_
  refine eR.newo (h' := (Gc L xs (fun _ => 0, 0) (fun _ => 0, 0) (0, 0, 0, fun _ => 0) (0, 0, 0, fun _ => 0) (fun _ => false, fun _ => false, fun _ => 0, fun _ => 0, 0) fz [.inr (12, [.null, .int (0), .null, .int (0), .null, .int (0), .null, .null, .null, .null, .null, .int (0)])])) rfl (Nat.le_of_ble_eq_true rfl) (by show mj_sl mm_P (Gc L xs (fun _ => 0, 0) (fun _ => 0, 0) (0, 0, 0, fun _ => 0) (0, 0, 0, fun _ => 0) (fun _ => false, fun _ => false, fun _ => 0, fun _ => 0, 0) fz []) + 12 ≤ (12984 + (14 + L)); rw [Gc_sl, gSl_n]; show 2311 + L + 0 + 12 ≤ (12984 + (14 + L)); omega) rfl ?_
  refine eR.step 1 (F' := (12, [(0, .ref 2), (1, .ref 3)], [.ref 23, .ref 23])) (h' := (Gc L xs (fun _ => 0, 0) (fun _ => 0, 0) (0, 0, 0, fun _ => 0) (0, 0, 0, fun _ => 0) (fun _ => false, fun _ => false, fun _ => 0, fun _ => 0, 0) fz [.inr (12, [.null, .int (0), .null, .int (0), .null, .int (0), .null, .null, .null, .null, .null, .int (0)])])) (fun _ _ => rfl) ?_
  refine eR.call (k' := 105) (as := [.ref 23]) (rest := [.ref 23]) (v := none) (h1 := (Wd (L, xs, (fun _ => 0, 0), (fun _ => 0, 0), (0, 0, 0, fun _ => 0), (0, 0, 0, fun _ => 0), (fun _ => false, fun _ => false, fun _ => 0, fun _ => 0, 0), fz) fz (fun _ => 0, 0) (fun _ => 0, 0) 0 (fun _ => 0) (fun _ => false, fun _ => false, fun _ => 0, fun _ => 0, 0) 0 [])) rfl rfl rfl rfl rfl (k_model L xs) ?_
  refine eR.step 2 (F' := (17, [(0, .ref 2), (1, .ref 3), (2, .ref 23)], [.int (nI 1)])) (h' := (Wd (L, xs, (fun _ => 0, 0), (fun _ => 0, 0), (0, 0, 0, fun _ => 0), (0, 0, 0, fun _ => 0), (fun _ => false, fun _ => false, fun _ => 0, fun _ => 0, 0), fz) fz (fun _ => 0, 0) (fun _ => 0, 0) 0 (fun _ => 0) (fun _ => false, fun _ => false, fun _ => 0, fun _ => 0, 0) 0 [])) (fun _ _ => rfl) ?_
  refine eR.newa (n := 1) (ka := 4) (h' := (Wd (L, xs, (fun _ => 0, 0), (fun _ => 0, 0), (0, 0, 0, fun _ => 0), (0, 0, 0, fun _ => 0), (fun _ => false, fun _ => false, fun _ => 0, fun _ => 0, 0), fz) fz (fun _ => 0, 0) (fun _ => 0, 0) 0 (fun _ => 0) (fun _ => false, fun _ => false, fun _ => 0, fun _ => 0, 0) 0 (oC (fun _ => 0) :: []))) rfl rfl (by decide) (Nat.le_of_ble_eq_true rfl) (by unfold Wd; rw [Gc_sl, gSl_n]; simp only [mj_sl, mj_cs, ksz12]; omega) rfl ?_
  refine eR.step 3 (F' := (23, [(0, .ref 2), (1, .ref 3), (2, .ref 23), (3, .ref 32), (4, .int (nI 0))], [])) (h' := (Wd (L, xs, (fun _ => 0, 0), (fun _ => 0, 0), (0, 0, 0, fun _ => 0), (0, 0, 0, fun _ => 0), (fun _ => false, fun _ => false, fun _ => 0, fun _ => 0, 0), fz) fz (fun _ => 0, 0) (fun _ => 0, 0) 0 (fun _ => 0) (fun _ => false, fun _ => false, fun _ => 0, fun _ => 0, 0) 0 (oC (fun _ => 0) :: []))) (fun _ _ => rfl) ?_
  exact w
theorem mm_law (L : Nat) (xs : Nat → Int32) (hL : L ≤ 2560) : ∃ (n : Nat) (h' : mj_H), mj_ev mm_P 1074 (12984 + (14 + L)) n 13 488 166 [.ref 2] (mm_h0 L xs) = some (.inl (some (.int 1)), h') := by
  obtain ⟨h', n, w⟩ := law_all L xs hL
  exact ⟨n, h', w n (Nat.le_refl n)⟩

