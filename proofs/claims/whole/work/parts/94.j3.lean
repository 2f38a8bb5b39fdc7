theorem j_unlink {L : Nat} {xs : Nat → Int32} {A B : gT} {U V : gU} {S : gS} {d : Nat → Nat} {m : Nat} {N : Nat → Nat} {R : gS} {t : Nat} {g : Nat → Int64} {es : mj_H} {k : Nat} (I : jI A B U V S d N R es k) (hk : k < 512) : jO L xs 170 143 466 465 [.ref 3, .ref 32] [.ref 23] A B U V S d m N R t g es k := by
  have I0 := I
  obtain ⟨Q, ⟨ht, hl⟩, ⟨ht2, hl2⟩, hn, hn2, hS, hN, hRb, hes, hsl⟩ := I0
  have hd : dk d := Q.B.dk
  have hR := jR (L := L) (P := A) (Q := B) (m := m) (e := d) (N := N) (R := R) (t := t) (g := g) hes hsl (by omega)
  have I1 := I.one Q
  rcases Q.c with h11 | h11
  · have ne : ¬ d 11 = 1 := by omega
    have r := fun Z => m_unlinkA (cm := 1074) (sm := (12984 + (14 + L))) (fr := 4) (lo := 465) (C := (L, xs, (A.1, 0), B, fw d A.1 A.2 U, V, S, d)) (e := d) (P := A) (Q := B) (m := m) (N := N) (R := R) (t := t) (Z := Z) (by decide) Q hN ht hl rfl rfl rfl (by rw [tf_1 ne]; decide)
    rw [tf_1 ne] at r
    have w := w170_T0 (c_unlinkT0 (xs := xs) (B := B) (V := V) (S := S) (by decide) hR hd ht hl hn h11)
    exact jO_T (A' := (A.1, 0)) (B' := B) (U' := fw d A.1 A.2 U) (V' := V) w (r _) (by decide) rfl I1
  have F := fo_W Q A N U h11
  have W := ab_W Q A N U h11
  have Un := fw_U Q A.1 A.2 U
  have h0 : d 11 ≠ 0 := by omega
  by_cases hf : (fw d A.1 A.2 U).2.2.1 = 0
  · have r := fun Z => m_unlinkA (cm := 1074) (sm := (12984 + (14 + L))) (fr := 4) (lo := 465) (C := (L, xs, (A.1, 0), B, fw d A.1 A.2 U, V, S, d)) (e := d) (P := A) (Q := B) (m := m) (N := N) (R := R) (t := t) (Z := Z) (by decide) Q hN ht hl (F.trans hf) rfl rfl (by rw [tf_2 h11 rfl]; decide)
    rw [tf_2 h11 rfl] at r
    have w := w170_T1 (c_unlinkT1 (xs := xs) (B := B) (V := V) (S := S) (by decide) hR hd ht hl hn h0 hf)
    exact jO_T (A' := (A.1, 0)) (B' := B) (U' := fw d A.1 A.2 U) (V' := V) w (r _) (by decide) rfl I1
  have ui := Un.i hf
  have E := Q.E h11
  have k1 := Q.T.k1
  rw [qk_lt d 1 (by omega)] at k1
  have k12 : d (32 + (16 * (fw d A.1 A.2 U).2.2.1)) = 1 ∨ d (32 + (16 * (fw d A.1 A.2 U).2.2.1)) = 2 := by
    have a := Q.T.k2 (fw d A.1 A.2 U).2.2.1
    rw [qk_lt d _ ui.1] at a
    have := ui.2
    omega
  by_cases hk2 : d (32 + (16 * (fw d A.1 A.2 U).2.2.1)) = 2
  · have r := fun Z => m_unlinkD (cm := 1074) (sm := (12984 + (14 + L))) (fr := 4) (lo := 465) (C := (L, xs, (A.1, 0), B, fw d A.1 A.2 U, V, S, d)) (e := d) (P := A) (Q := B) (m := m) (N := N) (R := R) (t := t) (Z := Z) (by decide) Q hN ht hl F rfl rfl h11 hf ui.1 hk2
    have w := w170_T2 (c_unlinkT2 (xs := xs) (B := B) (V := V) (S := S) (by decide) hR hd ht hl hn h0 hf hk2)
    exact jO_T (A' := (A.1, 0)) (B' := B) (U' := fw d A.1 A.2 U) (V' := V) w (r _) (by decide) rfl I1
  have hk1 : d (32 + (16 * (fw d A.1 A.2 U).2.2.1)) = 1 := by omega
  have hr1 : ¬ (fw d A.1 A.2 U).2.2.1 = 1 := fun z => by
    rw [z] at hk2; exact hk2 k1
  obtain ⟨s1, s2, s3, s4, s5⟩ : (fw d A.1 A.2 U).2.2.1 ≠ 1 ∧ (fw d A.1 A.2 U).1 ≠ 0 ∧ 2 ≤ (fw d A.1 A.2 U).2.1 ∧ (fw d A.1 A.2 U).2.1 < sn d (fw d A.1 A.2 U).1 ∧ si d (fw d A.1 A.2 U).1 (fw d A.1 A.2 U).2.1 = (fw d A.1 A.2 U).2.2.1 := by
    rcases Un.s hf with s | s
    · exact absurd s.1 hr1
    · exact s
  obtain ⟨w1, w2, w3, w4, w5⟩ := W.2 s2
  have up := Un.p s2
  have j24 := sn_le d (fw d A.1 A.2 U).1
  have cs := cz_slot E _ _ up.1 up.2 s4
  have X := Q.unlink h11 _ _ _ up.1 up.2 s3 s4 s5 ui.1 hk1
  have eU := e_unlink d E _ _ _ up.1 up.2 s4 s5 ui.1
  have l3 : 1 ≤ (cz d (sa d (fw d A.1 A.2 U).1 (fw d A.1 A.2 U).2.1) 8) (32 + (16 * (fw d A.1 A.2 U).2.2.1) + 1) := by
    rw [cs.2.1 _ (by have := ui.1; omega)]; exact X.1
  by_cases hz : fr_ d (fw d A.1 A.2 U).1 (fw d A.1 A.2 U).2.1 (32 + (16 * (fw d A.1 A.2 U).2.2.1) + 1) = 0
  · have q' := X.2.2
    rw [if_pos hz] at q'
    have E2 := (al_E cs.1 _ 4294967295 ui.1 (by rw [cs.2.1 _ (by have := ui.1; omega)]; exact ui.2)).1
    have r := fun Z => m_unlink0 (cm := 1074) (sm := (12984 + (14 + L))) (fr := 4) (lo := 465) (C := (L, xs, (A.1, 0), B, fw d A.1 A.2 U, V, S, gi (fr_ d (fw d A.1 A.2 U).1 (fw d A.1 A.2 U).2.1) (fw d A.1 A.2 U).2.2.1)) (e := d) (P := A) (Q := B) (m := m) (N := N) (R := R) (t := t) (Z := Z) (by decide) Q hN ht hl F rfl rfl h11 hf ui.1 w3 w1 (pP_len hl w2) (pP_N hN) up.1 (Q.gD up.1 up.2) w4 s3 (by omega) hk2 l3 (by rw [eU]; exact hz) E2
    rw [eU] at r
    exact jO_K (w170_ok (c_unlink0 (by decide) hd ht hl hn h0 hf hk2 hz)) r (I.one q')
  · have q' := X.2.2
    rw [if_neg hz] at q'
    have r := fun Z => m_unlink1 (cm := 1074) (sm := (12984 + (14 + L))) (fr := 4) (lo := 465) (C := (L, xs, (A.1, 0), B, fw d A.1 A.2 U, V, S, fr_ d (fw d A.1 A.2 U).1 (fw d A.1 A.2 U).2.1)) (e := d) (P := A) (Q := B) (m := m) (N := N) (R := R) (t := t) (Z := Z) (by decide) Q hN ht hl F rfl rfl h11 hf ui.1 w3 w1 (pP_len hl w2) (pP_N hN) up.1 (Q.gD up.1 up.2) w4 s3 (by omega) hk2 l3 (by rw [eU]; exact hz)
    rw [eU] at r
    exact jO_K (w170_ok (c_unlink1 (by decide) hd ht hl hn h0 hf hk2 hz)) r (I.one q')
theorem j_rmdir {L : Nat} {xs : Nat → Int32} {A B : gT} {U V : gU} {S : gS} {d : Nat → Nat} {m : Nat} {N : Nat → Nat} {R : gS} {t : Nat} {g : Nat → Int64} {es : mj_H} {k : Nat} (I : jI A B U V S d N R es k) (hk : k < 512) : jO L xs 171 148 466 464 [.ref 3, .ref 32] [.ref 23] A B U V S d m N R t g es k := by
  have I0 := I
  obtain ⟨Q, ⟨ht, hl⟩, ⟨ht2, hl2⟩, hn, hn2, hS, hN, hRb, hes, hsl⟩ := I0
  have hd : dk d := Q.B.dk
  have hR := jR (L := L) (P := A) (Q := B) (m := m) (e := d) (N := N) (R := R) (t := t) (g := g) hes hsl (by omega)
  have I1 := I.one Q
  rcases Q.c with h11 | h11
  · have ne : ¬ d 11 = 1 := by omega
    have r := fun Z => m_rmdirA (cm := 1074) (sm := (12984 + (14 + L))) (fr := 4) (lo := 464) (C := (L, xs, (A.1, 0), B, fw d A.1 A.2 U, V, S, d)) (e := d) (P := A) (Q := B) (m := m) (N := N) (R := R) (t := t) (Z := Z) (by decide) Q hN ht hl rfl rfl rfl (by rw [tf_1 ne]; decide)
    rw [tf_1 ne] at r
    have w := w171_T0 (c_rmdirT0 (xs := xs) (B := B) (V := V) (S := S) (by decide) hR hd ht hl hn h11)
    exact jO_T (A' := (A.1, 0)) (B' := B) (U' := fw d A.1 A.2 U) (V' := V) w (r _) (by decide) rfl I1
  have F := fo_W Q A N U h11
  have W := ab_W Q A N U h11
  have Un := fw_U Q A.1 A.2 U
  have h0 : d 11 ≠ 0 := by omega
  by_cases hf : (fw d A.1 A.2 U).2.2.1 = 0
  · have r := fun Z => m_rmdirA (cm := 1074) (sm := (12984 + (14 + L))) (fr := 4) (lo := 464) (C := (L, xs, (A.1, 0), B, fw d A.1 A.2 U, V, S, d)) (e := d) (P := A) (Q := B) (m := m) (N := N) (R := R) (t := t) (Z := Z) (by decide) Q hN ht hl (F.trans hf) rfl rfl (by rw [tf_2 h11 rfl]; decide)
    rw [tf_2 h11 rfl] at r
    have w := w171_T1 (c_rmdirT1 (xs := xs) (B := B) (V := V) (S := S) (by decide) hR hd ht hl hn h0 hf)
    exact jO_T (A' := (A.1, 0)) (B' := B) (U' := fw d A.1 A.2 U) (V' := V) w (r _) (by decide) rfl I1
  have ui := Un.i hf
  have E := Q.E h11
  have k1 := Q.T.k1
  rw [qk_lt d 1 (by omega)] at k1
  have k12 : d (32 + (16 * (fw d A.1 A.2 U).2.2.1)) = 1 ∨ d (32 + (16 * (fw d A.1 A.2 U).2.2.1)) = 2 := by
    have a := Q.T.k2 (fw d A.1 A.2 U).2.2.1
    rw [qk_lt d _ ui.1] at a
    have := ui.2
    omega
  by_cases hk2 : d (32 + (16 * (fw d A.1 A.2 U).2.2.1)) = 2
  case neg =>
    have r := fun Z => m_rmdirF (cm := 1074) (sm := (12984 + (14 + L))) (fr := 4) (lo := 464) (C := (L, xs, (A.1, 0), B, fw d A.1 A.2 U, V, S, d)) (e := d) (P := A) (Q := B) (m := m) (N := N) (R := R) (t := t) (Z := Z) (by decide) Q hN ht hl F rfl rfl h11 hf ui.1 (by omega)
    have w := w171_T2 (c_rmdirT2 (xs := xs) (B := B) (V := V) (S := S) (by decide) hR hd ht hl hn h0 hf hk2)
    exact jO_T (A' := (A.1, 0)) (B' := B) (U' := fw d A.1 A.2 U) (V' := V) w (r _) (by decide) rfl I1
  have hk1 : ¬ d (32 + (16 * (fw d A.1 A.2 U).2.2.1)) = 1 := by omega
  by_cases hr1 : (fw d A.1 A.2 U).2.2.1 = 1
  · have r := fun Z => m_rmdirR (cm := 1074) (sm := (12984 + (14 + L))) (fr := 4) (lo := 464) (C := (L, xs, (A.1, 0), B, fw d A.1 A.2 U, V, S, d)) (e := d) (P := A) (Q := B) (m := m) (N := N) (R := R) (t := t) (Z := Z) (by decide) Q hN ht hl F rfl rfl h11 hf ui.1 hk1 hr1
    have w := w171_T2 (c_rmdirT3 (xs := xs) (B := B) (V := V) (S := S) (by decide) hR hd ht hl hn h0 hf hk2 hr1)
    exact jO_T (A' := (A.1, 0)) (B' := B) (U' := fw d A.1 A.2 U) (V' := V) w (r _) (by decide) rfl I1
  have gf := Q.gD ui.1 hk2
  by_cases he : em d (fw d A.1 A.2 U).2.2.1 2 (sn d (fw d A.1 A.2 U).2.2.1 - 2) = true
  case neg =>
    have r := fun Z => m_rmdirE (cm := 1074) (sm := (12984 + (14 + L))) (fr := 4) (lo := 464) (C := (L, xs, (A.1, 0), B, fw d A.1 A.2 U, V, S, d)) (e := d) (P := A) (Q := B) (m := m) (N := N) (R := R) (t := t) (Z := Z) (by decide) Q hN ht hl F rfl rfl h11 hf ui.1 hk1 hr1 gf (by simpa using he)
    have w := w171_T3 (c_rmdirT4 (xs := xs) (B := B) (V := V) (S := S) (by decide) hR hd ht hl hn h0 hf hk2 hr1 he)
    exact jO_T (A' := (A.1, 0)) (B' := B) (U' := fw d A.1 A.2 U) (V' := V) w (r _) (by decide) rfl I1
  obtain ⟨s1, s2, s3, s4, s5⟩ : (fw d A.1 A.2 U).2.2.1 ≠ 1 ∧ (fw d A.1 A.2 U).1 ≠ 0 ∧ 2 ≤ (fw d A.1 A.2 U).2.1 ∧ (fw d A.1 A.2 U).2.1 < sn d (fw d A.1 A.2 U).1 ∧ si d (fw d A.1 A.2 U).1 (fw d A.1 A.2 U).2.1 = (fw d A.1 A.2 U).2.2.1 := by
    rcases Un.s hf with s | s
    · exact absurd s.1 hr1
    · exact s
  obtain ⟨w1, w2, w3, w4, w5⟩ := W.2 s2
  have up := Un.p s2
  have j24 := sn_le d (fw d A.1 A.2 U).1
  have cs := cz_slot E _ _ up.1 up.2 s4
  have X := Q.rmdir h11 _ _ _ up.1 up.2 s3 s4 s5 ui.1 hk2 hr1 he
  have eU := e_rmdir Q h11 _ _ _ up.1 up.2 s3 s4 s5 ui.1 hk2
  have r := fun Z => m_rmdir (cm := 1074) (sm := (12984 + (14 + L))) (fr := 4) (lo := 464) (C := (L, xs, (A.1, 0), B, fw d A.1 A.2 U, V, S, gi (al (fr_ d (fw d A.1 A.2 U).1 (fw d A.1 A.2 U).2.1) (fw d A.1 A.2 U).1 4294967295) (fw d A.1 A.2 U).2.2.1)) (e := d) (P := A) (Q := B) (m := m) (N := N) (R := R) (t := t) (Z := Z) (by decide) Q hN ht hl F rfl rfl h11 hf ui.1 w3 w1 (pP_len hl w2) (pP_N hN) up.1 (Q.gD up.1 up.2) w4 s3 (by omega) hk1 hr1 gf he (by rw [eU.2.1]; exact eU.2.2.1) eU.2.2.2
  rw [eU.1] at r
  exact jO_K (w171_ok (c_rmdir (by decide) hd ht hl hn h0 hf hk2 hr1 he)) r (I.one X.2)
theorem j_stat {L : Nat} {xs : Nat → Int32} {A B : gT} {U V : gU} {S : gS} {d : Nat → Nat} {m : Nat} {N : Nat → Nat} {R : gS} {t : Nat} {g : Nat → Int64} {es : mj_H} {k : Nat} {p : Int32} (I : jI A B U V S d N R es k) (hk : k < 512) : jO L xs 176 157 465 464 [.ref 3, .int p, .ref 32] [.ref 23, .int p] A B U V S d m N R t g es k := by
  have I0 := I
  obtain ⟨Q, ⟨ht, hl⟩, ⟨ht2, hl2⟩, hn, hn2, hS, hN, hRb, hes, hsl⟩ := I0
  have hd : dk d := Q.B.dk
  have hR := jR (L := L) (P := A) (Q := B) (m := m) (e := d) (N := N) (R := R) (t := t) (g := g) hes hsl (by omega)
  have I1 := I.one Q
  rcases Q.c with h11 | h11
  · have ne : ¬ d 11 = 1 := by omega
    have r := fun Z => m_statA (cm := 1074) (sm := (12984 + (14 + L))) (fr := 4) (lo := 464) (C := (L, xs, (A.1, 0), B, fw d A.1 A.2 U, V, S, d)) (e := d) (P := A) (Q := B) (m := m) (N := N) (R := R) (t := t) (Z := Z) (by decide) Q hN ht hl rfl rfl rfl (x := p) (by rw [tf_1 ne]; decide)
    rw [tf_1 ne] at r
    have w := w176_T0 (c_statT0 (x := p) (xs := xs) (B := B) (V := V) (S := S) (by decide) hR hd ht hl hn h11)
    exact jO_T (A' := (A.1, 0)) (B' := B) (U' := fw d A.1 A.2 U) (V' := V) w (r _) (by decide) rfl I1
  have F := fo_W Q A N U h11
  have W := ab_W Q A N U h11
  have Un := fw_U Q A.1 A.2 U
  have h0 : d 11 ≠ 0 := by omega
  by_cases hf : (fw d A.1 A.2 U).2.2.1 = 0
  · have r := fun Z => m_statA (cm := 1074) (sm := (12984 + (14 + L))) (fr := 4) (lo := 464) (C := (L, xs, (A.1, 0), B, fw d A.1 A.2 U, V, S, d)) (e := d) (P := A) (Q := B) (m := m) (N := N) (R := R) (t := t) (Z := Z) (by decide) Q hN ht hl (F.trans hf) rfl rfl (x := p) (by rw [tf_2 h11 rfl]; decide)
    rw [tf_2 h11 rfl] at r
    have w := w176_T1 (c_statT1 (x := p) (xs := xs) (B := B) (V := V) (S := S) (by decide) hR hd ht hl hn h0 hf)
    exact jO_T (A' := (A.1, 0)) (B' := B) (U' := fw d A.1 A.2 U) (V' := V) w (r _) (by decide) rfl I1
  have ui := Un.i hf
  have E := Q.E h11
  have k1 := Q.T.k1
  rw [qk_lt d 1 (by omega)] at k1
  have k12 : d (32 + (16 * (fw d A.1 A.2 U).2.2.1)) = 1 ∨ d (32 + (16 * (fw d A.1 A.2 U).2.2.1)) = 2 := by
    have a := Q.T.k2 (fw d A.1 A.2 U).2.2.1
    rw [qk_lt d _ ui.1] at a
    have := ui.2
    omega
  have hx6 : d (32 + (16 * (fw d A.1 A.2 U).2.2.1) + 10) < 64 := by
    have := Q.B.b1 _ 38 ui.1 (by omega)
    rw [qb_ix] at this
    omega
  rcases i32_cases p with hp | ⟨n, hn3, rfl⟩
  · have r := fun Z => m_statM (cm := 1074) (sm := (12984 + (14 + L))) (fr := 4) (lo := 464) (C := (L, xs, (A.1, 0), B, fw d A.1 A.2 U, V, S, d)) (e := d) (P := A) (Q := B) (m := m) (N := N) (R := R) (t := t) (Z := Z) (by decide) Q hN ht hl F rfl rfl h11 hf ui.1 hp
    have w := w176_T3 (c_statT2 (xs := xs) (B := B) (V := V) (S := S) (by decide) hR (Or.inl (i32_neg hp)) hd ht hl hn h0 hf)
    exact jO_T (A' := (A.1, 0)) (B' := B) (U' := fw d A.1 A.2 U) (V' := V) w (r _) (by decide) rfl I1
  by_cases h4 : 4 < n
  · have r := fun Z => m_statB (cm := 1074) (sm := (12984 + (14 + L))) (fr := 4) (lo := 464) (C := (L, xs, (A.1, 0), B, fw d A.1 A.2 U, V, S, d)) (e := d) (P := A) (Q := B) (m := m) (N := N) (R := R) (t := t) (Z := Z) (by decide) Q hN ht hl F rfl rfl h11 hf ui.1 hn3 h4
    have w := w176_T3 (c_statT2 (x := nI n) (xs := xs) (B := B) (V := V) (S := S) (by decide) hR (Or.inr (by rw [nI_toInt hn3]; omega)) hd ht hl hn h0 hf)
    exact jO_T (A' := (A.1, 0)) (B' := B) (U' := fw d A.1 A.2 U) (V' := V) w (r _) (by decide) rfl I1
  have hn5 : n = 0 ∨ n = 1 ∨ n = 2 ∨ n = 3 ∨ n = 4 := by omega
  rcases hn5 with rfl | rfl | rfl | rfl | rfl
  · have r := fun Z => m_stat0 (cm := 1074) (sm := (12984 + (14 + L))) (fr := 4) (lo := 464) (C := (L, xs, (A.1, 0), B, fw d A.1 A.2 U, V, S, d)) (e := d) (P := A) (Q := B) (m := m) (N := N) (R := R) (t := t) (Z := Z) (by decide) Q hN ht hl F rfl rfl h11 hf ui.1 hx6
    exact jO_K (w176_ok (c_stat0 (by decide) hd ht hl hn h0 hf)) r I1
  · have r := fun Z => m_stat1 (cm := 1074) (sm := (12984 + (14 + L))) (fr := 4) (lo := 464) (C := (L, xs, (A.1, 0), B, fw d A.1 A.2 U, V, S, d)) (e := d) (P := A) (Q := B) (m := m) (N := N) (R := R) (t := t) (Z := Z) (by decide) Q hN ht hl F rfl rfl h11 hf ui.1 hx6
    exact jO_K (w176_ok (c_stat1 (by decide) hd ht hl hn h0 hf)) r I1
  · have r := fun Z => m_stat2 (cm := 1074) (sm := (12984 + (14 + L))) (fr := 4) (lo := 464) (C := (L, xs, (A.1, 0), B, fw d A.1 A.2 U, V, S, d)) (e := d) (P := A) (Q := B) (m := m) (N := N) (R := R) (t := t) (Z := Z) (by decide) Q hN ht hl F rfl rfl h11 hf ui.1 hx6
    exact jO_K (w176_ok (c_stat2 (by decide) hd ht hl hn h0 hf)) r I1
  · have r := fun Z => m_stat3 (cm := 1074) (sm := (12984 + (14 + L))) (fr := 4) (lo := 464) (C := (L, xs, (A.1, 0), B, fw d A.1 A.2 U, V, S, d)) (e := d) (P := A) (Q := B) (m := m) (N := N) (R := R) (t := t) (Z := Z) (by decide) Q hN ht hl F rfl rfl h11 hf ui.1 hx6
    exact jO_K (w176_ok (c_stat3 (by decide) hd ht hl hn h0 hf)) r I1
  · have r := fun Z => m_stat4 (cm := 1074) (sm := (12984 + (14 + L))) (fr := 4) (lo := 464) (C := (L, xs, (A.1, 0), B, fw d A.1 A.2 U, V, S, d)) (e := d) (P := A) (Q := B) (m := m) (N := N) (R := R) (t := t) (Z := Z) (by decide) Q hN ht hl F rfl rfl h11 hf ui.1 hx6
    exact jO_K (w176_ok (c_stat4 (by decide) hd ht hl hn h0 hf)) r I1
theorem j_trunc {L : Nat} {xs : Nat → Int32} {A B : gT} {U V : gU} {S : gS} {d : Nat → Nat} {m : Nat} {N : Nat → Nat} {R : gS} {t : Nat} {g : Nat → Int64} {es : mj_H} {k : Nat} {p : Int32} (I : jI A B U V S d N R es k) (hk : k < 512) : jO L xs 175 156 465 463 [.ref 3, .int p, .ref 32] [.ref 23, .int p] A B U V S d m N R t g es k := by
  have I0 := I
  obtain ⟨Q, ⟨ht, hl⟩, ⟨ht2, hl2⟩, hn, hn2, hS, hN, hRb, hes, hsl⟩ := I0
  have hd : dk d := Q.B.dk
  have hR := jR (L := L) (P := A) (Q := B) (m := m) (e := d) (N := N) (R := R) (t := t) (g := g) hes hsl (by omega)
  have I1 := I.one Q
  rcases Q.c with h11 | h11
  · have ne : ¬ d 11 = 1 := by omega
    have r := fun Z => m_truncA (cm := 1074) (sm := (12984 + (14 + L))) (fr := 4) (lo := 463) (C := (L, xs, (A.1, 0), B, fw d A.1 A.2 U, V, S, d)) (e := d) (P := A) (Q := B) (m := m) (N := N) (R := R) (t := t) (Z := Z) (by decide) Q hN ht hl rfl rfl rfl (x := p) (by rw [tf_1 ne]; decide)
    rw [tf_1 ne] at r
    have w := w175_T0 (c_truncT0 (x := p) (xs := xs) (B := B) (V := V) (S := S) (by decide) hR hd ht hl hn h11)
    exact jO_T (A' := (A.1, 0)) (B' := B) (U' := fw d A.1 A.2 U) (V' := V) w (r _) (by decide) rfl I1
  have F := fo_W Q A N U h11
  have W := ab_W Q A N U h11
  have Un := fw_U Q A.1 A.2 U
  have h0 : d 11 ≠ 0 := by omega
  by_cases hf : (fw d A.1 A.2 U).2.2.1 = 0
  · have r := fun Z => m_truncA (cm := 1074) (sm := (12984 + (14 + L))) (fr := 4) (lo := 463) (C := (L, xs, (A.1, 0), B, fw d A.1 A.2 U, V, S, d)) (e := d) (P := A) (Q := B) (m := m) (N := N) (R := R) (t := t) (Z := Z) (by decide) Q hN ht hl (F.trans hf) rfl rfl (x := p) (by rw [tf_2 h11 rfl]; decide)
    rw [tf_2 h11 rfl] at r
    have w := w175_T1 (c_truncT1 (x := p) (xs := xs) (B := B) (V := V) (S := S) (by decide) hR hd ht hl hn h0 hf)
    exact jO_T (A' := (A.1, 0)) (B' := B) (U' := fw d A.1 A.2 U) (V' := V) w (r _) (by decide) rfl I1
  have ui := Un.i hf
  have E := Q.E h11
  have k1 := Q.T.k1
  rw [qk_lt d 1 (by omega)] at k1
  have k12 : d (32 + (16 * (fw d A.1 A.2 U).2.2.1)) = 1 ∨ d (32 + (16 * (fw d A.1 A.2 U).2.2.1)) = 2 := by
    have a := Q.T.k2 (fw d A.1 A.2 U).2.2.1
    rw [qk_lt d _ ui.1] at a
    have := ui.2
    omega
  by_cases hk2 : d (32 + (16 * (fw d A.1 A.2 U).2.2.1)) = 2
  · have r := fun Z => m_truncD (cm := 1074) (sm := (12984 + (14 + L))) (fr := 4) (lo := 463) (C := (L, xs, (A.1, 0), B, fw d A.1 A.2 U, V, S, d)) (e := d) (P := A) (Q := B) (m := m) (N := N) (R := R) (t := t) (Z := Z) (by decide) Q hN ht hl F rfl rfl h11 hf ui.1 (x := p) hk2
    have w := w175_T2 (c_truncT2 (x := p) (xs := xs) (B := B) (V := V) (S := S) (by decide) hR hd ht hl hn h0 hf hk2)
    exact jO_T (A' := (A.1, 0)) (B' := B) (U' := fw d A.1 A.2 U) (V' := V) w (r _) (by decide) rfl I1
  have hk1 : d (32 + (16 * (fw d A.1 A.2 U).2.2.1)) = 1 := by omega
  rcases i32_cases p with hp | ⟨s, hs3, rfl⟩
  · have r := fun Z => m_truncM (cm := 1074) (sm := (12984 + (14 + L))) (fr := 4) (lo := 463) (C := (L, xs, (A.1, 0), B, fw d A.1 A.2 U, V, S, d)) (e := d) (P := A) (Q := B) (m := m) (N := N) (R := R) (t := t) (Z := Z) (by decide) Q hN ht hl F rfl rfl h11 hf ui.1 hp hk2
    have w := w175_T3 (c_truncT3 (xs := xs) (B := B) (V := V) (S := S) (by decide) hR hp hd ht hl hn h0 hf hk2)
    exact jO_T (A' := (A.1, 0)) (B' := B) (U' := fw d A.1 A.2 U) (V' := V) w (r _) (by decide) rfl I1
  by_cases h4 : 1216 < s
  · have r := fun Z => m_truncB (cm := 1074) (sm := (12984 + (14 + L))) (fr := 4) (lo := 463) (C := (L, xs, (A.1, 0), B, fw d A.1 A.2 U, V, S, d)) (e := d) (P := A) (Q := B) (m := m) (N := N) (R := R) (t := t) (Z := Z) (by decide) Q hN ht hl F rfl rfl h11 hf ui.1 hs3 h4 hk2
    have w := w175_T3 (c_truncT4 (xs := xs) (B := B) (V := V) (S := S) (by decide) hR hs3 h4 hd ht hl hn h0 hf hk2)
    exact jO_T (A' := (A.1, 0)) (B' := B) (U' := fw d A.1 A.2 U) (V' := V) w (r _) (by decide) rfl I1
  obtain ⟨x1, x2, x3, x4⟩ := Q.trunc h11 _ s _ ui.1 hk1 (by omega) rfl
  have w := w175_ok (L := L) (C := (L, xs, A, B, U, V, S, d)) (e := d) (P := A) (Q := B) (m := m) (N := N) (R := R) (t := t) (g := g) (es := es) (C' := (L, xs, (A.1, 0), B, (fw d A.1 A.2 U), V, S, ss (pz (fw d A.1 A.2 U).2.2.1 (dr d (fw d A.1 A.2 U).2.2.1 ((s + 32 - 1) / 32)) s ((s + 32 - 1) / 32 * 32 - s)) (fw d A.1 A.2 U).2.2.1 s)) (c_trunc (s := s) (by decide) (by omega) hd ht hl hn h0 hf hk2)
  rw [show s + 32 - 1 = s + 31 by omega] at w
  by_cases c1 : s % 32 = 0
  · rw [if_pos c1] at x4
    have r := fun Z => m_trunc0 (cm := 1074) (sm := (12984 + (14 + L))) (fr := 4) (lo := 463) (C := (L, xs, (A.1, 0), B, fw d A.1 A.2 U, V, S, ss (pz (fw d A.1 A.2 U).2.2.1 (dr d (fw d A.1 A.2 U).2.2.1 ((s + 31) / 32)) s ((s + 31) / 32 * 32 - s)) (fw d A.1 A.2 U).2.2.1 s)) (e := d) (P := A) (Q := B) (m := m) (N := N) (R := R) (t := t) (Z := Z) (by decide) Q hN ht hl F rfl rfl h11 hf ui.1 (s := s) (by omega) hk2 c1
    rw [x4] at w r x1
    exact jO_K w r (I.one x1)
  rw [if_neg c1] at x4
  by_cases c2 : bo (dr d (fw d A.1 A.2 U).2.2.1 ((s + 31) / 32)) (fw d A.1 A.2 U).2.2.1 (s / 32) = 0
  · rw [if_pos c2] at x4
    have r := fun Z => m_trunc1 (cm := 1074) (sm := (12984 + (14 + L))) (fr := 4) (lo := 463) (C := (L, xs, (A.1, 0), B, fw d A.1 A.2 U, V, S, ss (pz (fw d A.1 A.2 U).2.2.1 (dr d (fw d A.1 A.2 U).2.2.1 ((s + 31) / 32)) s ((s + 31) / 32 * 32 - s)) (fw d A.1 A.2 U).2.2.1 s)) (e := d) (P := A) (Q := B) (m := m) (N := N) (R := R) (t := t) (Z := Z) (by decide) Q hN ht hl F rfl rfl h11 hf ui.1 (s := s) (by omega) hk2 c1 x2 c2
    rw [x4] at w r x1
    exact jO_K w r (I.one x1)
  · rw [if_neg c2] at x4
    have r := fun Z => m_trunc2 (cm := 1074) (sm := (12984 + (14 + L))) (fr := 4) (lo := 463) (C := (L, xs, (A.1, 0), B, fw d A.1 A.2 U, V, S, ss (pz (fw d A.1 A.2 U).2.2.1 (dr d (fw d A.1 A.2 U).2.2.1 ((s + 31) / 32)) s ((s + 31) / 32 * 32 - s)) (fw d A.1 A.2 U).2.2.1 s)) (e := d) (P := A) (Q := B) (m := m) (N := N) (R := R) (t := t) (Z := Z) (by decide) Q hN ht hl F rfl rfl h11 hf ui.1 (s := s) (by omega) hk2 c1 x2 c2
    rw [x4] at w r x1
    exact jO_K w r (I.one x1)
theorem j_read {L : Nat} {xs : Nat → Int32} {A B : gT} {U V : gU} {S : gS} {d : Nat → Nat} {m : Nat} {N : Nat → Nat} {R : gS} {t : Nat} {g : Nat → Int64} {es : mj_H} {k : Nat} {p : Int32} (I : jI A B U V S d N R es k) (hk : k < 512) : jL L xs 174 154 465 462 [.ref 3, .int p, .ref 32] [.ref 23, .int p] A B U V S d m N R t g es k := by
  have I0 := I
  obtain ⟨Q, ⟨ht, hl⟩, ⟨ht2, hl2⟩, hn, hn2, hS, hN, hRb, hes, hsl⟩ := I0
  have hd : dk d := Q.B.dk
  have hR := jR (L := L) (P := A) (Q := B) (m := m) (e := d) (N := N) (R := R) (t := t) (g := g) hes hsl (by omega)
  have I1 := I.one Q
  rcases Q.c with h11 | h11
  · have ne : ¬ d 11 = 1 := by omega
    have r := fun Z => m_readA (cm := 1074) (sm := (12984 + (14 + L))) (fr := 4) (lo := 462) (C := (L, xs, (A.1, 0), B, fw d A.1 A.2 U, V, S, d)) (e := d) (P := A) (Q := B) (m := m) (N := N) (R := R) (t := t) (Z := Z) (by decide) Q hN ht hl rfl rfl rfl (x := p) (by rw [tf_1 ne]; decide)
    rw [tf_1 ne] at r
    have w := w174_T0 (c_readT0 (x := p) (xs := xs) (B := B) (V := V) (S := S) (by decide) hR hd ht hl hn h11)
    exact jL_T (A' := (A.1, 0)) (B' := B) (U' := fw d A.1 A.2 U) (V' := V) w (r _) (by decide) rfl I1
  have F := fo_W Q A N U h11
  have W := ab_W Q A N U h11
  have Un := fw_U Q A.1 A.2 U
  have h0 : d 11 ≠ 0 := by omega
  by_cases hf : (fw d A.1 A.2 U).2.2.1 = 0
  · have r := fun Z => m_readA (cm := 1074) (sm := (12984 + (14 + L))) (fr := 4) (lo := 462) (C := (L, xs, (A.1, 0), B, fw d A.1 A.2 U, V, S, d)) (e := d) (P := A) (Q := B) (m := m) (N := N) (R := R) (t := t) (Z := Z) (by decide) Q hN ht hl (F.trans hf) rfl rfl (x := p) (by rw [tf_2 h11 rfl]; decide)
    rw [tf_2 h11 rfl] at r
    have w := w174_T1 (c_readT1 (x := p) (xs := xs) (B := B) (V := V) (S := S) (by decide) hR hd ht hl hn h0 hf)
    exact jL_T (A' := (A.1, 0)) (B' := B) (U' := fw d A.1 A.2 U) (V' := V) w (r _) (by decide) rfl I1
  have ui := Un.i hf
  have E := Q.E h11
  have k1 := Q.T.k1
  rw [qk_lt d 1 (by omega)] at k1
  have k12 : d (32 + (16 * (fw d A.1 A.2 U).2.2.1)) = 1 ∨ d (32 + (16 * (fw d A.1 A.2 U).2.2.1)) = 2 := by
    have a := Q.T.k2 (fw d A.1 A.2 U).2.2.1
    rw [qk_lt d _ ui.1] at a
    have := ui.2
    omega
  by_cases hk2 : d (32 + (16 * (fw d A.1 A.2 U).2.2.1)) = 2
  · have r := fun Z => m_readD (cm := 1074) (sm := (12984 + (14 + L))) (fr := 4) (lo := 462) (C := (L, xs, (A.1, 0), B, fw d A.1 A.2 U, V, S, d)) (e := d) (P := A) (Q := B) (m := m) (N := N) (R := R) (t := t) (Z := Z) (by decide) Q hN ht hl F rfl rfl h11 hf ui.1 (x := p) hk2
    have w := w174_T2 (c_readT2 (x := p) (xs := xs) (B := B) (V := V) (S := S) (by decide) hR hd ht hl hn h0 hf hk2)
    exact jL_T (A' := (A.1, 0)) (B' := B) (U' := fw d A.1 A.2 U) (V' := V) w (r _) (by decide) rfl I1
  have hk1 : d (32 + (16 * (fw d A.1 A.2 U).2.2.1)) = 1 := by omega
  have hx6 : d (32 + (16 * (fw d A.1 A.2 U).2.2.1) + 10) < 64 := by
    have := Q.B.b1 _ 38 ui.1 (by omega)
    rw [qb_ix] at this
    omega
  have hs6 := Q.R.fi _ ui.1 hk1
  have hb6 : ∀ w, w < 38 → bo d (fw d A.1 A.2 U).2.2.1 w < 64 := fun w hw => by
    have := Q.B.b1 _ w ui.1 (by omega)
    rw [qb_bo _ _ _ hw] at this
    omega
  rcases i32_cases p with hp | ⟨o, ho, rfl⟩
  · have r := fun Z => m_readM (cm := 1074) (sm := (12984 + (14 + L))) (fr := 4) (lo := 462) (C := (L, xs, (A.1, 0), B, fw d A.1 A.2 U, V, S, d)) (e := d) (P := A) (Q := B) (m := m) (N := N) (R := R) (t := t) (Z := Z) (by decide) Q hN ht hl F rfl rfl h11 hf ui.1 hp hk2
    have w := w174_T3 (c_readT3 (xs := xs) (B := B) (V := V) (S := S) (by decide) hR hp hd ht hl hn h0 hf hk2)
    exact jL_T (A' := (A.1, 0)) (B' := B) (U' := fw d A.1 A.2 U) (V' := V) w (r _) (by decide) rfl I1
  have r := fun Z => m_read (cm := 1074) (sm := (12984 + (14 + L))) (fr := 4) (lo := 462) (C := (L, xs, (A.1, 0), B, fw d A.1 A.2 U, V, S, d)) (e := d) (P := A) (Q := B) (m := m) (N := N) (R := R) (t := t) (Z := Z) (by decide) Q hN ht hl F rfl rfl h11 hf ui.1 ho hk2 hx6 hb6 hs6
  by_cases h4 : o ≤ d (32 + (16 * (fw d A.1 A.2 U).2.2.1) + 2) + (256 * d (32 + (16 * (fw d A.1 A.2 U).2.2.1) + 3))
  · have e := ca_hz (fun j => gy d (fw d A.1 A.2 U).2.2.1 (o + j)) (fun k => if o ≤ 1216 ∧ o + k < d (32 + (16 * (fw d A.1 A.2 U).2.2.1) + 2) + (256 * d (32 + (16 * (fw d A.1 A.2 U).2.2.1) + 3)) then gy d (fw d A.1 A.2 U).2.2.1 (o + k) else 0) (min 8 (d (32 + (16 * (fw d A.1 A.2 U).2.2.1) + 2) + (256 * d (32 + (16 * (fw d A.1 A.2 U).2.2.1) + 3)) - o)) (by omega) (fun k hk => if_pos (by omega)) (fun k h1 h2 => if_neg (by omega))
    rw [← e] at r
    exact jL_K (w174_ok (c_read (by decide) ho hd ht hl hn h0 hf hk2 h4)) r I1
  · have e := ca_hz (fun j => gy d (fw d A.1 A.2 U).2.2.1 (o + j)) (fun k => if o ≤ 1216 ∧ o + k < d (32 + (16 * (fw d A.1 A.2 U).2.2.1) + 2) + (256 * d (32 + (16 * (fw d A.1 A.2 U).2.2.1) + 3)) then gy d (fw d A.1 A.2 U).2.2.1 (o + k) else 0) 0 (by omega) (fun k hk => absurd hk (by omega)) (fun k h1 h2 => if_neg (by omega))
    rw [← e] at r
    exact jL_K (w174_ok (c_readE (by decide) ho hd ht hl hn h0 hf hk2 (Nat.lt_of_not_le h4))) r I1
theorem j_write {L : Nat} {xs : Nat → Int32} {A B : gT} {U V : gU} {S : gS} {d : Nat → Nat} {m : Nat} {N : Nat → Nat} {R : gS} {t : Nat} {g : Nat → Int64} {es : mj_H} {k : Nat} {p q : Int32} {w : Int64} (I : jI A B U V S d N R es k) (hk : k < 512) : jO L xs 173 152 462 458 [.ref 3, .int p, .int q, .long w, .ref 32] [.ref 23, .int p, .int q, .long w] A B U V S d m N R t g es k := by
  have I0 := I
  obtain ⟨Q, ⟨ht, hl⟩, ⟨ht2, hl2⟩, hn, hn2, hS, hN, hRb, hes, hsl⟩ := I0
  have hd : dk d := Q.B.dk
  have hR := jR (L := L) (P := A) (Q := B) (m := m) (e := d) (N := N) (R := R) (t := t) (g := g) hes hsl (by omega)
  have I1 := I.one Q
  rcases Q.c with h11 | h11
  · have ne : ¬ d 11 = 1 := by omega
    have r := fun Z => m_writeA (cm := 1074) (sm := (12984 + (14 + L))) (fr := 4) (lo := 458) (C := (L, xs, (A.1, 0), B, fw d A.1 A.2 U, V, S, d)) (e := d) (P := A) (Q := B) (m := m) (N := N) (R := R) (t := t) (Z := Z) (by decide) Q hN ht hl rfl rfl rfl (p := p) (q := q) (w := w) (by rw [tf_1 ne]; decide)
    rw [tf_1 ne] at r
    have w := w173_T0 (c_writeT0 (p := p) (q := q) (w := w) (xs := xs) (B := B) (V := V) (S := S) (by decide) hR hd ht hl hn h11)
    exact jO_T (A' := (A.1, 0)) (B' := B) (U' := fw d A.1 A.2 U) (V' := V) w (r _) (by decide) rfl I1
  have F := fo_W Q A N U h11
  have W := ab_W Q A N U h11
  have Un := fw_U Q A.1 A.2 U
  have h0 : d 11 ≠ 0 := by omega
  by_cases hf : (fw d A.1 A.2 U).2.2.1 = 0
  · have r := fun Z => m_writeA (cm := 1074) (sm := (12984 + (14 + L))) (fr := 4) (lo := 458) (C := (L, xs, (A.1, 0), B, fw d A.1 A.2 U, V, S, d)) (e := d) (P := A) (Q := B) (m := m) (N := N) (R := R) (t := t) (Z := Z) (by decide) Q hN ht hl (F.trans hf) rfl rfl (p := p) (q := q) (w := w) (by rw [tf_2 h11 rfl]; decide)
    rw [tf_2 h11 rfl] at r
    have w := w173_T1 (c_writeT1 (p := p) (q := q) (w := w) (xs := xs) (B := B) (V := V) (S := S) (by decide) hR hd ht hl hn h0 hf)
    exact jO_T (A' := (A.1, 0)) (B' := B) (U' := fw d A.1 A.2 U) (V' := V) w (r _) (by decide) rfl I1
  have ui := Un.i hf
  have E := Q.E h11
  have k1 := Q.T.k1
  rw [qk_lt d 1 (by omega)] at k1
  have k12 : d (32 + (16 * (fw d A.1 A.2 U).2.2.1)) = 1 ∨ d (32 + (16 * (fw d A.1 A.2 U).2.2.1)) = 2 := by
    have a := Q.T.k2 (fw d A.1 A.2 U).2.2.1
    rw [qk_lt d _ ui.1] at a
    have := ui.2
    omega
  by_cases hk2 : d (32 + (16 * (fw d A.1 A.2 U).2.2.1)) = 2
  · have r := fun Z => m_writeD (cm := 1074) (sm := (12984 + (14 + L))) (fr := 4) (lo := 458) (C := (L, xs, (A.1, 0), B, fw d A.1 A.2 U, V, S, d)) (e := d) (P := A) (Q := B) (m := m) (N := N) (R := R) (t := t) (Z := Z) (by decide) Q hN ht hl F rfl rfl h11 hf ui.1 (p := p) (q := q) (w := w) hk2
    have w := w173_T2 (c_writeT2 (p := p) (q := q) (w := w) (xs := xs) (B := B) (V := V) (S := S) (by decide) hR hd ht hl hn h0 hf hk2)
    exact jO_T (A' := (A.1, 0)) (B' := B) (U' := fw d A.1 A.2 U) (V' := V) w (r _) (by decide) rfl I1
  have hk1 : d (32 + (16 * (fw d A.1 A.2 U).2.2.1)) = 1 := by omega
  have hx6 : d (32 + (16 * (fw d A.1 A.2 U).2.2.1) + 10) < 64 := by
    have := Q.B.b1 _ 38 ui.1 (by omega)
    rw [qb_ix] at this
    omega
  have hs6 := Q.R.fi _ ui.1 hk1
  by_cases hq : mj_cmp .lt q (nI 1) = true
  · have r := fun Z => m_writeB1 (cm := 1074) (sm := (12984 + (14 + L))) (fr := 4) (lo := 458) (C := (L, xs, (A.1, 0), B, fw d A.1 A.2 U, V, S, d)) (e := d) (P := A) (Q := B) (m := m) (N := N) (R := R) (t := t) (Z := Z) (by decide) Q hN ht hl F rfl rfl h11 hf ui.1 (w := w) (p := p) hq hk2
    have w := w173_T3 (c_writeT3 (p := p) (w := w) (xs := xs) (B := B) (V := V) (S := S) (by decide) hR hq hd ht hl hn h0 hf hk2)
    exact jO_T (A' := (A.1, 0)) (B' := B) (U' := fw d A.1 A.2 U) (V' := V) w (r _) (by decide) rfl I1
  rcases i32_cases q with hqn | ⟨n, hn3, rfl⟩
  · exfalso
    apply hq
    have := i32_neg hqn
    exact decide_eq_true (Int32.lt_iff_toInt_lt.mpr (by rw [nI_toInt (by decide)]; omega))
  have n1 : 1 ≤ n := by
    rw [nc_lt hn3 (by decide)] at hq
    have := of_decide_eq_false (Bool.not_eq_true _ ▸ hq)
    omega
  by_cases n8 : 8 < n
  · have r := fun Z => m_writeB2 (cm := 1074) (sm := (12984 + (14 + L))) (fr := 4) (lo := 458) (C := (L, xs, (A.1, 0), B, fw d A.1 A.2 U, V, S, d)) (e := d) (P := A) (Q := B) (m := m) (N := N) (R := R) (t := t) (Z := Z) (by decide) Q hN ht hl F rfl rfl h11 hf ui.1 (w := w) (p := p) hn3 n8 hk2
    have w := w173_T3 (c_writeT4 (p := p) (w := w) (xs := xs) (B := B) (V := V) (S := S) (by decide) hR hn3 n8 hd ht hl hn h0 hf hk2)
    exact jO_T (A' := (A.1, 0)) (B' := B) (U' := fw d A.1 A.2 U) (V' := V) w (r _) (by decide) rfl I1
  rcases i32_cases p with hp | ⟨o, ho, rfl⟩
  · have r := fun Z => m_writeB3 (cm := 1074) (sm := (12984 + (14 + L))) (fr := 4) (lo := 458) (C := (L, xs, (A.1, 0), B, fw d A.1 A.2 U, V, S, d)) (e := d) (P := A) (Q := B) (m := m) (N := N) (R := R) (t := t) (Z := Z) (by decide) Q hN ht hl F rfl rfl h11 hf ui.1 (w := w) n1 (by omega) hp hk2
    have w := w173_T3 (c_writeT5 (w := w) (xs := xs) (B := B) (V := V) (S := S) (by decide) hR n1 (by omega) hp hd ht hl hn h0 hf hk2)
    exact jO_T (A' := (A.1, 0)) (B' := B) (U' := fw d A.1 A.2 U) (V' := V) w (r _) (by decide) rfl I1
  by_cases ho2 : 1216 < o + n
  · have r := fun Z => m_writeB4 (cm := 1074) (sm := (12984 + (14 + L))) (fr := 4) (lo := 458) (C := (L, xs, (A.1, 0), B, fw d A.1 A.2 U, V, S, d)) (e := d) (P := A) (Q := B) (m := m) (N := N) (R := R) (t := t) (Z := Z) (by decide) Q hN ht hl F rfl rfl h11 hf ui.1 (w := w) ho n1 (by omega) ho2 hk2
    have w := w173_T3 (c_writeT6 (w := w) (xs := xs) (B := B) (V := V) (S := S) (by decide) hR ho n1 (by omega) ho2 hd ht hl hn h0 hf hk2)
    exact jO_T (A' := (A.1, 0)) (B' := B) (U' := fw d A.1 A.2 U) (V' := V) w (r _) (by decide) rfl I1
  by_cases h6 : cf d 3 9 55 < bw d (fw d A.1 A.2 U).2.2.1 (o / 32) ((o + n - 1) / 32)
  · have r := fun Z => m_writeS (cm := 1074) (sm := (12984 + (14 + L))) (fr := 4) (lo := 458) (C := (L, xs, (A.1, 0), B, fw d A.1 A.2 U, V, S, d)) (e := d) (P := A) (Q := B) (m := m) (N := N) (R := R) (t := t) (Z := Z) (by decide) Q hN ht hl F rfl rfl h11 hf ui.1 (o := o) (n := n) (w := w) n1 (by omega) (by omega) hk2 hk1 hx6 (by rw [cf_3 Q.B.m3]; exact h6)
    have w := w173_T0 (c_writeT7 (o := o) (n := n) (w := w) (xs := xs) (B := B) (V := V) (S := S) (by decide) hR n1 (by omega) (by omega) hd ht hl hn h0 hf hk2 h6)
    exact jO_T (A' := (A.1, 0)) (B' := B) (U' := fw d A.1 A.2 U) (V' := V) w (r _) (by decide) rfl I1
  have X := Q.write h11 (fw d A.1 A.2 U).2.2.1 o n (o / 32) _ (fun k => wo w / 256 ^ k) ui.1 hk1 n1 (by omega) rfl rfl (by omega)
  have X0 := X 0 (by omega)
  have hmax : max ((wb (fw d A.1 A.2 U).2.2.1 o (fun k => wo w / 256 ^ k) (fn (fw d A.1 A.2 U).2.2.1 d (o / 32) (((o + n - 1) / 32) + 1 - (o / 32))) 0 n) (32 + (16 * (fw d A.1 A.2 U).2.2.1) + 2) + (256 * ((wb (fw d A.1 A.2 U).2.2.1 o (fun k => wo w / 256 ^ k) (fn (fw d A.1 A.2 U).2.2.1 d (o / 32) (((o + n - 1) / 32) + 1 - (o / 32))) 0 n) (32 + (16 * (fw d A.1 A.2 U).2.2.1) + 2 + 1)))) (o + n) ≤ 1216 := by
    rw [X0.2.2.2.2.2.1, X0.2.2.2.2.2.2.1]
    omega
  have r := fun Z => m_write (cm := 1074) (sm := (12984 + (14 + L))) (fr := 4) (lo := 458) (C := (L, xs, (A.1, 0), B, fw d A.1 A.2 U, V, S, (ss (wb (fw d A.1 A.2 U).2.2.1 o (fun k => wo w / 256 ^ k) (fn (fw d A.1 A.2 U).2.2.1 d (o / 32) (((o + n - 1) / 32) + 1 - (o / 32))) 0 n) (fw d A.1 A.2 U).2.2.1 (max ((wb (fw d A.1 A.2 U).2.2.1 o (fun k => wo w / 256 ^ k) (fn (fw d A.1 A.2 U).2.2.1 d (o / 32) (((o + n - 1) / 32) + 1 - (o / 32))) 0 n) (32 + (16 * (fw d A.1 A.2 U).2.2.1) + 2) + (256 * ((wb (fw d A.1 A.2 U).2.2.1 o (fun k => wo w / 256 ^ k) (fn (fw d A.1 A.2 U).2.2.1 d (o / 32) (((o + n - 1) / 32) + 1 - (o / 32))) 0 n) (32 + (16 * (fw d A.1 A.2 U).2.2.1) + 2 + 1)))) (o + n))))) (e := d) (P := A) (Q := B) (m := m) (N := N) (R := R) (t := t) (Z := Z) (by decide) Q hN ht hl F rfl rfl h11 hf ui.1 (o := o) (n := n) (w := w) n1 (by omega) (by omega) hk2 hk1 hx6 (by rw [cf_3 Q.B.m3]; exact h6) ⟨X0.2.1, by rw [X0.2.2.1.k _ ui.1]; exact hk1, fun k hk => X0.2.2.2.2.2.2.2 _ (by omega) (by omega)⟩ X0.2.2.2.1.B.dk
  exact jO_K (w173_ok (c_write (o := o) (n := n) (w := w) (by decide) n1 (by omega) (by omega) hd ht hl hn h0 hf hk2 h6)) r (I.one (X _ hmax).1)

