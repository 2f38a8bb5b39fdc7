theorem rt_0 (x : Nat) : rt 0 x = x := rfl
theorem rt_1 (x : Nat) : rt 1 x = 1 := rfl
theorem rt_2 (x : Nat) : rt 2 x = 2 := rfl
theorem qE.gD {e : Nat → Nat} (V : qE e) {p : Nat} (hp : p < 16) (hk : e (32 + (16 * p)) = 2) : gD e p := by
  have r := V.R.dr p hp hk
  refine ⟨hp, r.2.1, r.2.2.1, by omega, fun w hw => ?_⟩
  have b := V.B.b1 p w hp (by omega)
  rw [qb_lo _ _ _ hw] at b
  omega
theorem gD_ext {e e' : Nat → Nat} {p : Nat} (h : ∀ k, 2 ≤ k → k < 16 → e' (32 + (16 * p) + k) = e (32 + (16 * p) + k)) (g : gD e p) : gD e' p := by
  obtain ⟨a, b, c, x, y⟩ := g
  have s := sn_ext e e' p (h 2 (by omega) (by omega)) (h 3 (by omega) (by omega))
  refine ⟨a, ?_, ?_, ?_, fun w hw => ?_⟩
  · rw [h 2 (by omega) (by omega), h 3 (by omega) (by omega), s]; exact b
  · rw [s]; exact c
  · rw [h 10 (by omega) (by omega)]; exact x
  · have := h (4 + w) (by omega) (by omega)
    rw [← Nat.add_assoc] at this
    rw [this]; exact y w hw
theorem gD_rA {d} (E : qE d) (p v : Nat) (nm : Nat → Nat) (hp : p < 16) (hk : d (32 + (16 * p)) = 2) (hv : v < 16) (hkv : d (32 + (16 * v)) ≠ 0) (hn : nsl d p ≠ 0) (hc : bw d p (nsl d p / 4) (nsl d p / 4) ≤ cf d 3 9 55) :
    dk (rA d p v nm) ∧ ∀ q, q < 16 → d (32 + (16 * q)) = 2 → gD (rA d p v nm) q := by
  refine ⟨dk_wn _ _ _ _ _ (dk_dp _ (a1_E E p hp hk hn hc).E.B.dk _ _), fun q hq hkq => ?_⟩
  have A := ad_E E p v nm hp hk hv hkv hn hc
  have G := A.E.gD hq (by rw [A.k q hq]; exact hkq)
  have l := eL.lal (rA d p v nm) v 1 hv
  rw [← ad_rA] at l
  exact gD_ext (fun k h1 h2 => (l.T q k h2 (by omega)).symm) G
theorem src_W {e : Nat → Nat} (V : qV e) (T : gT) (N : Nat → Nat) (U : gU) (h11 : e 11 = 1) (hf : (fw e T.1 T.2 U).2.2.1 ≠ 0) :
    (pP T.1 T.2 N).1 = true ∧ ld e (pP T.1 T.2 N).2.2 (pP T.1 T.2 N).2.1 = (fw e T.1 T.2 U).2.2.1 ∧ (((pP T.1 T.2 N).2.1 = 0 ∧ (fw e T.1 T.2 U).2.2.1 = 1) ∨ (0 < (pP T.1 T.2 N).2.1 ∧ (fw e T.1 T.2 U).1 ≠ 0)) := by
  have k00 := V.k00
  have h0 : e (32 + (16 * 0)) ≠ 2 := by omega
  have F := fw_P e T.1 T.2 U N h0
  have G := fo_W V T N U h11
  cases hp : (pP T.1 T.2 N).1 with
  | false => exact absurd (F.2.1 hp).2.2 hf
  | true =>
    unfold fo at G
    rw [if_pos ⟨hp, h11⟩] at G
    refine ⟨rfl, G, ?_⟩
    by_cases m0 : (pP T.1 T.2 N).2.1 = 0
    · exact Or.inl ⟨m0, (F.2.2.1 hp m0).2.2⟩
    · refine Or.inr ⟨by omega, fun z => hf ?_⟩
      have Q := F.2.2.2 hp m0
      have hpar := Q.par
      have hino := Q.ino
      by_cases k2 : e (32 + (16 * ld e (pP T.1 T.2 N).2.2 ((pP T.1 T.2 N).2.1 - 1))) = 2
      · rw [if_pos k2, z] at hpar
        rw [← hpar] at k2
        omega
      · rw [hino, ld, if_neg k2]
theorem j_link {L : Nat} {xs : Nat → Int32} {A B : gT} {U V : gU} {S : gS} {d : Nat → Nat} {m : Nat} {N : Nat → Nat} {R : gS} {t : Nat} {g : Nat → Int64} {es : mj_H} {k : Nat} (I : jI A B U V S d N R es k) (hk : k < 512) : jO L xs 169 141 466 465 [.ref 3, .ref 32] [.ref 23] A B U V S d m N R t g es k := by
  have I0 := I
  obtain ⟨Q, ⟨ht, hl⟩, ⟨ht2, hl2⟩, hn, hn2, hS, hN, hRb, hes, hsl⟩ := I0
  have hd : dk d := Q.B.dk
  have hR := jR (L := L) (P := A) (Q := B) (m := m) (e := d) (N := N) (R := R) (t := t) (g := g) hes hsl (by omega)
  have I1 := I.two Q
  have hNB : ∀ k, (pP B.1 B.2 N).2.2 k < 256 := pP_N hN
  rcases Q.c with h11 | h11
  · have ne : ¬ d 11 = 1 := by omega
    have r := fun Z => m_linkA (cm := 1074) (sm := (12984 + (14 + L))) (fr := 4) (lo := 465) (C := (L, xs, (A.1, 0), (B.1, 0), (fw d A.1 A.2 U), (fw d B.1 B.2 V), S, d)) (e := d) (P := A) (Q := B) (m := m) (N := N) (R := R) (t := t) (Z := Z) (by decide) Q hN ht hl ht2 hl2 rfl rfl rfl rfl (by rw [tf_1 ne, rt_1]; decide)
    rw [tf_1 ne, rt_1] at r
    have w := w169_T0 (c_linkT0 (xs := xs) (S := S) (by decide) hR hd ht hl hn ht2 hl2 hn2 h11)
    exact jO_T (A' := (A.1, 0)) (B' := (B.1, 0)) (U' := fw d A.1 A.2 U) (V' := fw d B.1 B.2 V) w (r _) (by decide) rfl I1
  have F := fo_W Q B N V h11
  have W := ab_W Q A (pP B.1 B.2 N).2.2 U h11
  have Un := fw_U Q A.1 A.2 U
  have Vn := fw_U Q B.1 B.2 V
  have h0 : d 11 ≠ 0 := by omega
  by_cases hp : (fw d A.1 A.2 U).1 = 0
  · have r := fun Z => m_linkA (cm := 1074) (sm := (12984 + (14 + L))) (fr := 4) (lo := 465) (C := (L, xs, (A.1, 0), (B.1, 0), (fw d A.1 A.2 U), (fw d B.1 B.2 V), S, d)) (e := d) (P := A) (Q := B) (m := m) (N := N) (R := R) (t := t) (Z := Z) (by decide) Q hN ht hl ht2 hl2 rfl (W.1.trans hp) rfl rfl (by rw [tf_2 h11 rfl, rt_2]; decide)
    rw [tf_2 h11 rfl, rt_2] at r
    have w := w169_T1 (c_linkT1 (xs := xs) (S := S) (by decide) hR hd ht hl hn ht2 hl2 hn2 h0 hp)
    exact jO_T (A' := (A.1, 0)) (B' := (B.1, 0)) (U' := fw d A.1 A.2 U) (V' := fw d B.1 B.2 V) w (r _) (by decide) rfl I1
  by_cases hf : (fw d B.1 B.2 V).2.2.1 = 0
  · have r := fun Z => m_linkA (cm := 1074) (sm := (12984 + (14 + L))) (fr := 4) (lo := 465) (C := (L, xs, (A.1, 0), (B.1, 0), (fw d A.1 A.2 U), (fw d B.1 B.2 V), S, d)) (e := d) (P := A) (Q := B) (m := m) (N := N) (R := R) (t := t) (Z := Z) (by decide) Q hN ht hl ht2 hl2 (F.trans hf) W.1 rfl rfl (by rw [tf_0 h11 hp, rt_0, tf_2 h11 rfl]; decide)
    rw [tf_0 h11 hp, rt_0, tf_2 h11 rfl] at r
    have w := w169_T1 (c_linkT2 (xs := xs) (S := S) (by decide) hR hd ht hl hn ht2 hl2 hn2 h0 hp hf)
    exact jO_T (A' := (A.1, 0)) (B' := (B.1, 0)) (U' := fw d A.1 A.2 U) (V' := fw d B.1 B.2 V) w (r _) (by decide) rfl I1
  have vi := Vn.i hf
  have E := Q.E h11
  obtain ⟨w1, w2, w3, w4, w5⟩ := W.2 hp
  have up := Un.p hp
  by_cases hk2 : d (32 + (16 * (fw d B.1 B.2 V).2.2.1)) = 2
  · have r := fun Z => m_linkD (cm := 1074) (sm := (12984 + (14 + L))) (fr := 4) (lo := 465) (C := (L, xs, (A.1, 0), (B.1, 0), (fw d A.1 A.2 U), (fw d B.1 B.2 V), S, d)) (e := d) (P := A) (Q := B) (m := m) (N := N) (R := R) (t := t) (Z := Z) (by decide) Q hN ht hl ht2 hl2 F W.1 rfl rfl h11 hp hf w1 (pP_len hl w2) (pP_N hNB) up.1 vi.1 (Q.gD up.1 up.2) hk2
    have w := w169_T2 (c_linkT3 (xs := xs) (S := S) (by decide) hR hd ht hl hn ht2 hl2 hn2 h0 hp hf hk2)
    exact jO_T (A' := (A.1, 0)) (B' := (B.1, 0)) (U' := fw d A.1 A.2 U) (V' := fw d B.1 B.2 V) w (r _) (by decide) rfl I1
  have hk1 : d (32 + (16 * (fw d B.1 B.2 V).2.2.1)) = 1 := by
    have a := Q.T.k2 (fw d B.1 B.2 V).2.2.1
    rw [qk_lt d _ vi.1] at a
    have := vi.2
    omega
  by_cases hn3 : (fw d A.1 A.2 U).2.2.1 = 0
  case neg =>
    have hF : ¬ fd d (fw d A.1 A.2 U).1 (fun q => (pP A.1 A.2 (pP B.1 B.2 N).2.2).2.2 (7 * ((pP A.1 A.2 (pP B.1 B.2 N).2.2).2.1 - 1) + q)) 2 (sn d (fw d A.1 A.2 U).1 - 2) = 0 := by
      rw [w4]
      rcases Un.s hn3 with s | s <;> omega
    have r := fun Z => m_linkB1 (cm := 1074) (sm := (12984 + (14 + L))) (fr := 4) (lo := 465) (C := (L, xs, (A.1, 0), (B.1, 0), (fw d A.1 A.2 U), (fw d B.1 B.2 V), S, d)) (e := d) (P := A) (Q := B) (m := m) (N := N) (R := R) (t := t) (Z := Z) (by decide) Q hN ht hl ht2 hl2 F W.1 rfl rfl h11 hp hf w1 (pP_len hl w2) (pP_N hNB) up.1 vi.1 (Q.gD up.1 up.2) hk2 hF
    by_cases h5 : d (32 + (16 * (fw d B.1 B.2 V).2.2.1) + 1) < 255
    · have w := w169_T0 (c_linkT5 (xs := xs) (S := S) (by decide) hR hd ht hl hn ht2 hl2 hn2 h0 hp hf hk2 h5 hn3)
      exact jO_T (A' := (A.1, 0)) (B' := (B.1, 0)) (U' := fw d A.1 A.2 U) (V' := fw d B.1 B.2 V) w (r _) (by decide) rfl I1
    · have w := w169_T0 (c_linkT4 (xs := xs) (S := S) (by decide) hR hd ht hl hn ht2 hl2 hn2 h0 hp hf hk2 h5)
      exact jO_T (A' := (A.1, 0)) (B' := (B.1, 0)) (U' := fw d A.1 A.2 U) (V' := fw d B.1 B.2 V) w (r _) (by decide) rfl I1
  have hF : fd d (fw d A.1 A.2 U).1 (fun q => (pP A.1 A.2 (pP B.1 B.2 N).2.2).2.2 (7 * ((pP A.1 A.2 (pP B.1 B.2 N).2.2).2.1 - 1) + q)) 2 (sn d (fw d A.1 A.2 U).1 - 2) = 0 := by
    rw [w4]; exact Un.z hn3
  by_cases h5 : d (32 + (16 * (fw d B.1 B.2 V).2.2.1) + 1) < 255
  case neg =>
    have r := fun Z => m_linkB2 (cm := 1074) (sm := (12984 + (14 + L))) (fr := 4) (lo := 465) (C := (L, xs, (A.1, 0), (B.1, 0), (fw d A.1 A.2 U), (fw d B.1 B.2 V), S, d)) (e := d) (P := A) (Q := B) (m := m) (N := N) (R := R) (t := t) (Z := Z) (by decide) Q hN ht hl ht2 hl2 F W.1 rfl rfl h11 hp hf w1 (pP_len hl w2) (pP_N hNB) up.1 vi.1 (Q.gD up.1 up.2) hk2 hF (by have := hd.1 (32 + (16 * (fw d B.1 B.2 V).2.2.1) + 1); omega)
    have w := w169_T0 (c_linkT4 (xs := xs) (S := S) (by decide) hR hd ht hl hn ht2 hl2 hn2 h0 hp hf hk2 h5)
    exact jO_T (A' := (A.1, 0)) (B' := (B.1, 0)) (U' := fw d A.1 A.2 U) (V' := fw d B.1 B.2 V) w (r _) (by decide) rfl I1
  have h5' : ¬ d (32 + (16 * (fw d B.1 B.2 V).2.2.1) + 1) = 255 := by omega
  have hrr := rN_hr E (fw d A.1 A.2 U).1 0 up.1 up.2 (by decide)
  rw [← cf_3 Q.B.m3] at hrr
  by_cases hh : hr d (fw d A.1 A.2 U).1 0 = true
  case neg =>
    have r := fun Z => m_linkB3 (cm := 1074) (sm := (12984 + (14 + L))) (fr := 4) (lo := 465) (C := (L, xs, (A.1, 0), (B.1, 0), (fw d A.1 A.2 U), (fw d B.1 B.2 V), S, d)) (e := d) (P := A) (Q := B) (m := m) (N := N) (R := R) (t := t) (Z := Z) (by decide) Q hN ht hl ht2 hl2 F W.1 rfl rfl h11 hp hf w1 (pP_len hl w2) (pP_N hNB) up.1 vi.1 (Q.gD up.1 up.2) hk2 hF h5' (hrr.mpr (by simpa using hh))
    have w := w169_T0 (c_linkT6 (xs := xs) (S := S) (by decide) hR hd ht hl hn ht2 hl2 hn2 h0 hp hf hk2 h5 hn3 hh)
    exact jO_T (A' := (A.1, 0)) (B' := (B.1, 0)) (U' := fw d A.1 A.2 U) (V' := fw d B.1 B.2 V) w (r _) (by decide) rfl I1
  have hrn : ¬ cf d 3 0 64 < rN d (fw d A.1 A.2 U).1 := fun z => by
    have := hrr.mp z
    rw [hh] at this
    exact Bool.noConfusion this
  have hs := hr_spec d _ 0 hh
  have X := Q.link h11 _ _ (fw d A.1 A.2 U).2.2.2 up.1 up.2 vi.1 hk1 h5 hh
  have r := fun Z => m_link (cm := 1074) (sm := (12984 + (14 + L))) (fr := 4) (lo := 465) (C := (L, xs, (A.1, 0), (B.1, 0), (fw d A.1 A.2 U), (fw d B.1 B.2 V), S, ad d (fw d A.1 A.2 U).1 (fw d B.1 B.2 V).2.2.1 (fw d A.1 A.2 U).2.2.2)) (e := d) (P := A) (Q := B) (m := m) (N := N) (R := R) (t := t) (Z := Z) (by decide) Q hN ht hl ht2 hl2 F W.1 rfl rfl h11 hp hf w1 (pP_len hl w2) (pP_N hNB) up.1 vi.1 (Q.gD up.1 up.2) hk2 hF h5' hrn up.2 hs.1 (by omega) (by rw [rA_l E _ _ _ up.1 up.2 hs.1 (by omega) _ vi.1]; exact h5)
  rw [rA_nm _ _ _ (fun q hq => (w5 q hq).symm), ← ad_rA] at r
  exact jO_K (w169_ok (c_link (by decide) hd ht hl hn ht2 hl2 hn2 h0 hp hf hk2 h5 hn3 hh)) r (I.two X.1)
theorem j_rename {L : Nat} {xs : Nat → Int32} {A B : gT} {U V : gU} {S : gS} {d : Nat → Nat} {m : Nat} {N : Nat → Nat} {R : gS} {t : Nat} {g : Nat → Int64} {es : mj_H} {k : Nat} (I : jI A B U V S d N R es k) (hk : k < 512) : jO L xs 172 150 466 463 [.ref 3, .ref 32] [.ref 23] A B U V S d m N R t g es k := by
  have I0 := I
  obtain ⟨Q, ⟨ht, hl⟩, ⟨ht2, hl2⟩, hn, hn2, hS, hN, hRb, hes, hsl⟩ := I0
  have hd : dk d := Q.B.dk
  have hR := jR (L := L) (P := A) (Q := B) (m := m) (e := d) (N := N) (R := R) (t := t) (g := g) hes hsl (by omega)
  have I1 := I.two Q
  have hNB : ∀ k, (pP B.1 B.2 N).2.2 k < 256 := pP_N hN
  rcases Q.c with h11 | h11
  · have ne : ¬ d 11 = 1 := by omega
    have r := fun Z => m_renameU (cm := 1074) (sm := (12984 + (14 + L))) (fr := 4) (lo := 463) (C := (L, xs, (A.1, 0), (B.1, 0), (fw d A.1 A.2 U), (fw d B.1 B.2 V), S, d)) (e := d) (P := A) (Q := B) (m := m) (N := N) (R := R) (t := t) (Z := Z) (by decide) Q hN ht hl ht2 hl2 rfl rfl rfl rfl rfl hNB ne
    have w := w172_T0 (c_renameT0 (xs := xs) (S := S) (by decide) hR hd ht hl hn ht2 hl2 hn2 h11)
    exact jO_T (A' := (A.1, 0)) (B' := (B.1, 0)) (U' := fw d A.1 A.2 U) (V' := fw d B.1 B.2 V) w (r _) (by decide) rfl I1
  have W := ab_W Q A (pP B.1 B.2 N).2.2 U h11
  have Un := fw_U Q A.1 A.2 U
  have Vn := fw_U Q B.1 B.2 V
  have h0 : d 11 ≠ 0 := by omega
  by_cases hf : (fw d B.1 B.2 V).2.2.1 = 0
  · have F := fo_W Q B N V h11
    have r := fun Z => m_renameZ (cm := 1074) (sm := (12984 + (14 + L))) (fr := 4) (lo := 463) (C := (L, xs, (A.1, 0), (B.1, 0), (fw d A.1 A.2 U), (fw d B.1 B.2 V), S, d)) (e := d) (P := A) (Q := B) (m := m) (N := N) (R := R) (t := t) (Z := Z) (by decide) Q hN ht hl ht2 hl2 rfl rfl rfl rfl rfl hNB h11 (fun z => by
      unfold fo at F
      rw [if_pos ⟨z, h11⟩] at F
      exact F.trans hf)
    by_cases hp : (fw d A.1 A.2 U).1 = 0
    · have w := w172_T1 (c_renameT1 (xs := xs) (S := S) (by decide) hR hd ht hl hn ht2 hl2 hn2 h0 hp)
      exact jO_T (A' := (A.1, 0)) (B' := (B.1, 0)) (U' := fw d A.1 A.2 U) (V' := fw d B.1 B.2 V) w (r _) (by decide) rfl I1
    · have w := w172_T1 (c_renameT2 (xs := xs) (S := S) (by decide) hR hd ht hl hn ht2 hl2 hn2 h0 hp hf)
      exact jO_T (A' := (A.1, 0)) (B' := (B.1, 0)) (U' := fw d A.1 A.2 U) (V' := fw d B.1 B.2 V) w (r _) (by decide) rfl I1
  have vi := Vn.i hf
  have E := Q.E h11
  obtain ⟨b1, b2, b3⟩ := src_W Q B N V h11 hf
  rcases b3 with ⟨b4, b5⟩ | ⟨b4, b5⟩
  · by_cases hp : (fw d A.1 A.2 U).1 = 0
    · have r := fun Z => m_renamePR (cm := 1074) (sm := (12984 + (14 + L))) (fr := 4) (lo := 463) (C := (L, xs, (A.1, 0), (B.1, 0), (fw d A.1 A.2 U), (fw d B.1 B.2 V), S, d)) (e := d) (P := A) (Q := B) (m := m) (N := N) (R := R) (t := t) (Z := Z) (by decide) Q hN ht hl ht2 hl2 rfl rfl W.1 rfl rfl hNB h11 b1 b2 hf vi.1 b4 hp
      have w := w172_T1 (c_renameT1 (xs := xs) (S := S) (by decide) hR hd ht hl hn ht2 hl2 hn2 h0 hp)
      exact jO_T (A' := (A.1, 0)) (B' := (B.1, 0)) (U' := fw d A.1 A.2 U) (V' := fw d B.1 B.2 V) w (r _) (by decide) rfl I1
    obtain ⟨w1, w2, w3, w4, w5⟩ := W.2 hp
    have upx := Un.p hp
    have r := fun Z => m_rename3 (cm := 1074) (sm := (12984 + (14 + L))) (fr := 4) (lo := 463) (C := (L, xs, (A.1, 0), (B.1, 0), (fw d A.1 A.2 U), (fw d B.1 B.2 V), S, d)) (e := d) (P := A) (Q := B) (m := m) (N := N) (R := R) (t := t) (Z := Z) (by decide) Q hN ht hl ht2 hl2 rfl rfl W.1 rfl rfl hNB h11 b1 b2 hf vi.1 b4 hp w1 (pP_len hl w2) (pP_N hNB) upx.1 upx.2 (Q.gD upx.1 upx.2) b5
    have w := w172_T2 (c_renameT3 (xs := xs) (S := S) (by decide) hR hd ht hl hn ht2 hl2 hn2 h0 hp hf b5)
    exact jO_T (A' := (A.1, 0)) (B' := (B.1, 0)) (U' := fw d A.1 A.2 U) (V' := fw d B.1 B.2 V) w (r _) (by decide) rfl I1
  obtain ⟨v1, v2, v3, v4, v5⟩ := (ab_W Q B N V h11).2 b5
  have vp := Vn.p b5
  have v2p : ¬ (fw d B.1 B.2 V).1 = 0 := b5
  obtain ⟨t1, t3, t4, t5⟩ : (fw d B.1 B.2 V).2.2.1 ≠ 1 ∧ 2 ≤ (fw d B.1 B.2 V).2.1 ∧ (fw d B.1 B.2 V).2.1 < sn d (fw d B.1 B.2 V).1 ∧ si d (fw d B.1 B.2 V).1 (fw d B.1 B.2 V).2.1 = (fw d B.1 B.2 V).2.2.1 := by
    rcases Vn.s hf with s | s
    · exact absurd s.2.1 b5
    · exact ⟨s.1, s.2.2.1, s.2.2.2.1, s.2.2.2.2⟩
  have j24 := sn_le d (fw d B.1 B.2 V).1
  by_cases hp : (fw d A.1 A.2 U).1 = 0
  · have r := fun Z => m_renamePN (cm := 1074) (sm := (12984 + (14 + L))) (fr := 4) (lo := 463) (C := (L, xs, (A.1, 0), (B.1, 0), (fw d A.1 A.2 U), (fw d B.1 B.2 V), S, d)) (e := d) (P := A) (Q := B) (m := m) (N := N) (R := R) (t := t) (Z := Z) (by decide) Q hN ht hl ht2 hl2 rfl rfl W.1 rfl rfl hNB h11 b1 b2 hf vi.1 b4 v3 v2p vp.1 (Q.gD vp.1 vp.2) v4 t3 (by omega) hp
    have w := w172_T1 (c_renameT1 (xs := xs) (S := S) (by decide) hR hd ht hl hn ht2 hl2 hn2 h0 hp)
    exact jO_T (A' := (A.1, 0)) (B' := (B.1, 0)) (U' := fw d A.1 A.2 U) (V' := fw d B.1 B.2 V) w (r _) (by decide) rfl I1
  obtain ⟨w1, w2, w3, w4, w5⟩ := W.2 hp
  have upx := Un.p hp
  have hrr := rN_hr E (fw d A.1 A.2 U).1 0 upx.1 upx.2 (by decide)
  rw [← cf_3 Q.B.m3] at hrr
  have k12 : d (32 + (16 * (fw d B.1 B.2 V).2.2.1)) = 1 ∨ d (32 + (16 * (fw d B.1 B.2 V).2.2.1)) = 2 := by
    have a := Q.T.k2 (fw d B.1 B.2 V).2.2.1
    rw [qk_lt d _ vi.1] at a
    have := vi.2
    omega
  by_cases hk2 : d (32 + (16 * (fw d B.1 B.2 V).2.2.1)) = 2
  · by_cases hu : up d (fw d B.1 B.2 V).2.2.1 (fw d A.1 A.2 U).1 16 = true
    · have r := fun Z => m_rename4 (cm := 1074) (sm := (12984 + (14 + L))) (fr := 4) (lo := 463) (C := (L, xs, (A.1, 0), (B.1, 0), (fw d A.1 A.2 U), (fw d B.1 B.2 V), S, d)) (e := d) (P := A) (Q := B) (m := m) (N := N) (R := R) (t := t) (Z := Z) (by decide) Q hN ht hl ht2 hl2 rfl rfl W.1 rfl rfl hNB h11 b1 b2 hf vi.1 b4 v3 v2p vp.1 (Q.gD vp.1 vp.2) v4 t3 (by omega) hp w1 (pP_len hl w2) (pP_N hNB) upx.1 upx.2 (Q.gD upx.1 upx.2) t1 hk2 hu
      have w := w172_T3 (c_renameT4 (xs := xs) (S := S) (by decide) hR hd ht hl hn ht2 hl2 hn2 h0 hp hf t1 hk2 hu)
      exact jO_T (A' := (A.1, 0)) (B' := (B.1, 0)) (U' := fw d A.1 A.2 U) (V' := fw d B.1 B.2 V) w (r _) (by decide) rfl I1
    by_cases hn3 : (fw d A.1 A.2 U).2.2.1 = 0
    case neg =>
      have hF : ¬ fd d (fw d A.1 A.2 U).1 (fun q => (pP A.1 A.2 (pP B.1 B.2 N).2.2).2.2 (7 * ((pP A.1 A.2 (pP B.1 B.2 N).2.2).2.1 - 1) + q)) 2 (sn d (fw d A.1 A.2 U).1 - 2) = 0 := by
        rw [w4]
        rcases Un.s hn3 with s | s <;> omega
      have r := fun Z => m_renameB1D (cm := 1074) (sm := (12984 + (14 + L))) (fr := 4) (lo := 463) (C := (L, xs, (A.1, 0), (B.1, 0), (fw d A.1 A.2 U), (fw d B.1 B.2 V), S, d)) (e := d) (P := A) (Q := B) (m := m) (N := N) (R := R) (t := t) (Z := Z) (by decide) Q hN ht hl ht2 hl2 rfl rfl W.1 rfl rfl hNB h11 b1 b2 hf vi.1 b4 v3 v2p vp.1 (Q.gD vp.1 vp.2) v4 t3 (by omega) hp w1 (pP_len hl w2) (pP_N hNB) upx.1 upx.2 (Q.gD upx.1 upx.2) t1 hk2 hu hF
      have w := w172_T0 (c_renameT5D (xs := xs) (S := S) (by decide) hR hd ht hl hn ht2 hl2 hn2 h0 hp hf t1 hk2 hu hn3)
      exact jO_T (A' := (A.1, 0)) (B' := (B.1, 0)) (U' := fw d A.1 A.2 U) (V' := fw d B.1 B.2 V) w (r _) (by decide) rfl I1
    have hF : fd d (fw d A.1 A.2 U).1 (fun q => (pP A.1 A.2 (pP B.1 B.2 N).2.2).2.2 (7 * ((pP A.1 A.2 (pP B.1 B.2 N).2.2).2.1 - 1) + q)) 2 (sn d (fw d A.1 A.2 U).1 - 2) = 0 := by
      rw [w4]; exact Un.z hn3
    by_cases hh : hr d (fw d A.1 A.2 U).1 0 = true
    case neg =>
      have r := fun Z => m_renameB2D (cm := 1074) (sm := (12984 + (14 + L))) (fr := 4) (lo := 463) (C := (L, xs, (A.1, 0), (B.1, 0), (fw d A.1 A.2 U), (fw d B.1 B.2 V), S, d)) (e := d) (P := A) (Q := B) (m := m) (N := N) (R := R) (t := t) (Z := Z) (by decide) Q hN ht hl ht2 hl2 rfl rfl W.1 rfl rfl hNB h11 b1 b2 hf vi.1 b4 v3 v2p vp.1 (Q.gD vp.1 vp.2) v4 t3 (by omega) hp w1 (pP_len hl w2) (pP_N hNB) upx.1 upx.2 (Q.gD upx.1 upx.2) t1 hk2 hu hF (hrr.mpr (by simpa using hh))
      have w := w172_T0 (c_renameT6D (xs := xs) (S := S) (by decide) hR hd ht hl hn ht2 hl2 hn2 h0 hp hf t1 hk2 hu hn3 hh)
      exact jO_T (A' := (A.1, 0)) (B' := (B.1, 0)) (U' := fw d A.1 A.2 U) (V' := fw d B.1 B.2 V) w (r _) (by decide) rfl I1
    have hrn : ¬ cf d 3 0 64 < rN d (fw d A.1 A.2 U).1 := fun z => by
      have := hrr.mp z
      rw [hh] at this
      exact Bool.noConfusion this
    have hs := hr_spec d _ 0 hh
    have X := Q.rename h11 (fw d A.1 A.2 U).1 (fw d B.1 B.2 V).1 (fw d B.1 B.2 V).2.1 (fw d B.1 B.2 V).2.2.1 (fw d A.1 A.2 U).2.2.2 upx.1 upx.2 hh vp.1 vp.2 t3 t4 t5 vi.1 t1 (by right; exact ⟨hk2, by simpa using hu⟩)
    rw [if_pos hk2] at X
    have gr := gD_rA E (fw d A.1 A.2 U).1 (fw d B.1 B.2 V).2.2.1 (fw d A.1 A.2 U).2.2.2 upx.1 upx.2 vi.1 vi.2 hs.1 (by omega)
    have er := e_rename Q h11 (fw d A.1 A.2 U).1 (fw d B.1 B.2 V).1 (fw d B.1 B.2 V).2.1 (fw d B.1 B.2 V).2.2.1 (fw d A.1 A.2 U).2.2.2 upx.1 upx.2 hh vp.1 vp.2 t3 t4 t5 vi.1 k12
    have en := rA_nm d (fw d A.1 A.2 U).1 (fw d B.1 B.2 V).2.2.1 (fun q hq => (w5 q hq).symm)
    obtain ⟨y1, y2, y3, y4, y5⟩ := er
    rw [← en] at gr y1 y2 y3 y4 y5
    obtain ⟨z1, z2, z3, z4, z5⟩ := y5 hk2
    have r := fun Z => m_renameD (cm := 1074) (sm := (12984 + (14 + L))) (fr := 4) (lo := 463) (C := (L, xs, (A.1, 0), (B.1, 0), (fw d A.1 A.2 U), (fw d B.1 B.2 V), S, pu (fr_ (ad d (fw d A.1 A.2 U).1 (fw d B.1 B.2 V).2.2.1 (fw d A.1 A.2 U).2.2.2) (fw d B.1 B.2 V).1 (fw d B.1 B.2 V).2.1) (fw d B.1 B.2 V).2.2.1 (fw d A.1 A.2 U).1)) (e := d) (P := A) (Q := B) (m := m) (N := N) (R := R) (t := t) (Z := Z) (by decide) Q hN ht hl ht2 hl2 rfl rfl W.1 rfl rfl hNB h11 b1 b2 hf vi.1 b4 v3 v2p vp.1 (Q.gD vp.1 vp.2) v4 t3 (by omega) hp w1 (pP_len hl w2) (pP_N hNB) upx.1 upx.2 (Q.gD upx.1 upx.2) t1 hk2 hu hF hrn hs.1 (by omega) gr.1 (gr.2 _ vp.1 vp.2) (y4 _ vi.1) (gD_ext (fun k h1 h2 => cz_ne _ _ _ _ (by have := vi.1; omega)) (gr.2 _ vi.1 hk2)) z4 z5
    rw [← z3] at r
    exact jO_K (w172_ok (c_renameD (by decide) hd ht hl hn ht2 hl2 hn2 h0 hp hf t1 hk2 hu hn3 hh)) r (I.two X)
  · by_cases hn3 : (fw d A.1 A.2 U).2.2.1 = 0
    case neg =>
      have hF : ¬ fd d (fw d A.1 A.2 U).1 (fun q => (pP A.1 A.2 (pP B.1 B.2 N).2.2).2.2 (7 * ((pP A.1 A.2 (pP B.1 B.2 N).2.2).2.1 - 1) + q)) 2 (sn d (fw d A.1 A.2 U).1 - 2) = 0 := by
        rw [w4]
        rcases Un.s hn3 with s | s <;> omega
      have r := fun Z => m_renameB1F (cm := 1074) (sm := (12984 + (14 + L))) (fr := 4) (lo := 463) (C := (L, xs, (A.1, 0), (B.1, 0), (fw d A.1 A.2 U), (fw d B.1 B.2 V), S, d)) (e := d) (P := A) (Q := B) (m := m) (N := N) (R := R) (t := t) (Z := Z) (by decide) Q hN ht hl ht2 hl2 rfl rfl W.1 rfl rfl hNB h11 b1 b2 hf vi.1 b4 v3 v2p vp.1 (Q.gD vp.1 vp.2) v4 t3 (by omega) hp w1 (pP_len hl w2) (pP_N hNB) upx.1 upx.2 (Q.gD upx.1 upx.2) t1 hk2 hF
      have w := w172_T0 (c_renameT5F (xs := xs) (S := S) (by decide) hR hd ht hl hn ht2 hl2 hn2 h0 hp hf t1 hk2 hn3)
      exact jO_T (A' := (A.1, 0)) (B' := (B.1, 0)) (U' := fw d A.1 A.2 U) (V' := fw d B.1 B.2 V) w (r _) (by decide) rfl I1
    have hF : fd d (fw d A.1 A.2 U).1 (fun q => (pP A.1 A.2 (pP B.1 B.2 N).2.2).2.2 (7 * ((pP A.1 A.2 (pP B.1 B.2 N).2.2).2.1 - 1) + q)) 2 (sn d (fw d A.1 A.2 U).1 - 2) = 0 := by
      rw [w4]; exact Un.z hn3
    by_cases hh : hr d (fw d A.1 A.2 U).1 0 = true
    case neg =>
      have r := fun Z => m_renameB2F (cm := 1074) (sm := (12984 + (14 + L))) (fr := 4) (lo := 463) (C := (L, xs, (A.1, 0), (B.1, 0), (fw d A.1 A.2 U), (fw d B.1 B.2 V), S, d)) (e := d) (P := A) (Q := B) (m := m) (N := N) (R := R) (t := t) (Z := Z) (by decide) Q hN ht hl ht2 hl2 rfl rfl W.1 rfl rfl hNB h11 b1 b2 hf vi.1 b4 v3 v2p vp.1 (Q.gD vp.1 vp.2) v4 t3 (by omega) hp w1 (pP_len hl w2) (pP_N hNB) upx.1 upx.2 (Q.gD upx.1 upx.2) t1 hk2 hF (hrr.mpr (by simpa using hh))
      have w := w172_T0 (c_renameT6F (xs := xs) (S := S) (by decide) hR hd ht hl hn ht2 hl2 hn2 h0 hp hf t1 hk2 hn3 hh)
      exact jO_T (A' := (A.1, 0)) (B' := (B.1, 0)) (U' := fw d A.1 A.2 U) (V' := fw d B.1 B.2 V) w (r _) (by decide) rfl I1
    have hrn : ¬ cf d 3 0 64 < rN d (fw d A.1 A.2 U).1 := fun z => by
      have := hrr.mp z
      rw [hh] at this
      exact Bool.noConfusion this
    have hs := hr_spec d _ 0 hh
    have X := Q.rename h11 (fw d A.1 A.2 U).1 (fw d B.1 B.2 V).1 (fw d B.1 B.2 V).2.1 (fw d B.1 B.2 V).2.2.1 (fw d A.1 A.2 U).2.2.2 upx.1 upx.2 hh vp.1 vp.2 t3 t4 t5 vi.1 t1 (by left; omega)
    rw [if_neg hk2] at X
    have gr := gD_rA E (fw d A.1 A.2 U).1 (fw d B.1 B.2 V).2.2.1 (fw d A.1 A.2 U).2.2.2 upx.1 upx.2 vi.1 vi.2 hs.1 (by omega)
    have er := e_rename Q h11 (fw d A.1 A.2 U).1 (fw d B.1 B.2 V).1 (fw d B.1 B.2 V).2.1 (fw d B.1 B.2 V).2.2.1 (fw d A.1 A.2 U).2.2.2 upx.1 upx.2 hh vp.1 vp.2 t3 t4 t5 vi.1 k12
    have en := rA_nm d (fw d A.1 A.2 U).1 (fw d B.1 B.2 V).2.2.1 (fun q hq => (w5 q hq).symm)
    obtain ⟨y1, y2, y3, y4, y5⟩ := er
    rw [← en] at gr y1 y2 y3 y4 y5
    have r := fun Z => m_renameF (cm := 1074) (sm := (12984 + (14 + L))) (fr := 4) (lo := 463) (C := (L, xs, (A.1, 0), (B.1, 0), (fw d A.1 A.2 U), (fw d B.1 B.2 V), S, fr_ (ad d (fw d A.1 A.2 U).1 (fw d B.1 B.2 V).2.2.1 (fw d A.1 A.2 U).2.2.2) (fw d B.1 B.2 V).1 (fw d B.1 B.2 V).2.1)) (e := d) (P := A) (Q := B) (m := m) (N := N) (R := R) (t := t) (Z := Z) (by decide) Q hN ht hl ht2 hl2 rfl rfl W.1 rfl rfl hNB h11 b1 b2 hf vi.1 b4 v3 v2p vp.1 (Q.gD vp.1 vp.2) v4 t3 (by omega) hp w1 (pP_len hl w2) (pP_N hNB) upx.1 upx.2 (Q.gD upx.1 upx.2) t1 hk2 hF hrn hs.1 (by omega) gr.1 (gr.2 _ vp.1 vp.2) (y4 _ vi.1)
    rw [← y1] at r
    exact jO_K (w172_ok (c_renameF (by decide) hd ht hl hn ht2 hl2 hn2 h0 hp hf t1 hk2 hn3 hh)) r (I.two X)

