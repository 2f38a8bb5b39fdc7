theorem e_create2 {d} (V : qV d) (h1 : d 11 = 1) (p : Nat) (hp : p < 16) (hk : d (32 + (16 * p)) = 2) (hi : lw d 1 1 15 ≠ 0) (hh : hr d p 0 = true) {g' : Nat → Nat} (hg : dp (ti d 1) (32 + (16 * (lw d 1 1 15)) + 1) 1 = g') :
    qE g' ∧ g' (32 + (16 * p)) = 2 ∧ nsl g' p ≠ 0 ∧ bw g' p (nsl g' p / 4) (nsl g' p / 4) ≤ cf g' 3 9 55 := by
  have E := V.E h1
  have I := ti_E E 1 (Or.inl rfl) hi
  have F := ti_file E _ I
  have hh' := hr_spec d p 0 hh
  generalize lw d 1 1 15 = i at I hi hg
  have ri := I.ri
  have k0 := I.z 0 (by omega)
  simp only [Nat.add_zero] at k0
  have hpi : p ≠ i := by intro z; rw [z] at hk; omega
  generalize ti d 1 = g at I F hg
  have gp : g (32 + (16 * p)) = 2 := by rw [I.ne _ (by omega) (by omega)]; exact hk
  have en : nsl g p = nsl d p := nsl_same d g p (I.sn p hp) hk gp (fun l hl => F.2 p l hp hl)
  have r := E.R.dr p hp hk
  have ns := nsl_spec d p r.2.2.1 hh'.1
  have hn : nsl g p ≠ 0 := by rw [en]; exact hh'.1
  have eb : bw g p (nsl d p / 4) (nsl d p / 4) = bw d p (nsl d p / 4) (nsl d p / 4) := by
    rw [bw_dir _ _ _ (by omega), bw_dir _ _ _ (by omega), bo_lo _ _ _ (by omega), bo_lo _ _ _ (by omega), I.ne _ (by omega) (by omega)]
  have hc : bw g p (nsl g p / 4) (nsl g p / 4) ≤ cf g 3 9 55 := by rw [en, eb, I.cf]; omega
  have h := eL.ldp g i 1 ri.2
  have lne : ∀ q, q < 16 → q ≠ i → dp g (32 + (16 * i) + 1) 1 (32 + (16 * q) + 1) = g (32 + (16 * q) + 1) := fun q hq hn => dp_ne _ _ _ _ (by omega)
  have hdk : dk (dp g (32 + (16 * i) + 1) 1) := dk_dp _ F.1.B.dk _ _
  rw [hg] at h lne hdk
  have E' := F.1.lk h hdk (fun q hq hz => by
    have e := h.T q 0 (by omega) (by omega)
    simp only [Nat.add_zero] at e
    rw [e] at hz
    have : q ≠ i := by intro z; rw [z, I.at_] at hz; omega
    rw [lne q hq this]; exact F.1.R.z q 1 hq (by omega) hz)
  have ep := h.T p 0 (by omega) (by omega)
  simp only [Nat.add_zero] at ep
  have en' := h.nsl F.1 p hp gp
  exact ⟨E', by rw [ep]; exact gp, by rw [en']; exact hn, by rw [en', h.cf, h.bw _ _ (by rw [en]; omega)]; exact hc⟩
theorem e_mkdir2 {d} (V : qV d) (h1 : d 11 = 1) (p : Nat) (hp : p < 16) (hk : d (32 + (16 * p)) = 2) (hi : lw d 1 1 15 ≠ 0) (hh : hr d p 1 = true) {g' : Nat → Nat} (hg : dp (ti d 2) (32 + (16 * (lw d 1 1 15)) + 1) 2 = g') :
    lw d 1 1 15 < 16 ∧ qB g' ∧ qM g' ∧ bo g' (lw d 1 1 15) 0 = 0 ∧ 1 ≤ cf g' 3 9 55 ∧ gD (ss (fh g' (lw d 1 1 15) 0) (lw d 1 1 15) 16) (lw d 1 1 15) := by
  have E := V.E h1
  have I := ti_E E 2 (Or.inr rfl) hi
  have hh' := hr_spec d p 1 hh
  generalize lw d 1 1 15 = i at I hi hg ⊢
  have ri := I.ri
  generalize ti d 2 = g at I hg
  have h := eL.ldp g i 2 ri.2
  have hdk : dk (dp g (32 + (16 * i) + 1) 2) := dk_dp _ I.B.dk _ _
  rw [hg] at h hdk
  have hq : ∀ j w, j < 16 → w ≤ 38 → qb g' j w = qb g j w := fun j w a b => by
    by_cases c : w < 38
    · rw [qb_bo _ _ _ c, qb_bo _ _ _ c]; exact h.bo I.B j w a c
    · have : w = 38 := by omega
      subst this
      rw [qb_ix, qb_ix]; exact h.T j 10 (by omega) (by omega)
  have hz : ∀ k, 2 ≤ k → k < 16 → g' (32 + (16 * i) + k) = 0 := fun k h2 hk => by
    rw [h.T i k hk (by omega), I.ne _ (by omega) (by omega)]; exact I.z k hk
  have hc : 1 ≤ cf g' 3 9 55 := by rw [h.cf, I.cf]; omega
  refine ⟨ri.2, ⟨hdk, ?_, ?_, ?_, ?_⟩, ⟨?_, ?_⟩, ?_, hc, gD_new ri.2 hz (lw_cf g' (by omega))⟩
  · intro j w a b; rw [hq j w a b]; exact I.B.b1 j w a b
  · intro j w j2 w2 a b a2 b2 n e
    rw [hq j w a b] at n e; rw [hq j2 w2 a2 b2] at e
    exact I.B.b2 j w j2 w2 a b a2 b2 n e
  · rw [h.bt 1 0 (by omega)]; exact I.B.m1
  · intro b hb; rw [h.bt 3 b (by omega)]; exact I.B.m3 b hb
  · intro j hj n
    have e := h.T j 0 (by omega) (by omega)
    simp only [Nat.add_zero] at e
    rw [e] at n; rw [h.bt 1 j (by omega)]; exact I.M.c1 j hj n
  · intro j w a b n
    rw [hq j w a b] at n ⊢
    have := I.B.b1 j w a b
    rw [h.bt 3 _ (by omega)]; exact I.M.c2 j w a b n
  · rw [bo_lo g' i 0 (by omega)]; exact hz 4 (by omega) (by omega)
theorem j_create {L : Nat} {xs : Nat → Int32} {A B : gT} {U V : gU} {S : gS} {d : Nat → Nat} {m : Nat} {N : Nat → Nat} {R : gS} {t : Nat} {g : Nat → Int64} {es : mj_H} {k : Nat} (I : jI A B U V S d N R es k) (hk : k < 512) : jO L xs 167 122 466 466 [.ref 3, .ref 32] [.ref 23] A B U V S d m N R t g es k := by
  have I0 := I
  obtain ⟨Q, ⟨ht, hl⟩, ⟨ht2, hl2⟩, hn, hn2, hS, hN, hRb, hes, hsl⟩ := I0
  have hd : dk d := Q.B.dk
  have hR := jR (L := L) (P := A) (Q := B) (m := m) (e := d) (N := N) (R := R) (t := t) (g := g) hes hsl (by omega)
  have I1 := I.one Q
  rcases Q.c with h11 | h11
  · have ne : ¬ d 11 = 1 := by omega
    have r := fun Z => m_createA (cm := 1074) (sm := (12984 + (14 + L))) (fr := 4) (lo := 466) (C := (L, xs, (A.1, 0), B, fw d A.1 A.2 U, V, S, d)) (e := d) (P := A) (Q := B) (m := m) (N := N) (R := R) (t := t) (Z := Z) (by decide) Q hN ht hl rfl rfl rfl (by rw [tf_1 ne]; decide)
    rw [tf_1 ne] at r
    have w := w167_T0 (c_createT0 (xs := xs) (B := B) (V := V) (S := S) (by decide) hR hd ht hl hn h11)
    exact jO_T (A' := (A.1, 0)) (B' := B) (U' := fw d A.1 A.2 U) (V' := V) w (r _) (by decide) rfl I1
  have W := ab_W Q A N U h11
  have Un := fw_U Q A.1 A.2 U
  have h0 : d 11 ≠ 0 := by omega
  by_cases hp : (fw d A.1 A.2 U).1 = 0
  · have r := fun Z => m_createA (cm := 1074) (sm := (12984 + (14 + L))) (fr := 4) (lo := 466) (C := (L, xs, (A.1, 0), B, fw d A.1 A.2 U, V, S, d)) (e := d) (P := A) (Q := B) (m := m) (N := N) (R := R) (t := t) (Z := Z) (by decide) Q hN ht hl (W.1.trans hp) rfl rfl (by rw [tf_2 h11 rfl]; decide)
    rw [tf_2 h11 rfl] at r
    have w := w167_T1 (c_createT1 (xs := xs) (B := B) (V := V) (S := S) (by decide) hR hd ht hl hn h0 hp)
    exact jO_T (A' := (A.1, 0)) (B' := B) (U' := fw d A.1 A.2 U) (V' := V) w (r _) (by decide) rfl I1
  obtain ⟨w1, w2, w3, w4, w5⟩ := W.2 hp
  have up := Un.p hp
  have E := Q.E h11
  by_cases hf : (fw d A.1 A.2 U).2.2.1 = 0
  case neg =>
    have hF : ¬ fd d (fw d A.1 A.2 U).1 (fun q => (pP A.1 A.2 N).2.2 (7 * ((pP A.1 A.2 N).2.1 - 1) + q)) 2 (sn d (fw d A.1 A.2 U).1 - 2) = 0 := by
      rw [w4]
      rcases Un.s hf with s | s <;> omega
    have r := fun Z => m_createB1 (cm := 1074) (sm := (12984 + (14 + L))) (fr := 4) (lo := 466) (C := (L, xs, (A.1, 0), B, fw d A.1 A.2 U, V, S, d)) (e := d) (P := A) (Q := B) (m := m) (N := N) (R := R) (t := t) (Z := Z) (by decide) Q hN ht hl W.1 rfl rfl h11 hp w1 (pP_len hl w2) (pP_N hN) up.1 (Q.gD up.1 up.2) hF
    by_cases hc : cf d 1 1 15 = 0
    · have w := w167_T0 (c_createT2 (xs := xs) (B := B) (V := V) (S := S) (by decide) hR hd ht hl hn h0 hp hc)
      exact jO_T (A' := (A.1, 0)) (B' := B) (U' := fw d A.1 A.2 U) (V' := V) w (r _) (by decide) rfl I1
    · have w := w167_T0 (c_createT3 (xs := xs) (B := B) (V := V) (S := S) (by decide) hR hd ht hl hn h0 hp hc hf)
      exact jO_T (A' := (A.1, 0)) (B' := B) (U' := fw d A.1 A.2 U) (V' := V) w (r _) (by decide) rfl I1
  have hF : fd d (fw d A.1 A.2 U).1 (fun q => (pP A.1 A.2 N).2.2 (7 * ((pP A.1 A.2 N).2.1 - 1) + q)) 2 (sn d (fw d A.1 A.2 U).1 - 2) = 0 := by
    rw [w4]; exact Un.z hf
  by_cases hc : cf d 1 1 15 = 0
  · have r := fun Z => m_createB2 (cm := 1074) (sm := (12984 + (14 + L))) (fr := 4) (lo := 466) (C := (L, xs, (A.1, 0), B, fw d A.1 A.2 U, V, S, d)) (e := d) (P := A) (Q := B) (m := m) (N := N) (R := R) (t := t) (Z := Z) (by decide) Q hN ht hl W.1 rfl rfl h11 hp w1 (pP_len hl w2) (pP_N hN) up.1 (Q.gD up.1 up.2) hF (by rw [cf_1 Q.B.m1]; exact hc)
    have w := w167_T0 (c_createT2 (xs := xs) (B := B) (V := V) (S := S) (by decide) hR hd ht hl hn h0 hp hc)
    exact jO_T (A' := (A.1, 0)) (B' := B) (U' := fw d A.1 A.2 U) (V' := V) w (r _) (by decide) rfl I1
  have hc' : ¬ cf d 1 0 16 = 0 := by rw [cf_1 Q.B.m1]; exact hc
  have hrr := rN_hr E (fw d A.1 A.2 U).1 0 up.1 up.2 (by decide)
  rw [← cf_3 Q.B.m3] at hrr
  by_cases hh : hr d (fw d A.1 A.2 U).1 0 = true
  case neg =>
    have r := fun Z => m_createB3 (cm := 1074) (sm := (12984 + (14 + L))) (fr := 4) (lo := 466) (C := (L, xs, (A.1, 0), B, fw d A.1 A.2 U, V, S, d)) (e := d) (P := A) (Q := B) (m := m) (N := N) (R := R) (t := t) (Z := Z) (by decide) Q hN ht hl W.1 rfl rfl h11 hp w1 (pP_len hl w2) (pP_N hN) up.1 (Q.gD up.1 up.2) hF hc' (hrr.mpr (by simpa using hh))
    have w := w167_T0 (c_createT4 (xs := xs) (B := B) (V := V) (S := S) (by decide) hR hd ht hl hn h0 hp hc hf hh)
    exact jO_T (A' := (A.1, 0)) (B' := B) (U' := fw d A.1 A.2 U) (V' := V) w (r _) (by decide) rfl I1
  have hrn : ¬ cf d 3 0 64 < rN d (fw d A.1 A.2 U).1 := fun z => by
    have := hrr.mp z
    rw [hh] at this
    exact Bool.noConfusion this
  have hlw : lw d 1 1 15 ≠ 0 := fun z => hc ((lw_none d 1 15 1 (by decide)).mp z)
  obtain ⟨e1, e2, e3, e4⟩ := e_create2 Q h11 _ up.1 up.2 hlw hh rfl
  have r := fun Z => m_create (cm := 1074) (sm := (12984 + (14 + L))) (fr := 4) (lo := 466) (C := (L, xs, (A.1, 0), B, fw d A.1 A.2 U, V, S, ad (ti d 1) (fw d A.1 A.2 U).1 (lw d 1 1 15) (fw d A.1 A.2 U).2.2.2)) (e := d) (P := A) (Q := B) (m := m) (N := N) (R := R) (t := t) (Z := Z) (by decide) Q hN ht hl W.1 rfl rfl h11 hp w1 (pP_len hl w2) (pP_N hN) up.1 (Q.gD up.1 up.2) hF hc' hrn hlw e1 e2 e3 e4
  rw [rA_nm _ _ _ (fun q hq => (w5 q hq).symm), e_create Q h11 _ _ up.1 up.2 hlw hh] at r
  exact jO_K (w167_ok (c_create (by decide) hd ht hl hn h0 hp hc hf hh)) r (I.one (Q.create h11 _ _ up.1 up.2 hlw hh))
theorem j_mkdir {L : Nat} {xs : Nat → Int32} {A B : gT} {U V : gU} {S : gS} {d : Nat → Nat} {m : Nat} {N : Nat → Nat} {R : gS} {t : Nat} {g : Nat → Int64} {es : mj_H} {k : Nat} (I : jI A B U V S d N R es k) (hk : k < 512) : jO L xs 168 139 466 466 [.ref 3, .ref 32] [.ref 23] A B U V S d m N R t g es k := by
  have I0 := I
  obtain ⟨Q, ⟨ht, hl⟩, ⟨ht2, hl2⟩, hn, hn2, hS, hN, hRb, hes, hsl⟩ := I0
  have hd : dk d := Q.B.dk
  have hR := jR (L := L) (P := A) (Q := B) (m := m) (e := d) (N := N) (R := R) (t := t) (g := g) hes hsl (by omega)
  have I1 := I.one Q
  rcases Q.c with h11 | h11
  · have ne : ¬ d 11 = 1 := by omega
    have r := fun Z => m_mkdirA (cm := 1074) (sm := (12984 + (14 + L))) (fr := 4) (lo := 466) (C := (L, xs, (A.1, 0), B, fw d A.1 A.2 U, V, S, d)) (e := d) (P := A) (Q := B) (m := m) (N := N) (R := R) (t := t) (Z := Z) (by decide) Q hN ht hl rfl rfl rfl (by rw [tf_1 ne]; decide)
    rw [tf_1 ne] at r
    have w := w168_T0 (c_mkdirT0 (xs := xs) (B := B) (V := V) (S := S) (by decide) hR hd ht hl hn h11)
    exact jO_T (A' := (A.1, 0)) (B' := B) (U' := fw d A.1 A.2 U) (V' := V) w (r _) (by decide) rfl I1
  have W := ab_W Q A N U h11
  have Un := fw_U Q A.1 A.2 U
  have h0 : d 11 ≠ 0 := by omega
  by_cases hp : (fw d A.1 A.2 U).1 = 0
  · have r := fun Z => m_mkdirA (cm := 1074) (sm := (12984 + (14 + L))) (fr := 4) (lo := 466) (C := (L, xs, (A.1, 0), B, fw d A.1 A.2 U, V, S, d)) (e := d) (P := A) (Q := B) (m := m) (N := N) (R := R) (t := t) (Z := Z) (by decide) Q hN ht hl (W.1.trans hp) rfl rfl (by rw [tf_2 h11 rfl]; decide)
    rw [tf_2 h11 rfl] at r
    have w := w168_T1 (c_mkdirT1 (xs := xs) (B := B) (V := V) (S := S) (by decide) hR hd ht hl hn h0 hp)
    exact jO_T (A' := (A.1, 0)) (B' := B) (U' := fw d A.1 A.2 U) (V' := V) w (r _) (by decide) rfl I1
  obtain ⟨w1, w2, w3, w4, w5⟩ := W.2 hp
  have up := Un.p hp
  have E := Q.E h11
  by_cases hf : (fw d A.1 A.2 U).2.2.1 = 0
  case neg =>
    have hF : ¬ fd d (fw d A.1 A.2 U).1 (fun q => (pP A.1 A.2 N).2.2 (7 * ((pP A.1 A.2 N).2.1 - 1) + q)) 2 (sn d (fw d A.1 A.2 U).1 - 2) = 0 := by
      rw [w4]
      rcases Un.s hf with s | s <;> omega
    have r := fun Z => m_mkdirB1 (cm := 1074) (sm := (12984 + (14 + L))) (fr := 4) (lo := 466) (C := (L, xs, (A.1, 0), B, fw d A.1 A.2 U, V, S, d)) (e := d) (P := A) (Q := B) (m := m) (N := N) (R := R) (t := t) (Z := Z) (by decide) Q hN ht hl W.1 rfl rfl h11 hp w1 (pP_len hl w2) (pP_N hN) up.1 (Q.gD up.1 up.2) hF
    by_cases hc : cf d 1 1 15 = 0
    · have w := w168_T0 (c_mkdirT2 (xs := xs) (B := B) (V := V) (S := S) (by decide) hR hd ht hl hn h0 hp hc)
      exact jO_T (A' := (A.1, 0)) (B' := B) (U' := fw d A.1 A.2 U) (V' := V) w (r _) (by decide) rfl I1
    · have w := w168_T0 (c_mkdirT3 (xs := xs) (B := B) (V := V) (S := S) (by decide) hR hd ht hl hn h0 hp hc hf)
      exact jO_T (A' := (A.1, 0)) (B' := B) (U' := fw d A.1 A.2 U) (V' := V) w (r _) (by decide) rfl I1
  have hF : fd d (fw d A.1 A.2 U).1 (fun q => (pP A.1 A.2 N).2.2 (7 * ((pP A.1 A.2 N).2.1 - 1) + q)) 2 (sn d (fw d A.1 A.2 U).1 - 2) = 0 := by
    rw [w4]; exact Un.z hf
  by_cases hc : cf d 1 1 15 = 0
  · have r := fun Z => m_mkdirB2 (cm := 1074) (sm := (12984 + (14 + L))) (fr := 4) (lo := 466) (C := (L, xs, (A.1, 0), B, fw d A.1 A.2 U, V, S, d)) (e := d) (P := A) (Q := B) (m := m) (N := N) (R := R) (t := t) (Z := Z) (by decide) Q hN ht hl W.1 rfl rfl h11 hp w1 (pP_len hl w2) (pP_N hN) up.1 (Q.gD up.1 up.2) hF (by rw [cf_1 Q.B.m1]; exact hc)
    have w := w168_T0 (c_mkdirT2 (xs := xs) (B := B) (V := V) (S := S) (by decide) hR hd ht hl hn h0 hp hc)
    exact jO_T (A' := (A.1, 0)) (B' := B) (U' := fw d A.1 A.2 U) (V' := V) w (r _) (by decide) rfl I1
  have hc' : ¬ cf d 1 0 16 = 0 := by rw [cf_1 Q.B.m1]; exact hc
  have hrr := rN_hr E (fw d A.1 A.2 U).1 1 up.1 up.2 (by decide)
  rw [← cf_3 Q.B.m3] at hrr
  by_cases hh : hr d (fw d A.1 A.2 U).1 1 = true
  case neg =>
    have r := fun Z => m_mkdirB3 (cm := 1074) (sm := (12984 + (14 + L))) (fr := 4) (lo := 466) (C := (L, xs, (A.1, 0), B, fw d A.1 A.2 U, V, S, d)) (e := d) (P := A) (Q := B) (m := m) (N := N) (R := R) (t := t) (Z := Z) (by decide) Q hN ht hl W.1 rfl rfl h11 hp w1 (pP_len hl w2) (pP_N hN) up.1 (Q.gD up.1 up.2) hF hc' (hrr.mpr (by simpa using hh))
    have w := w168_T0 (c_mkdirT4 (xs := xs) (B := B) (V := V) (S := S) (by decide) hR hd ht hl hn h0 hp hc hf hh)
    exact jO_T (A' := (A.1, 0)) (B' := B) (U' := fw d A.1 A.2 U) (V' := V) w (r _) (by decide) rfl I1
  have hrn : ¬ cf d 3 0 64 < rN d (fw d A.1 A.2 U).1 + 1 := fun z => by
    have := hrr.mp z
    rw [hh] at this
    exact Bool.noConfusion this
  have hlw : lw d 1 1 15 ≠ 0 := fun z => hc ((lw_none d 1 15 1 (by decide)).mp z)
  obtain ⟨g1, g2, g3, g4, g5, g6⟩ := e_mkdir2 Q h11 _ up.1 up.2 hlw hh rfl
  have M := e_mkdir Q h11 _ (fun q => (pP A.1 A.2 N).2.2 (7 * ((pP A.1 A.2 N).2.1 - 1) + q)) up.1 up.2 hlw hh
  have hfew := Q.few h11 _ up.1 up.2
  have r := fun Z => m_mkdir (cm := 1074) (sm := (12984 + (14 + L))) (fr := 4) (lo := 466) (C := (L, xs, (A.1, 0), B, fw d A.1 A.2 U, V, S, ad (sd (ti d 2) (lw d 1 1 15) (fw d A.1 A.2 U).1) (fw d A.1 A.2 U).1 (lw d 1 1 15) (fw d A.1 A.2 U).2.2.2)) (e := d) (P := A) (Q := B) (m := m) (N := N) (R := R) (t := t) (Z := Z) (by decide) Q hN ht hl W.1 rfl rfl h11 hp w1 (pP_len hl w2) (pP_N hN) up.1 (Q.gD up.1 up.2) hF hc' hrn hlw g2 g3 g4 g5 g6 M.2.2.1 M.2.2.2.1 (by rw [M.2.2.2.2.1]; exact (hr_spec d _ 1 hh).1) (by rw [M.2.2.2.2.1]; exact M.2.2.2.2.2) (by rw [M.2.1]; omega)
  rw [rA_nm _ _ _ (fun q hq => (w5 q hq).symm), (e_mkdir Q h11 _ _ up.1 up.2 hlw hh).1] at r
  exact jO_K (w168_ok (c_mkdir (by decide) hd ht hl hn h0 hp hc hf hh)) r (I.one (Q.mkdir h11 _ _ up.1 up.2 hlw hh))

