/-! between calls: what holds; k: the calls so far -/
def jI (A B : gT) (U V : gU) (S : gS) (d : Nat → Nat) (N : Nat → Nat) (R : gS) (es : mj_H) (k : Nat) : Prop :=
  qV d ∧ ((∀ k, A.1 k < 65536) ∧ A.2 ≤ 40) ∧ ((∀ k, B.1 k < 65536) ∧ B.2 ≤ 40) ∧ (∀ k, U.2.2.2 k < 128) ∧ (∀ k, V.2.2.2 k < 128) ∧ sv S ∧ (∀ k, N k < 256) ∧ (∀ i, R.2.2.1 i ≤ 400 * k) ∧ es.length ≤ k ∧ mj_sl mm_P es ≤ 6 * k
theorem mj_sl_snoc (P : mj_P) (c : mj_C) : ∀ h : mj_H, mj_sl P (h ++ [c]) = mj_sl P h + mj_cs P c
  | [] => by simp [mj_sl]
  | a :: h => by
    rw [List.cons_append, mj_sl, mj_sl, mj_sl_snoc P c h]
    omega
theorem jI.step {A B : gT} {U V : gU} {S : gS} {d N : Nat → Nat} {R : gS} {es : mj_H} {k : Nat} (I : jI A B U V S d N R es k) : jI A B U V S d N R es (k + 1) := by
  obtain ⟨a, b, c, e, f, h, i, j, l, n⟩ := I
  exact ⟨a, b, c, e, f, h, i, fun x => by have := j x; omega, by omega, by omega⟩
theorem jI.push {A B : gT} {U V : gU} {S : gS} {d N : Nat → Nat} {R : gS} {es : mj_H} {k cx : Nat} (I : jI A B U V S d N R es k) (hx : mm_P.2.2.2 cx = 6) : jI A B U V S d N R (es ++ [.inr (cx, [])]) (k + 1) := by
  obtain ⟨a, b, c, e, f, h, i, j, l, n⟩ := I
  refine ⟨a, b, c, e, f, h, i, fun x => by have := j x; omega, ?_, ?_⟩
  · rw [List.length_append, List.length_singleton]; omega
  · rw [mj_sl_snoc]
    show mj_sl mm_P es + mm_P.2.2.2 cx ≤ 6 * (k + 1)
    omega
/-- after one path is read -/
theorem jI.one {A B : gT} {U V : gU} {S : gS} {d d' N : Nat → Nat} {R : gS} {es : mj_H} {k : Nat} (I : jI A B U V S d N R es k) (h : qV d') : jI (A.1, 0) B (fw d A.1 A.2 U) V S d' (pP A.1 A.2 N).2.2 R es k := by
  obtain ⟨a, b, c, e, f, h1, i, j, l, n⟩ := I
  exact ⟨h, ⟨b.1, Nat.zero_le _⟩, c, (fw_pk a.B.dk e).2.2.2, f, h1, pP_N i, j, l, n⟩
theorem jI.two {A B : gT} {U V : gU} {S : gS} {d d' N : Nat → Nat} {R : gS} {es : mj_H} {k : Nat} (I : jI A B U V S d N R es k) (h : qV d') : jI (A.1, 0) (B.1, 0) (fw d A.1 A.2 U) (fw d B.1 B.2 V) S d' (pP A.1 A.2 (pP B.1 B.2 N).2.2).2.2 R es k := by
  obtain ⟨a, b, c, e, f, h1, i, j, l, n⟩ := I
  exact ⟨h, ⟨b.1, Nat.zero_le _⟩, ⟨c.1, Nat.zero_le _⟩, (fw_pk a.B.dk e).2.2.2, (fw_pk a.B.dk f).2.2.2, h1, pP_N (pP_N i), j, l, n⟩
theorem jR {L : Nat} {P Q : gT} {m : Nat} {e N : Nat → Nat} {R : gS} {t : Nat} {g : Nat → Int64} {es : mj_H} {k : Nat} (h1 : es.length ≤ k) (h2 : mj_sl mm_P es ≤ 6 * k) (hk : k ≤ 512) :
    gR 1074 (12984 + (14 + L)) L (.inr (12, [.ref 24, .int (nI P.2), .ref 25, .int (nI Q.2), .ref 26, .int (nI m), .ref 27, .ref 28, .ref 29, .ref 30, .ref 31, .int (nI t)]) :: .inl (3, (2048, .inl fun k => nI (e k))) ::
     .inl (2, (40, .inl fun k => nI (P.1 k))) :: .inl (2, (40, .inl fun k => nI (Q.1 k))) :: .inl (3, (140, .inl fun k => nI (N k))) :: .inl (1, (16, .inl fun k => nI (bi (R.1 k)))) ::
     .inl (3, (16, .inl fun k => nI (R.2.2.1 k))) :: .inl (1, (64, .inl fun k => nI (bi (R.2.1 k)))) :: .inl (3, (16, .inl fun k => nI (R.2.2.2.1 k))) :: oC g :: es) := by
  constructor
  · simp only [List.length_cons]; omega
  · rw [gSl_n]
    simp only [mj_sl, mj_cs, oC, ksz12]
    omega
def jO (L : Nat) (xs : Nat → Int32) (kw kr lw lr : Nat) (a1 a2 : List Value) (A B : gT) (U V : gU) (S : gS) (d : Nat → Nat) (m : Nat) (N : Nat → Nat) (R : gS) (t : Nat) (g : Nat → Int64) (es : mj_H) (k : Nat) : Prop :=
  ∃ (c : Nat) (v : Int32) (g' : Nat → Int64) (es' : mj_H) (A' B' : gT) (U' V' : gU) (S' : gS) (d' : Nat → Nat) (m' : Nat) (N' : Nat → Nat) (R' : gS),
    eE mm_P 1074 (12984 + (14 + L)) 12 lw kw a1 (Wd (L, xs, A, B, U, V, S, d) d A B m N R t (oC g :: es)) (.inl (some (.int (nI c))), Wd (L, xs, A', B', U', V', S', d') d A B m N R t (oC g' :: es')) ∧
    eE mm_P 1074 (12984 + (14 + L)) 12 lr kr a2 (Wd (L, xs, A', B', U', V', S', d') d A B m N R t (oC g' :: es')) (.inl (some (.int v)), Wd (L, xs, A', B', U', V', S', d') d' A' B' m' N' R' c (oC g' :: es')) ∧
    (c = 0 → g' 0 = v.toInt64) ∧ c < 5 ∧ jI A' B' U' V' S' d' N' R' es' (k + 1)
theorem jO_T {L : Nat} {xs : Nat → Int32} {A B : gT} {U V : gU} {S : gS} {d : Nat → Nat} {m : Nat} {N : Nat → Nat} {R : gS} {t : Nat} {g : Nat → Int64} {es : mj_H} {k : Nat} {kw kr lw lr c cx m' : Nat} {a1 a2 : List Value} {A' B' : gT} {U' V' : gU} {N' : Nat → Nat} {v : Int32}
    (h1 : eE mm_P 1074 (12984 + (14 + L)) 12 lw kw a1 (Wd (L, xs, A, B, U, V, S, d) d A B m N R t (oC g :: es)) (.inl (some (.int (nI c))), Wd (L, xs, A', B', U', V', S, d) d A B m N R t (oC g :: (es ++ [.inr (cx, [])]))))
    (h2 : eE mm_P 1074 (12984 + (14 + L)) 12 lr kr a2 (Wd (L, xs, A', B', U', V', S, d) d A B m N R t (oC g :: (es ++ [.inr (cx, [])]))) (.inl (some (.int v)), Wd (L, xs, A', B', U', V', S, d) d A' B' m' N' R c (oC g :: (es ++ [.inr (cx, [])]))))
    (hc : 1 ≤ c ∧ c < 5) (hx : mm_P.2.2.2 cx = 6) (I : jI A' B' U' V' S d N' R es k) : jO L xs kw kr lw lr a1 a2 A B U V S d m N R t g es k :=
  ⟨c, v, g, es ++ [.inr (cx, [])], A', B', U', V', S, d, m', N', R, h1, h2, fun z => absurd z (by omega), hc.2, I.push hx⟩
theorem jO_K {L : Nat} {xs : Nat → Int32} {A B : gT} {U V : gU} {S : gS} {d : Nat → Nat} {m : Nat} {N : Nat → Nat} {R : gS} {t : Nat} {g : Nat → Int64} {es : mj_H} {k : Nat} {kw kr lw lr m' : Nat} {a1 a2 : List Value} {A' B' : gT} {U' V' : gU} {S' : gS} {d' : Nat → Nat} {N' : Nat → Nat} {R' : gS} {v : Int32}
    (h1 : eE mm_P 1074 (12984 + (14 + L)) 12 lw kw a1 (Wd (L, xs, A, B, U, V, S, d) d A B m N R t (oC g :: es)) (.inl (some (.int (nI 0))), Wd (L, xs, A', B', U', V', S', d') d A B m N R t (oC (vp_updL g 0 (v.toInt64)) :: es)))
    (h2 : ∀ Z, eE mm_P 1074 (12984 + (14 + L)) 12 lr kr a2 (Wd (L, xs, A', B', U', V', S', d') d A B m N R t Z) (.inl (some (.int v)), Wd (L, xs, A', B', U', V', S', d') d' A' B' m' N' R' 0 Z))
    (I : jI A' B' U' V' S' d' N' R' es k) : jO L xs kw kr lw lr a1 a2 A B U V S d m N R t g es k :=
  ⟨0, v, vp_updL g 0 (v.toInt64), es, A', B', U', V', S', d', m', N', R', h1, h2 _, fun _ => if_pos rfl, by decide, I.step⟩
def jL (L : Nat) (xs : Nat → Int32) (kw kr lw lr : Nat) (a1 a2 : List Value) (A B : gT) (U V : gU) (S : gS) (d : Nat → Nat) (m : Nat) (N : Nat → Nat) (R : gS) (t : Nat) (g : Nat → Int64) (es : mj_H) (k : Nat) : Prop :=
  ∃ (c : Nat) (v : Int64) (g' : Nat → Int64) (es' : mj_H) (A' B' : gT) (U' V' : gU) (S' : gS) (d' : Nat → Nat) (m' : Nat) (N' : Nat → Nat) (R' : gS),
    eE mm_P 1074 (12984 + (14 + L)) 12 lw kw a1 (Wd (L, xs, A, B, U, V, S, d) d A B m N R t (oC g :: es)) (.inl (some (.int (nI c))), Wd (L, xs, A', B', U', V', S', d') d A B m N R t (oC g' :: es')) ∧
    eE mm_P 1074 (12984 + (14 + L)) 12 lr kr a2 (Wd (L, xs, A', B', U', V', S', d') d A B m N R t (oC g' :: es')) (.inl (some (.long v)), Wd (L, xs, A', B', U', V', S', d') d' A' B' m' N' R' c (oC g' :: es')) ∧
    (c = 0 → g' 0 = v) ∧ c < 5 ∧ jI A' B' U' V' S' d' N' R' es' (k + 1)
theorem jL_T {L : Nat} {xs : Nat → Int32} {A B : gT} {U V : gU} {S : gS} {d : Nat → Nat} {m : Nat} {N : Nat → Nat} {R : gS} {t : Nat} {g : Nat → Int64} {es : mj_H} {k : Nat} {kw kr lw lr c cx m' : Nat} {a1 a2 : List Value} {A' B' : gT} {U' V' : gU} {N' : Nat → Nat} {v : Int64}
    (h1 : eE mm_P 1074 (12984 + (14 + L)) 12 lw kw a1 (Wd (L, xs, A, B, U, V, S, d) d A B m N R t (oC g :: es)) (.inl (some (.int (nI c))), Wd (L, xs, A', B', U', V', S, d) d A B m N R t (oC g :: (es ++ [.inr (cx, [])]))))
    (h2 : eE mm_P 1074 (12984 + (14 + L)) 12 lr kr a2 (Wd (L, xs, A', B', U', V', S, d) d A B m N R t (oC g :: (es ++ [.inr (cx, [])]))) (.inl (some (.long v)), Wd (L, xs, A', B', U', V', S, d) d A' B' m' N' R c (oC g :: (es ++ [.inr (cx, [])]))))
    (hc : 1 ≤ c ∧ c < 5) (hx : mm_P.2.2.2 cx = 6) (I : jI A' B' U' V' S d N' R es k) : jL L xs kw kr lw lr a1 a2 A B U V S d m N R t g es k :=
  ⟨c, v, g, es ++ [.inr (cx, [])], A', B', U', V', S, d, m', N', R, h1, h2, fun z => absurd z (by omega), hc.2, I.push hx⟩
theorem jL_K {L : Nat} {xs : Nat → Int32} {A B : gT} {U V : gU} {S : gS} {d : Nat → Nat} {m : Nat} {N : Nat → Nat} {R : gS} {t : Nat} {g : Nat → Int64} {es : mj_H} {k : Nat} {kw kr lw lr m' : Nat} {a1 a2 : List Value} {A' B' : gT} {U' V' : gU} {S' : gS} {d' : Nat → Nat} {N' : Nat → Nat} {R' : gS} {v : Int64}
    (h1 : eE mm_P 1074 (12984 + (14 + L)) 12 lw kw a1 (Wd (L, xs, A, B, U, V, S, d) d A B m N R t (oC g :: es)) (.inl (some (.int (nI 0))), Wd (L, xs, A', B', U', V', S', d') d A B m N R t (oC (vp_updL g 0 (v)) :: es)))
    (h2 : ∀ Z, eE mm_P 1074 (12984 + (14 + L)) 12 lr kr a2 (Wd (L, xs, A', B', U', V', S', d') d A B m N R t Z) (.inl (some (.long v)), Wd (L, xs, A', B', U', V', S', d') d' A' B' m' N' R' 0 Z))
    (I : jI A' B' U' V' S' d' N' R' es k) : jL L xs kw kr lw lr a1 a2 A B U V S d m N R t g es k :=
  ⟨0, v, vp_updL g 0 (v), es, A', B', U', V', S', d', m', N', R', h1, h2 _, fun _ => if_pos rfl, by decide, I.step⟩

