def qV (d : Nat → Nat) : Prop :=
  (qB d) ∧
  (qR d) ∧
  (qT (qk d) (qs d)) ∧
  (d 11 = 0 ∨ d 11 = 1) ∧
  (d 11 = 1 → qM d) ∧
  (d 11 = 1 → ∀ i, i < 16 → d (32 + (16 * i)) ≠ 0 → d (32 + (16 * i) + 1) = ct (qs d) i)
theorem qV.B {d : Nat → Nat} (h : qV d) : qB d := h.1
theorem qV.R {d : Nat → Nat} (h : qV d) : qR d := h.2.1
theorem qV.T {d : Nat → Nat} (h : qV d) : qT (qk d) (qs d) := h.2.2.1
theorem qV.c {d : Nat → Nat} (h : qV d) : d 11 = 0 ∨ d 11 = 1 := h.2.2.2.1
theorem qV.M {d : Nat → Nat} (h : qV d) : d 11 = 1 → qM d := h.2.2.2.2.1
theorem qV.L {d : Nat → Nat} (h : qV d) : d 11 = 1 → ∀ i, i < 16 → d (32 + (16 * i)) ≠ 0 → d (32 + (16 * i) + 1) = ct (qs d) i := h.2.2.2.2.2
theorem qT.congr {k k' s s'} (T : qT k s) (hk : ∀ i, k' i = k i) (hs : ∀ p j, p < 16 → j < 24 → s' p j = s p j) : qT k' s' := by
  have hk' : k' = k := funext hk
  subst hk'
  have c : ∀ i, ct s' i = ct s i := fun i => ct_congr s s' i hs
  refine ⟨?_, ?_, ?_, ?_, ?_, ?_, ?_, ?_, ?_, ?_⟩
  · exact T.k2
  · intro p j hp hj h; rw [hs p j hp hj]; exact T.t0 p j hp hj h
  · intro p hp h; rw [hs p 0 hp (by omega), hs p 1 hp (by omega)]; exact T.t1 p hp h
  · exact T.k0
  · exact T.k1
  · rw [hs 1 1 (by omega) (by omega)]; exact T.s1
  · intro p j hp h2 hj h
    rw [hs p j hp hj] at h ⊢
    have := T.t3 p j hp h2 hj h
    refine ⟨this.1, this.2.1, this.2.2.1, fun h2 => ?_⟩
    rw [hs _ 1 this.1 (by omega)]; exact this.2.2.2 h2
  · intro p j j' hp h2 hj h2' hj' h h' hk
    rw [hs p j hp hj] at h h' hk
    rw [hs p j' hp hj'] at h'
    exact T.t4 p j j' hp h2 hj h2' hj' h h' hk
  · obtain ⟨r, hr⟩ := T.t5
    refine ⟨r, fun i hi h h1 => ?_⟩
    obtain ⟨p, j, a, b, e, f, g⟩ := hr i hi h h1
    exact ⟨p, j, a, b, e, by rw [hs p j a e]; exact f, g⟩
  · intro i hi h; rw [c i]; exact T.t6 i hi h
theorem qk_lt (d : Nat → Nat) (i : Nat) (hi : i < 16) : qk d i = d (32 + (16 * i)) := if_pos hi
theorem qk_eq (d d' : Nat → Nat) (h : ∀ i, i < 16 → d' (32 + (16 * i)) = d (32 + (16 * i))) (i : Nat) : qk d' i = qk d i := by
  unfold qk; split
  · exact h i (by assumption)
  · rfl
theorem qk_u1 (d d' : Nat → Nat) (j v : Nat) (hj : j < 16) (h : ∀ i, i < 16 → d' (32 + (16 * i)) = if i = j then v else d (32 + (16 * i))) (i : Nat) : qk d' i = u1 (qk d) j v i := by
  have := h i
  clear h
  grind [qk, u1]
theorem qV.E {d} (V : qV d) (h : d 11 = 1) : qE d := ⟨V.B, V.R, V.M h⟩
theorem qV.file {d d'} (V : qV d) (h : d 11 = 1) (E : qE d') (I : qI d d') : qV d' := by
  refine ⟨E.B, E.R, V.T.congr (qk_eq d d' I.k) I.s, Or.inr (by rw [I.c]; exact h), fun _ => E.M, fun _ i hi hn => ?_⟩
  rw [I.k i hi] at hn
  rw [I.l i hi, ct_congr _ _ i I.s]; exact V.L h i hi hn
theorem qs_si (d : Nat → Nat) (p j : Nat) (h : d (32 + (16 * p)) = 2) (hj : j < sn d p) : qs d p j = si d p j := if_pos ⟨h, hj⟩
theorem hr_spec (d : Nat → Nat) (p v : Nat) (h : hr d p v = true) : nsl d p ≠ 0 ∧ bw d p (nsl d p / 4) (nsl d p / 4) + v ≤ cf d 3 9 55 := by
  unfold hr at h; simpa using h
theorem qV.few {d} (V : qV d) (h : d 11 = 1) (i : Nat) (hi : i < 16) (hk : d (32 + (16 * i)) = 2) : d (32 + (16 * i) + 1) ≤ 33 := by
  rw [V.L h i hi (by omega)]; exact V.T.few i hi (by rw [qk_lt d i hi]; exact hk)
theorem nsl_same (d d' : Nat → Nat) (p : Nat) (hs : sn d' p = sn d p) (hk : d (32 + (16 * p)) = 2) (hk' : d' (32 + (16 * p)) = 2) (h : ∀ l, l < 24 → qs d' p l = qs d p l) : nsl d' p = nsl d p := by
  apply nsl_ext d d' p hs
  intro l h1 h2
  have := h l (by have := sn_le d p; omega)
  rw [qs_si d' p l hk' (by rw [hs]; exact h2), qs_si d p l hk h2] at this
  exact this
theorem qV.create {d} (V : qV d) (h1 : d 11 = 1) (p : Nat) (nm : Nat → Nat) (hp : p < 16) (hk : d (32 + (16 * p)) = 2) (hi : lw d 1 1 15 ≠ 0) (hh : hr d p 0 = true) :
    qV (ad (ti d 1) p (lw d 1 1 15) nm) := by
  have E := V.E h1
  have I := ti_E E 1 (Or.inl rfl) hi
  have F := ti_file E _ I
  have hh' := hr_spec d p 0 hh
  generalize lw d 1 1 15 = i at I hi ⊢
  have ri := I.ri
  have k0 := I.z 0 (by omega)
  simp only [Nat.add_zero] at k0
  have hpi : p ≠ i := by intro z; rw [z] at hk; omega
  generalize ti d 1 = g at I F ⊢
  have gp : g (32 + (16 * p)) = 2 := by rw [I.ne _ (by omega) (by omega)]; exact hk
  have en : nsl g p = nsl d p := nsl_same d g p (I.sn p hp) hk gp (fun l hl => F.2 p l hp hl)
  have r := E.R.dr p hp hk
  have ns := nsl_spec d p r.2.2.1 hh'.1
  have eb : bw g p (nsl d p / 4) (nsl d p / 4) = bw d p (nsl d p / 4) (nsl d p / 4) := by
    rw [bw_dir _ _ _ (by omega), bw_dir _ _ _ (by omega), bo_lo _ _ _ (by omega), bo_lo _ _ _ (by omega), I.ne _ (by omega) (by omega)]
  have A := ad_E F.1 p i nm hp gp (by omega) (by rw [I.at_]; omega) (by rw [en]; exact hh'.1) (by rw [en, eb, I.cf]; omega)
  rw [en] at A
  generalize ad g p i nm = e at A ⊢
  have hs : ∀ q l, q < 16 → l < 24 → qs e q l = u2 (qs d) p (nsl d p) i q l := by
    intro q l hq hl
    rw [A.s q l hq hl]
    unfold u2
    split
    · rfl
    · exact F.2 q l hq hl
  have ek : ∀ q, q < 16 → e (32 + (16 * q)) = if q = i then 1 else d (32 + (16 * q)) := by
    intro q hq
    rw [A.k q hq]
    by_cases a : q = i
    · rw [if_pos a, a, I.at_]
    · rw [if_neg a, I.ne _ (by omega) (by omega)]
  have hfree : qk d i = 0 := by rw [qk_lt d i (by omega)]; exact k0
  have T := V.T.create p (nsl d p) i hp (by rw [qk_lt d p hp]; exact hk) ns.1 ns.2.1 ns.2.2.2 (by omega) (by omega) hfree
  have h11 : e 11 = 1 := by rw [A.c, I.ne _ (by omega) (by omega)]; exact h1
  refine ⟨A.E.B, A.E.R, T.congr (qk_u1 d e i 1 (by omega) ek) hs, Or.inr h11, fun _ => A.E.M, fun _ q hq hn => ?_⟩
  have c1 := ct_u2 (qs d) p (nsl d p) i q hp ns.2.1
  rw [ct_congr _ _ q hs, A.l q hq]
  have cf := V.T.free i (by omega) hfree
  have z1 := I.z 1 (by omega)
  rw [ek q hq] at hn
  by_cases a : q = i
  · rw [if_pos a, I.ne _ (by omega) (by omega), z1]
    subst a
    rw [if_pos rfl, if_neg (by omega)] at c1; omega
  · rw [if_neg a, I.ne _ (by omega) (by omega)]
    rw [if_neg a] at hn
    have := V.L h1 q hq hn
    have q0 : q ≠ 0 := by intro z; rw [z] at hn; have := V.T.k0; rw [qk_lt d 0 (by omega)] at this; exact hn this
    rw [if_neg (by omega), if_neg (fun z => a z.symm)] at c1; omega
theorem qV.mkdir {d} (V : qV d) (h1 : d 11 = 1) (p : Nat) (nm : Nat → Nat) (hp : p < 16) (hk : d (32 + (16 * p)) = 2) (hi : lw d 1 1 15 ≠ 0) (hh : hr d p 1 = true) :
    qV (ad (sd (ti d 2) (lw d 1 1 15) p) p (lw d 1 1 15) nm) := by
  have E := V.E h1
  have I := ti_E E 2 (Or.inr rfl) hi
  have hh' := hr_spec d p 1 hh
  generalize lw d 1 1 15 = i at I hi ⊢
  have ri := I.ri
  have k0 := I.z 0 (by omega)
  simp only [Nat.add_zero] at k0
  have hpi : p ≠ i := by intro z; rw [z] at hk; omega
  generalize ti d 2 = g at I ⊢
  have F := sd_E E i p I hp hk (by omega)
  have fcf := F.cf
  generalize sd g i p = f at F fcf ⊢
  have gp : f (32 + (16 * p)) = 2 := by rw [F.k p hp, if_neg hpi]; exact hk
  have es : ∀ l, l < 24 → qs f p l = qs d p l := by
    intro l hl
    rw [F.s p l hp hl]
    unfold u2
    rw [if_neg (fun z => hpi z.1), if_neg (fun z => hpi z.1)]
  have esn : sn f p = sn d p := sn_ext d f p (F.T p 2 hp (by omega) (by omega) hpi) (F.T p 3 hp (by omega) (by omega) hpi)
  have en : nsl f p = nsl d p := nsl_same d f p esn hk gp es
  have r := E.R.dr p hp hk
  have ns := nsl_spec d p r.2.2.1 hh'.1
  have eb : bw f p (nsl d p / 4) (nsl d p / 4) = bw d p (nsl d p / 4) (nsl d p / 4) := by
    rw [bw_dir _ _ _ (by omega), bw_dir _ _ _ (by omega), bo_lo _ _ _ (by omega), bo_lo _ _ _ (by omega)]
    have := F.T p (4 + nsl d p / 4) hp (by omega) (by omega) hpi
    rw [← Nat.add_assoc] at this
    rw [this]
  have fi2 : f (32 + (16 * i)) = 2 := by rw [F.k i (by omega), if_pos rfl]
  have A := ad_E F.E p i nm hp gp (by omega) (by omega) (by rw [en]; exact hh'.1) (by rw [en, eb]; omega)
  rw [en] at A
  generalize ad f p i nm = e at A ⊢
  have hs : ∀ q l, q < 16 → l < 24 → qs e q l = u2 (u2 (u2 (qs d) i 0 i) i 1 p) p (nsl d p) i q l := by
    intro q l hq hl
    rw [A.s q l hq hl]
    unfold u2
    by_cases a : q = p ∧ l = nsl d p
    · rw [if_pos a, if_pos a]
    · rw [if_neg a, if_neg a, F.s q l hq hl]; rfl
  have ek : ∀ q, q < 16 → e (32 + (16 * q)) = if q = i then 2 else d (32 + (16 * q)) := by
    intro q hq; rw [A.k q hq, F.k q hq]
  have hfree : qk d i = 0 := by rw [qk_lt d i (by omega)]; exact k0
  have T := V.T.mkdir p (nsl d p) i hp (by rw [qk_lt d p hp]; exact hk) ns.1 ns.2.1 ns.2.2.2 (by omega) (by omega) hfree
  have h11 : e 11 = 1 := by rw [A.c, F.c]; exact h1
  refine ⟨A.E.B, A.E.R, T.congr (qk_u1 d e i 2 (by omega) ek) hs, Or.inr h11, fun _ => A.E.M, fun _ q hq hn => ?_⟩
  have c1 := ct_u2 (u2 (u2 (qs d) i 0 i) i 1 p) p (nsl d p) i q hp ns.2.1
  have c2 := ct_u2 (u2 (qs d) i 0 i) i 1 p q (by omega) (by omega)
  have c3 := ct_u2 (qs d) i 0 i q (by omega) (by omega)
  have s1 : u2 (u2 (qs d) i 0 i) i 1 p p (nsl d p) = 0 := by
    unfold u2; rw [if_neg (fun z => hpi z.1), if_neg (fun z => hpi z.1)]; exact ns.2.2.2
  have s2 : u2 (qs d) i 0 i i 1 = 0 := by
    unfold u2; rw [if_neg (by omega)]; exact V.T.t0 i 1 (by omega) (by omega) (by omega)
  have s3 : qs d i 0 = 0 := V.T.t0 i 0 (by omega) (by omega) (by omega)
  rw [s1] at c1
  rw [s2] at c2
  rw [s3] at c3
  rw [ct_congr _ _ q hs, A.l q hq, F.l q hq, F.l i (by omega), if_pos rfl]
  have cf := V.T.free i (by omega) hfree
  rw [ek q hq] at hn
  have q0 : q ≠ 0 := by
    intro z
    rw [z, if_neg (by omega)] at hn
    have := V.T.k0; rw [qk_lt d 0 (by omega)] at this; exact hn this
  rw [if_neg (by omega)] at c1 c2 c3
  by_cases a : q = i
  · rw [if_pos a]
    subst a
    rw [if_pos rfl] at c1 c3
    rw [if_neg hpi] at c2; omega
  · rw [if_neg (fun z => a z.symm)] at c1 c3
    rw [if_neg a] at hn
    have := V.L h1 q hq hn
    by_cases b : q = p
    · subst b
      have few := V.few h1 q hq hk
      rw [if_neg a, if_neg a, if_pos rfl]
      rw [if_pos rfl] at c2; omega
    · rw [if_neg a, if_neg a, if_neg b]
      rw [if_neg (fun z => b z.symm)] at c2; omega
theorem qV.link {d} (V : qV d) (h1 : d 11 = 1) (p f : Nat) (nm : Nat → Nat) (hp : p < 16) (hk : d (32 + (16 * p)) = 2) (hf : f < 16) (hkf : d (32 + (16 * f)) = 1) (hl : d (32 + (16 * f) + 1) < 255) (hh : hr d p 0 = true) :
    qV (ad d p f nm) ∧ ad d p f nm (32 + (16 * f) + 1) = d (32 + (16 * f) + 1) + 1 := by
  have E := V.E h1
  have hh' := hr_spec d p 0 hh
  have r := E.R.dr p hp hk
  have ns := nsl_spec d p r.2.2.1 hh'.1
  have A := ad_E E p f nm hp hk hf (by omega) hh'.1 (by omega)
  generalize ad d p f nm = e at A ⊢
  have lf := V.L h1 f hf (by omega)
  have T := V.T.link p (nsl d p) f hp (by rw [qk_lt d p hp]; exact hk) ns.1 ns.2.1 ns.2.2.2 hf (by rw [qk_lt d f hf]; exact hkf) (by omega)
  have h11 : e 11 = 1 := by rw [A.c]; exact h1
  refine ⟨⟨A.E.B, A.E.R, T.congr (qk_eq d e A.k) A.s, Or.inr h11, fun _ => A.E.M, fun _ q hq hn => ?_⟩, ?_⟩
  · have c1 := ct_u2 (qs d) p (nsl d p) f q hp ns.2.1
    rw [ct_congr _ _ q A.s, A.l q hq]
    rw [A.k q hq] at hn
    have := V.L h1 q hq hn
    have q0 : q ≠ 0 := by intro z; rw [z] at hn; have := V.T.k0; rw [qk_lt d 0 (by omega)] at this; exact hn this
    rw [ns.2.2.2, if_neg (by omega)] at c1
    by_cases a : q = f
    · subst a; rw [if_pos rfl]; rw [if_pos rfl] at c1; omega
    · rw [if_neg a]; rw [if_neg (fun z => a z.symm)] at c1; omega
  · rw [A.l f hf, if_pos rfl]; omega
theorem qV.k00 {d} (V : qV d) : d (32 + (16 * 0)) = 0 := by
  have := V.T.k0; rw [qk_lt d 0 (by omega)] at this; exact this
theorem qV.unlink {d} (V : qV d) (h1 : d 11 = 1) (p j f : Nat) (hp : p < 16) (hk : d (32 + (16 * p)) = 2) (h2 : 2 ≤ j) (hj : j < sn d p) (hs : si d p j = f) (hf : f < 16) (hkf : d (32 + (16 * f)) = 1) :
    1 ≤ d (32 + (16 * f) + 1) ∧ fr_ d p j (32 + (16 * f) + 1) = d (32 + (16 * f) + 1) - 1 ∧
    qV (if fr_ d p j (32 + (16 * f) + 1) = 0 then gi (fr_ d p j) f else fr_ d p j) := by
  have E := V.E h1
  have h24 := sn_le d p
  have hq : qs d p j = f := by rw [qs_si d p j hk hj]; exact hs
  have hpj := hq
  have F := fr_E E p j f hp hk hj hq hf (by omega)
  have lf := V.L h1 f hf (by omega)
  have f0 : f ≠ 0 := by intro z; rw [z] at hkf; have := V.k00; omega
  have c1 := ct_one (qs d) p j hp (by omega)
  rw [hq] at c1
  have hb := E.B.dk.1 (32 + (16 * f) + 1)
  have lf' : fr_ d p j (32 + (16 * f) + 1) = d (32 + (16 * f) + 1) - 1 := by rw [F.2.2.1]; omega
  refine ⟨by omega, lf', ?_⟩
  generalize fr_ d p j = g at F lf' ⊢
  have k0 : ∀ q, q < 16 → g (32 + (16 * q)) = d (32 + (16 * q)) := fun q hq => F.2.1 _ (by omega) (by omega)
  have l1 : ∀ q, q < 16 → q ≠ f → g (32 + (16 * q) + 1) = d (32 + (16 * q) + 1) := fun q hq hn => F.2.1 _ (by omega) (by omega)
  have hsu : ∀ q l, q < 16 → l < 24 → qs g q l = u2 (qs d) p j 0 q l := F.2.2.2.2
  have g11 : g 11 = 1 := by rw [F.2.1 _ (by omega) (by omega)]; exact h1
  have hct := fun q => ct_u2 (qs d) p j 0 q hp (by omega)
  by_cases a : g (32 + (16 * f) + 1) = 0
  · rw [if_pos a]
    have G := gi_drop F.1.B F.1.M f hf (by omega) (fun j k hj hk _ hz => F.1.R.z j k hj hk hz) (fun j hj _ h2 => F.1.R.dr j hj h2) (fun j hj _ h2 => F.1.R.fi j hj h2)
    generalize gi g f = e at G ⊢
    have T := V.T.remove p j f hp h2 (by omega) hq hf (by rw [qk_lt d f hf]; exact hkf) (by omega)
    have ek : ∀ q, q < 16 → e (32 + (16 * q)) = if q = f then 0 else d (32 + (16 * q)) := by
      intro q hq
      by_cases b : q = f
      · rw [if_pos b, b]; exact G.z 0 (by omega)
      · rw [if_neg b, ← k0 q hq]; exact G.T q 0 hq (by omega) b
    have hse : ∀ q l, q < 16 → l < 24 → qs e q l = u2 (qs d) p j 0 q l := by
      intro q l hq hl
      rw [G.s q l hq hl]
      by_cases b : q = f
      · rw [if_pos b, b]
        have t0 := V.T.t0 f l hf hl (by rw [qk_lt d f hf]; omega)
        unfold u2; split
        · rfl
        · exact t0.symm
      · rw [if_neg b]; exact hsu q l hq hl
    refine ⟨G.E.B, G.E.R, T.congr (qk_u1 d e f 0 hf ek) hse, Or.inr (by rw [G.c]; exact g11), fun _ => G.E.M, fun _ q hq hn => ?_⟩
    rw [ek q hq] at hn
    have b : q ≠ f := by intro z; rw [if_pos z] at hn; exact hn rfl
    rw [if_neg b] at hn
    have q0 : q ≠ 0 := by intro z; rw [z] at hn; exact hn V.k00
    have c2 := hct q
    rw [hpj, if_neg (fun z => b z.symm), if_neg (by omega)] at c2
    rw [ct_congr _ _ q hse, G.T q 1 hq (by omega) b, l1 q hq b, V.L h1 q hq hn]; omega
  · rw [if_neg a]
    have T := V.T.unlink p j f hp h2 (by omega) hq hf (by rw [qk_lt d f hf]; exact hkf) (by omega)
    refine ⟨F.1.B, F.1.R, T.congr (qk_eq d g k0) hsu, Or.inr g11, fun _ => F.1.M, fun _ q hq hn => ?_⟩
    rw [k0 q hq] at hn
    have q0 : q ≠ 0 := by intro z; rw [z] at hn; exact hn V.k00
    have c2 := hct q
    rw [hpj, if_neg (show ¬ 0 = q by omega)] at c2
    rw [ct_congr _ _ q hsu]
    have lq := V.L h1 q hq hn
    by_cases b : q = f
    · subst b; rw [if_pos rfl] at c2; omega
    · rw [if_neg (fun z => b z.symm)] at c2; rw [l1 q hq b]; omega
theorem em_spec (d : Nat → Nat) (i n : Nat) : ∀ j, em d i j n = true ↔ ∀ l, j ≤ l → l < j + n → si d i l = 0 := by
  induction n with
  | zero => intro j; exact ⟨fun _ l h1 h2 => by omega, fun _ => rfl⟩
  | succ n ih =>
    intro j
    rw [em]
    by_cases a : si d i j = 0
    · rw [if_pos a, ih (j + 1)]
      constructor
      · intro h l h1 h2
        by_cases b : l = j
        · rw [b]; exact a
        · exact h l (by omega) (by omega)
      · intro h l h1 h2; exact h l (by omega) (by omega)
    · rw [if_neg a]
      exact ⟨fun h => Bool.noConfusion h, fun h => absurd (h j (by omega) (by omega)) a⟩
theorem qV.rmdir {d} (V : qV d) (h1 : d 11 = 1) (p j i : Nat) (hp : p < 16) (hk : d (32 + (16 * p)) = 2) (h2 : 2 ≤ j) (hj : j < sn d p) (hs : si d p j = i) (hi : i < 16) (hki : d (32 + (16 * i)) = 2) (hi1 : i ≠ 1)
    (he : em d i 2 (sn d i - 2) = true) : 1 ≤ d (32 + (16 * p) + 1) ∧ qV (gi (al (fr_ d p j) p 4294967295) i) := by
  have E := V.E h1
  have h24 := sn_le d p
  have hq : qs d p j = i := by rw [qs_si d p j hk hj]; exact hs
  have ri := E.R.dr i hi hki
  have he' : ∀ l, 2 ≤ l → l < 24 → qs d i l = 0 := by
    intro l a b
    unfold qs; split
    · rename_i c
      exact (em_spec d i _ 2).mp he l a (by omega)
    · rfl
  have i0 : i ≠ 0 := by intro z; rw [z] at hki; have := V.k00; omega
  have hpi : p ≠ i := by intro z; rw [z, he' j h2 (by omega)] at hq; omega
  have F := fr_E E p j i hp hk hj hq hi (by omega)
  generalize fr_ d p j = g at F ⊢
  have gk : ∀ q, q < 16 → g (32 + (16 * q)) = d (32 + (16 * q)) := fun q hq => F.2.1 _ (by omega) (by omega)
  have A := al_E F.1 p 4294967295 hp (by rw [gk p hp]; omega)
  have ane : ∀ x, x ≠ 32 + (16 * p) + 1 → al g p 4294967295 x = g x := fun x h => al_ne _ _ _ _ h
  have aat := al_at g p 4294967295 hp
  generalize al g p 4294967295 = f at A ane aat ⊢
  have fk : ∀ q, q < 16 → f (32 + (16 * q)) = d (32 + (16 * q)) := fun q hq => by rw [ane _ (by omega), gk q hq]
  have G := gi_drop A.1.B A.1.M i hi (by omega) (fun j k hj hk _ hz => A.1.R.z j k hj hk hz) (fun j hj _ h2 => A.1.R.dr j hj h2) (fun j hj _ h2 => A.1.R.fi j hj h2)
  generalize gi f i = e at G ⊢
  have hqk : qk d i = 2 := by rw [qk_lt d i hi]; exact hki
  have T := V.T.rmdir p j i hp h2 (by omega) hq hi hqk hi1 he'
  have ek : ∀ q, q < 16 → e (32 + (16 * q)) = if q = i then 0 else d (32 + (16 * q)) := by
    intro q hq
    by_cases b : q = i
    · rw [if_pos b, b]; exact G.z 0 (by omega)
    · rw [if_neg b, ← fk q hq]; exact G.T q 0 hq (by omega) b
  have hse : ∀ q l, q < 16 → l < 24 → qs e q l = u2 (u2 (u2 (qs d) p j 0) i 0 0) i 1 0 q l := by
    intro q l hq hl
    rw [G.s q l hq hl]
    unfold u2
    by_cases b : q = i
    · rw [if_pos b, b]
      by_cases c : l = 1
      · rw [if_pos ⟨rfl, c⟩]
      · rw [if_neg (fun z => c z.2)]
        by_cases c' : l = 0
        · rw [if_pos ⟨rfl, c'⟩]
        · rw [if_neg (fun z => c' z.2), if_neg (fun z => hpi z.1.symm)]; exact (he' l (by omega) hl).symm
    · rw [if_neg b, if_neg (fun z => b z.1), if_neg (fun z => b z.1), A.2.2 q l hq hl, F.2.2.2.2 q l hq hl]
  have hpar := V.T.par i p j hp h2 (by omega) hq hqk
  have s0 := (V.T.t1 i hi hqk).1
  have c1 := fun q => ct_u2 (u2 (u2 (qs d) p j 0) i 0 0) i 1 0 q hi (by omega)
  have c2 := fun q => ct_u2 (u2 (qs d) p j 0) i 0 0 q hi (by omega)
  have c3 := fun q => ct_u2 (qs d) p j 0 q hp (by omega)
  have e1 : u2 (u2 (qs d) p j 0) i 0 0 i 1 = p := by
    unfold u2; rw [if_neg (by omega), if_neg (by omega)]; exact hpar
  have e2 : u2 (qs d) p j 0 i 0 = i := by
    unfold u2; rw [if_neg (by omega)]; exact s0
  rw [e1] at c1
  rw [e2] at c2
  rw [hq] at c3
  have lp := V.L h1 p hp (by omega)
  have hb := E.B.dk.1 (32 + (16 * p) + 1)
  have p0 : p ≠ 0 := by intro z; rw [z] at hk; have := V.k00; omega
  have cp : ct (u2 (u2 (u2 (qs d) p j 0) i 0 0) i 1 0) p + 1 = ct (qs d) p := by
    have a1 := c1 p; have a2 := c2 p; have a3 := c3 p
    rw [if_neg (show ¬ 0 = p by omega)] at a1 a2 a3
    rw [if_pos rfl] at a1
    rw [if_neg (fun z => hpi z.symm)] at a2 a3
    omega
  refine ⟨by omega, G.E.B, G.E.R, T.congr (qk_u1 d e i 0 hi ek) hse, Or.inr (by rw [G.c, ane _ (by omega), F.2.1 _ (by omega) (by omega)]; exact h1), fun _ => G.E.M, fun _ q hq hn => ?_⟩
  rw [ek q hq] at hn
  have b : q ≠ i := by intro z; rw [if_pos z] at hn; exact hn rfl
  rw [if_neg b] at hn
  have q0 : q ≠ 0 := by intro z; rw [z] at hn; exact hn V.k00
  rw [ct_congr _ _ q hse, G.T q 1 hq (by omega) b]
  by_cases a : q = p
  · subst a
    rw [aat, F.2.1 _ (by omega) (by omega)]; omega
  · rw [ane _ (by omega), F.2.1 _ (by omega) (by omega), V.L h1 q hq hn]
    have a1 := c1 q; have a2 := c2 q; have a3 := c3 q
    rw [if_neg (show ¬ 0 = q by omega)] at a1 a2 a3
    rw [if_neg (fun z => a z.symm)] at a1
    rw [if_neg (fun z => b z.symm)] at a2 a3
    omega
theorem up_it {d} (V : qV d) (v : Nat) (n : Nat) : ∀ p, p < 16 → d (32 + (16 * p)) = 2 → (up d v p n = false ↔ ∀ m, m < n → iu (qs d) p m ≠ v) := by
  induction n with
  | zero => intro p _ _; exact ⟨fun _ m hm => by omega, fun _ => rfl⟩
  | succ n ih =>
    intro p hp hk
    have hq : qk d p = 2 := by rw [qk_lt d p hp]; exact hk
    have t := V.T.t1 p hp hq
    have r := V.R.dr p hp hk
    have e : qs d p 1 = si d p 1 := qs_si d p 1 hk (by omega)
    rw [e] at t
    rw [up]
    by_cases a : p = v
    · rw [if_pos a]
      exact ⟨fun h => Bool.noConfusion h, fun h => absurd a (h 0 (by omega))⟩
    · rw [if_neg a, ih (si d p 1) t.2.1 (by have := t.2.2; rw [qk_lt d _ t.2.1] at this; exact this)]
      constructor
      · intro h m hm
        cases m with
        | zero => exact a
        | succ m => rw [iu, e]; exact h m (by omega)
      · intro h m hm
        have := h (m + 1) (by omega)
        rw [iu, e] at this; exact this
theorem qV.rename {d} (V : qV d) (h1 : d 11 = 1) (p p0 j0 i : Nat) (nm : Nat → Nat) (hp : p < 16) (hk : d (32 + (16 * p)) = 2) (hh : hr d p 0 = true)
    (hp0 : p0 < 16) (hk0 : d (32 + (16 * p0)) = 2) (h20 : 2 ≤ j0) (hj0 : j0 < sn d p0) (hs0 : si d p0 j0 = i) (hi : i < 16) (hi1 : i ≠ 1) (hki : d (32 + (16 * i)) = 1 ∨ (d (32 + (16 * i)) = 2 ∧ up d i p 16 = false)) :
    qV (if d (32 + (16 * i)) = 2 then pu (fr_ (ad d p i nm) p0 j0) i p else fr_ (ad d p i nm) p0 j0) := by
  have E := V.E h1
  have hh' := hr_spec d p 0 hh
  have r := E.R.dr p hp hk
  have ns := nsl_spec d p r.2.2.1 hh'.1
  have h24 := sn_le d p0
  have hq0 : qs d p0 j0 = i := by rw [qs_si d p0 j0 hk0 hj0]; exact hs0
  have kp : qk d p = 2 := by rw [qk_lt d p hp]; exact hk
  have i0 : i ≠ 0 := by intro z; rw [z] at hki; have := V.k00; omega
  have hne : ¬ (p0 = p ∧ j0 = nsl d p) := by
    rintro ⟨a, b⟩
    have := ns.2.2.2
    rw [← a] at this
    rw [← a] at b
    rw [← b, hq0] at this; omega
  have A := ad_E E p i nm hp hk hi (by omega) hh'.1 (by omega)
  generalize ad d p i nm = g at A ⊢
  have gq0 : qs g p0 j0 = i := by rw [A.s p0 j0 hp0 (by omega), u2_ne _ _ _ _ _ _ hne]; exact hq0
  have gj0 : j0 < sn g p0 := by
    by_cases z : j0 < sn g p0
    · exact z
    · unfold qs at gq0; rw [if_neg (by omega)] at gq0; omega
  have F := fr_E A.E p0 j0 i hp0 (by rw [A.k p0 hp0]; exact hk0) gj0 gq0 hi (by rw [A.k i hi]; omega)
  generalize fr_ g p0 j0 = f at F ⊢
  have fk : ∀ q, q < 16 → f (32 + (16 * q)) = d (32 + (16 * q)) := fun q hq => by rw [F.2.1 _ (by omega) (by omega), A.k q hq]
  have hb := E.B.dk.1 (32 + (16 * i) + 1)
  have fl : ∀ q, q < 16 → f (32 + (16 * q) + 1) = d (32 + (16 * q) + 1) := by
    intro q hq
    by_cases a : q = i
    · rw [a, F.2.2.1, A.l i hi, if_pos rfl]; omega
    · rw [F.2.1 _ (by omega) (by omega), A.l q hq, if_neg a]
  have fs : ∀ q l, q < 16 → l < 24 → qs f q l = u2 (u2 (qs d) p (nsl d p) i) p0 j0 0 q l := by
    intro q l hq hl
    rw [F.2.2.2.2 q l hq hl]
    unfold u2
    by_cases a : q = p0 ∧ l = j0
    · rw [if_pos a, if_pos a]
    · rw [if_neg a, if_neg a, A.s q l hq hl]; rfl
  have f11 : f 11 = 1 := by rw [F.2.1 _ (by omega) (by omega), A.c]; exact h1
  have c1 := fun q => ct_u2 (qs d) p (nsl d p) i q hp ns.2.1
  have c2 := fun q => ct_u2 (u2 (qs d) p (nsl d p) i) p0 j0 0 q hp0 (by omega)
  have e2 : u2 (qs d) p (nsl d p) i p0 j0 = i := by rw [u2_ne _ _ _ _ _ _ hne]; exact hq0
  rw [e2] at c2
  rw [ns.2.2.2] at c1
  have c12 : ∀ q, q ≠ 0 → ct (u2 (u2 (qs d) p (nsl d p) i) p0 j0 0) q = ct (qs d) q := by
    intro q hq
    have a1 := c1 q; have a2 := c2 q
    rw [if_neg (show ¬ 0 = q by omega)] at a1 a2
    omega
  by_cases kd : d (32 + (16 * i)) = 2
  · rw [if_pos kd]
    have hup : up d i p 16 = false := by
      rcases hki with z | z
      · omega
      · exact z.2
    have hnv := V.T.never p i hp kp hi1 ((up_it V i 16 p hp hk).mp hup)
    have ki : qk d i = 2 := by rw [qk_lt d i hi]; exact kd
    have hpar := V.T.par i p0 j0 hp0 h20 (by omega) hq0 ki
    have T := V.T.mvdir p (nsl d p) i p0 j0 hp kp ns.1 ns.2.1 ns.2.2.2 hp0 h20 (by omega) hq0 hi ki hnv
    have hpi : p ≠ i := hnv 0
    have hp0i : p0 ≠ i := by
      intro z
      have := V.T.t3 p0 j0 hp0 h20 (by omega) (by omega)
      rw [z] at hpar
      obtain ⟨n, hn, hn'⟩ := V.T.root i hi ki
      have : ∀ n, iu (qs d) i n = i := by
        intro n
        induction n with
        | zero => rfl
        | succ n ih => rw [it_succ, ih, hpar]
      rw [this n] at hn'; exact hi1 hn'
    have fi1 : qs f i 1 = p0 := by
      rw [fs i 1 hi (by omega)]
      unfold u2
      rw [if_neg (by omega), if_neg (by omega)]; exact hpar
    have P := pu_E F.1 i p0 p hi (by rw [fk i hi]; exact kd) fi1 hp0 (by rw [fk p0 hp0]; omega) hp (by rw [fk p hp]; omega)
    generalize pu f i p = e at P ⊢
    have ek : ∀ q, q < 16 → e (32 + (16 * q)) = d (32 + (16 * q)) := fun q hq => by rw [P.2.1 _ (by omega) (by omega) (by omega), fk q hq]
    have es : ∀ q l, q < 16 → l < 24 → qs e q l = u2 (u2 (u2 (qs d) p (nsl d p) i) p0 j0 0) i 1 p q l := by
      intro q l hq hl
      rw [P.2.2.2.2.2 q l hq hl]
      by_cases a : q = i ∧ l = 1
      · rw [if_pos a, u2, if_pos a]
      · rw [if_neg a, u2, if_neg a]; exact fs q l hq hl
    refine ⟨P.1.B, P.1.R, T.congr (qk_eq d e ek) es, Or.inr (by rw [P.2.1 _ (by omega) (by omega) (by omega)]; exact f11), fun _ => P.1.M, fun _ q hq hn => ?_⟩
    rw [ek q hq] at hn
    have q0 : q ≠ 0 := by intro z; rw [z] at hn; exact hn V.k00
    have c3 := ct_u2 (u2 (u2 (qs d) p (nsl d p) i) p0 j0 0) i 1 p q hi (by omega)
    have e3 : u2 (u2 (qs d) p (nsl d p) i) p0 j0 0 i 1 = p0 := by rw [← fs i 1 hi (by omega)]; exact fi1
    rw [e3, c12 q q0] at c3
    rw [ct_congr _ _ q es]
    have lq := V.L h1 q hq hn
    have hbq := E.B.dk.1 (32 + (16 * q) + 1)
    by_cases a : p0 = p
    · have := P.2.2.2.1 a
      subst a
      by_cases b : q = p0
      · subst b; rw [this, fl q hq]; omega
      · rw [P.2.1 _ (by omega) (by omega) (by omega), fl q hq]; omega
    · have := P.2.2.1 a
      by_cases b : q = p0
      · subst b
        rw [if_pos rfl, if_neg (fun z => a z.symm)] at c3
        rw [this.1, fl q hq]; omega
      · by_cases b' : q = p
        · subst b'
          have few := V.few h1 q hq hk
          rw [if_neg a, if_pos rfl] at c3
          rw [this.2, fl q hq]; omega
        · rw [if_neg (fun z => b z.symm), if_neg (fun z => b' z.symm)] at c3
          rw [P.2.1 _ (by omega) (by omega) (by omega), fl q hq]; omega
  · rw [if_neg kd]
    have T := V.T.mvfile p (nsl d p) i p0 j0 hp kp ns.1 ns.2.1 ns.2.2.2 hp0 h20 (by omega) hq0 hi (by rw [qk_lt d i hi]; omega)
    refine ⟨F.1.B, F.1.R, T.congr (qk_eq d f fk) fs, Or.inr f11, fun _ => F.1.M, fun _ q hq hn => ?_⟩
    rw [fk q hq] at hn
    have q0 : q ≠ 0 := by intro z; rw [z] at hn; exact hn V.k00
    rw [ct_congr _ _ q fs, c12 q q0, fl q hq]; exact V.L h1 q hq hn
