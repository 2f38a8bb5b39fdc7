theorem ab_W {e : Nat → Nat} (V : qV e) (T : gT) (N : Nat → Nat) (U : gU) (h11 : e 11 = 1) : ab e T N = (fw e T.1 T.2 U).1 ∧ ((fw e T.1 T.2 U).1 ≠ 0 → 1 ≤ (pP T.1 T.2 N).2.1 ∧ (pP T.1 T.2 N).1 = true ∧ ld e (pP T.1 T.2 N).2.2 ((pP T.1 T.2 N).2.1 - 1) = (fw e T.1 T.2 U).1 ∧
    fd e (fw e T.1 T.2 U).1 (fun q => (pP T.1 T.2 N).2.2 (7 * ((pP T.1 T.2 N).2.1 - 1) + q)) 2 (sn e (fw e T.1 T.2 U).1 - 2) = (fw e T.1 T.2 U).2.1 ∧ ∀ q, q < 7 → (fw e T.1 T.2 U).2.2.2 q = (pP T.1 T.2 N).2.2 (7 * ((pP T.1 T.2 N).2.1 - 1) + q)) := by
  have k00 := V.k00
  have h0 : e (32 + (16 * 0)) ≠ 2 := by omega
  have F := fw_P e T.1 T.2 U N h0
  cases hp : (pP T.1 T.2 N).1 with
  | false =>
    obtain ⟨a, b, c⟩ := F.2.1 hp
    refine ⟨?_, fun z => absurd a z⟩
    rw [ab_f k00 (fun z => by rw [hp] at z; exact Bool.noConfusion z.1.1), a]
  | true =>
    by_cases m0 : (pP T.1 T.2 N).2.1 = 0
    · obtain ⟨a, b, c⟩ := F.2.2.1 hp m0
      refine ⟨?_, fun z => absurd a z⟩
      rw [ab_f k00 (fun z => by have := z.1.2; omega), a]
    · have Q := F.2.2.2 hp m0
      have hj := aj_t (e := e) (T := T) (N := N) ⟨⟨hp, by omega⟩, h11⟩
      have hpar := Q.par
      have hslot := Q.slot
      have hnam := Q.nam
      by_cases k2 : e (32 + (16 * ld e (pP T.1 T.2 N).2.2 ((pP T.1 T.2 N).2.1 - 1))) = 2
      · rw [if_pos k2] at hpar hslot
        refine ⟨?_, fun _ => ⟨by omega, rfl, hpar.symm, by rw [hpar, hslot], hnam⟩⟩
        unfold ab
        rw [hj, if_pos k2, hpar]
      · rw [if_neg k2] at hpar hslot
        refine ⟨?_, fun z => absurd hpar z⟩
        unfold ab
        rw [hj, if_neg k2, hpar]
theorem fo_W {e : Nat → Nat} (V : qV e) (T : gT) (N : Nat → Nat) (U : gU) (h11 : e 11 = 1) : fo e T N = (fw e T.1 T.2 U).2.2.1 := by
  have k00 := V.k00
  have h0 : e (32 + (16 * 0)) ≠ 2 := by omega
  have F := fw_P e T.1 T.2 U N h0
  unfold fo
  cases hp : (pP T.1 T.2 N).1 with
  | false =>
    obtain ⟨a, b, c⟩ := F.2.1 hp
    rw [if_neg (fun z => Bool.noConfusion z.1), c]
  | true =>
    rw [if_pos ⟨rfl, h11⟩]
    by_cases m0 : (pP T.1 T.2 N).2.1 = 0
    · obtain ⟨a, b, c⟩ := F.2.2.1 hp m0
      rw [m0, c]; rfl
    · have Q := F.2.2.2 hp m0
      rw [Q.ino, show (pP T.1 T.2 N).2.1 - 1 + 1 = (pP T.1 T.2 N).2.1 by omega]
theorem wn_nm (a : Nat) (f g : Nat → Nat) (n : Nat) : ∀ (d : Nat → Nat) (k : Nat), (∀ q, k ≤ q → q < k + n → f q = g q) → wn a f d k n = wn a g d k n := by
  induction n with
  | zero => intro d k _; rfl
  | succ n ih => intro d k h; rw [wn, wn, h k (by omega) (by omega)]; exact ih _ _ (fun q h1 h2 => h q (by omega) (by omega))
theorem rA_nm (e : Nat → Nat) (p v : Nat) {f g : Nat → Nat} (h : ∀ q, q < 7 → f q = g q) : rA e p v f = rA e p v g := wn_nm _ _ _ 7 _ 0 (fun q _ h2 => h q (by omega))
theorem tf_le (e : Nat → Nat) (i : Nat) : tf e i ≤ 2 := by
  unfold tf
  split
  · split <;> omega
  · omega
theorem cf_1 {e : Nat → Nat} (h : bt e 1 0 = true) : cf e 1 0 16 = cf e 1 1 15 := by rw [show (16 : Nat) = 15 + 1 by rfl, cf, if_pos h, Nat.zero_add]
theorem cf_sk (e : Nat → Nat) (a n : Nat) : ∀ (j i : Nat), (∀ b, i ≤ b → b < i + j → bt e a b = true) → cf e a i (j + n) = cf e a (i + j) n := by
  intro j
  induction j with
  | zero => intro i _; rw [Nat.zero_add, Nat.add_zero]
  | succ j ih =>
    intro i h
    rw [show j + 1 + n = (j + n) + 1 by omega, cf, if_pos (h i (by omega) (by omega)), Nat.zero_add, ih (i + 1) (fun b h1 h2 => h b (by omega) (by omega)), show i + 1 + j = i + (j + 1) by omega]
theorem cf_3 {e : Nat → Nat} (h : ∀ b, b < 9 → bt e 3 b = true) : cf e 3 0 64 = cf e 3 9 55 := by
  have := cf_sk e 3 55 9 0 (fun b _ h2 => h b (by omega))
  rw [Nat.zero_add] at this
  exact this
theorem cf_b (e : Nat → Nat) (a n i : Nat) : cf e a i n < n + 1 := Nat.lt_succ_of_le (cf_le e a n i)
theorem rN_le (e : Nat → Nat) (p : Nat) : rN e p ≤ 99 := by
  unfold rN
  split
  · omega
  · split
    · omega
    · split <;> omega
theorem gD_new {e : Nat → Nat} {i : Nat} (hi : i < 16) (hz : ∀ k, 2 ≤ k → k < 16 → e (32 + (16 * i) + k) = 0) (h0 : lw e 3 9 55 ≠ 0) : gD (ss (fh e i 0) i 16) i := by
  have L := lw_spec e 3 55 9 h0
  have h4 : bo e i 0 = 0 := by rw [bo_lo _ _ _ (by omega)]; exact hz 4 (by omega) (by omega)
  have e1 : fh e i 0 = dp (tB e) (32 + (16 * i) + 4) (lw e 3 9 55) := by
    unfold fh f1
    rw [if_neg (by omega)]
    unfold f2
    rw [if_pos h4, eo_ea e i _ (by omega) (Or.inl (by omega))]
    have : ea e i 0 = 32 + (16 * i) + 4 := by unfold ea; rw [if_pos (by omega)]
    rw [this]; rfl
  have at_ : ∀ k, k < 16 → ss (fh e i 0) i 16 (32 + (16 * i) + k) = if k = 3 then 0 else if k = 2 then 16 else if k = 4 then lw e 3 9 55 else e (32 + (16 * i) + k) := by
    intro k hk
    rw [ss_at _ _ _ _ hi]
    by_cases a : k = 3
    · rw [if_pos (by omega), if_pos a]
    · rw [if_neg (by omega), if_neg a]
      by_cases b : k = 2
      · rw [if_pos (by omega), if_pos b]
      · rw [if_neg (by omega), if_neg b, e1]
        by_cases c : k = 4
        · rw [c, if_pos rfl, dp_at _ _ _ (by omega)]; omega
        · rw [dp_ne _ _ _ _ (by omega), if_neg c, tB_hi h0 _ (by omega) (by omega)]
  have z2 := at_ 2 (by omega)
  have z3 := at_ 3 (by omega)
  rw [if_neg (by omega), if_pos rfl] at z2
  rw [if_pos rfl] at z3
  have hs : sn (ss (fh e i 0) i 16) i = 2 := by
    unfold sn
    rw [z2, show 32 + (16 * i) + 2 + 1 = 32 + (16 * i) + 3 by omega, z3]; rfl
  refine ⟨hi, by rw [z2, z3, hs], by rw [hs]; omega, ?_, fun w hw => ?_⟩
  · rw [at_ 10 (by omega), if_neg (by omega), if_neg (by omega), if_neg (by omega), hz 10 (by omega) (by omega)]; omega
  · have := at_ (4 + w) (by omega)
    rw [← Nat.add_assoc] at this
    rw [this, if_neg (by omega), if_neg (by omega)]
    split
    · omega
    · have := hz (4 + w) (by omega) (by omega)
      rw [← Nat.add_assoc] at this
      rw [this]; omega
theorem m_createA {cm sm fr lo : Nat} {C : gC} {e : Nat → Nat} {P Q : gT} {m : Nat} {N : Nat → Nat} {R : gS} {t : Nat} {Z : mj_H} (hlo : 159 ≤ lo) (V : qV e) (hN : ∀ k, N k < 256) (ht : ∀ k, P.1 k < 65536) (hl : P.2 ≤ 40) {p m1 : Nat} {N1 : Nat → Nat} (hp0 : ab e P N = p) (hm0 : (pP P.1 P.2 N).2.1 = m1) (hN0 : (pP P.1 P.2 N).2.2 = N1) (h : ¬ tf e p = 0) : eE mm_P cm sm (fr + 8) lo 122 [.ref 23] (Wd C e P Q m N R t Z) (.inl (some (.int (nI 0))), (Wd C e (P.1, 0) Q m1 N1 R (tf e p) Z)) := by
  refine eE.of ?_
  have htf := tf_le e p
  refine eR.step 1 (F' := (1, [(0, .ref 23)], [.ref 23])) (h' := (Wd C e P Q m N R t Z)) (fun _ _ => rfl) ?_
  refine eR.call (k' := 123) (as := [.ref 23]) (rest := []) (v := some (.int (nI (ab e P N)))) (h1 := (Wd C e (P.1, 0) Q (pP P.1 P.2 N).2.1 (pP P.1 P.2 N).2.2 R (tf e (ab e P N)) Z)) rfl rfl rfl rfl (eg (Nat.le_of_ble_eq_true rfl) (show 23 ≤ lo by omega) (Nat.le_of_ble_eq_true rfl)) (m_above (show 136 ≤ lo - 23 by omega) V hN ht hl) ?_
  rw [hp0, hm0, hN0]
  refine eR.step 3 (F' := (9, [(0, .ref 23), (1, .int (nI (p)))], [.int (nI ((tf e p)))])) (h' := (Wd C e (P.1, 0) Q m1 N1 R (tf e p) Z)) (fun _ _ => rfl) ?_
  refine eR.ifc rfl true ((nc_ne (b := 0) (by omega) (by decide)).trans (decide_eq_true (by omega))) ?_
  refine eR.step 2 (F' := (65, [(0, .ref 23), (1, .int (nI (p)))], [.int (nI ((tf e p)))])) (h' := (Wd C e (P.1, 0) Q m1 N1 R (tf e p) Z)) (fun _ _ => rfl) ?_
  refine eR.ifc rfl false ((nc_eq (b := 0) (by omega) (by decide)).trans (decide_eq_false (by omega))) ?_
  refine eR.step 1 (F' := (69, [(0, .ref 23), (1, .int (nI (p)))], [.int (nI 0)])) (h' := (Wd C e (P.1, 0) Q m1 N1 R (tf e p) Z)) (fun _ _ => rfl) ?_
  exact eR.ret rfl rfl rfl
theorem m_createB1 {cm sm fr lo : Nat} {C : gC} {e : Nat → Nat} {P Q : gT} {m : Nat} {N : Nat → Nat} {R : gS} {t : Nat} {Z : mj_H} (hlo : 159 ≤ lo) (V : qV e) (hN : ∀ k, N k < 256) (ht : ∀ k, P.1 k < 65536) (hl : P.2 ≤ 40) {p m1 : Nat} {N1 : Nat → Nat} (hp0 : ab e P N = p) (hm0 : (pP P.1 P.2 N).2.1 = m1) (hN0 : (pP P.1 P.2 N).2.2 = N1) (h11 : e 11 = 1) (hpn : ¬ p = 0) (hm1 : 1 ≤ m1) (hm2 : m1 ≤ 20) (hN1 : ∀ k, N1 k < 256) (hp : p < 16) (hD : gD e p) (hF : ¬ fd e p (fun q => N1 (7 * (m1 - 1) + q)) 2 (sn e p - 2) = 0) : eE mm_P cm sm (fr + 8) lo 122 [.ref 23] (Wd C e P Q m N R t Z) (.inl (some (.int (nI 0))), (Wd C e (P.1, 0) Q m1 N1 R 1 Z)) := by
  refine eE.of ?_
  have htf := tf_le e p
  refine eR.step 1 (F' := (1, [(0, .ref 23)], [.ref 23])) (h' := (Wd C e P Q m N R t Z)) (fun _ _ => rfl) ?_
  refine eR.call (k' := 123) (as := [.ref 23]) (rest := []) (v := some (.int (nI (ab e P N)))) (h1 := (Wd C e (P.1, 0) Q (pP P.1 P.2 N).2.1 (pP P.1 P.2 N).2.2 R (tf e (ab e P N)) Z)) rfl rfl rfl rfl (eg (Nat.le_of_ble_eq_true rfl) (show 23 ≤ lo by omega) (Nat.le_of_ble_eq_true rfl)) (m_above (show 136 ≤ lo - 23 by omega) V hN ht hl) ?_
  rw [hp0, hm0, hN0]
  refine eR.step 3 (F' := (9, [(0, .ref 23), (1, .int (nI (p)))], [.int (nI ((tf e p)))])) (h' := (Wd C e (P.1, 0) Q m1 N1 R (tf e p) Z)) (fun _ _ => rfl) ?_
  rw [tf_0 h11 hpn]
  refine eR.ifc rfl false ((nc_ne (b := 0) (by omega) (by decide)).trans (decide_eq_false (by omega))) ?_
  refine eR.step 6 (F' := (20, [(0, .ref 23), (1, .int (nI (p)))], [.int (nI 1), .int (nI (m1)), .int (nI (p)), .ref 23, .ref 23])) (h' := (Wd C e (P.1, 0) Q m1 N1 R 0 Z)) (fun _ _ => rfl) ?_
  refine eR.nsub rfl (by omega) ?_
  refine eR.call (k' := 129) (as := [.ref 23, .int (nI (p)), .int (nI (m1 - 1))]) (rest := [.ref 23]) (v := some (.int (fi (fd e p (fun q => N1 (7 * (m1 - 1) + q)) 2 (sn e p - 2))))) (h1 := (Wd C e (P.1, 0) Q m1 N1 R 0 Z)) rfl rfl rfl rfl (eg (Nat.le_of_ble_eq_true rfl) (show 24 ≤ lo by omega) (Nat.le_of_ble_eq_true rfl)) (m_slotOf (show 88 ≤ lo - 24 by omega) V.B.dk hD (fun k => Nat.lt_trans (hN1 k) (by decide)) (by omega)) ?_
  have h5 := fd_24 hD.2.2.1 hF
  refine eR.ifc rfl true (mc_gin hF (by omega)) ?_
  refine eR.step 3 (F' := (58, [(0, .ref 23), (1, .int (nI (p)))], [.int (nI 1), .int (nI 1), .ref 23])) (h' := (Wd C e (P.1, 0) Q m1 N1 R 0 Z)) (fun _ _ => rfl) ?_
  refine eR.call (k' := 136) (as := [.ref 23, .int (nI 1), .int (nI 1)]) (rest := []) (v := none) (h1 := (Wd C e (P.1, 0) Q m1 N1 R (ri true 0 1) Z)) rfl rfl rfl rfl (eg (Nat.le_of_ble_eq_true rfl) (show 22 ≤ lo by omega) (Nat.le_of_ble_eq_true rfl)) (m_refIf (b := true) (show 21 ≤ lo - 22 by omega) (by decide)) ?_
  rw [show ri true 0 1 = 1 from rfl]
  refine eR.step 2 (F' := (65, [(0, .ref 23), (1, .int (nI (p)))], [.int (nI 1)])) (h' := (Wd C e (P.1, 0) Q m1 N1 R 1 Z)) (fun _ _ => rfl) ?_
  refine eR.ifc rfl false ((nc_eq (b := 0) (by omega) (by decide)).trans (decide_eq_false (by omega))) ?_
  refine eR.step 1 (F' := (69, [(0, .ref 23), (1, .int (nI (p)))], [.int (nI 0)])) (h' := (Wd C e (P.1, 0) Q m1 N1 R 1 Z)) (fun _ _ => rfl) ?_
  exact eR.ret rfl rfl rfl
theorem m_createB2 {cm sm fr lo : Nat} {C : gC} {e : Nat → Nat} {P Q : gT} {m : Nat} {N : Nat → Nat} {R : gS} {t : Nat} {Z : mj_H} (hlo : 159 ≤ lo) (V : qV e) (hN : ∀ k, N k < 256) (ht : ∀ k, P.1 k < 65536) (hl : P.2 ≤ 40) {p m1 : Nat} {N1 : Nat → Nat} (hp0 : ab e P N = p) (hm0 : (pP P.1 P.2 N).2.1 = m1) (hN0 : (pP P.1 P.2 N).2.2 = N1) (h11 : e 11 = 1) (hpn : ¬ p = 0) (hm1 : 1 ≤ m1) (hm2 : m1 ≤ 20) (hN1 : ∀ k, N1 k < 256) (hp : p < 16) (hD : gD e p) (hF : fd e p (fun q => N1 (7 * (m1 - 1) + q)) 2 (sn e p - 2) = 0) (hc : cf e 1 0 16 = 0) : eE mm_P cm sm (fr + 8) lo 122 [.ref 23] (Wd C e P Q m N R t Z) (.inl (some (.int (nI 0))), (Wd C e (P.1, 0) Q m1 N1 R 1 Z)) := by
  refine eE.of ?_
  have htf := tf_le e p
  refine eR.step 1 (F' := (1, [(0, .ref 23)], [.ref 23])) (h' := (Wd C e P Q m N R t Z)) (fun _ _ => rfl) ?_
  refine eR.call (k' := 123) (as := [.ref 23]) (rest := []) (v := some (.int (nI (ab e P N)))) (h1 := (Wd C e (P.1, 0) Q (pP P.1 P.2 N).2.1 (pP P.1 P.2 N).2.2 R (tf e (ab e P N)) Z)) rfl rfl rfl rfl (eg (Nat.le_of_ble_eq_true rfl) (show 23 ≤ lo by omega) (Nat.le_of_ble_eq_true rfl)) (m_above (show 136 ≤ lo - 23 by omega) V hN ht hl) ?_
  rw [hp0, hm0, hN0]
  refine eR.step 3 (F' := (9, [(0, .ref 23), (1, .int (nI (p)))], [.int (nI ((tf e p)))])) (h' := (Wd C e (P.1, 0) Q m1 N1 R (tf e p) Z)) (fun _ _ => rfl) ?_
  rw [tf_0 h11 hpn]
  refine eR.ifc rfl false ((nc_ne (b := 0) (by omega) (by decide)).trans (decide_eq_false (by omega))) ?_
  refine eR.step 6 (F' := (20, [(0, .ref 23), (1, .int (nI (p)))], [.int (nI 1), .int (nI (m1)), .int (nI (p)), .ref 23, .ref 23])) (h' := (Wd C e (P.1, 0) Q m1 N1 R 0 Z)) (fun _ _ => rfl) ?_
  refine eR.nsub rfl (by omega) ?_
  refine eR.call (k' := 129) (as := [.ref 23, .int (nI (p)), .int (nI (m1 - 1))]) (rest := [.ref 23]) (v := some (.int (fi (fd e p (fun q => N1 (7 * (m1 - 1) + q)) 2 (sn e p - 2))))) (h1 := (Wd C e (P.1, 0) Q m1 N1 R 0 Z)) rfl rfl rfl rfl (eg (Nat.le_of_ble_eq_true rfl) (show 24 ≤ lo by omega) (Nat.le_of_ble_eq_true rfl)) (m_slotOf (show 88 ≤ lo - 24 by omega) V.B.dk hD (fun k => Nat.lt_trans (hN1 k) (by decide)) (by omega)) ?_
  have hB1 := cf_b e 1 16 0
  refine eR.ifc rfl false (mc_gi0 hF) ?_
  refine eR.step 3 (F' := (31, [(0, .ref 23), (1, .int (nI (p)))], [.int (nI 16), .int (nI 1), .ref 23, .ref 23])) (h' := (Wd C e (P.1, 0) Q m1 N1 R 0 Z)) (fun _ _ => rfl) ?_
  refine eR.call (k' := 133) (as := [.ref 23, .int (nI 1), .int (nI 16)]) (rest := [.ref 23]) (v := some (.int (nI (cf e 1 0 16)))) (h1 := (Wd C e (P.1, 0) Q m1 N1 R 0 Z)) rfl rfl rfl rfl (eg (Nat.le_of_ble_eq_true rfl) (show 24 ≤ lo by omega) (Nat.le_of_ble_eq_true rfl)) (m_free (show 22 ≤ lo - 24 by omega) V.B.dk (by decide) (by decide)) ?_
  refine eR.ifc rfl true ((nc_eq (b := 0) (by omega) (by decide)).trans (decide_eq_true (by omega))) ?_
  refine eR.step 3 (F' := (58, [(0, .ref 23), (1, .int (nI (p)))], [.int (nI 1), .int (nI 1), .ref 23])) (h' := (Wd C e (P.1, 0) Q m1 N1 R 0 Z)) (fun _ _ => rfl) ?_
  refine eR.call (k' := 136) (as := [.ref 23, .int (nI 1), .int (nI 1)]) (rest := []) (v := none) (h1 := (Wd C e (P.1, 0) Q m1 N1 R (ri true 0 1) Z)) rfl rfl rfl rfl (eg (Nat.le_of_ble_eq_true rfl) (show 22 ≤ lo by omega) (Nat.le_of_ble_eq_true rfl)) (m_refIf (b := true) (show 21 ≤ lo - 22 by omega) (by decide)) ?_
  rw [show ri true 0 1 = 1 from rfl]
  refine eR.step 2 (F' := (65, [(0, .ref 23), (1, .int (nI (p)))], [.int (nI 1)])) (h' := (Wd C e (P.1, 0) Q m1 N1 R 1 Z)) (fun _ _ => rfl) ?_
  refine eR.ifc rfl false ((nc_eq (b := 0) (by omega) (by decide)).trans (decide_eq_false (by omega))) ?_
  refine eR.step 1 (F' := (69, [(0, .ref 23), (1, .int (nI (p)))], [.int (nI 0)])) (h' := (Wd C e (P.1, 0) Q m1 N1 R 1 Z)) (fun _ _ => rfl) ?_
  exact eR.ret rfl rfl rfl
theorem m_createB3 {cm sm fr lo : Nat} {C : gC} {e : Nat → Nat} {P Q : gT} {m : Nat} {N : Nat → Nat} {R : gS} {t : Nat} {Z : mj_H} (hlo : 159 ≤ lo) (V : qV e) (hN : ∀ k, N k < 256) (ht : ∀ k, P.1 k < 65536) (hl : P.2 ≤ 40) {p m1 : Nat} {N1 : Nat → Nat} (hp0 : ab e P N = p) (hm0 : (pP P.1 P.2 N).2.1 = m1) (hN0 : (pP P.1 P.2 N).2.2 = N1) (h11 : e 11 = 1) (hpn : ¬ p = 0) (hm1 : 1 ≤ m1) (hm2 : m1 ≤ 20) (hN1 : ∀ k, N1 k < 256) (hp : p < 16) (hD : gD e p) (hF : fd e p (fun q => N1 (7 * (m1 - 1) + q)) 2 (sn e p - 2) = 0) (hc : ¬ cf e 1 0 16 = 0) (hr : cf e 3 0 64 < rN e p) : eE mm_P cm sm (fr + 8) lo 122 [.ref 23] (Wd C e P Q m N R t Z) (.inl (some (.int (nI 0))), (Wd C e (P.1, 0) Q m1 N1 R 1 Z)) := by
  refine eE.of ?_
  have htf := tf_le e p
  refine eR.step 1 (F' := (1, [(0, .ref 23)], [.ref 23])) (h' := (Wd C e P Q m N R t Z)) (fun _ _ => rfl) ?_
  refine eR.call (k' := 123) (as := [.ref 23]) (rest := []) (v := some (.int (nI (ab e P N)))) (h1 := (Wd C e (P.1, 0) Q (pP P.1 P.2 N).2.1 (pP P.1 P.2 N).2.2 R (tf e (ab e P N)) Z)) rfl rfl rfl rfl (eg (Nat.le_of_ble_eq_true rfl) (show 23 ≤ lo by omega) (Nat.le_of_ble_eq_true rfl)) (m_above (show 136 ≤ lo - 23 by omega) V hN ht hl) ?_
  rw [hp0, hm0, hN0]
  refine eR.step 3 (F' := (9, [(0, .ref 23), (1, .int (nI (p)))], [.int (nI ((tf e p)))])) (h' := (Wd C e (P.1, 0) Q m1 N1 R (tf e p) Z)) (fun _ _ => rfl) ?_
  rw [tf_0 h11 hpn]
  refine eR.ifc rfl false ((nc_ne (b := 0) (by omega) (by decide)).trans (decide_eq_false (by omega))) ?_
  refine eR.step 6 (F' := (20, [(0, .ref 23), (1, .int (nI (p)))], [.int (nI 1), .int (nI (m1)), .int (nI (p)), .ref 23, .ref 23])) (h' := (Wd C e (P.1, 0) Q m1 N1 R 0 Z)) (fun _ _ => rfl) ?_
  refine eR.nsub rfl (by omega) ?_
  refine eR.call (k' := 129) (as := [.ref 23, .int (nI (p)), .int (nI (m1 - 1))]) (rest := [.ref 23]) (v := some (.int (fi (fd e p (fun q => N1 (7 * (m1 - 1) + q)) 2 (sn e p - 2))))) (h1 := (Wd C e (P.1, 0) Q m1 N1 R 0 Z)) rfl rfl rfl rfl (eg (Nat.le_of_ble_eq_true rfl) (show 24 ≤ lo by omega) (Nat.le_of_ble_eq_true rfl)) (m_slotOf (show 88 ≤ lo - 24 by omega) V.B.dk hD (fun k => Nat.lt_trans (hN1 k) (by decide)) (by omega)) ?_
  have hB1 := cf_b e 1 16 0
  refine eR.ifc rfl false (mc_gi0 hF) ?_
  refine eR.step 3 (F' := (31, [(0, .ref 23), (1, .int (nI (p)))], [.int (nI 16), .int (nI 1), .ref 23, .ref 23])) (h' := (Wd C e (P.1, 0) Q m1 N1 R 0 Z)) (fun _ _ => rfl) ?_
  refine eR.call (k' := 133) (as := [.ref 23, .int (nI 1), .int (nI 16)]) (rest := [.ref 23]) (v := some (.int (nI (cf e 1 0 16)))) (h1 := (Wd C e (P.1, 0) Q m1 N1 R 0 Z)) rfl rfl rfl rfl (eg (Nat.le_of_ble_eq_true rfl) (show 24 ≤ lo by omega) (Nat.le_of_ble_eq_true rfl)) (m_free (show 22 ≤ lo - 24 by omega) V.B.dk (by decide) (by decide)) ?_
  have hB3 := cf_b e 3 64 0
  have hR1 := rN_le e p
  refine eR.ifc rfl false ((nc_eq (b := 0) (by omega) (by decide)).trans (decide_eq_false (by omega))) ?_
  refine eR.step 2 (F' := (39, [(0, .ref 23), (1, .int (nI (p)))], [.int (nI (p)), .ref 23, .ref 23])) (h' := (Wd C e (P.1, 0) Q m1 N1 R 0 Z)) (fun _ _ => rfl) ?_
  refine eR.call (k' := 134) (as := [.ref 23, .int (nI (p))]) (rest := [.ref 23]) (v := some (.int (nI (rN e p)))) (h1 := (Wd C e (P.1, 0) Q m1 N1 R 0 Z)) rfl rfl rfl rfl (eg (Nat.le_of_ble_eq_true rfl) (show 21 ≤ lo by omega) (Nat.le_of_ble_eq_true rfl)) (m_room (show 110 ≤ lo - 21 by omega) V.B.dk hD) ?_
  refine eR.step 3 (F' := (46, [(0, .ref 23), (1, .int (nI (p)))], [.int (nI 64), .int (nI 3), .ref 23, .int (nI (rN e p)), .ref 23])) (h' := (Wd C e (P.1, 0) Q m1 N1 R 0 Z)) (fun _ _ => rfl) ?_
  refine eR.call (k' := 133) (as := [.ref 23, .int (nI 3), .int (nI 64)]) (rest := [.int (nI (rN e p)), .ref 23]) (v := some (.int (nI (cf e 3 0 64)))) (h1 := (Wd C e (P.1, 0) Q m1 N1 R 0 Z)) rfl rfl rfl rfl (eg (Nat.le_of_ble_eq_true rfl) (show 24 ≤ lo by omega) (Nat.le_of_ble_eq_true rfl)) (m_free (show 22 ≤ lo - 24 by omega) V.B.dk (by decide) (by decide)) ?_
  refine eR.icmp rfl false ((nc_le (by omega) (by omega)).trans (decide_eq_false (by omega))) ?_
  refine eR.step 3 (F' := (58, [(0, .ref 23), (1, .int (nI (p)))], [.int (nI 1), .int (nI 1), .ref 23])) (h' := (Wd C e (P.1, 0) Q m1 N1 R 0 Z)) (fun _ _ => rfl) ?_
  refine eR.call (k' := 136) (as := [.ref 23, .int (nI 1), .int (nI 1)]) (rest := []) (v := none) (h1 := (Wd C e (P.1, 0) Q m1 N1 R (ri true 0 1) Z)) rfl rfl rfl rfl (eg (Nat.le_of_ble_eq_true rfl) (show 22 ≤ lo by omega) (Nat.le_of_ble_eq_true rfl)) (m_refIf (b := true) (show 21 ≤ lo - 22 by omega) (by decide)) ?_
  rw [show ri true 0 1 = 1 from rfl]
  refine eR.step 2 (F' := (65, [(0, .ref 23), (1, .int (nI (p)))], [.int (nI 1)])) (h' := (Wd C e (P.1, 0) Q m1 N1 R 1 Z)) (fun _ _ => rfl) ?_
  refine eR.ifc rfl false ((nc_eq (b := 0) (by omega) (by decide)).trans (decide_eq_false (by omega))) ?_
  refine eR.step 1 (F' := (69, [(0, .ref 23), (1, .int (nI (p)))], [.int (nI 0)])) (h' := (Wd C e (P.1, 0) Q m1 N1 R 1 Z)) (fun _ _ => rfl) ?_
  exact eR.ret rfl rfl rfl
theorem m_create {cm sm fr lo : Nat} {C : gC} {e : Nat → Nat} {P Q : gT} {m : Nat} {N : Nat → Nat} {R : gS} {t : Nat} {Z : mj_H} (hlo : 159 ≤ lo) (V : qV e) (hN : ∀ k, N k < 256) (ht : ∀ k, P.1 k < 65536) (hl : P.2 ≤ 40) {p m1 : Nat} {N1 : Nat → Nat} (hp0 : ab e P N = p) (hm0 : (pP P.1 P.2 N).2.1 = m1) (hN0 : (pP P.1 P.2 N).2.2 = N1) (h11 : e 11 = 1) (hpn : ¬ p = 0) (hm1 : 1 ≤ m1) (hm2 : m1 ≤ 20) (hN1 : ∀ k, N1 k < 256) (hp : p < 16) (hD : gD e p) (hF : fd e p (fun q => N1 (7 * (m1 - 1) + q)) 2 (sn e p - 2) = 0) (hc : ¬ cf e 1 0 16 = 0) (hr : ¬ cf e 3 0 64 < rN e p) (h0 : lw e 1 1 15 ≠ 0) (E : qE (dp (ti e 1) (32 + (16 * (lw e 1 1 15)) + 1) 1)) (k2 : (dp (ti e 1) (32 + (16 * (lw e 1 1 15)) + 1) 1) (32 + (16 * p)) = 2) (hn : nsl (dp (ti e 1) (32 + (16 * (lw e 1 1 15)) + 1) 1) p ≠ 0) (hc2 : bw (dp (ti e 1) (32 + (16 * (lw e 1 1 15)) + 1) 1) p (nsl (dp (ti e 1) (32 + (16 * (lw e 1 1 15)) + 1) 1) p / 4) (nsl (dp (ti e 1) (32 + (16 * (lw e 1 1 15)) + 1) 1) p / 4) ≤ cf (dp (ti e 1) (32 + (16 * (lw e 1 1 15)) + 1) 1) 3 9 55) : eE mm_P cm sm (fr + 8) lo 122 [.ref 23] (Wd C e P Q m N R t Z) (.inl (some (.int (nI (lw e 1 1 15)))), (Wd C (rA (dp (ti e 1) (32 + (16 * (lw e 1 1 15)) + 1) 1) p (lw e 1 1 15) (fun q => N1 (7 * (m1 - 1) + q))) (P.1, 0) Q m1 N1 R 0 Z)) := by
  refine eE.of ?_
  have htf := tf_le e p
  refine eR.step 1 (F' := (1, [(0, .ref 23)], [.ref 23])) (h' := (Wd C e P Q m N R t Z)) (fun _ _ => rfl) ?_
  refine eR.call (k' := 123) (as := [.ref 23]) (rest := []) (v := some (.int (nI (ab e P N)))) (h1 := (Wd C e (P.1, 0) Q (pP P.1 P.2 N).2.1 (pP P.1 P.2 N).2.2 R (tf e (ab e P N)) Z)) rfl rfl rfl rfl (eg (Nat.le_of_ble_eq_true rfl) (show 23 ≤ lo by omega) (Nat.le_of_ble_eq_true rfl)) (m_above (show 136 ≤ lo - 23 by omega) V hN ht hl) ?_
  rw [hp0, hm0, hN0]
  refine eR.step 3 (F' := (9, [(0, .ref 23), (1, .int (nI (p)))], [.int (nI ((tf e p)))])) (h' := (Wd C e (P.1, 0) Q m1 N1 R (tf e p) Z)) (fun _ _ => rfl) ?_
  rw [tf_0 h11 hpn]
  refine eR.ifc rfl false ((nc_ne (b := 0) (by omega) (by decide)).trans (decide_eq_false (by omega))) ?_
  refine eR.step 6 (F' := (20, [(0, .ref 23), (1, .int (nI (p)))], [.int (nI 1), .int (nI (m1)), .int (nI (p)), .ref 23, .ref 23])) (h' := (Wd C e (P.1, 0) Q m1 N1 R 0 Z)) (fun _ _ => rfl) ?_
  refine eR.nsub rfl (by omega) ?_
  refine eR.call (k' := 129) (as := [.ref 23, .int (nI (p)), .int (nI (m1 - 1))]) (rest := [.ref 23]) (v := some (.int (fi (fd e p (fun q => N1 (7 * (m1 - 1) + q)) 2 (sn e p - 2))))) (h1 := (Wd C e (P.1, 0) Q m1 N1 R 0 Z)) rfl rfl rfl rfl (eg (Nat.le_of_ble_eq_true rfl) (show 24 ≤ lo by omega) (Nat.le_of_ble_eq_true rfl)) (m_slotOf (show 88 ≤ lo - 24 by omega) V.B.dk hD (fun k => Nat.lt_trans (hN1 k) (by decide)) (by omega)) ?_
  have hB1 := cf_b e 1 16 0
  refine eR.ifc rfl false (mc_gi0 hF) ?_
  refine eR.step 3 (F' := (31, [(0, .ref 23), (1, .int (nI (p)))], [.int (nI 16), .int (nI 1), .ref 23, .ref 23])) (h' := (Wd C e (P.1, 0) Q m1 N1 R 0 Z)) (fun _ _ => rfl) ?_
  refine eR.call (k' := 133) (as := [.ref 23, .int (nI 1), .int (nI 16)]) (rest := [.ref 23]) (v := some (.int (nI (cf e 1 0 16)))) (h1 := (Wd C e (P.1, 0) Q m1 N1 R 0 Z)) rfl rfl rfl rfl (eg (Nat.le_of_ble_eq_true rfl) (show 24 ≤ lo by omega) (Nat.le_of_ble_eq_true rfl)) (m_free (show 22 ≤ lo - 24 by omega) V.B.dk (by decide) (by decide)) ?_
  have hB3 := cf_b e 3 64 0
  have hR1 := rN_le e p
  refine eR.ifc rfl false ((nc_eq (b := 0) (by omega) (by decide)).trans (decide_eq_false (by omega))) ?_
  refine eR.step 2 (F' := (39, [(0, .ref 23), (1, .int (nI (p)))], [.int (nI (p)), .ref 23, .ref 23])) (h' := (Wd C e (P.1, 0) Q m1 N1 R 0 Z)) (fun _ _ => rfl) ?_
  refine eR.call (k' := 134) (as := [.ref 23, .int (nI (p))]) (rest := [.ref 23]) (v := some (.int (nI (rN e p)))) (h1 := (Wd C e (P.1, 0) Q m1 N1 R 0 Z)) rfl rfl rfl rfl (eg (Nat.le_of_ble_eq_true rfl) (show 21 ≤ lo by omega) (Nat.le_of_ble_eq_true rfl)) (m_room (show 110 ≤ lo - 21 by omega) V.B.dk hD) ?_
  refine eR.step 3 (F' := (46, [(0, .ref 23), (1, .int (nI (p)))], [.int (nI 64), .int (nI 3), .ref 23, .int (nI (rN e p)), .ref 23])) (h' := (Wd C e (P.1, 0) Q m1 N1 R 0 Z)) (fun _ _ => rfl) ?_
  refine eR.call (k' := 133) (as := [.ref 23, .int (nI 3), .int (nI 64)]) (rest := [.int (nI (rN e p)), .ref 23]) (v := some (.int (nI (cf e 3 0 64)))) (h1 := (Wd C e (P.1, 0) Q m1 N1 R 0 Z)) rfl rfl rfl rfl (eg (Nat.le_of_ble_eq_true rfl) (show 24 ≤ lo by omega) (Nat.le_of_ble_eq_true rfl)) (m_free (show 22 ≤ lo - 24 by omega) V.B.dk (by decide) (by decide)) ?_
  have L := lw_spec e 1 15 1 h0
  refine eR.icmp rfl true ((nc_le (by omega) (by omega)).trans (decide_eq_true (by omega))) ?_
  refine eR.step 2 (F' := (58, [(0, .ref 23), (1, .int (nI (p)))], [.int (nI 1), .int (nI 0), .ref 23])) (h' := (Wd C e (P.1, 0) Q m1 N1 R 0 Z)) (fun _ _ => rfl) ?_
  refine eR.call (k' := 136) (as := [.ref 23, .int (nI 0), .int (nI 1)]) (rest := []) (v := none) (h1 := (Wd C e (P.1, 0) Q m1 N1 R (ri false 0 1) Z)) rfl rfl rfl rfl (eg (Nat.le_of_ble_eq_true rfl) (show 22 ≤ lo by omega) (Nat.le_of_ble_eq_true rfl)) (m_refIf (b := false) (show 21 ≤ lo - 22 by omega) (by decide)) ?_
  rw [show ri false 0 1 = 0 from rfl]
  refine eR.step 2 (F' := (65, [(0, .ref 23), (1, .int (nI (p)))], [.int (nI 0)])) (h' := (Wd C e (P.1, 0) Q m1 N1 R 0 Z)) (fun _ _ => rfl) ?_
  refine eR.ifc rfl true ((nc_eq (b := 0) (by omega) (by decide)).trans (decide_eq_true (by omega))) ?_
  refine eR.step 3 (F' := (73, [(0, .ref 23), (1, .int (nI (p)))], [.int (nI 1), .int (nI 1), .ref 23])) (h' := (Wd C e (P.1, 0) Q m1 N1 R 0 Z)) (fun _ _ => rfl) ?_
  refine eR.call (k' := 108) (as := [.ref 23, .int (nI 1), .int (nI 1)]) (rest := []) (v := some (.int (nI (lw e 1 1 15)))) (h1 := (Wd C (dp (ti e 1) (32 + (16 * (lw e 1 1 15)) + 1) 1) (P.1, 0) Q m1 N1 R 0 Z)) rfl rfl rfl rfl (eg (Nat.le_of_ble_eq_true rfl) (show 23 ≤ lo by omega) (Nat.le_of_ble_eq_true rfl)) (m_newI (show 46 ≤ lo - 23 by omega) V.B.dk V.B.m1 h0 (by decide) (by decide)) ?_
  refine eR.step 4 (F' := (80, [(0, .ref 23), (1, .int (nI (p))), (2, .int (nI (lw e 1 1 15)))], [.int (nI (lw e 1 1 15)), .int (nI (p)), .ref 23])) (h' := (Wd C (dp (ti e 1) (32 + (16 * (lw e 1 1 15)) + 1) 1) (P.1, 0) Q m1 N1 R 0 Z)) (fun _ _ => rfl) ?_
  refine eR.call (k' := 138) (as := [.ref 23, .int (nI (p)), .int (nI (lw e 1 1 15))]) (rest := []) (v := none) (h1 := (Wd C (rA (dp (ti e 1) (32 + (16 * (lw e 1 1 15)) + 1) 1) p (lw e 1 1 15) (fun q => N1 (7 * (m1 - 1) + q))) (P.1, 0) Q m1 N1 R 0 Z)) rfl rfl rfl rfl (eg (Nat.le_of_ble_eq_true rfl) (show 25 ≤ lo by omega) (Nat.le_of_ble_eq_true rfl)) (m_addS (show 110 ≤ lo - 25 by omega) E hN1 hm1 hm2 hp k2 (by omega) hn hc2) ?_
  refine eR.step 1 (F' := (84, [(0, .ref 23), (1, .int (nI (p))), (2, .int (nI (lw e 1 1 15)))], [.int (nI (lw e 1 1 15))])) (h' := (Wd C (rA (dp (ti e 1) (32 + (16 * (lw e 1 1 15)) + 1) 1) p (lw e 1 1 15) (fun q => N1 (7 * (m1 - 1) + q))) (P.1, 0) Q m1 N1 R 0 Z)) (fun _ _ => rfl) ?_
  exact eR.ret rfl rfl rfl
theorem m_mkdirA {cm sm fr lo : Nat} {C : gC} {e : Nat → Nat} {P Q : gT} {m : Nat} {N : Nat → Nat} {R : gS} {t : Nat} {Z : mj_H} (hlo : 159 ≤ lo) (V : qV e) (hN : ∀ k, N k < 256) (ht : ∀ k, P.1 k < 65536) (hl : P.2 ≤ 40) {p m1 : Nat} {N1 : Nat → Nat} (hp0 : ab e P N = p) (hm0 : (pP P.1 P.2 N).2.1 = m1) (hN0 : (pP P.1 P.2 N).2.2 = N1) (h : ¬ tf e p = 0) : eE mm_P cm sm (fr + 8) lo 139 [.ref 23] (Wd C e P Q m N R t Z) (.inl (some (.int (nI 0))), (Wd C e (P.1, 0) Q m1 N1 R (tf e p) Z)) := by
  refine eE.of ?_
  have htf := tf_le e p
  refine eR.step 1 (F' := (1, [(0, .ref 23)], [.ref 23])) (h' := (Wd C e P Q m N R t Z)) (fun _ _ => rfl) ?_
  refine eR.call (k' := 123) (as := [.ref 23]) (rest := []) (v := some (.int (nI (ab e P N)))) (h1 := (Wd C e (P.1, 0) Q (pP P.1 P.2 N).2.1 (pP P.1 P.2 N).2.2 R (tf e (ab e P N)) Z)) rfl rfl rfl rfl (eg (Nat.le_of_ble_eq_true rfl) (show 23 ≤ lo by omega) (Nat.le_of_ble_eq_true rfl)) (m_above (show 136 ≤ lo - 23 by omega) V hN ht hl) ?_
  rw [hp0, hm0, hN0]
  refine eR.step 3 (F' := (9, [(0, .ref 23), (1, .int (nI (p)))], [.int (nI ((tf e p)))])) (h' := (Wd C e (P.1, 0) Q m1 N1 R (tf e p) Z)) (fun _ _ => rfl) ?_
  refine eR.ifc rfl true ((nc_ne (b := 0) (by omega) (by decide)).trans (decide_eq_true (by omega))) ?_
  refine eR.step 2 (F' := (67, [(0, .ref 23), (1, .int (nI (p)))], [.int (nI ((tf e p)))])) (h' := (Wd C e (P.1, 0) Q m1 N1 R (tf e p) Z)) (fun _ _ => rfl) ?_
  refine eR.ifc rfl false ((nc_eq (b := 0) (by omega) (by decide)).trans (decide_eq_false (by omega))) ?_
  refine eR.step 1 (F' := (71, [(0, .ref 23), (1, .int (nI (p)))], [.int (nI 0)])) (h' := (Wd C e (P.1, 0) Q m1 N1 R (tf e p) Z)) (fun _ _ => rfl) ?_
  exact eR.ret rfl rfl rfl
theorem m_mkdirB1 {cm sm fr lo : Nat} {C : gC} {e : Nat → Nat} {P Q : gT} {m : Nat} {N : Nat → Nat} {R : gS} {t : Nat} {Z : mj_H} (hlo : 159 ≤ lo) (V : qV e) (hN : ∀ k, N k < 256) (ht : ∀ k, P.1 k < 65536) (hl : P.2 ≤ 40) {p m1 : Nat} {N1 : Nat → Nat} (hp0 : ab e P N = p) (hm0 : (pP P.1 P.2 N).2.1 = m1) (hN0 : (pP P.1 P.2 N).2.2 = N1) (h11 : e 11 = 1) (hpn : ¬ p = 0) (hm1 : 1 ≤ m1) (hm2 : m1 ≤ 20) (hN1 : ∀ k, N1 k < 256) (hp : p < 16) (hD : gD e p) (hF : ¬ fd e p (fun q => N1 (7 * (m1 - 1) + q)) 2 (sn e p - 2) = 0) : eE mm_P cm sm (fr + 8) lo 139 [.ref 23] (Wd C e P Q m N R t Z) (.inl (some (.int (nI 0))), (Wd C e (P.1, 0) Q m1 N1 R 1 Z)) := by
  refine eE.of ?_
  have htf := tf_le e p
  refine eR.step 1 (F' := (1, [(0, .ref 23)], [.ref 23])) (h' := (Wd C e P Q m N R t Z)) (fun _ _ => rfl) ?_
  refine eR.call (k' := 123) (as := [.ref 23]) (rest := []) (v := some (.int (nI (ab e P N)))) (h1 := (Wd C e (P.1, 0) Q (pP P.1 P.2 N).2.1 (pP P.1 P.2 N).2.2 R (tf e (ab e P N)) Z)) rfl rfl rfl rfl (eg (Nat.le_of_ble_eq_true rfl) (show 23 ≤ lo by omega) (Nat.le_of_ble_eq_true rfl)) (m_above (show 136 ≤ lo - 23 by omega) V hN ht hl) ?_
  rw [hp0, hm0, hN0]
  refine eR.step 3 (F' := (9, [(0, .ref 23), (1, .int (nI (p)))], [.int (nI ((tf e p)))])) (h' := (Wd C e (P.1, 0) Q m1 N1 R (tf e p) Z)) (fun _ _ => rfl) ?_
  rw [tf_0 h11 hpn]
  refine eR.ifc rfl false ((nc_ne (b := 0) (by omega) (by decide)).trans (decide_eq_false (by omega))) ?_
  refine eR.step 6 (F' := (20, [(0, .ref 23), (1, .int (nI (p)))], [.int (nI 1), .int (nI (m1)), .int (nI (p)), .ref 23, .ref 23])) (h' := (Wd C e (P.1, 0) Q m1 N1 R 0 Z)) (fun _ _ => rfl) ?_
  refine eR.nsub rfl (by omega) ?_
  refine eR.call (k' := 129) (as := [.ref 23, .int (nI (p)), .int (nI (m1 - 1))]) (rest := [.ref 23]) (v := some (.int (fi (fd e p (fun q => N1 (7 * (m1 - 1) + q)) 2 (sn e p - 2))))) (h1 := (Wd C e (P.1, 0) Q m1 N1 R 0 Z)) rfl rfl rfl rfl (eg (Nat.le_of_ble_eq_true rfl) (show 24 ≤ lo by omega) (Nat.le_of_ble_eq_true rfl)) (m_slotOf (show 88 ≤ lo - 24 by omega) V.B.dk hD (fun k => Nat.lt_trans (hN1 k) (by decide)) (by omega)) ?_
  have h5 := fd_24 hD.2.2.1 hF
  refine eR.ifc rfl true (mc_gin hF (by omega)) ?_
  refine eR.step 3 (F' := (60, [(0, .ref 23), (1, .int (nI (p)))], [.int (nI 1), .int (nI 1), .ref 23])) (h' := (Wd C e (P.1, 0) Q m1 N1 R 0 Z)) (fun _ _ => rfl) ?_
  refine eR.call (k' := 136) (as := [.ref 23, .int (nI 1), .int (nI 1)]) (rest := []) (v := none) (h1 := (Wd C e (P.1, 0) Q m1 N1 R (ri true 0 1) Z)) rfl rfl rfl rfl (eg (Nat.le_of_ble_eq_true rfl) (show 22 ≤ lo by omega) (Nat.le_of_ble_eq_true rfl)) (m_refIf (b := true) (show 21 ≤ lo - 22 by omega) (by decide)) ?_
  rw [show ri true 0 1 = 1 from rfl]
  refine eR.step 2 (F' := (67, [(0, .ref 23), (1, .int (nI (p)))], [.int (nI 1)])) (h' := (Wd C e (P.1, 0) Q m1 N1 R 1 Z)) (fun _ _ => rfl) ?_
  refine eR.ifc rfl false ((nc_eq (b := 0) (by omega) (by decide)).trans (decide_eq_false (by omega))) ?_
  refine eR.step 1 (F' := (71, [(0, .ref 23), (1, .int (nI (p)))], [.int (nI 0)])) (h' := (Wd C e (P.1, 0) Q m1 N1 R 1 Z)) (fun _ _ => rfl) ?_
  exact eR.ret rfl rfl rfl
theorem m_mkdirB2 {cm sm fr lo : Nat} {C : gC} {e : Nat → Nat} {P Q : gT} {m : Nat} {N : Nat → Nat} {R : gS} {t : Nat} {Z : mj_H} (hlo : 159 ≤ lo) (V : qV e) (hN : ∀ k, N k < 256) (ht : ∀ k, P.1 k < 65536) (hl : P.2 ≤ 40) {p m1 : Nat} {N1 : Nat → Nat} (hp0 : ab e P N = p) (hm0 : (pP P.1 P.2 N).2.1 = m1) (hN0 : (pP P.1 P.2 N).2.2 = N1) (h11 : e 11 = 1) (hpn : ¬ p = 0) (hm1 : 1 ≤ m1) (hm2 : m1 ≤ 20) (hN1 : ∀ k, N1 k < 256) (hp : p < 16) (hD : gD e p) (hF : fd e p (fun q => N1 (7 * (m1 - 1) + q)) 2 (sn e p - 2) = 0) (hc : cf e 1 0 16 = 0) : eE mm_P cm sm (fr + 8) lo 139 [.ref 23] (Wd C e P Q m N R t Z) (.inl (some (.int (nI 0))), (Wd C e (P.1, 0) Q m1 N1 R 1 Z)) := by
  refine eE.of ?_
  have htf := tf_le e p
  refine eR.step 1 (F' := (1, [(0, .ref 23)], [.ref 23])) (h' := (Wd C e P Q m N R t Z)) (fun _ _ => rfl) ?_
  refine eR.call (k' := 123) (as := [.ref 23]) (rest := []) (v := some (.int (nI (ab e P N)))) (h1 := (Wd C e (P.1, 0) Q (pP P.1 P.2 N).2.1 (pP P.1 P.2 N).2.2 R (tf e (ab e P N)) Z)) rfl rfl rfl rfl (eg (Nat.le_of_ble_eq_true rfl) (show 23 ≤ lo by omega) (Nat.le_of_ble_eq_true rfl)) (m_above (show 136 ≤ lo - 23 by omega) V hN ht hl) ?_
  rw [hp0, hm0, hN0]
  refine eR.step 3 (F' := (9, [(0, .ref 23), (1, .int (nI (p)))], [.int (nI ((tf e p)))])) (h' := (Wd C e (P.1, 0) Q m1 N1 R (tf e p) Z)) (fun _ _ => rfl) ?_
  rw [tf_0 h11 hpn]
  refine eR.ifc rfl false ((nc_ne (b := 0) (by omega) (by decide)).trans (decide_eq_false (by omega))) ?_
  refine eR.step 6 (F' := (20, [(0, .ref 23), (1, .int (nI (p)))], [.int (nI 1), .int (nI (m1)), .int (nI (p)), .ref 23, .ref 23])) (h' := (Wd C e (P.1, 0) Q m1 N1 R 0 Z)) (fun _ _ => rfl) ?_
  refine eR.nsub rfl (by omega) ?_
  refine eR.call (k' := 129) (as := [.ref 23, .int (nI (p)), .int (nI (m1 - 1))]) (rest := [.ref 23]) (v := some (.int (fi (fd e p (fun q => N1 (7 * (m1 - 1) + q)) 2 (sn e p - 2))))) (h1 := (Wd C e (P.1, 0) Q m1 N1 R 0 Z)) rfl rfl rfl rfl (eg (Nat.le_of_ble_eq_true rfl) (show 24 ≤ lo by omega) (Nat.le_of_ble_eq_true rfl)) (m_slotOf (show 88 ≤ lo - 24 by omega) V.B.dk hD (fun k => Nat.lt_trans (hN1 k) (by decide)) (by omega)) ?_
  have hB1 := cf_b e 1 16 0
  refine eR.ifc rfl false (mc_gi0 hF) ?_
  refine eR.step 3 (F' := (31, [(0, .ref 23), (1, .int (nI (p)))], [.int (nI 16), .int (nI 1), .ref 23, .ref 23])) (h' := (Wd C e (P.1, 0) Q m1 N1 R 0 Z)) (fun _ _ => rfl) ?_
  refine eR.call (k' := 133) (as := [.ref 23, .int (nI 1), .int (nI 16)]) (rest := [.ref 23]) (v := some (.int (nI (cf e 1 0 16)))) (h1 := (Wd C e (P.1, 0) Q m1 N1 R 0 Z)) rfl rfl rfl rfl (eg (Nat.le_of_ble_eq_true rfl) (show 24 ≤ lo by omega) (Nat.le_of_ble_eq_true rfl)) (m_free (show 22 ≤ lo - 24 by omega) V.B.dk (by decide) (by decide)) ?_
  refine eR.ifc rfl true ((nc_eq (b := 0) (by omega) (by decide)).trans (decide_eq_true (by omega))) ?_
  refine eR.step 3 (F' := (60, [(0, .ref 23), (1, .int (nI (p)))], [.int (nI 1), .int (nI 1), .ref 23])) (h' := (Wd C e (P.1, 0) Q m1 N1 R 0 Z)) (fun _ _ => rfl) ?_
  refine eR.call (k' := 136) (as := [.ref 23, .int (nI 1), .int (nI 1)]) (rest := []) (v := none) (h1 := (Wd C e (P.1, 0) Q m1 N1 R (ri true 0 1) Z)) rfl rfl rfl rfl (eg (Nat.le_of_ble_eq_true rfl) (show 22 ≤ lo by omega) (Nat.le_of_ble_eq_true rfl)) (m_refIf (b := true) (show 21 ≤ lo - 22 by omega) (by decide)) ?_
  rw [show ri true 0 1 = 1 from rfl]
  refine eR.step 2 (F' := (67, [(0, .ref 23), (1, .int (nI (p)))], [.int (nI 1)])) (h' := (Wd C e (P.1, 0) Q m1 N1 R 1 Z)) (fun _ _ => rfl) ?_
  refine eR.ifc rfl false ((nc_eq (b := 0) (by omega) (by decide)).trans (decide_eq_false (by omega))) ?_
  refine eR.step 1 (F' := (71, [(0, .ref 23), (1, .int (nI (p)))], [.int (nI 0)])) (h' := (Wd C e (P.1, 0) Q m1 N1 R 1 Z)) (fun _ _ => rfl) ?_
  exact eR.ret rfl rfl rfl
theorem m_mkdirB3 {cm sm fr lo : Nat} {C : gC} {e : Nat → Nat} {P Q : gT} {m : Nat} {N : Nat → Nat} {R : gS} {t : Nat} {Z : mj_H} (hlo : 159 ≤ lo) (V : qV e) (hN : ∀ k, N k < 256) (ht : ∀ k, P.1 k < 65536) (hl : P.2 ≤ 40) {p m1 : Nat} {N1 : Nat → Nat} (hp0 : ab e P N = p) (hm0 : (pP P.1 P.2 N).2.1 = m1) (hN0 : (pP P.1 P.2 N).2.2 = N1) (h11 : e 11 = 1) (hpn : ¬ p = 0) (hm1 : 1 ≤ m1) (hm2 : m1 ≤ 20) (hN1 : ∀ k, N1 k < 256) (hp : p < 16) (hD : gD e p) (hF : fd e p (fun q => N1 (7 * (m1 - 1) + q)) 2 (sn e p - 2) = 0) (hc : ¬ cf e 1 0 16 = 0) (hr : cf e 3 0 64 < rN e p + 1) : eE mm_P cm sm (fr + 8) lo 139 [.ref 23] (Wd C e P Q m N R t Z) (.inl (some (.int (nI 0))), (Wd C e (P.1, 0) Q m1 N1 R 1 Z)) := by
  refine eE.of ?_
  have htf := tf_le e p
  refine eR.step 1 (F' := (1, [(0, .ref 23)], [.ref 23])) (h' := (Wd C e P Q m N R t Z)) (fun _ _ => rfl) ?_
  refine eR.call (k' := 123) (as := [.ref 23]) (rest := []) (v := some (.int (nI (ab e P N)))) (h1 := (Wd C e (P.1, 0) Q (pP P.1 P.2 N).2.1 (pP P.1 P.2 N).2.2 R (tf e (ab e P N)) Z)) rfl rfl rfl rfl (eg (Nat.le_of_ble_eq_true rfl) (show 23 ≤ lo by omega) (Nat.le_of_ble_eq_true rfl)) (m_above (show 136 ≤ lo - 23 by omega) V hN ht hl) ?_
  rw [hp0, hm0, hN0]
  refine eR.step 3 (F' := (9, [(0, .ref 23), (1, .int (nI (p)))], [.int (nI ((tf e p)))])) (h' := (Wd C e (P.1, 0) Q m1 N1 R (tf e p) Z)) (fun _ _ => rfl) ?_
  rw [tf_0 h11 hpn]
  refine eR.ifc rfl false ((nc_ne (b := 0) (by omega) (by decide)).trans (decide_eq_false (by omega))) ?_
  refine eR.step 6 (F' := (20, [(0, .ref 23), (1, .int (nI (p)))], [.int (nI 1), .int (nI (m1)), .int (nI (p)), .ref 23, .ref 23])) (h' := (Wd C e (P.1, 0) Q m1 N1 R 0 Z)) (fun _ _ => rfl) ?_
  refine eR.nsub rfl (by omega) ?_
  refine eR.call (k' := 129) (as := [.ref 23, .int (nI (p)), .int (nI (m1 - 1))]) (rest := [.ref 23]) (v := some (.int (fi (fd e p (fun q => N1 (7 * (m1 - 1) + q)) 2 (sn e p - 2))))) (h1 := (Wd C e (P.1, 0) Q m1 N1 R 0 Z)) rfl rfl rfl rfl (eg (Nat.le_of_ble_eq_true rfl) (show 24 ≤ lo by omega) (Nat.le_of_ble_eq_true rfl)) (m_slotOf (show 88 ≤ lo - 24 by omega) V.B.dk hD (fun k => Nat.lt_trans (hN1 k) (by decide)) (by omega)) ?_
  have hB1 := cf_b e 1 16 0
  refine eR.ifc rfl false (mc_gi0 hF) ?_
  refine eR.step 3 (F' := (31, [(0, .ref 23), (1, .int (nI (p)))], [.int (nI 16), .int (nI 1), .ref 23, .ref 23])) (h' := (Wd C e (P.1, 0) Q m1 N1 R 0 Z)) (fun _ _ => rfl) ?_
  refine eR.call (k' := 133) (as := [.ref 23, .int (nI 1), .int (nI 16)]) (rest := [.ref 23]) (v := some (.int (nI (cf e 1 0 16)))) (h1 := (Wd C e (P.1, 0) Q m1 N1 R 0 Z)) rfl rfl rfl rfl (eg (Nat.le_of_ble_eq_true rfl) (show 24 ≤ lo by omega) (Nat.le_of_ble_eq_true rfl)) (m_free (show 22 ≤ lo - 24 by omega) V.B.dk (by decide) (by decide)) ?_
  have hB3 := cf_b e 3 64 0
  have hR1 := rN_le e p
  refine eR.ifc rfl false ((nc_eq (b := 0) (by omega) (by decide)).trans (decide_eq_false (by omega))) ?_
  refine eR.step 2 (F' := (39, [(0, .ref 23), (1, .int (nI (p)))], [.int (nI (p)), .ref 23, .ref 23])) (h' := (Wd C e (P.1, 0) Q m1 N1 R 0 Z)) (fun _ _ => rfl) ?_
  refine eR.call (k' := 134) (as := [.ref 23, .int (nI (p))]) (rest := [.ref 23]) (v := some (.int (nI (rN e p)))) (h1 := (Wd C e (P.1, 0) Q m1 N1 R 0 Z)) rfl rfl rfl rfl (eg (Nat.le_of_ble_eq_true rfl) (show 21 ≤ lo by omega) (Nat.le_of_ble_eq_true rfl)) (m_room (show 110 ≤ lo - 21 by omega) V.B.dk hD) ?_
  refine eR.step 1 (F' := (43, [(0, .ref 23), (1, .int (nI (p)))], [.int (nI 1), .int (nI (rN e p)), .ref 23])) (h' := (Wd C e (P.1, 0) Q m1 N1 R 0 Z)) (fun _ _ => rfl) ?_
  refine eR.nadd rfl ?_
  refine eR.step 3 (F' := (48, [(0, .ref 23), (1, .int (nI (p)))], [.int (nI 64), .int (nI 3), .ref 23, .int (nI ((rN e p) + 1)), .ref 23])) (h' := (Wd C e (P.1, 0) Q m1 N1 R 0 Z)) (fun _ _ => rfl) ?_
  refine eR.call (k' := 133) (as := [.ref 23, .int (nI 3), .int (nI 64)]) (rest := [.int (nI ((rN e p) + 1)), .ref 23]) (v := some (.int (nI (cf e 3 0 64)))) (h1 := (Wd C e (P.1, 0) Q m1 N1 R 0 Z)) rfl rfl rfl rfl (eg (Nat.le_of_ble_eq_true rfl) (show 24 ≤ lo by omega) (Nat.le_of_ble_eq_true rfl)) (m_free (show 22 ≤ lo - 24 by omega) V.B.dk (by decide) (by decide)) ?_
  refine eR.icmp rfl false ((nc_le (by omega) (by omega)).trans (decide_eq_false (by omega))) ?_
  refine eR.step 3 (F' := (60, [(0, .ref 23), (1, .int (nI (p)))], [.int (nI 1), .int (nI 1), .ref 23])) (h' := (Wd C e (P.1, 0) Q m1 N1 R 0 Z)) (fun _ _ => rfl) ?_
  refine eR.call (k' := 136) (as := [.ref 23, .int (nI 1), .int (nI 1)]) (rest := []) (v := none) (h1 := (Wd C e (P.1, 0) Q m1 N1 R (ri true 0 1) Z)) rfl rfl rfl rfl (eg (Nat.le_of_ble_eq_true rfl) (show 22 ≤ lo by omega) (Nat.le_of_ble_eq_true rfl)) (m_refIf (b := true) (show 21 ≤ lo - 22 by omega) (by decide)) ?_
  rw [show ri true 0 1 = 1 from rfl]
  refine eR.step 2 (F' := (67, [(0, .ref 23), (1, .int (nI (p)))], [.int (nI 1)])) (h' := (Wd C e (P.1, 0) Q m1 N1 R 1 Z)) (fun _ _ => rfl) ?_
  refine eR.ifc rfl false ((nc_eq (b := 0) (by omega) (by decide)).trans (decide_eq_false (by omega))) ?_
  refine eR.step 1 (F' := (71, [(0, .ref 23), (1, .int (nI (p)))], [.int (nI 0)])) (h' := (Wd C e (P.1, 0) Q m1 N1 R 1 Z)) (fun _ _ => rfl) ?_
  exact eR.ret rfl rfl rfl
theorem m_mkdir {cm sm fr lo : Nat} {C : gC} {e : Nat → Nat} {P Q : gT} {m : Nat} {N : Nat → Nat} {R : gS} {t : Nat} {Z : mj_H} (hlo : 159 ≤ lo) (V : qV e) (hN : ∀ k, N k < 256) (ht : ∀ k, P.1 k < 65536) (hl : P.2 ≤ 40) {p m1 : Nat} {N1 : Nat → Nat} (hp0 : ab e P N = p) (hm0 : (pP P.1 P.2 N).2.1 = m1) (hN0 : (pP P.1 P.2 N).2.2 = N1) (h11 : e 11 = 1) (hpn : ¬ p = 0) (hm1 : 1 ≤ m1) (hm2 : m1 ≤ 20) (hN1 : ∀ k, N1 k < 256) (hp : p < 16) (hD : gD e p) (hF : fd e p (fun q => N1 (7 * (m1 - 1) + q)) 2 (sn e p - 2) = 0) (hc : ¬ cf e 1 0 16 = 0) (hr : ¬ cf e 3 0 64 < rN e p + 1) (h0 : lw e 1 1 15 ≠ 0) (gB : qB (dp (ti e 2) (32 + (16 * (lw e 1 1 15)) + 1) 2)) (gM : qM (dp (ti e 2) (32 + (16 * (lw e 1 1 15)) + 1) 2)) (hb : bo (dp (ti e 2) (32 + (16 * (lw e 1 1 15)) + 1) 2) (lw e 1 1 15) 0 = 0) (hcg : 1 ≤ cf (dp (ti e 2) (32 + (16 * (lw e 1 1 15)) + 1) 2) 3 9 55) (gN : gD (ss (fh (dp (ti e 2) (32 + (16 * (lw e 1 1 15)) + 1) 2) (lw e 1 1 15) 0) (lw e 1 1 15) 16) (lw e 1 1 15)) (E : qE (rF (dp (ti e 2) (32 + (16 * (lw e 1 1 15)) + 1) 2) (lw e 1 1 15) p)) (k2 : (rF (dp (ti e 2) (32 + (16 * (lw e 1 1 15)) + 1) 2) (lw e 1 1 15) p) (32 + (16 * p)) = 2) (hn : nsl (rF (dp (ti e 2) (32 + (16 * (lw e 1 1 15)) + 1) 2) (lw e 1 1 15) p) p ≠ 0) (hc2 : bw (rF (dp (ti e 2) (32 + (16 * (lw e 1 1 15)) + 1) 2) (lw e 1 1 15) p) p (nsl (rF (dp (ti e 2) (32 + (16 * (lw e 1 1 15)) + 1) 2) (lw e 1 1 15) p) p / 4) (nsl (rF (dp (ti e 2) (32 + (16 * (lw e 1 1 15)) + 1) 2) (lw e 1 1 15) p) p / 4) ≤ cf (rF (dp (ti e 2) (32 + (16 * (lw e 1 1 15)) + 1) 2) (lw e 1 1 15) p) 3 9 55) (hl2 : (rA (rF (dp (ti e 2) (32 + (16 * (lw e 1 1 15)) + 1) 2) (lw e 1 1 15) p) p (lw e 1 1 15) (fun q => N1 (7 * (m1 - 1) + q))) (32 + (16 * p) + 1) < 255) : eE mm_P cm sm (fr + 8) lo 139 [.ref 23] (Wd C e P Q m N R t Z) (.inl (some (.int (nI (lw e 1 1 15)))), (Wd C (al (rA (rF (dp (ti e 2) (32 + (16 * (lw e 1 1 15)) + 1) 2) (lw e 1 1 15) p) p (lw e 1 1 15) (fun q => N1 (7 * (m1 - 1) + q))) p 1) (P.1, 0) Q m1 N1 R 0 Z)) := by
  refine eE.of ?_
  have htf := tf_le e p
  refine eR.step 1 (F' := (1, [(0, .ref 23)], [.ref 23])) (h' := (Wd C e P Q m N R t Z)) (fun _ _ => rfl) ?_
  refine eR.call (k' := 123) (as := [.ref 23]) (rest := []) (v := some (.int (nI (ab e P N)))) (h1 := (Wd C e (P.1, 0) Q (pP P.1 P.2 N).2.1 (pP P.1 P.2 N).2.2 R (tf e (ab e P N)) Z)) rfl rfl rfl rfl (eg (Nat.le_of_ble_eq_true rfl) (show 23 ≤ lo by omega) (Nat.le_of_ble_eq_true rfl)) (m_above (show 136 ≤ lo - 23 by omega) V hN ht hl) ?_
  rw [hp0, hm0, hN0]
  refine eR.step 3 (F' := (9, [(0, .ref 23), (1, .int (nI (p)))], [.int (nI ((tf e p)))])) (h' := (Wd C e (P.1, 0) Q m1 N1 R (tf e p) Z)) (fun _ _ => rfl) ?_
  rw [tf_0 h11 hpn]
  refine eR.ifc rfl false ((nc_ne (b := 0) (by omega) (by decide)).trans (decide_eq_false (by omega))) ?_
  refine eR.step 6 (F' := (20, [(0, .ref 23), (1, .int (nI (p)))], [.int (nI 1), .int (nI (m1)), .int (nI (p)), .ref 23, .ref 23])) (h' := (Wd C e (P.1, 0) Q m1 N1 R 0 Z)) (fun _ _ => rfl) ?_
  refine eR.nsub rfl (by omega) ?_
  refine eR.call (k' := 129) (as := [.ref 23, .int (nI (p)), .int (nI (m1 - 1))]) (rest := [.ref 23]) (v := some (.int (fi (fd e p (fun q => N1 (7 * (m1 - 1) + q)) 2 (sn e p - 2))))) (h1 := (Wd C e (P.1, 0) Q m1 N1 R 0 Z)) rfl rfl rfl rfl (eg (Nat.le_of_ble_eq_true rfl) (show 24 ≤ lo by omega) (Nat.le_of_ble_eq_true rfl)) (m_slotOf (show 88 ≤ lo - 24 by omega) V.B.dk hD (fun k => Nat.lt_trans (hN1 k) (by decide)) (by omega)) ?_
  have hB1 := cf_b e 1 16 0
  refine eR.ifc rfl false (mc_gi0 hF) ?_
  refine eR.step 3 (F' := (31, [(0, .ref 23), (1, .int (nI (p)))], [.int (nI 16), .int (nI 1), .ref 23, .ref 23])) (h' := (Wd C e (P.1, 0) Q m1 N1 R 0 Z)) (fun _ _ => rfl) ?_
  refine eR.call (k' := 133) (as := [.ref 23, .int (nI 1), .int (nI 16)]) (rest := [.ref 23]) (v := some (.int (nI (cf e 1 0 16)))) (h1 := (Wd C e (P.1, 0) Q m1 N1 R 0 Z)) rfl rfl rfl rfl (eg (Nat.le_of_ble_eq_true rfl) (show 24 ≤ lo by omega) (Nat.le_of_ble_eq_true rfl)) (m_free (show 22 ≤ lo - 24 by omega) V.B.dk (by decide) (by decide)) ?_
  have hB3 := cf_b e 3 64 0
  have hR1 := rN_le e p
  refine eR.ifc rfl false ((nc_eq (b := 0) (by omega) (by decide)).trans (decide_eq_false (by omega))) ?_
  refine eR.step 2 (F' := (39, [(0, .ref 23), (1, .int (nI (p)))], [.int (nI (p)), .ref 23, .ref 23])) (h' := (Wd C e (P.1, 0) Q m1 N1 R 0 Z)) (fun _ _ => rfl) ?_
  refine eR.call (k' := 134) (as := [.ref 23, .int (nI (p))]) (rest := [.ref 23]) (v := some (.int (nI (rN e p)))) (h1 := (Wd C e (P.1, 0) Q m1 N1 R 0 Z)) rfl rfl rfl rfl (eg (Nat.le_of_ble_eq_true rfl) (show 21 ≤ lo by omega) (Nat.le_of_ble_eq_true rfl)) (m_room (show 110 ≤ lo - 21 by omega) V.B.dk hD) ?_
  refine eR.step 1 (F' := (43, [(0, .ref 23), (1, .int (nI (p)))], [.int (nI 1), .int (nI (rN e p)), .ref 23])) (h' := (Wd C e (P.1, 0) Q m1 N1 R 0 Z)) (fun _ _ => rfl) ?_
  refine eR.nadd rfl ?_
  refine eR.step 3 (F' := (48, [(0, .ref 23), (1, .int (nI (p)))], [.int (nI 64), .int (nI 3), .ref 23, .int (nI ((rN e p) + 1)), .ref 23])) (h' := (Wd C e (P.1, 0) Q m1 N1 R 0 Z)) (fun _ _ => rfl) ?_
  refine eR.call (k' := 133) (as := [.ref 23, .int (nI 3), .int (nI 64)]) (rest := [.int (nI ((rN e p) + 1)), .ref 23]) (v := some (.int (nI (cf e 3 0 64)))) (h1 := (Wd C e (P.1, 0) Q m1 N1 R 0 Z)) rfl rfl rfl rfl (eg (Nat.le_of_ble_eq_true rfl) (show 24 ≤ lo by omega) (Nat.le_of_ble_eq_true rfl)) (m_free (show 22 ≤ lo - 24 by omega) V.B.dk (by decide) (by decide)) ?_
  have L := lw_spec e 1 15 1 h0
  refine eR.icmp rfl true ((nc_le (by omega) (by omega)).trans (decide_eq_true (by omega))) ?_
  refine eR.step 2 (F' := (60, [(0, .ref 23), (1, .int (nI (p)))], [.int (nI 1), .int (nI 0), .ref 23])) (h' := (Wd C e (P.1, 0) Q m1 N1 R 0 Z)) (fun _ _ => rfl) ?_
  refine eR.call (k' := 136) (as := [.ref 23, .int (nI 0), .int (nI 1)]) (rest := []) (v := none) (h1 := (Wd C e (P.1, 0) Q m1 N1 R (ri false 0 1) Z)) rfl rfl rfl rfl (eg (Nat.le_of_ble_eq_true rfl) (show 22 ≤ lo by omega) (Nat.le_of_ble_eq_true rfl)) (m_refIf (b := false) (show 21 ≤ lo - 22 by omega) (by decide)) ?_
  rw [show ri false 0 1 = 0 from rfl]
  refine eR.step 2 (F' := (67, [(0, .ref 23), (1, .int (nI (p)))], [.int (nI 0)])) (h' := (Wd C e (P.1, 0) Q m1 N1 R 0 Z)) (fun _ _ => rfl) ?_
  refine eR.ifc rfl true ((nc_eq (b := 0) (by omega) (by decide)).trans (decide_eq_true (by omega))) ?_
  refine eR.step 3 (F' := (75, [(0, .ref 23), (1, .int (nI (p)))], [.int (nI 2), .int (nI 2), .ref 23])) (h' := (Wd C e (P.1, 0) Q m1 N1 R 0 Z)) (fun _ _ => rfl) ?_
  refine eR.call (k' := 108) (as := [.ref 23, .int (nI 2), .int (nI 2)]) (rest := []) (v := some (.int (nI (lw e 1 1 15)))) (h1 := (Wd C (dp (ti e 2) (32 + (16 * (lw e 1 1 15)) + 1) 2) (P.1, 0) Q m1 N1 R 0 Z)) rfl rfl rfl rfl (eg (Nat.le_of_ble_eq_true rfl) (show 23 ≤ lo by omega) (Nat.le_of_ble_eq_true rfl)) (m_newI (show 46 ≤ lo - 23 by omega) V.B.dk V.B.m1 h0 (by decide) (by decide)) ?_
  refine eR.step 4 (F' := (82, [(0, .ref 23), (1, .int (nI (p))), (2, .int (nI (lw e 1 1 15)))], [.int (nI (p)), .int (nI (lw e 1 1 15)), .ref 23])) (h' := (Wd C (dp (ti e 2) (32 + (16 * (lw e 1 1 15)) + 1) 2) (P.1, 0) Q m1 N1 R 0 Z)) (fun _ _ => rfl) ?_
  refine eR.call (k' := 112) (as := [.ref 23, .int (nI (lw e 1 1 15)), .int (nI (p))]) (rest := []) (v := none) (h1 := (Wd C (rF (dp (ti e 2) (32 + (16 * (lw e 1 1 15)) + 1) 2) (lw e 1 1 15) p) (P.1, 0) Q m1 N1 R 0 Z)) rfl rfl rfl rfl (eg (Nat.le_of_ble_eq_true rfl) (show 23 ≤ lo by omega) (Nat.le_of_ble_eq_true rfl)) (m_first (show 91 ≤ lo - 23 by omega) gB gM (by omega) hp hb hcg gN) ?_
  refine eR.step 3 (F' := (88, [(0, .ref 23), (1, .int (nI (p))), (2, .int (nI (lw e 1 1 15)))], [.int (nI (lw e 1 1 15)), .int (nI (p)), .ref 23])) (h' := (Wd C (rF (dp (ti e 2) (32 + (16 * (lw e 1 1 15)) + 1) 2) (lw e 1 1 15) p) (P.1, 0) Q m1 N1 R 0 Z)) (fun _ _ => rfl) ?_
  refine eR.call (k' := 138) (as := [.ref 23, .int (nI (p)), .int (nI (lw e 1 1 15))]) (rest := []) (v := none) (h1 := (Wd C (rA (rF (dp (ti e 2) (32 + (16 * (lw e 1 1 15)) + 1) 2) (lw e 1 1 15) p) p (lw e 1 1 15) (fun q => N1 (7 * (m1 - 1) + q))) (P.1, 0) Q m1 N1 R 0 Z)) rfl rfl rfl rfl (eg (Nat.le_of_ble_eq_true rfl) (show 25 ≤ lo by omega) (Nat.le_of_ble_eq_true rfl)) (m_addS (show 110 ≤ lo - 25 by omega) E hN1 hm1 hm2 hp k2 (by omega) hn hc2) ?_
  refine eR.step 3 (F' := (94, [(0, .ref 23), (1, .int (nI (p))), (2, .int (nI (lw e 1 1 15)))], [.int (nI 1), .int (nI (p)), .ref 23])) (h' := (Wd C (rA (rF (dp (ti e 2) (32 + (16 * (lw e 1 1 15)) + 1) 2) (lw e 1 1 15) p) p (lw e 1 1 15) (fun q => N1 (7 * (m1 - 1) + q))) (P.1, 0) Q m1 N1 R 0 Z)) (fun _ _ => rfl) ?_
  refine eR.call (k' := 140) (as := [.ref 23, .int (nI (p)), .int (nI 1)]) (rest := []) (v := none) (h1 := (Wd C (al (rA (rF (dp (ti e 2) (32 + (16 * (lw e 1 1 15)) + 1) 2) (lw e 1 1 15) p) p (lw e 1 1 15) (fun q => N1 (7 * (m1 - 1) + q))) p 1) (P.1, 0) Q m1 N1 R 0 Z)) rfl rfl rfl rfl (eg (Nat.le_of_ble_eq_true rfl) (show 22 ≤ lo by omega) (Nat.le_of_ble_eq_true rfl)) (m_addL (show 20 ≤ lo - 22 by omega) hp hl2) ?_
  refine eR.step 1 (F' := (98, [(0, .ref 23), (1, .int (nI (p))), (2, .int (nI (lw e 1 1 15)))], [.int (nI (lw e 1 1 15))])) (h' := (Wd C (al (rA (rF (dp (ti e 2) (32 + (16 * (lw e 1 1 15)) + 1) 2) (lw e 1 1 15) p) p (lw e 1 1 15) (fun q => N1 (7 * (m1 - 1) + q))) p 1) (P.1, 0) Q m1 N1 R 0 Z)) (fun _ _ => rfl) ?_
  exact eR.ret rfl rfl rfl

