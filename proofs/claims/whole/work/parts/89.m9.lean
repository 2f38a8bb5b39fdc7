theorem fn_step {d : Nat → Nat} (E : qE d) (i w n : Nat) (hi : i < 16) (hw : w + (n + 1) ≤ 38) (hk : d (32 + (16 * i)) = 1)
    (hc : (if 6 ≤ w + (n + 1) - 1 ∧ 0 < n + 1 ∧ d (32 + (16 * i) + 10) = 0 then 1 else 0) + ho d i w (n + 1) ≤ cf d 3 9 55) :
    ((if 6 ≤ w ∧ d (32 + (16 * i) + 10) = 0 then 1 else 0) + (if bo d i w = 0 then 1 else 0) ≤ cf d 3 9 55) ∧ qE (fh d i w) ∧ fh d i w (32 + (16 * i)) = 1 ∧
    (if 6 ≤ w + 1 + n - 1 ∧ 0 < n ∧ fh d i w (32 + (16 * i) + 10) = 0 then 1 else 0) + ho (fh d i w) i (w + 1) n ≤ cf (fh d i w) 3 9 55 := by
  rw [ho] at hc
  have h0 : (if 6 ≤ w ∧ d (32 + (16 * i) + 10) = 0 then 1 else 0) + (if bo d i w = 0 then 1 else 0) ≤ cf d 3 9 55 := by
    by_cases a : 6 ≤ w ∧ d (32 + (16 * i) + 10) = 0
    · rw [if_pos (by omega)] at hc; rw [if_pos a]; omega
    · rw [if_neg a]; omega
  have H := fh_file E i w hi (by omega) hk h0
  have hH := H.cf
  have hoe : ho (fh d i w) i (w + 1) n = ho d i (w + 1) n := by
    apply ho_ext
    intro v h1 h2
    rw [← qb_bo _ _ _ (by omega), ← qb_bo _ _ _ (by omega)]
    exact H.oth i v hi (by omega) (by omega) (by omega)
  refine ⟨h0, H.E, by rw [H.I.k i hi]; exact hk, ?_⟩
  rw [hoe]
  by_cases a : 6 ≤ w
  · have := H.ix1 a
    rw [qb_ix] at this
    rw [if_neg (by omega)]
    by_cases b : d (32 + (16 * i) + 10) = 0
    · rw [if_pos ⟨a, b⟩] at hH; rw [if_pos (by omega)] at hc; omega
    · rw [if_neg (by omega)] at hH hc; omega
  · have := H.ix0 (by omega)
    rw [qb_ix, qb_ix] at this
    rw [this]
    rw [if_neg (by omega)] at hH
    by_cases b : 6 ≤ w + 1 + n - 1 ∧ 0 < n ∧ d (32 + (16 * i) + 10) = 0
    · rw [if_pos b]; rw [if_pos (by omega)] at hc; omega
    · rw [if_neg b]; omega
theorem bw_ho {d : Nat → Nat} {i u v c : Nat} (hv : u ≤ v) (hc : c = v + 1 - u) (h : bw d i u v ≤ cf d 3 9 55) : (if 6 ≤ u + c - 1 ∧ 0 < c ∧ d (32 + (16 * i) + 10) = 0 then 1 else 0) + ho d i u c ≤ cf d 3 9 55 := by
  unfold bw at h
  rw [← hc] at h
  by_cases a : 6 ≤ v ∧ d (32 + (16 * i) + 10) = 0
  · rw [if_pos a] at h; rw [if_pos (by omega)]; exact h
  · rw [if_neg a] at h; rw [if_neg (by omega)]; exact h
theorem py_ref {e : Nat → Nat} {i f x : Nat} (h : bo e i (f / 32) ≠ 0) : dp e (32 * bo e i (f / 32) + f % 32) (x % 256) = py e i f x := by
  unfold py
  rw [if_neg h, Nat.mul_comm]
  funext k
  unfold dp
  rw [Nat.mod_mod]
def ki : Nat → Int32
  | 0 => -1
  | n + 1 => nI n
theorem ki_dec (n : Nat) (h : n < 2 ^ 20) : nI n + Int32.ofInt (-1) = ki n := by
  cases n with
  | zero => rfl
  | succ n =>
    show nI (n + 1) + Int32.ofInt (-1) = nI n
    have : Int32.ofInt (-1) = nI 4294967295 := by decide
    rw [this, na_add, nI_mm (by omega)]
    rfl
theorem mc_ki0 : mj_cmp .lt (ki 0) 0 = true := by decide
theorem mc_kin {n : Nat} (h : n < 2 ^ 31) : mj_cmp .lt (ki (n + 1)) 0 = false := (nc_lt (b := 0) h (by decide)).trans (decide_eq_false (by omega))
theorem pN_2 {e : Nat → Nat} {i w : Nat} (h : 6 ≤ w) (hx : e (32 + (16 * i) + 10) = 0) : pN e i w = 2 := by
  unfold pN
  rw [if_neg (fun z => z (bo_ix0 e i w h hx)), if_pos ⟨h, hx⟩]
theorem pN_le (e : Nat → Nat) (i w : Nat) : pN e i w ≤ 2 := by
  unfold pN
  split
  · omega
  · split <;> omega
theorem m_truncA {cm sm fr lo : Nat} {C : gC} {e : Nat → Nat} {P Q : gT} {m : Nat} {N : Nat → Nat} {R : gS} {t : Nat} {Z : mj_H} (hlo : 159 ≤ lo) (V : qV e) (hN : ∀ k, N k < 256) (ht : ∀ k, P.1 k < 65536) (hl : P.2 ≤ 40) {f m1 : Nat} {N1 : Nat → Nat} (hf0 : fo e P N = f) (hm0 : (pP P.1 P.2 N).2.1 = m1) (hN0 : (pP P.1 P.2 N).2.2 = N1) {x : Int32} (h : ¬ tf e f = 0) : eE mm_P cm sm (fr + 8) lo 156 [.ref 23, .int (x)] (Wd C e P Q m N R t Z) (.inl (some (.int (nI 0))), (Wd C e (P.1, 0) Q m1 N1 R (tf e f) Z)) := by
  refine eE.of ?_
  have htf := tf_le e f
  refine eR.step 2 (F' := (2, [(0, .ref 23), (1, .int (x))], [.int (nI 0), .ref 23])) (h' := (Wd C e P Q m N R t Z)) (fun _ _ => rfl) ?_
  refine eR.call (k' := 142) (as := [.ref 23, .int (nI 0)]) (rest := []) (v := some (.int (nI (fo e P N)))) (h1 := (Wd C e (P.1, 0) Q (pP P.1 P.2 N).2.1 (pP P.1 P.2 N).2.2 R (tf e (fo e P N)) Z)) rfl rfl rfl rfl (eg (Nat.le_of_ble_eq_true rfl) (show 23 ≤ lo by omega) (Nat.le_of_ble_eq_true rfl)) (m_found0 (show 136 ≤ lo - 23 by omega) V hN ht hl) ?_
  rw [hf0, hm0, hN0]
  refine eR.step 3 (F' := (10, [(0, .ref 23), (1, .int (x)), (2, .int (nI (f)))], [.int (nI ((tf e f)))])) (h' := (Wd C e (P.1, 0) Q m1 N1 R (tf e f) Z)) (fun _ _ => rfl) ?_
  refine eR.ifc rfl true ((nc_ne (b := 0) (by omega) (by decide)).trans (decide_eq_true (by omega))) ?_
  refine eR.step 2 (F' := (57, [(0, .ref 23), (1, .int (x)), (2, .int (nI (f)))], [.int (nI ((tf e f)))])) (h' := (Wd C e (P.1, 0) Q m1 N1 R (tf e f) Z)) (fun _ _ => rfl) ?_
  refine eR.ifc rfl false ((nc_eq (b := 0) (by omega) (by decide)).trans (decide_eq_false (by omega))) ?_
  refine eR.step 1 (F' := (61, [(0, .ref 23), (1, .int (x)), (2, .int (nI (f)))], [.int (nI 0)])) (h' := (Wd C e (P.1, 0) Q m1 N1 R (tf e f) Z)) (fun _ _ => rfl) ?_
  exact eR.ret rfl rfl rfl
theorem m_truncD {cm sm fr lo : Nat} {C : gC} {e : Nat → Nat} {P Q : gT} {m : Nat} {N : Nat → Nat} {R : gS} {t : Nat} {Z : mj_H} (hlo : 159 ≤ lo) (V : qV e) (hN : ∀ k, N k < 256) (ht : ∀ k, P.1 k < 65536) (hl : P.2 ≤ 40) {f m1 : Nat} {N1 : Nat → Nat} (hf0 : fo e P N = f) (hm0 : (pP P.1 P.2 N).2.1 = m1) (hN0 : (pP P.1 P.2 N).2.2 = N1) (h11 : e 11 = 1) (hfn : ¬ f = 0) (hf : f < 16) {x : Int32} (hk : e (32 + (16 * f)) = 2)  : eE mm_P cm sm (fr + 8) lo 156 [.ref 23, .int (x)] (Wd C e P Q m N R t Z) (.inl (some (.int (nI 0))), (Wd C e (P.1, 0) Q m1 N1 R 3 Z)) := by
  refine eE.of ?_
  have htf := tf_le e f
  refine eR.step 2 (F' := (2, [(0, .ref 23), (1, .int (x))], [.int (nI 0), .ref 23])) (h' := (Wd C e P Q m N R t Z)) (fun _ _ => rfl) ?_
  refine eR.call (k' := 142) (as := [.ref 23, .int (nI 0)]) (rest := []) (v := some (.int (nI (fo e P N)))) (h1 := (Wd C e (P.1, 0) Q (pP P.1 P.2 N).2.1 (pP P.1 P.2 N).2.2 R (tf e (fo e P N)) Z)) rfl rfl rfl rfl (eg (Nat.le_of_ble_eq_true rfl) (show 23 ≤ lo by omega) (Nat.le_of_ble_eq_true rfl)) (m_found0 (show 136 ≤ lo - 23 by omega) V hN ht hl) ?_
  rw [hf0, hm0, hN0]
  refine eR.step 3 (F' := (10, [(0, .ref 23), (1, .int (x)), (2, .int (nI (f)))], [.int (nI ((tf e f)))])) (h' := (Wd C e (P.1, 0) Q m1 N1 R (tf e f) Z)) (fun _ _ => rfl) ?_
  rw [tf_0 h11 hfn]
  refine eR.ifc rfl false ((nc_ne (b := 0) (by omega) (by decide)).trans (decide_eq_false (by omega))) ?_
  refine eR.step 3 (F' := (16, [(0, .ref 23), (1, .int (x)), (2, .int (nI (f)))], [.int (nI (f)), .ref 23, .ref 23])) (h' := (Wd C e (P.1, 0) Q m1 N1 R 0 Z)) (fun _ _ => rfl) ?_
  have h6 := V.B.dk.1 (32 + (16 * f))
  refine eR.call (k' := 128) (as := [.ref 23, .int (nI (f))]) (rest := [.ref 23]) (v := some (.int (nI (e (32 + (16 * f)))))) (h1 := (Wd C e (P.1, 0) Q m1 N1 R 0 Z)) rfl rfl rfl rfl (eg (Nat.le_of_ble_eq_true rfl) (show 21 ≤ lo by omega) (Nat.le_of_ble_eq_true rfl)) (m_kind (show 20 ≤ lo - 21 by omega) hf) ?_
  refine eR.step 1 (F' := (20, [(0, .ref 23), (1, .int (x)), (2, .int (nI (f)))], [.int (nI 2), .int (nI (e (32 + (16 * f)))), .ref 23])) (h' := (Wd C e (P.1, 0) Q m1 N1 R 0 Z)) (fun _ _ => rfl) ?_
  refine eR.icmp rfl false ((nc_ne (by omega) (by omega)).trans (decide_eq_false (by omega))) ?_
  refine eR.step 3 (F' := (29, [(0, .ref 23), (1, .int (x)), (2, .int (nI (f)))], [.int (nI 3), .int (nI 1), .ref 23])) (h' := (Wd C e (P.1, 0) Q m1 N1 R 0 Z)) (fun _ _ => rfl) ?_
  refine eR.call (k' := 136) (as := [.ref 23, .int (nI 1), .int (nI 3)]) (rest := []) (v := none) (h1 := (Wd C e (P.1, 0) Q m1 N1 R (ri true 0 3) Z)) rfl rfl rfl rfl (eg (Nat.le_of_ble_eq_true rfl) (show 22 ≤ lo by omega) (Nat.le_of_ble_eq_true rfl)) (m_refIf (b := true) (show 21 ≤ lo - 22 by omega) (by decide)) ?_
  rw [show ri true 0 3 = 3 from rfl]
  refine eR.step 2 (F' := (34, [(0, .ref 23), (1, .int (x)), (2, .int (nI (f)))], [.int (x), .ref 23])) (h' := (Wd C e (P.1, 0) Q m1 N1 R 3 Z)) (fun _ _ => rfl) ?_
  by_cases c1 : mj_cmp .lt x 0 = true
  · refine eR.ifc rfl true c1 ?_
    refine eR.step 3 (F' := (50, [(0, .ref 23), (1, .int (x)), (2, .int (nI (f)))], [.int (nI 4), .int (nI 1), .ref 23])) (h' := (Wd C e (P.1, 0) Q m1 N1 R 3 Z)) (fun _ _ => rfl) ?_
    refine eR.call (k' := 136) (as := [.ref 23, .int (nI 1), .int (nI 4)]) (rest := []) (v := none) (h1 := (Wd C e (P.1, 0) Q m1 N1 R (ri true 3 4) Z)) rfl rfl rfl rfl (eg (Nat.le_of_ble_eq_true rfl) (show 22 ≤ lo by omega) (Nat.le_of_ble_eq_true rfl)) (m_refIf (b := true) (show 21 ≤ lo - 22 by omega) (by decide)) ?_
    rw [show ri true 3 4 = 3 from rfl]
    refine eR.step 2 (F' := (57, [(0, .ref 23), (1, .int (x)), (2, .int (nI (f)))], [.int (nI 3)])) (h' := (Wd C e (P.1, 0) Q m1 N1 R 3 Z)) (fun _ _ => rfl) ?_
    refine eR.ifc rfl false ((nc_eq (b := 0) (by omega) (by decide)).trans (decide_eq_false (by omega))) ?_
    refine eR.step 1 (F' := (61, [(0, .ref 23), (1, .int (x)), (2, .int (nI (f)))], [.int (nI 0)])) (h' := (Wd C e (P.1, 0) Q m1 N1 R 3 Z)) (fun _ _ => rfl) ?_
    exact eR.ret rfl rfl rfl
  · refine eR.ifc rfl false (Bool.eq_false_iff.mpr c1) ?_
    refine eR.step 2 (F' := (41, [(0, .ref 23), (1, .int (x)), (2, .int (nI (f)))], [.int (nI 1216), .int (x), .ref 23])) (h' := (Wd C e (P.1, 0) Q m1 N1 R 3 Z)) (fun _ _ => rfl) ?_
    by_cases c2 : mj_cmp .le x (nI 1216) = true
    · refine eR.icmp rfl true c2 ?_
      refine eR.step 2 (F' := (50, [(0, .ref 23), (1, .int (x)), (2, .int (nI (f)))], [.int (nI 4), .int (nI 0), .ref 23])) (h' := (Wd C e (P.1, 0) Q m1 N1 R 3 Z)) (fun _ _ => rfl) ?_
      refine eR.call (k' := 136) (as := [.ref 23, .int (nI 0), .int (nI 4)]) (rest := []) (v := none) (h1 := (Wd C e (P.1, 0) Q m1 N1 R (ri false 3 4) Z)) rfl rfl rfl rfl (eg (Nat.le_of_ble_eq_true rfl) (show 22 ≤ lo by omega) (Nat.le_of_ble_eq_true rfl)) (m_refIf (b := false) (show 21 ≤ lo - 22 by omega) (by decide)) ?_
      rw [show ri false 3 4 = 3 from rfl]
      refine eR.step 2 (F' := (57, [(0, .ref 23), (1, .int (x)), (2, .int (nI (f)))], [.int (nI 3)])) (h' := (Wd C e (P.1, 0) Q m1 N1 R 3 Z)) (fun _ _ => rfl) ?_
      refine eR.ifc rfl false ((nc_eq (b := 0) (by omega) (by decide)).trans (decide_eq_false (by omega))) ?_
      refine eR.step 1 (F' := (61, [(0, .ref 23), (1, .int (x)), (2, .int (nI (f)))], [.int (nI 0)])) (h' := (Wd C e (P.1, 0) Q m1 N1 R 3 Z)) (fun _ _ => rfl) ?_
      exact eR.ret rfl rfl rfl
    · refine eR.icmp rfl false (Bool.eq_false_iff.mpr c2) ?_
      refine eR.step 3 (F' := (50, [(0, .ref 23), (1, .int (x)), (2, .int (nI (f)))], [.int (nI 4), .int (nI 1), .ref 23])) (h' := (Wd C e (P.1, 0) Q m1 N1 R 3 Z)) (fun _ _ => rfl) ?_
      refine eR.call (k' := 136) (as := [.ref 23, .int (nI 1), .int (nI 4)]) (rest := []) (v := none) (h1 := (Wd C e (P.1, 0) Q m1 N1 R (ri true 3 4) Z)) rfl rfl rfl rfl (eg (Nat.le_of_ble_eq_true rfl) (show 22 ≤ lo by omega) (Nat.le_of_ble_eq_true rfl)) (m_refIf (b := true) (show 21 ≤ lo - 22 by omega) (by decide)) ?_
      rw [show ri true 3 4 = 3 from rfl]
      refine eR.step 2 (F' := (57, [(0, .ref 23), (1, .int (x)), (2, .int (nI (f)))], [.int (nI 3)])) (h' := (Wd C e (P.1, 0) Q m1 N1 R 3 Z)) (fun _ _ => rfl) ?_
      refine eR.ifc rfl false ((nc_eq (b := 0) (by omega) (by decide)).trans (decide_eq_false (by omega))) ?_
      refine eR.step 1 (F' := (61, [(0, .ref 23), (1, .int (x)), (2, .int (nI (f)))], [.int (nI 0)])) (h' := (Wd C e (P.1, 0) Q m1 N1 R 3 Z)) (fun _ _ => rfl) ?_
      exact eR.ret rfl rfl rfl
theorem m_truncM {cm sm fr lo : Nat} {C : gC} {e : Nat → Nat} {P Q : gT} {m : Nat} {N : Nat → Nat} {R : gS} {t : Nat} {Z : mj_H} (hlo : 159 ≤ lo) (V : qV e) (hN : ∀ k, N k < 256) (ht : ∀ k, P.1 k < 65536) (hl : P.2 ≤ 40) {f m1 : Nat} {N1 : Nat → Nat} (hf0 : fo e P N = f) (hm0 : (pP P.1 P.2 N).2.1 = m1) (hN0 : (pP P.1 P.2 N).2.2 = N1) (h11 : e 11 = 1) (hfn : ¬ f = 0) (hf : f < 16) {x : Int32} (hx : x < 0) (hk : ¬ e (32 + (16 * f)) = 2)  : eE mm_P cm sm (fr + 8) lo 156 [.ref 23, .int (x)] (Wd C e P Q m N R t Z) (.inl (some (.int (nI 0))), (Wd C e (P.1, 0) Q m1 N1 R 4 Z)) := by
  refine eE.of ?_
  have htf := tf_le e f
  refine eR.step 2 (F' := (2, [(0, .ref 23), (1, .int (x))], [.int (nI 0), .ref 23])) (h' := (Wd C e P Q m N R t Z)) (fun _ _ => rfl) ?_
  refine eR.call (k' := 142) (as := [.ref 23, .int (nI 0)]) (rest := []) (v := some (.int (nI (fo e P N)))) (h1 := (Wd C e (P.1, 0) Q (pP P.1 P.2 N).2.1 (pP P.1 P.2 N).2.2 R (tf e (fo e P N)) Z)) rfl rfl rfl rfl (eg (Nat.le_of_ble_eq_true rfl) (show 23 ≤ lo by omega) (Nat.le_of_ble_eq_true rfl)) (m_found0 (show 136 ≤ lo - 23 by omega) V hN ht hl) ?_
  rw [hf0, hm0, hN0]
  refine eR.step 3 (F' := (10, [(0, .ref 23), (1, .int (x)), (2, .int (nI (f)))], [.int (nI ((tf e f)))])) (h' := (Wd C e (P.1, 0) Q m1 N1 R (tf e f) Z)) (fun _ _ => rfl) ?_
  rw [tf_0 h11 hfn]
  refine eR.ifc rfl false ((nc_ne (b := 0) (by omega) (by decide)).trans (decide_eq_false (by omega))) ?_
  refine eR.step 3 (F' := (16, [(0, .ref 23), (1, .int (x)), (2, .int (nI (f)))], [.int (nI (f)), .ref 23, .ref 23])) (h' := (Wd C e (P.1, 0) Q m1 N1 R 0 Z)) (fun _ _ => rfl) ?_
  have h6 := V.B.dk.1 (32 + (16 * f))
  refine eR.call (k' := 128) (as := [.ref 23, .int (nI (f))]) (rest := [.ref 23]) (v := some (.int (nI (e (32 + (16 * f)))))) (h1 := (Wd C e (P.1, 0) Q m1 N1 R 0 Z)) rfl rfl rfl rfl (eg (Nat.le_of_ble_eq_true rfl) (show 21 ≤ lo by omega) (Nat.le_of_ble_eq_true rfl)) (m_kind (show 20 ≤ lo - 21 by omega) hf) ?_
  refine eR.step 1 (F' := (20, [(0, .ref 23), (1, .int (x)), (2, .int (nI (f)))], [.int (nI 2), .int (nI (e (32 + (16 * f)))), .ref 23])) (h' := (Wd C e (P.1, 0) Q m1 N1 R 0 Z)) (fun _ _ => rfl) ?_
  refine eR.icmp rfl true ((nc_ne (by omega) (by omega)).trans (decide_eq_true (by omega))) ?_
  refine eR.step 2 (F' := (29, [(0, .ref 23), (1, .int (x)), (2, .int (nI (f)))], [.int (nI 3), .int (nI 0), .ref 23])) (h' := (Wd C e (P.1, 0) Q m1 N1 R 0 Z)) (fun _ _ => rfl) ?_
  refine eR.call (k' := 136) (as := [.ref 23, .int (nI 0), .int (nI 3)]) (rest := []) (v := none) (h1 := (Wd C e (P.1, 0) Q m1 N1 R (ri false 0 3) Z)) rfl rfl rfl rfl (eg (Nat.le_of_ble_eq_true rfl) (show 22 ≤ lo by omega) (Nat.le_of_ble_eq_true rfl)) (m_refIf (b := false) (show 21 ≤ lo - 22 by omega) (by decide)) ?_
  rw [show ri false 0 3 = 0 from rfl]
  refine eR.step 2 (F' := (34, [(0, .ref 23), (1, .int (x)), (2, .int (nI (f)))], [.int (x), .ref 23])) (h' := (Wd C e (P.1, 0) Q m1 N1 R 0 Z)) (fun _ _ => rfl) ?_
  refine eR.ifc rfl true (decide_eq_true hx) ?_
  refine eR.step 3 (F' := (50, [(0, .ref 23), (1, .int (x)), (2, .int (nI (f)))], [.int (nI 4), .int (nI 1), .ref 23])) (h' := (Wd C e (P.1, 0) Q m1 N1 R 0 Z)) (fun _ _ => rfl) ?_
  refine eR.call (k' := 136) (as := [.ref 23, .int (nI 1), .int (nI 4)]) (rest := []) (v := none) (h1 := (Wd C e (P.1, 0) Q m1 N1 R (ri true 0 4) Z)) rfl rfl rfl rfl (eg (Nat.le_of_ble_eq_true rfl) (show 22 ≤ lo by omega) (Nat.le_of_ble_eq_true rfl)) (m_refIf (b := true) (show 21 ≤ lo - 22 by omega) (by decide)) ?_
  rw [show ri true 0 4 = 4 from rfl]
  refine eR.step 2 (F' := (57, [(0, .ref 23), (1, .int (x)), (2, .int (nI (f)))], [.int (nI 4)])) (h' := (Wd C e (P.1, 0) Q m1 N1 R 4 Z)) (fun _ _ => rfl) ?_
  refine eR.ifc rfl false ((nc_eq (b := 0) (by omega) (by decide)).trans (decide_eq_false (by omega))) ?_
  refine eR.step 1 (F' := (61, [(0, .ref 23), (1, .int (x)), (2, .int (nI (f)))], [.int (nI 0)])) (h' := (Wd C e (P.1, 0) Q m1 N1 R 4 Z)) (fun _ _ => rfl) ?_
  exact eR.ret rfl rfl rfl
theorem m_truncB {cm sm fr lo : Nat} {C : gC} {e : Nat → Nat} {P Q : gT} {m : Nat} {N : Nat → Nat} {R : gS} {t : Nat} {Z : mj_H} (hlo : 159 ≤ lo) (V : qV e) (hN : ∀ k, N k < 256) (ht : ∀ k, P.1 k < 65536) (hl : P.2 ≤ 40) {f m1 : Nat} {N1 : Nat → Nat} (hf0 : fo e P N = f) (hm0 : (pP P.1 P.2 N).2.1 = m1) (hN0 : (pP P.1 P.2 N).2.2 = N1) (h11 : e 11 = 1) (hfn : ¬ f = 0) (hf : f < 16) {s : Nat} (hs : s < 2 ^ 31) (h3 : 1216 < s) (hk : ¬ e (32 + (16 * f)) = 2)  : eE mm_P cm sm (fr + 8) lo 156 [.ref 23, .int (nI (s))] (Wd C e P Q m N R t Z) (.inl (some (.int (nI 0))), (Wd C e (P.1, 0) Q m1 N1 R 4 Z)) := by
  refine eE.of ?_
  have htf := tf_le e f
  refine eR.step 2 (F' := (2, [(0, .ref 23), (1, .int (nI (s)))], [.int (nI 0), .ref 23])) (h' := (Wd C e P Q m N R t Z)) (fun _ _ => rfl) ?_
  refine eR.call (k' := 142) (as := [.ref 23, .int (nI 0)]) (rest := []) (v := some (.int (nI (fo e P N)))) (h1 := (Wd C e (P.1, 0) Q (pP P.1 P.2 N).2.1 (pP P.1 P.2 N).2.2 R (tf e (fo e P N)) Z)) rfl rfl rfl rfl (eg (Nat.le_of_ble_eq_true rfl) (show 23 ≤ lo by omega) (Nat.le_of_ble_eq_true rfl)) (m_found0 (show 136 ≤ lo - 23 by omega) V hN ht hl) ?_
  rw [hf0, hm0, hN0]
  refine eR.step 3 (F' := (10, [(0, .ref 23), (1, .int (nI (s))), (2, .int (nI (f)))], [.int (nI ((tf e f)))])) (h' := (Wd C e (P.1, 0) Q m1 N1 R (tf e f) Z)) (fun _ _ => rfl) ?_
  rw [tf_0 h11 hfn]
  refine eR.ifc rfl false ((nc_ne (b := 0) (by omega) (by decide)).trans (decide_eq_false (by omega))) ?_
  refine eR.step 3 (F' := (16, [(0, .ref 23), (1, .int (nI (s))), (2, .int (nI (f)))], [.int (nI (f)), .ref 23, .ref 23])) (h' := (Wd C e (P.1, 0) Q m1 N1 R 0 Z)) (fun _ _ => rfl) ?_
  have h6 := V.B.dk.1 (32 + (16 * f))
  refine eR.call (k' := 128) (as := [.ref 23, .int (nI (f))]) (rest := [.ref 23]) (v := some (.int (nI (e (32 + (16 * f)))))) (h1 := (Wd C e (P.1, 0) Q m1 N1 R 0 Z)) rfl rfl rfl rfl (eg (Nat.le_of_ble_eq_true rfl) (show 21 ≤ lo by omega) (Nat.le_of_ble_eq_true rfl)) (m_kind (show 20 ≤ lo - 21 by omega) hf) ?_
  refine eR.step 1 (F' := (20, [(0, .ref 23), (1, .int (nI (s))), (2, .int (nI (f)))], [.int (nI 2), .int (nI (e (32 + (16 * f)))), .ref 23])) (h' := (Wd C e (P.1, 0) Q m1 N1 R 0 Z)) (fun _ _ => rfl) ?_
  refine eR.icmp rfl true ((nc_ne (by omega) (by omega)).trans (decide_eq_true (by omega))) ?_
  refine eR.step 2 (F' := (29, [(0, .ref 23), (1, .int (nI (s))), (2, .int (nI (f)))], [.int (nI 3), .int (nI 0), .ref 23])) (h' := (Wd C e (P.1, 0) Q m1 N1 R 0 Z)) (fun _ _ => rfl) ?_
  refine eR.call (k' := 136) (as := [.ref 23, .int (nI 0), .int (nI 3)]) (rest := []) (v := none) (h1 := (Wd C e (P.1, 0) Q m1 N1 R (ri false 0 3) Z)) rfl rfl rfl rfl (eg (Nat.le_of_ble_eq_true rfl) (show 22 ≤ lo by omega) (Nat.le_of_ble_eq_true rfl)) (m_refIf (b := false) (show 21 ≤ lo - 22 by omega) (by decide)) ?_
  rw [show ri false 0 3 = 0 from rfl]
  refine eR.step 2 (F' := (34, [(0, .ref 23), (1, .int (nI (s))), (2, .int (nI (f)))], [.int (nI (s)), .ref 23])) (h' := (Wd C e (P.1, 0) Q m1 N1 R 0 Z)) (fun _ _ => rfl) ?_
  refine eR.ifc rfl false ((nc_lt (b := 0) (by omega) (by decide)).trans (decide_eq_false (by omega))) ?_
  refine eR.step 2 (F' := (41, [(0, .ref 23), (1, .int (nI (s))), (2, .int (nI (f)))], [.int (nI 1216), .int (nI (s)), .ref 23])) (h' := (Wd C e (P.1, 0) Q m1 N1 R 0 Z)) (fun _ _ => rfl) ?_
  refine eR.icmp rfl false ((nc_le (by omega) (by omega)).trans (decide_eq_false (by omega))) ?_
  refine eR.step 3 (F' := (50, [(0, .ref 23), (1, .int (nI (s))), (2, .int (nI (f)))], [.int (nI 4), .int (nI 1), .ref 23])) (h' := (Wd C e (P.1, 0) Q m1 N1 R 0 Z)) (fun _ _ => rfl) ?_
  refine eR.call (k' := 136) (as := [.ref 23, .int (nI 1), .int (nI 4)]) (rest := []) (v := none) (h1 := (Wd C e (P.1, 0) Q m1 N1 R (ri true 0 4) Z)) rfl rfl rfl rfl (eg (Nat.le_of_ble_eq_true rfl) (show 22 ≤ lo by omega) (Nat.le_of_ble_eq_true rfl)) (m_refIf (b := true) (show 21 ≤ lo - 22 by omega) (by decide)) ?_
  rw [show ri true 0 4 = 4 from rfl]
  refine eR.step 2 (F' := (57, [(0, .ref 23), (1, .int (nI (s))), (2, .int (nI (f)))], [.int (nI 4)])) (h' := (Wd C e (P.1, 0) Q m1 N1 R 4 Z)) (fun _ _ => rfl) ?_
  refine eR.ifc rfl false ((nc_eq (b := 0) (by omega) (by decide)).trans (decide_eq_false (by omega))) ?_
  refine eR.step 1 (F' := (61, [(0, .ref 23), (1, .int (nI (s))), (2, .int (nI (f)))], [.int (nI 0)])) (h' := (Wd C e (P.1, 0) Q m1 N1 R 4 Z)) (fun _ _ => rfl) ?_
  exact eR.ret rfl rfl rfl
theorem l_trM {cm sm fr lo : Nat} {C : gC} {P Q : gT} {m : Nat} {N : Nat → Nat} {R : gS} {t : Nat} {Z : mj_H} {g : Nat → Nat} (hg : dk g) {f s z b k0 : Nat} (hb : b < 64) (hb0 : b ≠ 0) (hk0 : k0 ≤ 32) {r : mj_O × mj_H} : ∀ (q j : Nat), k0 + j + q = 32 → eR mm_P cm sm fr lo 156 (140, [(0, .ref 23), (1, .int (nI (s))), (2, .int (nI (f))), (3, .int (nI (z))), (4, .int (nI (b))), (5, .int (nI 32))], []) (Wd C (cz g (32 * b + k0) (32 - k0)) P Q m N R t Z) r → eR mm_P cm sm fr lo 156 (108, [(0, .ref 23), (1, .int (nI (s))), (2, .int (nI (f))), (3, .int (nI (z))), (4, .int (nI (b))), (5, .int (nI (k0 + j)))], []) (Wd C (cz g (32 * b + k0) j) P Q m N R t Z) r
  | 0, j, h1, w => by
    have e0 : j = 32 - k0 := by omega
    subst e0
    rw [show k0 + (32 - k0) = 32 by omega]
    refine eR.step 2 (F' := (112, [(0, .ref 23), (1, .int (nI (s))), (2, .int (nI (f))), (3, .int (nI (z))), (4, .int (nI (b))), (5, .int (nI 32))], [.int (nI 32), .int (nI 32)])) (h' := (Wd C (cz g (32 * b + k0) (32 - k0)) P Q m N R t Z)) (fun _ _ => rfl) ?_
    refine eR.icmp rfl true ((nc_ge (by omega) (by omega)).trans (decide_eq_true (by omega))) ?_
    exact w
  | q + 1, j, h1, w => by
    refine eR.step 2 (F' := (112, [(0, .ref 23), (1, .int (nI (s))), (2, .int (nI (f))), (3, .int (nI (z))), (4, .int (nI (b))), (5, .int (nI (k0 + j)))], [.int (nI 32), .int (nI (k0 + j))])) (h' := (Wd C (cz g (32 * b + k0) j) P Q m N R t Z)) (fun _ _ => rfl) ?_
    refine eR.icmp rfl false ((nc_ge (by omega) (by omega)).trans (decide_eq_false (by omega))) ?_
    refine eR.step 1 (F' := (117, [(0, .ref 23), (1, .int (nI (s))), (2, .int (nI (f))), (3, .int (nI (z))), (4, .int (nI (b))), (5, .int (nI (k0 + j)))], [.int (nI (b))])) (h' := (Wd C (cz g (32 * b + k0) j) P Q m N R t Z)) (fun _ _ => rfl) ?_
    refine eR.ifc rfl false ((nc_eq (b := 0) (by omega) (by decide)).trans (decide_eq_false (by omega))) ?_
    refine eR.step 4 (F' := (128, [(0, .ref 23), (1, .int (nI (s))), (2, .int (nI (f))), (3, .int (nI (z))), (4, .int (nI (b))), (5, .int (nI (k0 + j)))], [.int (nI (b)), .int (nI 32), .ref 24])) (h' := (Wd C (cz g (32 * b + k0) j) P Q m N R t Z)) (fun _ _ => rfl) ?_
    refine eR.nmul rfl ?_
    refine eR.step 1 (F' := (131, [(0, .ref 23), (1, .int (nI (s))), (2, .int (nI (f))), (3, .int (nI (z))), (4, .int (nI (b))), (5, .int (nI (k0 + j)))], [.int (nI (k0 + j)), .int (nI (32 * b)), .ref 24])) (h' := (Wd C (cz g (32 * b + k0) j) P Q m N R t Z)) (fun _ _ => rfl) ?_
    refine eR.nadd rfl ?_
    refine eR.step 1 (F' := (133, [(0, .ref 23), (1, .int (nI (s))), (2, .int (nI (f))), (3, .int (nI (z))), (4, .int (nI (b))), (5, .int (nI (k0 + j)))], [.int (nI 0), .int (nI ((32 * b) + (k0 + j))), .ref 24])) (h' := (Wd C (cz g (32 * b + k0) j) P Q m N R t Z)) (fun _ _ => rfl) ?_
    refine eR.st24 rfl (by omega) (by decide) ?_
    rw [show 32 * b + (k0 + j) = 32 * b + k0 + j by omega, cz_s hg]
    refine eR.step 1 (F' := (137, [(0, .ref 23), (1, .int (nI (s))), (2, .int (nI (f))), (3, .int (nI (z))), (4, .int (nI (b))), (5, .int (nI (k0 + j) + 1))], [])) (h' := (Wd C (cz g (32 * b + k0) (j + 1)) P Q m N R t Z)) (fun _ _ => rfl) ?_
    rw [show nI (k0 + j) + 1 = nI (k0 + j + 1) from nI_add (k0 + j) 1]
    refine eR.step 1 (F' := (108, [(0, .ref 23), (1, .int (nI (s))), (2, .int (nI (f))), (3, .int (nI (z))), (4, .int (nI (b))), (5, .int (nI (k0 + j + 1)))], [])) (h' := (Wd C (cz g (32 * b + k0) (j + 1)) P Q m N R t Z)) (fun _ _ => rfl) ?_
    exact l_trM hg hb hb0 hk0 q (j + 1) (by omega) w
theorem m_trunc0 {cm sm fr lo : Nat} {C : gC} {e : Nat → Nat} {P Q : gT} {m : Nat} {N : Nat → Nat} {R : gS} {t : Nat} {Z : mj_H} (hlo : 159 ≤ lo) (V : qV e) (hN : ∀ k, N k < 256) (ht : ∀ k, P.1 k < 65536) (hl : P.2 ≤ 40) {f m1 : Nat} {N1 : Nat → Nat} (hf0 : fo e P N = f) (hm0 : (pP P.1 P.2 N).2.1 = m1) (hN0 : (pP P.1 P.2 N).2.2 = N1) (h11 : e 11 = 1) (hfn : ¬ f = 0) (hf : f < 16) {s : Nat} (h3 : s ≤ 1216) (hk : ¬ e (32 + (16 * f)) = 2) (h4 : s % 32 = 0) : eE mm_P cm sm (fr + 8) lo 156 [.ref 23, .int (nI (s))] (Wd C e P Q m N R t Z) (.inl (some (.int (nI (e (32 + (16 * f) + 2) + (256 * e (32 + (16 * f) + 3)))))), (Wd C (ss (dr e f ((s + 31) / 32)) f s) (P.1, 0) Q m1 N1 R 0 Z)) := by
  refine eE.of ?_
  have htf := tf_le e f
  refine eR.step 2 (F' := (2, [(0, .ref 23), (1, .int (nI (s)))], [.int (nI 0), .ref 23])) (h' := (Wd C e P Q m N R t Z)) (fun _ _ => rfl) ?_
  refine eR.call (k' := 142) (as := [.ref 23, .int (nI 0)]) (rest := []) (v := some (.int (nI (fo e P N)))) (h1 := (Wd C e (P.1, 0) Q (pP P.1 P.2 N).2.1 (pP P.1 P.2 N).2.2 R (tf e (fo e P N)) Z)) rfl rfl rfl rfl (eg (Nat.le_of_ble_eq_true rfl) (show 23 ≤ lo by omega) (Nat.le_of_ble_eq_true rfl)) (m_found0 (show 136 ≤ lo - 23 by omega) V hN ht hl) ?_
  rw [hf0, hm0, hN0]
  refine eR.step 3 (F' := (10, [(0, .ref 23), (1, .int (nI (s))), (2, .int (nI (f)))], [.int (nI ((tf e f)))])) (h' := (Wd C e (P.1, 0) Q m1 N1 R (tf e f) Z)) (fun _ _ => rfl) ?_
  rw [tf_0 h11 hfn]
  refine eR.ifc rfl false ((nc_ne (b := 0) (by omega) (by decide)).trans (decide_eq_false (by omega))) ?_
  refine eR.step 3 (F' := (16, [(0, .ref 23), (1, .int (nI (s))), (2, .int (nI (f)))], [.int (nI (f)), .ref 23, .ref 23])) (h' := (Wd C e (P.1, 0) Q m1 N1 R 0 Z)) (fun _ _ => rfl) ?_
  have h6 := V.B.dk.1 (32 + (16 * f))
  refine eR.call (k' := 128) (as := [.ref 23, .int (nI (f))]) (rest := [.ref 23]) (v := some (.int (nI (e (32 + (16 * f)))))) (h1 := (Wd C e (P.1, 0) Q m1 N1 R 0 Z)) rfl rfl rfl rfl (eg (Nat.le_of_ble_eq_true rfl) (show 21 ≤ lo by omega) (Nat.le_of_ble_eq_true rfl)) (m_kind (show 20 ≤ lo - 21 by omega) hf) ?_
  refine eR.step 1 (F' := (20, [(0, .ref 23), (1, .int (nI (s))), (2, .int (nI (f)))], [.int (nI 2), .int (nI (e (32 + (16 * f)))), .ref 23])) (h' := (Wd C e (P.1, 0) Q m1 N1 R 0 Z)) (fun _ _ => rfl) ?_
  refine eR.icmp rfl true ((nc_ne (by omega) (by omega)).trans (decide_eq_true (by omega))) ?_
  refine eR.step 2 (F' := (29, [(0, .ref 23), (1, .int (nI (s))), (2, .int (nI (f)))], [.int (nI 3), .int (nI 0), .ref 23])) (h' := (Wd C e (P.1, 0) Q m1 N1 R 0 Z)) (fun _ _ => rfl) ?_
  refine eR.call (k' := 136) (as := [.ref 23, .int (nI 0), .int (nI 3)]) (rest := []) (v := none) (h1 := (Wd C e (P.1, 0) Q m1 N1 R (ri false 0 3) Z)) rfl rfl rfl rfl (eg (Nat.le_of_ble_eq_true rfl) (show 22 ≤ lo by omega) (Nat.le_of_ble_eq_true rfl)) (m_refIf (b := false) (show 21 ≤ lo - 22 by omega) (by decide)) ?_
  rw [show ri false 0 3 = 0 from rfl]
  refine eR.step 2 (F' := (34, [(0, .ref 23), (1, .int (nI (s))), (2, .int (nI (f)))], [.int (nI (s)), .ref 23])) (h' := (Wd C e (P.1, 0) Q m1 N1 R 0 Z)) (fun _ _ => rfl) ?_
  refine eR.ifc rfl false ((nc_lt (b := 0) (by omega) (by decide)).trans (decide_eq_false (by omega))) ?_
  refine eR.step 2 (F' := (41, [(0, .ref 23), (1, .int (nI (s))), (2, .int (nI (f)))], [.int (nI 1216), .int (nI (s)), .ref 23])) (h' := (Wd C e (P.1, 0) Q m1 N1 R 0 Z)) (fun _ _ => rfl) ?_
  refine eR.icmp rfl true ((nc_le (by omega) (by omega)).trans (decide_eq_true (by omega))) ?_
  refine eR.step 2 (F' := (50, [(0, .ref 23), (1, .int (nI (s))), (2, .int (nI (f)))], [.int (nI 4), .int (nI 0), .ref 23])) (h' := (Wd C e (P.1, 0) Q m1 N1 R 0 Z)) (fun _ _ => rfl) ?_
  refine eR.call (k' := 136) (as := [.ref 23, .int (nI 0), .int (nI 4)]) (rest := []) (v := none) (h1 := (Wd C e (P.1, 0) Q m1 N1 R (ri false 0 4) Z)) rfl rfl rfl rfl (eg (Nat.le_of_ble_eq_true rfl) (show 22 ≤ lo by omega) (Nat.le_of_ble_eq_true rfl)) (m_refIf (b := false) (show 21 ≤ lo - 22 by omega) (by decide)) ?_
  rw [show ri false 0 4 = 0 from rfl]
  refine eR.step 2 (F' := (57, [(0, .ref 23), (1, .int (nI (s))), (2, .int (nI (f)))], [.int (nI 0)])) (h' := (Wd C e (P.1, 0) Q m1 N1 R 0 Z)) (fun _ _ => rfl) ?_
  refine eR.ifc rfl true ((nc_eq (b := 0) (by omega) (by decide)).trans (decide_eq_true (by omega))) ?_
  refine eR.step 2 (F' := (64, [(0, .ref 23), (1, .int (nI (s))), (2, .int (nI (f)))], [.int (nI (f)), .ref 23])) (h' := (Wd C e (P.1, 0) Q m1 N1 R 0 Z)) (fun _ _ => rfl) ?_
  have E := V.E h11
  have h7 := V.B.dk.1 (32 + (16 * f) + 2)
  have h8 := V.B.dk.1 (32 + (16 * f) + 3)
  refine eR.call (k' := 131) (as := [.ref 23, .int (nI (f))]) (rest := []) (v := some (.int (nI (e (32 + (16 * f) + 2) + (256 * e (32 + (16 * f) + 3)))))) (h1 := (Wd C e (P.1, 0) Q m1 N1 R 0 Z)) rfl rfl rfl rfl (eg (Nat.le_of_ble_eq_true rfl) (show 21 ≤ lo by omega) (Nat.le_of_ble_eq_true rfl)) (m_size (show 20 ≤ lo - 21 by omega) V.B.dk hf) ?_
  refine eR.step 5 (F' := (73, [(0, .ref 23), (1, .int (nI (s))), (2, .int (nI (f))), (3, .int (nI (e (32 + (16 * f) + 2) + (256 * e (32 + (16 * f) + 3)))))], [.int (nI 31), .int (nI (s)), .int (nI (f)), .ref 23])) (h' := (Wd C e (P.1, 0) Q m1 N1 R 0 Z)) (fun _ _ => rfl) ?_
  refine eR.nadd rfl ?_
  refine eR.step 1 (F' := (76, [(0, .ref 23), (1, .int (nI (s))), (2, .int (nI (f))), (3, .int (nI (e (32 + (16 * f) + 2) + (256 * e (32 + (16 * f) + 3)))))], [.int (nI 32), .int (nI (s + 31)), .int (nI (f)), .ref 23])) (h' := (Wd C e (P.1, 0) Q m1 N1 R 0 Z)) (fun _ _ => rfl) ?_
  refine eR.ndiv rfl (by omega) (by decide) (by decide) ?_
  refine eR.call (k' := 146) (as := [.ref 23, .int (nI (f)), .int (nI ((s + 31) / 32))]) (rest := []) (v := none) (h1 := (Wd C (dr e f ((s + 31) / 32)) (P.1, 0) Q m1 N1 R 0 Z)) rfl rfl rfl rfl (eg (Nat.le_of_ble_eq_true rfl) (show 25 ≤ lo by omega) (Nat.le_of_ble_eq_true rfl)) (m_dropF (show 89 ≤ lo - 25 by omega) E hf (by omega)) ?_
  refine eR.step 2 (F' := (83, [(0, .ref 23), (1, .int (nI (s))), (2, .int (nI (f))), (3, .int (nI (e (32 + (16 * f) + 2) + (256 * e (32 + (16 * f) + 3)))))], [.int (nI 32), .int (nI (s))])) (h' := (Wd C (dr e f ((s + 31) / 32)) (P.1, 0) Q m1 N1 R 0 Z)) (fun _ _ => rfl) ?_
  refine eR.nrem rfl (by omega) (by decide) (by decide) ?_
  refine eR.ifc rfl false ((nc_ne (b := 0) (by omega) (by decide)).trans (decide_eq_false (by omega))) ?_
  refine eR.step 5 (F' := (105, [(0, .ref 23), (1, .int (nI (s))), (2, .int (nI (f))), (3, .int (nI (e (32 + (16 * f) + 2) + (256 * e (32 + (16 * f) + 3))))), (4, .int (nI 0))], [.int (nI 32), .int (nI (s))])) (h' := (Wd C (dr e f ((s + 31) / 32)) (P.1, 0) Q m1 N1 R 0 Z)) (fun _ _ => rfl) ?_
  refine eR.nrem rfl (by omega) (by decide) (by decide) ?_
  refine eR.step 3 (F' := (112, [(0, .ref 23), (1, .int (nI (s))), (2, .int (nI (f))), (3, .int (nI (e (32 + (16 * f) + 2) + (256 * e (32 + (16 * f) + 3))))), (4, .int (nI 0)), (5, .int (nI (s % 32)))], [.int (nI 32), .int (nI (s % 32))])) (h' := (Wd C (dr e f ((s + 31) / 32)) (P.1, 0) Q m1 N1 R 0 Z)) (fun _ _ => rfl) ?_
  refine eR.icmp rfl false ((nc_ge (by omega) (by omega)).trans (decide_eq_false (by omega))) ?_
  refine eR.step 1 (F' := (117, [(0, .ref 23), (1, .int (nI (s))), (2, .int (nI (f))), (3, .int (nI (e (32 + (16 * f) + 2) + (256 * e (32 + (16 * f) + 3))))), (4, .int (nI 0)), (5, .int (nI (s % 32)))], [.int (nI 0)])) (h' := (Wd C (dr e f ((s + 31) / 32)) (P.1, 0) Q m1 N1 R 0 Z)) (fun _ _ => rfl) ?_
  refine eR.ifc rfl true rfl ?_
  refine eR.step 3 (F' := (143, [(0, .ref 23), (1, .int (nI (s))), (2, .int (nI (f))), (3, .int (nI (e (32 + (16 * f) + 2) + (256 * e (32 + (16 * f) + 3))))), (4, .int (nI 0)), (5, .int (nI (s % 32)))], [.int (nI (s)), .int (nI (f)), .ref 23])) (h' := (Wd C (dr e f ((s + 31) / 32)) (P.1, 0) Q m1 N1 R 0 Z)) (fun _ _ => rfl) ?_
  refine eR.call (k' := 116) (as := [.ref 23, .int (nI (f)), .int (nI (s))]) (rest := []) (v := none) (h1 := (Wd C (ss (dr e f ((s + 31) / 32)) f s) (P.1, 0) Q m1 N1 R 0 Z)) rfl rfl rfl rfl (eg (Nat.le_of_ble_eq_true rfl) (show 22 ≤ lo by omega) (Nat.le_of_ble_eq_true rfl)) (m_setSize (show 20 ≤ lo - 22 by omega) hf (by omega)) ?_
  refine eR.step 1 (F' := (147, [(0, .ref 23), (1, .int (nI (s))), (2, .int (nI (f))), (3, .int (nI (e (32 + (16 * f) + 2) + (256 * e (32 + (16 * f) + 3))))), (4, .int (nI 0)), (5, .int (nI (s % 32)))], [.int (nI (e (32 + (16 * f) + 2) + (256 * e (32 + (16 * f) + 3))))])) (h' := (Wd C (ss (dr e f ((s + 31) / 32)) f s) (P.1, 0) Q m1 N1 R 0 Z)) (fun _ _ => rfl) ?_
  exact eR.ret rfl rfl rfl
theorem m_trunc1 {cm sm fr lo : Nat} {C : gC} {e : Nat → Nat} {P Q : gT} {m : Nat} {N : Nat → Nat} {R : gS} {t : Nat} {Z : mj_H} (hlo : 159 ≤ lo) (V : qV e) (hN : ∀ k, N k < 256) (ht : ∀ k, P.1 k < 65536) (hl : P.2 ≤ 40) {f m1 : Nat} {N1 : Nat → Nat} (hf0 : fo e P N = f) (hm0 : (pP P.1 P.2 N).2.1 = m1) (hN0 : (pP P.1 P.2 N).2.2 = N1) (h11 : e 11 = 1) (hfn : ¬ f = 0) (hf : f < 16) {s : Nat} (h3 : s ≤ 1216) (hk : ¬ e (32 + (16 * f)) = 2) (h4 : ¬ s % 32 = 0) (E2 : qE (dr e f ((s + 31) / 32))) (h5 : bo (dr e f ((s + 31) / 32)) f (s / 32) = 0) : eE mm_P cm sm (fr + 8) lo 156 [.ref 23, .int (nI (s))] (Wd C e P Q m N R t Z) (.inl (some (.int (nI (e (32 + (16 * f) + 2) + (256 * e (32 + (16 * f) + 3)))))), (Wd C (ss (dr e f ((s + 31) / 32)) f s) (P.1, 0) Q m1 N1 R 0 Z)) := by
  refine eE.of ?_
  have htf := tf_le e f
  refine eR.step 2 (F' := (2, [(0, .ref 23), (1, .int (nI (s)))], [.int (nI 0), .ref 23])) (h' := (Wd C e P Q m N R t Z)) (fun _ _ => rfl) ?_
  refine eR.call (k' := 142) (as := [.ref 23, .int (nI 0)]) (rest := []) (v := some (.int (nI (fo e P N)))) (h1 := (Wd C e (P.1, 0) Q (pP P.1 P.2 N).2.1 (pP P.1 P.2 N).2.2 R (tf e (fo e P N)) Z)) rfl rfl rfl rfl (eg (Nat.le_of_ble_eq_true rfl) (show 23 ≤ lo by omega) (Nat.le_of_ble_eq_true rfl)) (m_found0 (show 136 ≤ lo - 23 by omega) V hN ht hl) ?_
  rw [hf0, hm0, hN0]
  refine eR.step 3 (F' := (10, [(0, .ref 23), (1, .int (nI (s))), (2, .int (nI (f)))], [.int (nI ((tf e f)))])) (h' := (Wd C e (P.1, 0) Q m1 N1 R (tf e f) Z)) (fun _ _ => rfl) ?_
  rw [tf_0 h11 hfn]
  refine eR.ifc rfl false ((nc_ne (b := 0) (by omega) (by decide)).trans (decide_eq_false (by omega))) ?_
  refine eR.step 3 (F' := (16, [(0, .ref 23), (1, .int (nI (s))), (2, .int (nI (f)))], [.int (nI (f)), .ref 23, .ref 23])) (h' := (Wd C e (P.1, 0) Q m1 N1 R 0 Z)) (fun _ _ => rfl) ?_
  have h6 := V.B.dk.1 (32 + (16 * f))
  refine eR.call (k' := 128) (as := [.ref 23, .int (nI (f))]) (rest := [.ref 23]) (v := some (.int (nI (e (32 + (16 * f)))))) (h1 := (Wd C e (P.1, 0) Q m1 N1 R 0 Z)) rfl rfl rfl rfl (eg (Nat.le_of_ble_eq_true rfl) (show 21 ≤ lo by omega) (Nat.le_of_ble_eq_true rfl)) (m_kind (show 20 ≤ lo - 21 by omega) hf) ?_
  refine eR.step 1 (F' := (20, [(0, .ref 23), (1, .int (nI (s))), (2, .int (nI (f)))], [.int (nI 2), .int (nI (e (32 + (16 * f)))), .ref 23])) (h' := (Wd C e (P.1, 0) Q m1 N1 R 0 Z)) (fun _ _ => rfl) ?_
  refine eR.icmp rfl true ((nc_ne (by omega) (by omega)).trans (decide_eq_true (by omega))) ?_
  refine eR.step 2 (F' := (29, [(0, .ref 23), (1, .int (nI (s))), (2, .int (nI (f)))], [.int (nI 3), .int (nI 0), .ref 23])) (h' := (Wd C e (P.1, 0) Q m1 N1 R 0 Z)) (fun _ _ => rfl) ?_
  refine eR.call (k' := 136) (as := [.ref 23, .int (nI 0), .int (nI 3)]) (rest := []) (v := none) (h1 := (Wd C e (P.1, 0) Q m1 N1 R (ri false 0 3) Z)) rfl rfl rfl rfl (eg (Nat.le_of_ble_eq_true rfl) (show 22 ≤ lo by omega) (Nat.le_of_ble_eq_true rfl)) (m_refIf (b := false) (show 21 ≤ lo - 22 by omega) (by decide)) ?_
  rw [show ri false 0 3 = 0 from rfl]
  refine eR.step 2 (F' := (34, [(0, .ref 23), (1, .int (nI (s))), (2, .int (nI (f)))], [.int (nI (s)), .ref 23])) (h' := (Wd C e (P.1, 0) Q m1 N1 R 0 Z)) (fun _ _ => rfl) ?_
  refine eR.ifc rfl false ((nc_lt (b := 0) (by omega) (by decide)).trans (decide_eq_false (by omega))) ?_
  refine eR.step 2 (F' := (41, [(0, .ref 23), (1, .int (nI (s))), (2, .int (nI (f)))], [.int (nI 1216), .int (nI (s)), .ref 23])) (h' := (Wd C e (P.1, 0) Q m1 N1 R 0 Z)) (fun _ _ => rfl) ?_
  refine eR.icmp rfl true ((nc_le (by omega) (by omega)).trans (decide_eq_true (by omega))) ?_
  refine eR.step 2 (F' := (50, [(0, .ref 23), (1, .int (nI (s))), (2, .int (nI (f)))], [.int (nI 4), .int (nI 0), .ref 23])) (h' := (Wd C e (P.1, 0) Q m1 N1 R 0 Z)) (fun _ _ => rfl) ?_
  refine eR.call (k' := 136) (as := [.ref 23, .int (nI 0), .int (nI 4)]) (rest := []) (v := none) (h1 := (Wd C e (P.1, 0) Q m1 N1 R (ri false 0 4) Z)) rfl rfl rfl rfl (eg (Nat.le_of_ble_eq_true rfl) (show 22 ≤ lo by omega) (Nat.le_of_ble_eq_true rfl)) (m_refIf (b := false) (show 21 ≤ lo - 22 by omega) (by decide)) ?_
  rw [show ri false 0 4 = 0 from rfl]
  refine eR.step 2 (F' := (57, [(0, .ref 23), (1, .int (nI (s))), (2, .int (nI (f)))], [.int (nI 0)])) (h' := (Wd C e (P.1, 0) Q m1 N1 R 0 Z)) (fun _ _ => rfl) ?_
  refine eR.ifc rfl true ((nc_eq (b := 0) (by omega) (by decide)).trans (decide_eq_true (by omega))) ?_
  refine eR.step 2 (F' := (64, [(0, .ref 23), (1, .int (nI (s))), (2, .int (nI (f)))], [.int (nI (f)), .ref 23])) (h' := (Wd C e (P.1, 0) Q m1 N1 R 0 Z)) (fun _ _ => rfl) ?_
  have E := V.E h11
  have h7 := V.B.dk.1 (32 + (16 * f) + 2)
  have h8 := V.B.dk.1 (32 + (16 * f) + 3)
  refine eR.call (k' := 131) (as := [.ref 23, .int (nI (f))]) (rest := []) (v := some (.int (nI (e (32 + (16 * f) + 2) + (256 * e (32 + (16 * f) + 3)))))) (h1 := (Wd C e (P.1, 0) Q m1 N1 R 0 Z)) rfl rfl rfl rfl (eg (Nat.le_of_ble_eq_true rfl) (show 21 ≤ lo by omega) (Nat.le_of_ble_eq_true rfl)) (m_size (show 20 ≤ lo - 21 by omega) V.B.dk hf) ?_
  refine eR.step 5 (F' := (73, [(0, .ref 23), (1, .int (nI (s))), (2, .int (nI (f))), (3, .int (nI (e (32 + (16 * f) + 2) + (256 * e (32 + (16 * f) + 3)))))], [.int (nI 31), .int (nI (s)), .int (nI (f)), .ref 23])) (h' := (Wd C e (P.1, 0) Q m1 N1 R 0 Z)) (fun _ _ => rfl) ?_
  refine eR.nadd rfl ?_
  refine eR.step 1 (F' := (76, [(0, .ref 23), (1, .int (nI (s))), (2, .int (nI (f))), (3, .int (nI (e (32 + (16 * f) + 2) + (256 * e (32 + (16 * f) + 3)))))], [.int (nI 32), .int (nI (s + 31)), .int (nI (f)), .ref 23])) (h' := (Wd C e (P.1, 0) Q m1 N1 R 0 Z)) (fun _ _ => rfl) ?_
  refine eR.ndiv rfl (by omega) (by decide) (by decide) ?_
  refine eR.call (k' := 146) (as := [.ref 23, .int (nI (f)), .int (nI ((s + 31) / 32))]) (rest := []) (v := none) (h1 := (Wd C (dr e f ((s + 31) / 32)) (P.1, 0) Q m1 N1 R 0 Z)) rfl rfl rfl rfl (eg (Nat.le_of_ble_eq_true rfl) (show 25 ≤ lo by omega) (Nat.le_of_ble_eq_true rfl)) (m_dropF (show 89 ≤ lo - 25 by omega) E hf (by omega)) ?_
  refine eR.step 2 (F' := (83, [(0, .ref 23), (1, .int (nI (s))), (2, .int (nI (f))), (3, .int (nI (e (32 + (16 * f) + 2) + (256 * e (32 + (16 * f) + 3)))))], [.int (nI 32), .int (nI (s))])) (h' := (Wd C (dr e f ((s + 31) / 32)) (P.1, 0) Q m1 N1 R 0 Z)) (fun _ _ => rfl) ?_
  refine eR.nrem rfl (by omega) (by decide) (by decide) ?_
  refine eR.ifc rfl true ((nc_ne (b := 0) (by omega) (by decide)).trans (decide_eq_true (by omega))) ?_
  refine eR.step 4 (F' := (96, [(0, .ref 23), (1, .int (nI (s))), (2, .int (nI (f))), (3, .int (nI (e (32 + (16 * f) + 2) + (256 * e (32 + (16 * f) + 3)))))], [.int (nI 32), .int (nI (s)), .int (nI (f)), .ref 23])) (h' := (Wd C (dr e f ((s + 31) / 32)) (P.1, 0) Q m1 N1 R 0 Z)) (fun _ _ => rfl) ?_
  refine eR.ndiv rfl (by omega) (by decide) (by decide) ?_
  have hE := E2
  have hx7 := hE.B.b1 f 38 hf (by omega)
  rw [qb_ix] at hx7
  have hb7 := hE.B.b1 f (s / 32) hf (by omega)
  rw [qb_bo _ _ _ (by omega)] at hb7
  refine eR.call (k' := 118) (as := [.ref 23, .int (nI (f)), .int (nI (s / 32))]) (rest := []) (v := some (.int (nI (bo (dr e f ((s + 31) / 32)) f (s / 32))))) (h1 := (Wd C (dr e f ((s + 31) / 32)) (P.1, 0) Q m1 N1 R 0 Z)) rfl rfl rfl rfl (eg (Nat.le_of_ble_eq_true rfl) (show 23 ≤ lo by omega) (Nat.le_of_ble_eq_true rfl)) (m_blk (show 43 ≤ lo - 23 by omega) hf (by omega) (by omega)) ?_
  refine eR.step 3 (F' := (105, [(0, .ref 23), (1, .int (nI (s))), (2, .int (nI (f))), (3, .int (nI (e (32 + (16 * f) + 2) + (256 * e (32 + (16 * f) + 3))))), (4, .int (nI (bo (dr e f ((s + 31) / 32)) f (s / 32))))], [.int (nI 32), .int (nI (s))])) (h' := (Wd C (dr e f ((s + 31) / 32)) (P.1, 0) Q m1 N1 R 0 Z)) (fun _ _ => rfl) ?_
  refine eR.nrem rfl (by omega) (by decide) (by decide) ?_
  refine eR.step 3 (F' := (112, [(0, .ref 23), (1, .int (nI (s))), (2, .int (nI (f))), (3, .int (nI (e (32 + (16 * f) + 2) + (256 * e (32 + (16 * f) + 3))))), (4, .int (nI (bo (dr e f ((s + 31) / 32)) f (s / 32)))), (5, .int (nI (s % 32)))], [.int (nI 32), .int (nI (s % 32))])) (h' := (Wd C (dr e f ((s + 31) / 32)) (P.1, 0) Q m1 N1 R 0 Z)) (fun _ _ => rfl) ?_
  refine eR.icmp rfl false ((nc_ge (by omega) (by omega)).trans (decide_eq_false (by omega))) ?_
  refine eR.step 1 (F' := (117, [(0, .ref 23), (1, .int (nI (s))), (2, .int (nI (f))), (3, .int (nI (e (32 + (16 * f) + 2) + (256 * e (32 + (16 * f) + 3))))), (4, .int (nI (bo (dr e f ((s + 31) / 32)) f (s / 32)))), (5, .int (nI (s % 32)))], [.int (nI (bo (dr e f ((s + 31) / 32)) f (s / 32)))])) (h' := (Wd C (dr e f ((s + 31) / 32)) (P.1, 0) Q m1 N1 R 0 Z)) (fun _ _ => rfl) ?_
  refine eR.ifc rfl true ((nc_eq (b := 0) (by omega) (by decide)).trans (decide_eq_true (by omega))) ?_
  refine eR.step 3 (F' := (143, [(0, .ref 23), (1, .int (nI (s))), (2, .int (nI (f))), (3, .int (nI (e (32 + (16 * f) + 2) + (256 * e (32 + (16 * f) + 3))))), (4, .int (nI (bo (dr e f ((s + 31) / 32)) f (s / 32)))), (5, .int (nI (s % 32)))], [.int (nI (s)), .int (nI (f)), .ref 23])) (h' := (Wd C (dr e f ((s + 31) / 32)) (P.1, 0) Q m1 N1 R 0 Z)) (fun _ _ => rfl) ?_
  refine eR.call (k' := 116) (as := [.ref 23, .int (nI (f)), .int (nI (s))]) (rest := []) (v := none) (h1 := (Wd C (ss (dr e f ((s + 31) / 32)) f s) (P.1, 0) Q m1 N1 R 0 Z)) rfl rfl rfl rfl (eg (Nat.le_of_ble_eq_true rfl) (show 22 ≤ lo by omega) (Nat.le_of_ble_eq_true rfl)) (m_setSize (show 20 ≤ lo - 22 by omega) hf (by omega)) ?_
  refine eR.step 1 (F' := (147, [(0, .ref 23), (1, .int (nI (s))), (2, .int (nI (f))), (3, .int (nI (e (32 + (16 * f) + 2) + (256 * e (32 + (16 * f) + 3))))), (4, .int (nI (bo (dr e f ((s + 31) / 32)) f (s / 32)))), (5, .int (nI (s % 32)))], [.int (nI (e (32 + (16 * f) + 2) + (256 * e (32 + (16 * f) + 3))))])) (h' := (Wd C (ss (dr e f ((s + 31) / 32)) f s) (P.1, 0) Q m1 N1 R 0 Z)) (fun _ _ => rfl) ?_
  exact eR.ret rfl rfl rfl
theorem m_trunc2 {cm sm fr lo : Nat} {C : gC} {e : Nat → Nat} {P Q : gT} {m : Nat} {N : Nat → Nat} {R : gS} {t : Nat} {Z : mj_H} (hlo : 159 ≤ lo) (V : qV e) (hN : ∀ k, N k < 256) (ht : ∀ k, P.1 k < 65536) (hl : P.2 ≤ 40) {f m1 : Nat} {N1 : Nat → Nat} (hf0 : fo e P N = f) (hm0 : (pP P.1 P.2 N).2.1 = m1) (hN0 : (pP P.1 P.2 N).2.2 = N1) (h11 : e 11 = 1) (hfn : ¬ f = 0) (hf : f < 16) {s : Nat} (h3 : s ≤ 1216) (hk : ¬ e (32 + (16 * f)) = 2) (h4 : ¬ s % 32 = 0) (E2 : qE (dr e f ((s + 31) / 32))) (h5 : ¬ bo (dr e f ((s + 31) / 32)) f (s / 32) = 0) : eE mm_P cm sm (fr + 8) lo 156 [.ref 23, .int (nI (s))] (Wd C e P Q m N R t Z) (.inl (some (.int (nI (e (32 + (16 * f) + 2) + (256 * e (32 + (16 * f) + 3)))))), (Wd C (ss (cz (dr e f ((s + 31) / 32)) (bo (dr e f ((s + 31) / 32)) f (s / 32) * 32 + s % 32) (32 - s % 32)) f s) (P.1, 0) Q m1 N1 R 0 Z)) := by
  refine eE.of ?_
  have htf := tf_le e f
  refine eR.step 2 (F' := (2, [(0, .ref 23), (1, .int (nI (s)))], [.int (nI 0), .ref 23])) (h' := (Wd C e P Q m N R t Z)) (fun _ _ => rfl) ?_
  refine eR.call (k' := 142) (as := [.ref 23, .int (nI 0)]) (rest := []) (v := some (.int (nI (fo e P N)))) (h1 := (Wd C e (P.1, 0) Q (pP P.1 P.2 N).2.1 (pP P.1 P.2 N).2.2 R (tf e (fo e P N)) Z)) rfl rfl rfl rfl (eg (Nat.le_of_ble_eq_true rfl) (show 23 ≤ lo by omega) (Nat.le_of_ble_eq_true rfl)) (m_found0 (show 136 ≤ lo - 23 by omega) V hN ht hl) ?_
  rw [hf0, hm0, hN0]
  refine eR.step 3 (F' := (10, [(0, .ref 23), (1, .int (nI (s))), (2, .int (nI (f)))], [.int (nI ((tf e f)))])) (h' := (Wd C e (P.1, 0) Q m1 N1 R (tf e f) Z)) (fun _ _ => rfl) ?_
  rw [tf_0 h11 hfn]
  refine eR.ifc rfl false ((nc_ne (b := 0) (by omega) (by decide)).trans (decide_eq_false (by omega))) ?_
  refine eR.step 3 (F' := (16, [(0, .ref 23), (1, .int (nI (s))), (2, .int (nI (f)))], [.int (nI (f)), .ref 23, .ref 23])) (h' := (Wd C e (P.1, 0) Q m1 N1 R 0 Z)) (fun _ _ => rfl) ?_
  have h6 := V.B.dk.1 (32 + (16 * f))
  refine eR.call (k' := 128) (as := [.ref 23, .int (nI (f))]) (rest := [.ref 23]) (v := some (.int (nI (e (32 + (16 * f)))))) (h1 := (Wd C e (P.1, 0) Q m1 N1 R 0 Z)) rfl rfl rfl rfl (eg (Nat.le_of_ble_eq_true rfl) (show 21 ≤ lo by omega) (Nat.le_of_ble_eq_true rfl)) (m_kind (show 20 ≤ lo - 21 by omega) hf) ?_
  refine eR.step 1 (F' := (20, [(0, .ref 23), (1, .int (nI (s))), (2, .int (nI (f)))], [.int (nI 2), .int (nI (e (32 + (16 * f)))), .ref 23])) (h' := (Wd C e (P.1, 0) Q m1 N1 R 0 Z)) (fun _ _ => rfl) ?_
  refine eR.icmp rfl true ((nc_ne (by omega) (by omega)).trans (decide_eq_true (by omega))) ?_
  refine eR.step 2 (F' := (29, [(0, .ref 23), (1, .int (nI (s))), (2, .int (nI (f)))], [.int (nI 3), .int (nI 0), .ref 23])) (h' := (Wd C e (P.1, 0) Q m1 N1 R 0 Z)) (fun _ _ => rfl) ?_
  refine eR.call (k' := 136) (as := [.ref 23, .int (nI 0), .int (nI 3)]) (rest := []) (v := none) (h1 := (Wd C e (P.1, 0) Q m1 N1 R (ri false 0 3) Z)) rfl rfl rfl rfl (eg (Nat.le_of_ble_eq_true rfl) (show 22 ≤ lo by omega) (Nat.le_of_ble_eq_true rfl)) (m_refIf (b := false) (show 21 ≤ lo - 22 by omega) (by decide)) ?_
  rw [show ri false 0 3 = 0 from rfl]
  refine eR.step 2 (F' := (34, [(0, .ref 23), (1, .int (nI (s))), (2, .int (nI (f)))], [.int (nI (s)), .ref 23])) (h' := (Wd C e (P.1, 0) Q m1 N1 R 0 Z)) (fun _ _ => rfl) ?_
  refine eR.ifc rfl false ((nc_lt (b := 0) (by omega) (by decide)).trans (decide_eq_false (by omega))) ?_
  refine eR.step 2 (F' := (41, [(0, .ref 23), (1, .int (nI (s))), (2, .int (nI (f)))], [.int (nI 1216), .int (nI (s)), .ref 23])) (h' := (Wd C e (P.1, 0) Q m1 N1 R 0 Z)) (fun _ _ => rfl) ?_
  refine eR.icmp rfl true ((nc_le (by omega) (by omega)).trans (decide_eq_true (by omega))) ?_
  refine eR.step 2 (F' := (50, [(0, .ref 23), (1, .int (nI (s))), (2, .int (nI (f)))], [.int (nI 4), .int (nI 0), .ref 23])) (h' := (Wd C e (P.1, 0) Q m1 N1 R 0 Z)) (fun _ _ => rfl) ?_
  refine eR.call (k' := 136) (as := [.ref 23, .int (nI 0), .int (nI 4)]) (rest := []) (v := none) (h1 := (Wd C e (P.1, 0) Q m1 N1 R (ri false 0 4) Z)) rfl rfl rfl rfl (eg (Nat.le_of_ble_eq_true rfl) (show 22 ≤ lo by omega) (Nat.le_of_ble_eq_true rfl)) (m_refIf (b := false) (show 21 ≤ lo - 22 by omega) (by decide)) ?_
  rw [show ri false 0 4 = 0 from rfl]
  refine eR.step 2 (F' := (57, [(0, .ref 23), (1, .int (nI (s))), (2, .int (nI (f)))], [.int (nI 0)])) (h' := (Wd C e (P.1, 0) Q m1 N1 R 0 Z)) (fun _ _ => rfl) ?_
  refine eR.ifc rfl true ((nc_eq (b := 0) (by omega) (by decide)).trans (decide_eq_true (by omega))) ?_
  refine eR.step 2 (F' := (64, [(0, .ref 23), (1, .int (nI (s))), (2, .int (nI (f)))], [.int (nI (f)), .ref 23])) (h' := (Wd C e (P.1, 0) Q m1 N1 R 0 Z)) (fun _ _ => rfl) ?_
  have E := V.E h11
  have h7 := V.B.dk.1 (32 + (16 * f) + 2)
  have h8 := V.B.dk.1 (32 + (16 * f) + 3)
  refine eR.call (k' := 131) (as := [.ref 23, .int (nI (f))]) (rest := []) (v := some (.int (nI (e (32 + (16 * f) + 2) + (256 * e (32 + (16 * f) + 3)))))) (h1 := (Wd C e (P.1, 0) Q m1 N1 R 0 Z)) rfl rfl rfl rfl (eg (Nat.le_of_ble_eq_true rfl) (show 21 ≤ lo by omega) (Nat.le_of_ble_eq_true rfl)) (m_size (show 20 ≤ lo - 21 by omega) V.B.dk hf) ?_
  refine eR.step 5 (F' := (73, [(0, .ref 23), (1, .int (nI (s))), (2, .int (nI (f))), (3, .int (nI (e (32 + (16 * f) + 2) + (256 * e (32 + (16 * f) + 3)))))], [.int (nI 31), .int (nI (s)), .int (nI (f)), .ref 23])) (h' := (Wd C e (P.1, 0) Q m1 N1 R 0 Z)) (fun _ _ => rfl) ?_
  refine eR.nadd rfl ?_
  refine eR.step 1 (F' := (76, [(0, .ref 23), (1, .int (nI (s))), (2, .int (nI (f))), (3, .int (nI (e (32 + (16 * f) + 2) + (256 * e (32 + (16 * f) + 3)))))], [.int (nI 32), .int (nI (s + 31)), .int (nI (f)), .ref 23])) (h' := (Wd C e (P.1, 0) Q m1 N1 R 0 Z)) (fun _ _ => rfl) ?_
  refine eR.ndiv rfl (by omega) (by decide) (by decide) ?_
  refine eR.call (k' := 146) (as := [.ref 23, .int (nI (f)), .int (nI ((s + 31) / 32))]) (rest := []) (v := none) (h1 := (Wd C (dr e f ((s + 31) / 32)) (P.1, 0) Q m1 N1 R 0 Z)) rfl rfl rfl rfl (eg (Nat.le_of_ble_eq_true rfl) (show 25 ≤ lo by omega) (Nat.le_of_ble_eq_true rfl)) (m_dropF (show 89 ≤ lo - 25 by omega) E hf (by omega)) ?_
  refine eR.step 2 (F' := (83, [(0, .ref 23), (1, .int (nI (s))), (2, .int (nI (f))), (3, .int (nI (e (32 + (16 * f) + 2) + (256 * e (32 + (16 * f) + 3)))))], [.int (nI 32), .int (nI (s))])) (h' := (Wd C (dr e f ((s + 31) / 32)) (P.1, 0) Q m1 N1 R 0 Z)) (fun _ _ => rfl) ?_
  refine eR.nrem rfl (by omega) (by decide) (by decide) ?_
  refine eR.ifc rfl true ((nc_ne (b := 0) (by omega) (by decide)).trans (decide_eq_true (by omega))) ?_
  refine eR.step 4 (F' := (96, [(0, .ref 23), (1, .int (nI (s))), (2, .int (nI (f))), (3, .int (nI (e (32 + (16 * f) + 2) + (256 * e (32 + (16 * f) + 3)))))], [.int (nI 32), .int (nI (s)), .int (nI (f)), .ref 23])) (h' := (Wd C (dr e f ((s + 31) / 32)) (P.1, 0) Q m1 N1 R 0 Z)) (fun _ _ => rfl) ?_
  refine eR.ndiv rfl (by omega) (by decide) (by decide) ?_
  have hE := E2
  have hx7 := hE.B.b1 f 38 hf (by omega)
  rw [qb_ix] at hx7
  have hb7 := hE.B.b1 f (s / 32) hf (by omega)
  rw [qb_bo _ _ _ (by omega)] at hb7
  refine eR.call (k' := 118) (as := [.ref 23, .int (nI (f)), .int (nI (s / 32))]) (rest := []) (v := some (.int (nI (bo (dr e f ((s + 31) / 32)) f (s / 32))))) (h1 := (Wd C (dr e f ((s + 31) / 32)) (P.1, 0) Q m1 N1 R 0 Z)) rfl rfl rfl rfl (eg (Nat.le_of_ble_eq_true rfl) (show 23 ≤ lo by omega) (Nat.le_of_ble_eq_true rfl)) (m_blk (show 43 ≤ lo - 23 by omega) hf (by omega) (by omega)) ?_
  refine eR.step 3 (F' := (105, [(0, .ref 23), (1, .int (nI (s))), (2, .int (nI (f))), (3, .int (nI (e (32 + (16 * f) + 2) + (256 * e (32 + (16 * f) + 3))))), (4, .int (nI (bo (dr e f ((s + 31) / 32)) f (s / 32))))], [.int (nI 32), .int (nI (s))])) (h' := (Wd C (dr e f ((s + 31) / 32)) (P.1, 0) Q m1 N1 R 0 Z)) (fun _ _ => rfl) ?_
  refine eR.nrem rfl (by omega) (by decide) (by decide) ?_
  refine eR.step 1 (F' := (108, [(0, .ref 23), (1, .int (nI (s))), (2, .int (nI (f))), (3, .int (nI (e (32 + (16 * f) + 2) + (256 * e (32 + (16 * f) + 3))))), (4, .int (nI (bo (dr e f ((s + 31) / 32)) f (s / 32)))), (5, .int (nI (s % 32)))], [])) (h' := (Wd C (dr e f ((s + 31) / 32)) (P.1, 0) Q m1 N1 R 0 Z)) (fun _ _ => rfl) ?_
  have hl5 := l_trM (C := C) (P := (P.1, 0)) (Q := Q) (m := m1) (N := N1) (R := R) (t := 0) (Z := Z) (cm := cm) (sm := sm) (fr := fr + 7) (lo := lo) hE.B.dk (f := f) (s := s) (z := e (32 + (16 * f) + 2) + (256 * e (32 + (16 * f) + 3))) (b := bo (dr e f ((s + 31) / 32)) f (s / 32)) (k0 := s % 32) (by omega) h5 (by omega) (r := (.inl (some (.int (nI (e (32 + (16 * f) + 2) + (256 * e (32 + (16 * f) + 3)))))), (Wd C (ss (cz (dr e f ((s + 31) / 32)) (bo (dr e f ((s + 31) / 32)) f (s / 32) * 32 + s % 32) (32 - s % 32)) f s) (P.1, 0) Q m1 N1 R 0 Z))) (32 - s % 32) 0 (by omega)
  rw [cz_0, Nat.add_zero] at hl5
  apply hl5
  rw [Nat.mul_comm 32 (bo (dr e f ((s + 31) / 32)) f (s / 32))]
  refine eR.step 3 (F' := (143, [(0, .ref 23), (1, .int (nI (s))), (2, .int (nI (f))), (3, .int (nI (e (32 + (16 * f) + 2) + (256 * e (32 + (16 * f) + 3))))), (4, .int (nI (bo (dr e f ((s + 31) / 32)) f (s / 32)))), (5, .int (nI 32))], [.int (nI (s)), .int (nI (f)), .ref 23])) (h' := (Wd C (cz (dr e f ((s + 31) / 32)) (bo (dr e f ((s + 31) / 32)) f (s / 32) * 32 + s % 32) (32 - s % 32)) (P.1, 0) Q m1 N1 R 0 Z)) (fun _ _ => rfl) ?_
  refine eR.call (k' := 116) (as := [.ref 23, .int (nI (f)), .int (nI (s))]) (rest := []) (v := none) (h1 := (Wd C (ss (cz (dr e f ((s + 31) / 32)) (bo (dr e f ((s + 31) / 32)) f (s / 32) * 32 + s % 32) (32 - s % 32)) f s) (P.1, 0) Q m1 N1 R 0 Z)) rfl rfl rfl rfl (eg (Nat.le_of_ble_eq_true rfl) (show 22 ≤ lo by omega) (Nat.le_of_ble_eq_true rfl)) (m_setSize (show 20 ≤ lo - 22 by omega) hf (by omega)) ?_
  refine eR.step 1 (F' := (147, [(0, .ref 23), (1, .int (nI (s))), (2, .int (nI (f))), (3, .int (nI (e (32 + (16 * f) + 2) + (256 * e (32 + (16 * f) + 3))))), (4, .int (nI (bo (dr e f ((s + 31) / 32)) f (s / 32)))), (5, .int (nI 32))], [.int (nI (e (32 + (16 * f) + 2) + (256 * e (32 + (16 * f) + 3))))])) (h' := (Wd C (ss (cz (dr e f ((s + 31) / 32)) (bo (dr e f ((s + 31) / 32)) f (s / 32) * 32 + s % 32) (32 - s % 32)) f s) (P.1, 0) Q m1 N1 R 0 Z)) (fun _ _ => rfl) ?_
  exact eR.ret rfl rfl rfl
theorem m_readA {cm sm fr lo : Nat} {C : gC} {e : Nat → Nat} {P Q : gT} {m : Nat} {N : Nat → Nat} {R : gS} {t : Nat} {Z : mj_H} (hlo : 159 ≤ lo) (V : qV e) (hN : ∀ k, N k < 256) (ht : ∀ k, P.1 k < 65536) (hl : P.2 ≤ 40) {f m1 : Nat} {N1 : Nat → Nat} (hf0 : fo e P N = f) (hm0 : (pP P.1 P.2 N).2.1 = m1) (hN0 : (pP P.1 P.2 N).2.2 = N1) {x : Int32} (h : ¬ tf e f = 0) : eE mm_P cm sm (fr + 8) lo 154 [.ref 23, .int (x)] (Wd C e P Q m N R t Z) (.inl (some (.long (0))), (Wd C e (P.1, 0) Q m1 N1 R (tf e f) Z)) := by
  refine eE.of ?_
  have htf := tf_le e f
  refine eR.step 2 (F' := (2, [(0, .ref 23), (1, .int (x))], [.int (nI 0), .ref 23])) (h' := (Wd C e P Q m N R t Z)) (fun _ _ => rfl) ?_
  refine eR.call (k' := 142) (as := [.ref 23, .int (nI 0)]) (rest := []) (v := some (.int (nI (fo e P N)))) (h1 := (Wd C e (P.1, 0) Q (pP P.1 P.2 N).2.1 (pP P.1 P.2 N).2.2 R (tf e (fo e P N)) Z)) rfl rfl rfl rfl (eg (Nat.le_of_ble_eq_true rfl) (show 23 ≤ lo by omega) (Nat.le_of_ble_eq_true rfl)) (m_found0 (show 136 ≤ lo - 23 by omega) V hN ht hl) ?_
  rw [hf0, hm0, hN0]
  refine eR.step 3 (F' := (10, [(0, .ref 23), (1, .int (x)), (2, .int (nI (f)))], [.int (nI ((tf e f)))])) (h' := (Wd C e (P.1, 0) Q m1 N1 R (tf e f) Z)) (fun _ _ => rfl) ?_
  refine eR.ifc rfl true ((nc_ne (b := 0) (by omega) (by decide)).trans (decide_eq_true (by omega))) ?_
  refine eR.step 5 (F' := (54, [(0, .ref 23), (1, .int (x)), (2, .int (nI (f))), (3, .long (0)), (5, .int (nI 7))], [.int (nI 7)])) (h' := (Wd C e (P.1, 0) Q m1 N1 R (tf e f) Z)) (fun _ _ => rfl) ?_
  refine eR.ifc rfl false rfl ?_
  refine eR.step 2 (F' := (61, [(0, .ref 23), (1, .int (x)), (2, .int (nI (f))), (3, .long (0)), (5, .int (nI 7))], [.int (nI ((tf e f)))])) (h' := (Wd C e (P.1, 0) Q m1 N1 R (tf e f) Z)) (fun _ _ => rfl) ?_
  refine eR.ifc rfl true ((nc_ne (b := 0) (by omega) (by decide)).trans (decide_eq_true (by omega))) ?_
  refine eR.step 1 (F' := (122, [(0, .ref 23), (1, .int (x)), (2, .int (nI (f))), (3, .long (0)), (5, .int (nI 7))], [.long (0)])) (h' := (Wd C e (P.1, 0) Q m1 N1 R (tf e f) Z)) (fun _ _ => rfl) ?_
  exact eR.ret rfl rfl rfl
theorem m_readD {cm sm fr lo : Nat} {C : gC} {e : Nat → Nat} {P Q : gT} {m : Nat} {N : Nat → Nat} {R : gS} {t : Nat} {Z : mj_H} (hlo : 159 ≤ lo) (V : qV e) (hN : ∀ k, N k < 256) (ht : ∀ k, P.1 k < 65536) (hl : P.2 ≤ 40) {f m1 : Nat} {N1 : Nat → Nat} (hf0 : fo e P N = f) (hm0 : (pP P.1 P.2 N).2.1 = m1) (hN0 : (pP P.1 P.2 N).2.2 = N1) (h11 : e 11 = 1) (hfn : ¬ f = 0) (hf : f < 16) {x : Int32} (hk : e (32 + (16 * f)) = 2)  : eE mm_P cm sm (fr + 8) lo 154 [.ref 23, .int (x)] (Wd C e P Q m N R t Z) (.inl (some (.long (0))), (Wd C e (P.1, 0) Q m1 N1 R 3 Z)) := by
  refine eE.of ?_
  have htf := tf_le e f
  refine eR.step 2 (F' := (2, [(0, .ref 23), (1, .int (x))], [.int (nI 0), .ref 23])) (h' := (Wd C e P Q m N R t Z)) (fun _ _ => rfl) ?_
  refine eR.call (k' := 142) (as := [.ref 23, .int (nI 0)]) (rest := []) (v := some (.int (nI (fo e P N)))) (h1 := (Wd C e (P.1, 0) Q (pP P.1 P.2 N).2.1 (pP P.1 P.2 N).2.2 R (tf e (fo e P N)) Z)) rfl rfl rfl rfl (eg (Nat.le_of_ble_eq_true rfl) (show 23 ≤ lo by omega) (Nat.le_of_ble_eq_true rfl)) (m_found0 (show 136 ≤ lo - 23 by omega) V hN ht hl) ?_
  rw [hf0, hm0, hN0]
  refine eR.step 3 (F' := (10, [(0, .ref 23), (1, .int (x)), (2, .int (nI (f)))], [.int (nI ((tf e f)))])) (h' := (Wd C e (P.1, 0) Q m1 N1 R (tf e f) Z)) (fun _ _ => rfl) ?_
  rw [tf_0 h11 hfn]
  refine eR.ifc rfl false ((nc_ne (b := 0) (by omega) (by decide)).trans (decide_eq_false (by omega))) ?_
  refine eR.step 3 (F' := (16, [(0, .ref 23), (1, .int (x)), (2, .int (nI (f)))], [.int (nI (f)), .ref 23, .ref 23])) (h' := (Wd C e (P.1, 0) Q m1 N1 R 0 Z)) (fun _ _ => rfl) ?_
  have h6 := V.B.dk.1 (32 + (16 * f))
  refine eR.call (k' := 128) (as := [.ref 23, .int (nI (f))]) (rest := [.ref 23]) (v := some (.int (nI (e (32 + (16 * f)))))) (h1 := (Wd C e (P.1, 0) Q m1 N1 R 0 Z)) rfl rfl rfl rfl (eg (Nat.le_of_ble_eq_true rfl) (show 21 ≤ lo by omega) (Nat.le_of_ble_eq_true rfl)) (m_kind (show 20 ≤ lo - 21 by omega) hf) ?_
  refine eR.step 1 (F' := (20, [(0, .ref 23), (1, .int (x)), (2, .int (nI (f)))], [.int (nI 2), .int (nI (e (32 + (16 * f)))), .ref 23])) (h' := (Wd C e (P.1, 0) Q m1 N1 R 0 Z)) (fun _ _ => rfl) ?_
  refine eR.icmp rfl false ((nc_ne (by omega) (by omega)).trans (decide_eq_false (by omega))) ?_
  refine eR.step 3 (F' := (29, [(0, .ref 23), (1, .int (x)), (2, .int (nI (f)))], [.int (nI 3), .int (nI 1), .ref 23])) (h' := (Wd C e (P.1, 0) Q m1 N1 R 0 Z)) (fun _ _ => rfl) ?_
  refine eR.call (k' := 136) (as := [.ref 23, .int (nI 1), .int (nI 3)]) (rest := []) (v := none) (h1 := (Wd C e (P.1, 0) Q m1 N1 R (ri true 0 3) Z)) rfl rfl rfl rfl (eg (Nat.le_of_ble_eq_true rfl) (show 22 ≤ lo by omega) (Nat.le_of_ble_eq_true rfl)) (m_refIf (b := true) (show 21 ≤ lo - 22 by omega) (by decide)) ?_
  rw [show ri true 0 3 = 3 from rfl]
  refine eR.step 2 (F' := (34, [(0, .ref 23), (1, .int (x)), (2, .int (nI (f)))], [.int (x), .ref 23])) (h' := (Wd C e (P.1, 0) Q m1 N1 R 3 Z)) (fun _ _ => rfl) ?_
  by_cases c1 : mj_cmp .ge x 0 = true
  · refine eR.ifc rfl true c1 ?_
    refine eR.step 2 (F' := (43, [(0, .ref 23), (1, .int (x)), (2, .int (nI (f)))], [.int (nI 4), .int (nI 0), .ref 23])) (h' := (Wd C e (P.1, 0) Q m1 N1 R 3 Z)) (fun _ _ => rfl) ?_
    refine eR.call (k' := 136) (as := [.ref 23, .int (nI 0), .int (nI 4)]) (rest := []) (v := none) (h1 := (Wd C e (P.1, 0) Q m1 N1 R (ri false 3 4) Z)) rfl rfl rfl rfl (eg (Nat.le_of_ble_eq_true rfl) (show 22 ≤ lo by omega) (Nat.le_of_ble_eq_true rfl)) (m_refIf (b := false) (show 21 ≤ lo - 22 by omega) (by decide)) ?_
    rw [show ri false 3 4 = 3 from rfl]
    refine eR.step 5 (F' := (54, [(0, .ref 23), (1, .int (x)), (2, .int (nI (f))), (3, .long (0)), (5, .int (nI 7))], [.int (nI 7)])) (h' := (Wd C e (P.1, 0) Q m1 N1 R 3 Z)) (fun _ _ => rfl) ?_
    refine eR.ifc rfl false rfl ?_
    refine eR.step 2 (F' := (61, [(0, .ref 23), (1, .int (x)), (2, .int (nI (f))), (3, .long (0)), (5, .int (nI 7))], [.int (nI 3)])) (h' := (Wd C e (P.1, 0) Q m1 N1 R 3 Z)) (fun _ _ => rfl) ?_
    refine eR.ifc rfl true ((nc_ne (b := 0) (by omega) (by decide)).trans (decide_eq_true (by omega))) ?_
    refine eR.step 1 (F' := (122, [(0, .ref 23), (1, .int (x)), (2, .int (nI (f))), (3, .long (0)), (5, .int (nI 7))], [.long (0)])) (h' := (Wd C e (P.1, 0) Q m1 N1 R 3 Z)) (fun _ _ => rfl) ?_
    exact eR.ret rfl rfl rfl
  · refine eR.ifc rfl false (Bool.eq_false_iff.mpr c1) ?_
    refine eR.step 3 (F' := (43, [(0, .ref 23), (1, .int (x)), (2, .int (nI (f)))], [.int (nI 4), .int (nI 1), .ref 23])) (h' := (Wd C e (P.1, 0) Q m1 N1 R 3 Z)) (fun _ _ => rfl) ?_
    refine eR.call (k' := 136) (as := [.ref 23, .int (nI 1), .int (nI 4)]) (rest := []) (v := none) (h1 := (Wd C e (P.1, 0) Q m1 N1 R (ri true 3 4) Z)) rfl rfl rfl rfl (eg (Nat.le_of_ble_eq_true rfl) (show 22 ≤ lo by omega) (Nat.le_of_ble_eq_true rfl)) (m_refIf (b := true) (show 21 ≤ lo - 22 by omega) (by decide)) ?_
    rw [show ri true 3 4 = 3 from rfl]
    refine eR.step 5 (F' := (54, [(0, .ref 23), (1, .int (x)), (2, .int (nI (f))), (3, .long (0)), (5, .int (nI 7))], [.int (nI 7)])) (h' := (Wd C e (P.1, 0) Q m1 N1 R 3 Z)) (fun _ _ => rfl) ?_
    refine eR.ifc rfl false rfl ?_
    refine eR.step 2 (F' := (61, [(0, .ref 23), (1, .int (x)), (2, .int (nI (f))), (3, .long (0)), (5, .int (nI 7))], [.int (nI 3)])) (h' := (Wd C e (P.1, 0) Q m1 N1 R 3 Z)) (fun _ _ => rfl) ?_
    refine eR.ifc rfl true ((nc_ne (b := 0) (by omega) (by decide)).trans (decide_eq_true (by omega))) ?_
    refine eR.step 1 (F' := (122, [(0, .ref 23), (1, .int (x)), (2, .int (nI (f))), (3, .long (0)), (5, .int (nI 7))], [.long (0)])) (h' := (Wd C e (P.1, 0) Q m1 N1 R 3 Z)) (fun _ _ => rfl) ?_
    exact eR.ret rfl rfl rfl
theorem m_readM {cm sm fr lo : Nat} {C : gC} {e : Nat → Nat} {P Q : gT} {m : Nat} {N : Nat → Nat} {R : gS} {t : Nat} {Z : mj_H} (hlo : 159 ≤ lo) (V : qV e) (hN : ∀ k, N k < 256) (ht : ∀ k, P.1 k < 65536) (hl : P.2 ≤ 40) {f m1 : Nat} {N1 : Nat → Nat} (hf0 : fo e P N = f) (hm0 : (pP P.1 P.2 N).2.1 = m1) (hN0 : (pP P.1 P.2 N).2.2 = N1) (h11 : e 11 = 1) (hfn : ¬ f = 0) (hf : f < 16) {x : Int32} (hx : x < 0) (hk : ¬ e (32 + (16 * f)) = 2)  : eE mm_P cm sm (fr + 8) lo 154 [.ref 23, .int (x)] (Wd C e P Q m N R t Z) (.inl (some (.long (0))), (Wd C e (P.1, 0) Q m1 N1 R 4 Z)) := by
  refine eE.of ?_
  have htf := tf_le e f
  refine eR.step 2 (F' := (2, [(0, .ref 23), (1, .int (x))], [.int (nI 0), .ref 23])) (h' := (Wd C e P Q m N R t Z)) (fun _ _ => rfl) ?_
  refine eR.call (k' := 142) (as := [.ref 23, .int (nI 0)]) (rest := []) (v := some (.int (nI (fo e P N)))) (h1 := (Wd C e (P.1, 0) Q (pP P.1 P.2 N).2.1 (pP P.1 P.2 N).2.2 R (tf e (fo e P N)) Z)) rfl rfl rfl rfl (eg (Nat.le_of_ble_eq_true rfl) (show 23 ≤ lo by omega) (Nat.le_of_ble_eq_true rfl)) (m_found0 (show 136 ≤ lo - 23 by omega) V hN ht hl) ?_
  rw [hf0, hm0, hN0]
  refine eR.step 3 (F' := (10, [(0, .ref 23), (1, .int (x)), (2, .int (nI (f)))], [.int (nI ((tf e f)))])) (h' := (Wd C e (P.1, 0) Q m1 N1 R (tf e f) Z)) (fun _ _ => rfl) ?_
  rw [tf_0 h11 hfn]
  refine eR.ifc rfl false ((nc_ne (b := 0) (by omega) (by decide)).trans (decide_eq_false (by omega))) ?_
  refine eR.step 3 (F' := (16, [(0, .ref 23), (1, .int (x)), (2, .int (nI (f)))], [.int (nI (f)), .ref 23, .ref 23])) (h' := (Wd C e (P.1, 0) Q m1 N1 R 0 Z)) (fun _ _ => rfl) ?_
  have h6 := V.B.dk.1 (32 + (16 * f))
  refine eR.call (k' := 128) (as := [.ref 23, .int (nI (f))]) (rest := [.ref 23]) (v := some (.int (nI (e (32 + (16 * f)))))) (h1 := (Wd C e (P.1, 0) Q m1 N1 R 0 Z)) rfl rfl rfl rfl (eg (Nat.le_of_ble_eq_true rfl) (show 21 ≤ lo by omega) (Nat.le_of_ble_eq_true rfl)) (m_kind (show 20 ≤ lo - 21 by omega) hf) ?_
  refine eR.step 1 (F' := (20, [(0, .ref 23), (1, .int (x)), (2, .int (nI (f)))], [.int (nI 2), .int (nI (e (32 + (16 * f)))), .ref 23])) (h' := (Wd C e (P.1, 0) Q m1 N1 R 0 Z)) (fun _ _ => rfl) ?_
  refine eR.icmp rfl true ((nc_ne (by omega) (by omega)).trans (decide_eq_true (by omega))) ?_
  refine eR.step 2 (F' := (29, [(0, .ref 23), (1, .int (x)), (2, .int (nI (f)))], [.int (nI 3), .int (nI 0), .ref 23])) (h' := (Wd C e (P.1, 0) Q m1 N1 R 0 Z)) (fun _ _ => rfl) ?_
  refine eR.call (k' := 136) (as := [.ref 23, .int (nI 0), .int (nI 3)]) (rest := []) (v := none) (h1 := (Wd C e (P.1, 0) Q m1 N1 R (ri false 0 3) Z)) rfl rfl rfl rfl (eg (Nat.le_of_ble_eq_true rfl) (show 22 ≤ lo by omega) (Nat.le_of_ble_eq_true rfl)) (m_refIf (b := false) (show 21 ≤ lo - 22 by omega) (by decide)) ?_
  rw [show ri false 0 3 = 0 from rfl]
  refine eR.step 2 (F' := (34, [(0, .ref 23), (1, .int (x)), (2, .int (nI (f)))], [.int (x), .ref 23])) (h' := (Wd C e (P.1, 0) Q m1 N1 R 0 Z)) (fun _ _ => rfl) ?_
  refine eR.ifc rfl false (mc_ge hx) ?_
  refine eR.step 3 (F' := (43, [(0, .ref 23), (1, .int (x)), (2, .int (nI (f)))], [.int (nI 4), .int (nI 1), .ref 23])) (h' := (Wd C e (P.1, 0) Q m1 N1 R 0 Z)) (fun _ _ => rfl) ?_
  refine eR.call (k' := 136) (as := [.ref 23, .int (nI 1), .int (nI 4)]) (rest := []) (v := none) (h1 := (Wd C e (P.1, 0) Q m1 N1 R (ri true 0 4) Z)) rfl rfl rfl rfl (eg (Nat.le_of_ble_eq_true rfl) (show 22 ≤ lo by omega) (Nat.le_of_ble_eq_true rfl)) (m_refIf (b := true) (show 21 ≤ lo - 22 by omega) (by decide)) ?_
  rw [show ri true 0 4 = 4 from rfl]
  refine eR.step 5 (F' := (54, [(0, .ref 23), (1, .int (x)), (2, .int (nI (f))), (3, .long (0)), (5, .int (nI 7))], [.int (nI 7)])) (h' := (Wd C e (P.1, 0) Q m1 N1 R 4 Z)) (fun _ _ => rfl) ?_
  refine eR.ifc rfl false rfl ?_
  refine eR.step 2 (F' := (61, [(0, .ref 23), (1, .int (x)), (2, .int (nI (f))), (3, .long (0)), (5, .int (nI 7))], [.int (nI 4)])) (h' := (Wd C e (P.1, 0) Q m1 N1 R 4 Z)) (fun _ _ => rfl) ?_
  refine eR.ifc rfl true ((nc_ne (b := 0) (by omega) (by decide)).trans (decide_eq_true (by omega))) ?_
  refine eR.step 1 (F' := (122, [(0, .ref 23), (1, .int (x)), (2, .int (nI (f))), (3, .long (0)), (5, .int (nI 7))], [.long (0)])) (h' := (Wd C e (P.1, 0) Q m1 N1 R 4 Z)) (fun _ _ => rfl) ?_
  exact eR.ret rfl rfl rfl
theorem l_rdB {cm sm fr lo : Nat} {C : gC} {e : Nat → Nat} {P Q : gT} {m : Nat} {N : Nat → Nat} {R : gS} {Z : mj_H} (hlo : 159 ≤ lo) (he : dk e) {f o : Nat} (hf : f < 16) (ho : o < 2 ^ 31) (hx6 : e (32 + (16 * f) + 10) < 64) (hb6 : ∀ w, w < 38 → bo e f w < 64) (hs6 : e (32 + (16 * f) + 2) + (256 * e (32 + (16 * f) + 3)) ≤ 1216) : ∀ (n acc : Nat) (z : Int32), n ≤ 8 → eR mm_P cm sm (fr + 4) lo 154 (52, [(0, .ref 23), (1, .int (nI (o))), (2, .int (nI (f))), (3, .long (nL (acc))), (5, .int (ki n)), (6, .int (z))], []) (Wd C e P Q m N R 0 Z) (.inl (some (.long (nL (hz (fun k => if o ≤ 1216 ∧ o + k < e (32 + (16 * f) + 2) + (256 * e (32 + (16 * f) + 3)) then gy e f (o + k) else 0) acc n)))), (Wd C e P Q m N R 0 Z))
  | 0, acc, z, h0 => by
    refine eR.step 1 (F' := (54, [(0, .ref 23), (1, .int (nI (o))), (2, .int (nI (f))), (3, .long (nL (acc))), (5, .int (ki 0)), (6, .int (z))], [.int (ki 0)])) (h' := (Wd C e P Q m N R 0 Z)) (fun _ _ => rfl) ?_
    refine eR.ifc rfl true mc_ki0 ?_
    refine eR.step 1 (F' := (122, [(0, .ref 23), (1, .int (nI (o))), (2, .int (nI (f))), (3, .long (nL (acc))), (5, .int (ki 0)), (6, .int (z))], [.long (nL (acc))])) (h' := (Wd C e P Q m N R 0 Z)) (fun _ _ => rfl) ?_
    exact eR.ret rfl rfl rfl
  | n + 1, acc, z, h0 => by
    rw [hz]
    refine eR.step 1 (F' := (54, [(0, .ref 23), (1, .int (nI (o))), (2, .int (nI (f))), (3, .long (nL (acc))), (5, .int (ki (n + 1))), (6, .int (z))], [.int (ki (n + 1))])) (h' := (Wd C e P Q m N R 0 Z)) (fun _ _ => rfl) ?_
    refine eR.ifc rfl false (mc_kin (by omega)) ?_
    rw [show ki (n + 1) = nI n from rfl]
    refine eR.step 2 (F' := (61, [(0, .ref 23), (1, .int (nI (o))), (2, .int (nI (f))), (3, .long (nL (acc))), (5, .int (nI (n))), (6, .int (z))], [.int (nI 0)])) (h' := (Wd C e P Q m N R 0 Z)) (fun _ _ => rfl) ?_
    refine eR.ifc rfl false rfl ?_
    refine eR.step 2 (F' := (68, [(0, .ref 23), (1, .int (nI (o))), (2, .int (nI (f))), (3, .long (nL (acc))), (5, .int (nI (n))), (6, .int (z))], [.int (nI 1216), .int (nI (o))])) (h' := (Wd C e P Q m N R 0 Z)) (fun _ _ => rfl) ?_
    have h7 := he.1 (32 + (16 * f) + 2)
    have h8 := he.1 (32 + (16 * f) + 3)
    by_cases h1 : o ≤ 1216 ∧ o + n < e (32 + (16 * f) + 2) + (256 * e (32 + (16 * f) + 3))
    · rw [if_pos h1]
      refine eR.icmp rfl false ((nc_gt (by omega) (by omega)).trans (decide_eq_false (by omega))) ?_
      refine eR.step 2 (F' := (74, [(0, .ref 23), (1, .int (nI (o))), (2, .int (nI (f))), (3, .long (nL (acc))), (5, .int (nI (n))), (6, .int (z))], [.int (nI (n)), .int (nI (o))])) (h' := (Wd C e P Q m N R 0 Z)) (fun _ _ => rfl) ?_
      refine eR.nadd rfl ?_
      refine eR.step 2 (F' := (77, [(0, .ref 23), (1, .int (nI (o))), (2, .int (nI (f))), (3, .long (nL (acc))), (5, .int (nI (n))), (6, .int (z))], [.int (nI (f)), .ref 23, .int (nI (o + n))])) (h' := (Wd C e P Q m N R 0 Z)) (fun _ _ => rfl) ?_
      refine eR.call (k' := 131) (as := [.ref 23, .int (nI (f))]) (rest := [.int (nI (o + n))]) (v := some (.int (nI (e (32 + (16 * f) + 2) + (256 * e (32 + (16 * f) + 3)))))) (h1 := (Wd C e P Q m N R 0 Z)) rfl rfl rfl rfl (eg (Nat.le_of_ble_eq_true rfl) (show 21 ≤ lo by omega) (Nat.le_of_ble_eq_true rfl)) (m_size (show 20 ≤ lo - 21 by omega) he hf) ?_
      refine eR.icmp rfl false ((nc_ge (by omega) (by omega)).trans (decide_eq_false (by omega))) ?_
      refine eR.step 5 (F' := (93, [(0, .ref 23), (1, .int (nI (o))), (2, .int (nI (f))), (3, .long (nL (acc))), (5, .int (nI (n))), (6, .int (nI 1))], [.int (nI 8), .long (nL (acc))])) (h' := (Wd C e P Q m N R 0 Z)) (fun _ _ => rfl) ?_
      refine eR.step 2 (F' := (96, [(0, .ref 23), (1, .int (nI (o))), (2, .int (nI (f))), (3, .long (nL (acc))), (5, .int (nI (n))), (6, .int (nI 1))], [.int (nI 1), .long (nL (acc) <<< ((nI 8).toInt64 &&& 63))])) (h' := (Wd C e P Q m N R 0 Z)) (fun _ _ => rfl) ?_
      refine eR.ifc rfl false rfl ?_
      refine eR.step 4 (F' := (104, [(0, .ref 23), (1, .int (nI (o))), (2, .int (nI (f))), (3, .long (nL (acc))), (5, .int (nI (n))), (6, .int (nI 1))], [.int (nI (n)), .int (nI (o)), .int (nI (f)), .ref 23, .long (nL (acc) <<< ((nI 8).toInt64 &&& 63))])) (h' := (Wd C e P Q m N R 0 Z)) (fun _ _ => rfl) ?_
      refine eR.nadd rfl ?_
      have hb7 := hb6 ((o + n) / 32) (by omega)
      refine eR.call (k' := 155) (as := [.ref 23, .int (nI (f)), .int (nI (o + n))]) (rest := [.long (nL (acc) <<< ((nI 8).toInt64 &&& 63))]) (v := some (.int (nI (gy e f (o + n))))) (h1 := (Wd C e P Q m N R 0 Z)) rfl rfl rfl rfl (eg (Nat.le_of_ble_eq_true rfl) (show 23 ≤ lo by omega) (Nat.le_of_ble_eq_true rfl)) (m_byte (show 66 ≤ lo - 23 by omega) hf (by omega) hx6 hb7) ?_
      refine eR.step 1 (F' := (112, [(0, .ref 23), (1, .int (nI (o))), (2, .int (nI (f))), (3, .long (nL (acc))), (5, .int (nI (n))), (6, .int (nI 1))], [.int (nI (gy e f (o + n))), .long (nL (acc) <<< ((nI 8).toInt64 &&& 63))])) (h' := (Wd C e P Q m N R 0 Z)) (fun _ _ => rfl) ?_
      refine eR.step 2 (F' := (114, [(0, .ref 23), (1, .int (nI (o))), (2, .int (nI (f))), (3, .long (nL (acc))), (5, .int (nI (n))), (6, .int (nI 1))], [.long ((nL (acc) <<< ((nI 8).toInt64 &&& 63)) ||| (nI (gy e f (o + n))).toInt64)])) (h' := (Wd C e P Q m N R 0 Z)) (fun _ _ => rfl) ?_
      rw [nL_hor (gy_256 he _ _)]
      refine eR.step 1 (F' := (115, [(0, .ref 23), (1, .int (nI (o))), (2, .int (nI (f))), (3, .long (nL (acc * 256 + gy e f (o + n)))), (5, .int (nI (n))), (6, .int (nI 1))], [])) (h' := (Wd C e P Q m N R 0 Z)) (fun _ _ => rfl) ?_
      refine eR.step 1 (F' := (118, [(0, .ref 23), (1, .int (nI (o))), (2, .int (nI (f))), (3, .long (nL (acc * 256 + gy e f (o + n)))), (5, .int (nI (n) + Int32.ofInt (-1))), (6, .int (nI 1))], [])) (h' := (Wd C e P Q m N R 0 Z)) (fun _ _ => rfl) ?_
      rw [ki_dec n (by omega)]
      refine eR.step 1 (F' := (52, [(0, .ref 23), (1, .int (nI (o))), (2, .int (nI (f))), (3, .long (nL (acc * 256 + gy e f (o + n)))), (5, .int (ki n)), (6, .int (nI 1))], [])) (h' := (Wd C e P Q m N R 0 Z)) (fun _ _ => rfl) ?_
      exact l_rdB hlo he hf ho hx6 hb6 hs6 n _ _ (by omega)
    · rw [if_neg h1]
      by_cases h2 : o ≤ 1216
      · refine eR.icmp rfl false ((nc_gt (by omega) (by omega)).trans (decide_eq_false (by omega))) ?_
        refine eR.step 2 (F' := (74, [(0, .ref 23), (1, .int (nI (o))), (2, .int (nI (f))), (3, .long (nL (acc))), (5, .int (nI (n))), (6, .int (z))], [.int (nI (n)), .int (nI (o))])) (h' := (Wd C e P Q m N R 0 Z)) (fun _ _ => rfl) ?_
        refine eR.nadd rfl ?_
        refine eR.step 2 (F' := (77, [(0, .ref 23), (1, .int (nI (o))), (2, .int (nI (f))), (3, .long (nL (acc))), (5, .int (nI (n))), (6, .int (z))], [.int (nI (f)), .ref 23, .int (nI (o + n))])) (h' := (Wd C e P Q m N R 0 Z)) (fun _ _ => rfl) ?_
        refine eR.call (k' := 131) (as := [.ref 23, .int (nI (f))]) (rest := [.int (nI (o + n))]) (v := some (.int (nI (e (32 + (16 * f) + 2) + (256 * e (32 + (16 * f) + 3)))))) (h1 := (Wd C e P Q m N R 0 Z)) rfl rfl rfl rfl (eg (Nat.le_of_ble_eq_true rfl) (show 21 ≤ lo by omega) (Nat.le_of_ble_eq_true rfl)) (m_size (show 20 ≤ lo - 21 by omega) he hf) ?_
        refine eR.icmp rfl true ((nc_ge (by omega) (by omega)).trans (decide_eq_true (by omega))) ?_
        refine eR.step 4 (F' := (93, [(0, .ref 23), (1, .int (nI (o))), (2, .int (nI (f))), (3, .long (nL (acc))), (5, .int (nI (n))), (6, .int (nI 0))], [.int (nI 8), .long (nL (acc))])) (h' := (Wd C e P Q m N R 0 Z)) (fun _ _ => rfl) ?_
        refine eR.step 2 (F' := (96, [(0, .ref 23), (1, .int (nI (o))), (2, .int (nI (f))), (3, .long (nL (acc))), (5, .int (nI (n))), (6, .int (nI 0))], [.int (nI 0), .long (nL (acc) <<< ((nI 8).toInt64 &&& 63))])) (h' := (Wd C e P Q m N R 0 Z)) (fun _ _ => rfl) ?_
        refine eR.ifc rfl true rfl ?_
        refine eR.step 1 (F' := (112, [(0, .ref 23), (1, .int (nI (o))), (2, .int (nI (f))), (3, .long (nL (acc))), (5, .int (nI (n))), (6, .int (nI 0))], [.int (nI 0), .long (nL (acc) <<< ((nI 8).toInt64 &&& 63))])) (h' := (Wd C e P Q m N R 0 Z)) (fun _ _ => rfl) ?_
        refine eR.step 2 (F' := (114, [(0, .ref 23), (1, .int (nI (o))), (2, .int (nI (f))), (3, .long (nL (acc))), (5, .int (nI (n))), (6, .int (nI 0))], [.long ((nL (acc) <<< ((nI 8).toInt64 &&& 63)) ||| (nI 0).toInt64)])) (h' := (Wd C e P Q m N R 0 Z)) (fun _ _ => rfl) ?_
        rw [nL_hor (b := 0) (by decide)]
        refine eR.step 1 (F' := (115, [(0, .ref 23), (1, .int (nI (o))), (2, .int (nI (f))), (3, .long (nL (acc * 256 + 0))), (5, .int (nI (n))), (6, .int (nI 0))], [])) (h' := (Wd C e P Q m N R 0 Z)) (fun _ _ => rfl) ?_
        refine eR.step 1 (F' := (118, [(0, .ref 23), (1, .int (nI (o))), (2, .int (nI (f))), (3, .long (nL (acc * 256 + 0))), (5, .int (nI (n) + Int32.ofInt (-1))), (6, .int (nI 0))], [])) (h' := (Wd C e P Q m N R 0 Z)) (fun _ _ => rfl) ?_
        rw [ki_dec n (by omega)]
        refine eR.step 1 (F' := (52, [(0, .ref 23), (1, .int (nI (o))), (2, .int (nI (f))), (3, .long (nL (acc * 256 + 0))), (5, .int (ki n)), (6, .int (nI 0))], [])) (h' := (Wd C e P Q m N R 0 Z)) (fun _ _ => rfl) ?_
        exact l_rdB hlo he hf ho hx6 hb6 hs6 n _ _ (by omega)
      · refine eR.icmp rfl true ((nc_gt (by omega) (by omega)).trans (decide_eq_true (by omega))) ?_
        refine eR.step 4 (F' := (93, [(0, .ref 23), (1, .int (nI (o))), (2, .int (nI (f))), (3, .long (nL (acc))), (5, .int (nI (n))), (6, .int (nI 0))], [.int (nI 8), .long (nL (acc))])) (h' := (Wd C e P Q m N R 0 Z)) (fun _ _ => rfl) ?_
        refine eR.step 2 (F' := (96, [(0, .ref 23), (1, .int (nI (o))), (2, .int (nI (f))), (3, .long (nL (acc))), (5, .int (nI (n))), (6, .int (nI 0))], [.int (nI 0), .long (nL (acc) <<< ((nI 8).toInt64 &&& 63))])) (h' := (Wd C e P Q m N R 0 Z)) (fun _ _ => rfl) ?_
        refine eR.ifc rfl true rfl ?_
        refine eR.step 1 (F' := (112, [(0, .ref 23), (1, .int (nI (o))), (2, .int (nI (f))), (3, .long (nL (acc))), (5, .int (nI (n))), (6, .int (nI 0))], [.int (nI 0), .long (nL (acc) <<< ((nI 8).toInt64 &&& 63))])) (h' := (Wd C e P Q m N R 0 Z)) (fun _ _ => rfl) ?_
        refine eR.step 2 (F' := (114, [(0, .ref 23), (1, .int (nI (o))), (2, .int (nI (f))), (3, .long (nL (acc))), (5, .int (nI (n))), (6, .int (nI 0))], [.long ((nL (acc) <<< ((nI 8).toInt64 &&& 63)) ||| (nI 0).toInt64)])) (h' := (Wd C e P Q m N R 0 Z)) (fun _ _ => rfl) ?_
        rw [nL_hor (b := 0) (by decide)]
        refine eR.step 1 (F' := (115, [(0, .ref 23), (1, .int (nI (o))), (2, .int (nI (f))), (3, .long (nL (acc * 256 + 0))), (5, .int (nI (n))), (6, .int (nI 0))], [])) (h' := (Wd C e P Q m N R 0 Z)) (fun _ _ => rfl) ?_
        refine eR.step 1 (F' := (118, [(0, .ref 23), (1, .int (nI (o))), (2, .int (nI (f))), (3, .long (nL (acc * 256 + 0))), (5, .int (nI (n) + Int32.ofInt (-1))), (6, .int (nI 0))], [])) (h' := (Wd C e P Q m N R 0 Z)) (fun _ _ => rfl) ?_
        rw [ki_dec n (by omega)]
        refine eR.step 1 (F' := (52, [(0, .ref 23), (1, .int (nI (o))), (2, .int (nI (f))), (3, .long (nL (acc * 256 + 0))), (5, .int (ki n)), (6, .int (nI 0))], [])) (h' := (Wd C e P Q m N R 0 Z)) (fun _ _ => rfl) ?_
        exact l_rdB hlo he hf ho hx6 hb6 hs6 n _ _ (by omega)
theorem l_rdA {cm sm fr lo : Nat} {C : gC} {e : Nat → Nat} {P Q : gT} {m : Nat} {N : Nat → Nat} {R : gS} {Z : mj_H} (hlo : 159 ≤ lo) (he : dk e) {f o : Nat} (hf : f < 16) (ho : o < 2 ^ 31) (hx6 : e (32 + (16 * f) + 10) < 64) (hb6 : ∀ w, w < 38 → bo e f w < 64) (hs6 : e (32 + (16 * f) + 2) + (256 * e (32 + (16 * f) + 3)) ≤ 1216) : ∀ (n acc : Nat), n ≤ 8 → eR mm_P cm sm (fr + 4) lo 154 (52, [(0, .ref 23), (1, .int (nI (o))), (2, .int (nI (f))), (3, .long (nL (acc))), (5, .int (ki n))], []) (Wd C e P Q m N R 0 Z) (.inl (some (.long (nL (hz (fun k => if o ≤ 1216 ∧ o + k < e (32 + (16 * f) + 2) + (256 * e (32 + (16 * f) + 3)) then gy e f (o + k) else 0) acc n)))), (Wd C e P Q m N R 0 Z))
  | 0, acc, h0 => by
    refine eR.step 1 (F' := (54, [(0, .ref 23), (1, .int (nI (o))), (2, .int (nI (f))), (3, .long (nL (acc))), (5, .int (ki 0))], [.int (ki 0)])) (h' := (Wd C e P Q m N R 0 Z)) (fun _ _ => rfl) ?_
    refine eR.ifc rfl true mc_ki0 ?_
    refine eR.step 1 (F' := (122, [(0, .ref 23), (1, .int (nI (o))), (2, .int (nI (f))), (3, .long (nL (acc))), (5, .int (ki 0))], [.long (nL (acc))])) (h' := (Wd C e P Q m N R 0 Z)) (fun _ _ => rfl) ?_
    exact eR.ret rfl rfl rfl
  | n + 1, acc, h0 => by
    rw [hz]
    refine eR.step 1 (F' := (54, [(0, .ref 23), (1, .int (nI (o))), (2, .int (nI (f))), (3, .long (nL (acc))), (5, .int (ki (n + 1)))], [.int (ki (n + 1))])) (h' := (Wd C e P Q m N R 0 Z)) (fun _ _ => rfl) ?_
    refine eR.ifc rfl false (mc_kin (by omega)) ?_
    rw [show ki (n + 1) = nI n from rfl]
    refine eR.step 2 (F' := (61, [(0, .ref 23), (1, .int (nI (o))), (2, .int (nI (f))), (3, .long (nL (acc))), (5, .int (nI (n)))], [.int (nI 0)])) (h' := (Wd C e P Q m N R 0 Z)) (fun _ _ => rfl) ?_
    refine eR.ifc rfl false rfl ?_
    refine eR.step 2 (F' := (68, [(0, .ref 23), (1, .int (nI (o))), (2, .int (nI (f))), (3, .long (nL (acc))), (5, .int (nI (n)))], [.int (nI 1216), .int (nI (o))])) (h' := (Wd C e P Q m N R 0 Z)) (fun _ _ => rfl) ?_
    have h7 := he.1 (32 + (16 * f) + 2)
    have h8 := he.1 (32 + (16 * f) + 3)
    by_cases h1 : o ≤ 1216 ∧ o + n < e (32 + (16 * f) + 2) + (256 * e (32 + (16 * f) + 3))
    · rw [if_pos h1]
      refine eR.icmp rfl false ((nc_gt (by omega) (by omega)).trans (decide_eq_false (by omega))) ?_
      refine eR.step 2 (F' := (74, [(0, .ref 23), (1, .int (nI (o))), (2, .int (nI (f))), (3, .long (nL (acc))), (5, .int (nI (n)))], [.int (nI (n)), .int (nI (o))])) (h' := (Wd C e P Q m N R 0 Z)) (fun _ _ => rfl) ?_
      refine eR.nadd rfl ?_
      refine eR.step 2 (F' := (77, [(0, .ref 23), (1, .int (nI (o))), (2, .int (nI (f))), (3, .long (nL (acc))), (5, .int (nI (n)))], [.int (nI (f)), .ref 23, .int (nI (o + n))])) (h' := (Wd C e P Q m N R 0 Z)) (fun _ _ => rfl) ?_
      refine eR.call (k' := 131) (as := [.ref 23, .int (nI (f))]) (rest := [.int (nI (o + n))]) (v := some (.int (nI (e (32 + (16 * f) + 2) + (256 * e (32 + (16 * f) + 3)))))) (h1 := (Wd C e P Q m N R 0 Z)) rfl rfl rfl rfl (eg (Nat.le_of_ble_eq_true rfl) (show 21 ≤ lo by omega) (Nat.le_of_ble_eq_true rfl)) (m_size (show 20 ≤ lo - 21 by omega) he hf) ?_
      refine eR.icmp rfl false ((nc_ge (by omega) (by omega)).trans (decide_eq_false (by omega))) ?_
      refine eR.step 5 (F' := (93, [(0, .ref 23), (1, .int (nI (o))), (2, .int (nI (f))), (3, .long (nL (acc))), (5, .int (nI (n))), (6, .int (nI 1))], [.int (nI 8), .long (nL (acc))])) (h' := (Wd C e P Q m N R 0 Z)) (fun _ _ => rfl) ?_
      refine eR.step 2 (F' := (96, [(0, .ref 23), (1, .int (nI (o))), (2, .int (nI (f))), (3, .long (nL (acc))), (5, .int (nI (n))), (6, .int (nI 1))], [.int (nI 1), .long (nL (acc) <<< ((nI 8).toInt64 &&& 63))])) (h' := (Wd C e P Q m N R 0 Z)) (fun _ _ => rfl) ?_
      refine eR.ifc rfl false rfl ?_
      refine eR.step 4 (F' := (104, [(0, .ref 23), (1, .int (nI (o))), (2, .int (nI (f))), (3, .long (nL (acc))), (5, .int (nI (n))), (6, .int (nI 1))], [.int (nI (n)), .int (nI (o)), .int (nI (f)), .ref 23, .long (nL (acc) <<< ((nI 8).toInt64 &&& 63))])) (h' := (Wd C e P Q m N R 0 Z)) (fun _ _ => rfl) ?_
      refine eR.nadd rfl ?_
      have hb7 := hb6 ((o + n) / 32) (by omega)
      refine eR.call (k' := 155) (as := [.ref 23, .int (nI (f)), .int (nI (o + n))]) (rest := [.long (nL (acc) <<< ((nI 8).toInt64 &&& 63))]) (v := some (.int (nI (gy e f (o + n))))) (h1 := (Wd C e P Q m N R 0 Z)) rfl rfl rfl rfl (eg (Nat.le_of_ble_eq_true rfl) (show 23 ≤ lo by omega) (Nat.le_of_ble_eq_true rfl)) (m_byte (show 66 ≤ lo - 23 by omega) hf (by omega) hx6 hb7) ?_
      refine eR.step 1 (F' := (112, [(0, .ref 23), (1, .int (nI (o))), (2, .int (nI (f))), (3, .long (nL (acc))), (5, .int (nI (n))), (6, .int (nI 1))], [.int (nI (gy e f (o + n))), .long (nL (acc) <<< ((nI 8).toInt64 &&& 63))])) (h' := (Wd C e P Q m N R 0 Z)) (fun _ _ => rfl) ?_
      refine eR.step 2 (F' := (114, [(0, .ref 23), (1, .int (nI (o))), (2, .int (nI (f))), (3, .long (nL (acc))), (5, .int (nI (n))), (6, .int (nI 1))], [.long ((nL (acc) <<< ((nI 8).toInt64 &&& 63)) ||| (nI (gy e f (o + n))).toInt64)])) (h' := (Wd C e P Q m N R 0 Z)) (fun _ _ => rfl) ?_
      rw [nL_hor (gy_256 he _ _)]
      refine eR.step 1 (F' := (115, [(0, .ref 23), (1, .int (nI (o))), (2, .int (nI (f))), (3, .long (nL (acc * 256 + gy e f (o + n)))), (5, .int (nI (n))), (6, .int (nI 1))], [])) (h' := (Wd C e P Q m N R 0 Z)) (fun _ _ => rfl) ?_
      refine eR.step 1 (F' := (118, [(0, .ref 23), (1, .int (nI (o))), (2, .int (nI (f))), (3, .long (nL (acc * 256 + gy e f (o + n)))), (5, .int (nI (n) + Int32.ofInt (-1))), (6, .int (nI 1))], [])) (h' := (Wd C e P Q m N R 0 Z)) (fun _ _ => rfl) ?_
      rw [ki_dec n (by omega)]
      refine eR.step 1 (F' := (52, [(0, .ref 23), (1, .int (nI (o))), (2, .int (nI (f))), (3, .long (nL (acc * 256 + gy e f (o + n)))), (5, .int (ki n)), (6, .int (nI 1))], [])) (h' := (Wd C e P Q m N R 0 Z)) (fun _ _ => rfl) ?_
      exact l_rdB hlo he hf ho hx6 hb6 hs6 n _ _ (by omega)
    · rw [if_neg h1]
      by_cases h2 : o ≤ 1216
      · refine eR.icmp rfl false ((nc_gt (by omega) (by omega)).trans (decide_eq_false (by omega))) ?_
        refine eR.step 2 (F' := (74, [(0, .ref 23), (1, .int (nI (o))), (2, .int (nI (f))), (3, .long (nL (acc))), (5, .int (nI (n)))], [.int (nI (n)), .int (nI (o))])) (h' := (Wd C e P Q m N R 0 Z)) (fun _ _ => rfl) ?_
        refine eR.nadd rfl ?_
        refine eR.step 2 (F' := (77, [(0, .ref 23), (1, .int (nI (o))), (2, .int (nI (f))), (3, .long (nL (acc))), (5, .int (nI (n)))], [.int (nI (f)), .ref 23, .int (nI (o + n))])) (h' := (Wd C e P Q m N R 0 Z)) (fun _ _ => rfl) ?_
        refine eR.call (k' := 131) (as := [.ref 23, .int (nI (f))]) (rest := [.int (nI (o + n))]) (v := some (.int (nI (e (32 + (16 * f) + 2) + (256 * e (32 + (16 * f) + 3)))))) (h1 := (Wd C e P Q m N R 0 Z)) rfl rfl rfl rfl (eg (Nat.le_of_ble_eq_true rfl) (show 21 ≤ lo by omega) (Nat.le_of_ble_eq_true rfl)) (m_size (show 20 ≤ lo - 21 by omega) he hf) ?_
        refine eR.icmp rfl true ((nc_ge (by omega) (by omega)).trans (decide_eq_true (by omega))) ?_
        refine eR.step 4 (F' := (93, [(0, .ref 23), (1, .int (nI (o))), (2, .int (nI (f))), (3, .long (nL (acc))), (5, .int (nI (n))), (6, .int (nI 0))], [.int (nI 8), .long (nL (acc))])) (h' := (Wd C e P Q m N R 0 Z)) (fun _ _ => rfl) ?_
        refine eR.step 2 (F' := (96, [(0, .ref 23), (1, .int (nI (o))), (2, .int (nI (f))), (3, .long (nL (acc))), (5, .int (nI (n))), (6, .int (nI 0))], [.int (nI 0), .long (nL (acc) <<< ((nI 8).toInt64 &&& 63))])) (h' := (Wd C e P Q m N R 0 Z)) (fun _ _ => rfl) ?_
        refine eR.ifc rfl true rfl ?_
        refine eR.step 1 (F' := (112, [(0, .ref 23), (1, .int (nI (o))), (2, .int (nI (f))), (3, .long (nL (acc))), (5, .int (nI (n))), (6, .int (nI 0))], [.int (nI 0), .long (nL (acc) <<< ((nI 8).toInt64 &&& 63))])) (h' := (Wd C e P Q m N R 0 Z)) (fun _ _ => rfl) ?_
        refine eR.step 2 (F' := (114, [(0, .ref 23), (1, .int (nI (o))), (2, .int (nI (f))), (3, .long (nL (acc))), (5, .int (nI (n))), (6, .int (nI 0))], [.long ((nL (acc) <<< ((nI 8).toInt64 &&& 63)) ||| (nI 0).toInt64)])) (h' := (Wd C e P Q m N R 0 Z)) (fun _ _ => rfl) ?_
        rw [nL_hor (b := 0) (by decide)]
        refine eR.step 1 (F' := (115, [(0, .ref 23), (1, .int (nI (o))), (2, .int (nI (f))), (3, .long (nL (acc * 256 + 0))), (5, .int (nI (n))), (6, .int (nI 0))], [])) (h' := (Wd C e P Q m N R 0 Z)) (fun _ _ => rfl) ?_
        refine eR.step 1 (F' := (118, [(0, .ref 23), (1, .int (nI (o))), (2, .int (nI (f))), (3, .long (nL (acc * 256 + 0))), (5, .int (nI (n) + Int32.ofInt (-1))), (6, .int (nI 0))], [])) (h' := (Wd C e P Q m N R 0 Z)) (fun _ _ => rfl) ?_
        rw [ki_dec n (by omega)]
        refine eR.step 1 (F' := (52, [(0, .ref 23), (1, .int (nI (o))), (2, .int (nI (f))), (3, .long (nL (acc * 256 + 0))), (5, .int (ki n)), (6, .int (nI 0))], [])) (h' := (Wd C e P Q m N R 0 Z)) (fun _ _ => rfl) ?_
        exact l_rdB hlo he hf ho hx6 hb6 hs6 n _ _ (by omega)
      · refine eR.icmp rfl true ((nc_gt (by omega) (by omega)).trans (decide_eq_true (by omega))) ?_
        refine eR.step 4 (F' := (93, [(0, .ref 23), (1, .int (nI (o))), (2, .int (nI (f))), (3, .long (nL (acc))), (5, .int (nI (n))), (6, .int (nI 0))], [.int (nI 8), .long (nL (acc))])) (h' := (Wd C e P Q m N R 0 Z)) (fun _ _ => rfl) ?_
        refine eR.step 2 (F' := (96, [(0, .ref 23), (1, .int (nI (o))), (2, .int (nI (f))), (3, .long (nL (acc))), (5, .int (nI (n))), (6, .int (nI 0))], [.int (nI 0), .long (nL (acc) <<< ((nI 8).toInt64 &&& 63))])) (h' := (Wd C e P Q m N R 0 Z)) (fun _ _ => rfl) ?_
        refine eR.ifc rfl true rfl ?_
        refine eR.step 1 (F' := (112, [(0, .ref 23), (1, .int (nI (o))), (2, .int (nI (f))), (3, .long (nL (acc))), (5, .int (nI (n))), (6, .int (nI 0))], [.int (nI 0), .long (nL (acc) <<< ((nI 8).toInt64 &&& 63))])) (h' := (Wd C e P Q m N R 0 Z)) (fun _ _ => rfl) ?_
        refine eR.step 2 (F' := (114, [(0, .ref 23), (1, .int (nI (o))), (2, .int (nI (f))), (3, .long (nL (acc))), (5, .int (nI (n))), (6, .int (nI 0))], [.long ((nL (acc) <<< ((nI 8).toInt64 &&& 63)) ||| (nI 0).toInt64)])) (h' := (Wd C e P Q m N R 0 Z)) (fun _ _ => rfl) ?_
        rw [nL_hor (b := 0) (by decide)]
        refine eR.step 1 (F' := (115, [(0, .ref 23), (1, .int (nI (o))), (2, .int (nI (f))), (3, .long (nL (acc * 256 + 0))), (5, .int (nI (n))), (6, .int (nI 0))], [])) (h' := (Wd C e P Q m N R 0 Z)) (fun _ _ => rfl) ?_
        refine eR.step 1 (F' := (118, [(0, .ref 23), (1, .int (nI (o))), (2, .int (nI (f))), (3, .long (nL (acc * 256 + 0))), (5, .int (nI (n) + Int32.ofInt (-1))), (6, .int (nI 0))], [])) (h' := (Wd C e P Q m N R 0 Z)) (fun _ _ => rfl) ?_
        rw [ki_dec n (by omega)]
        refine eR.step 1 (F' := (52, [(0, .ref 23), (1, .int (nI (o))), (2, .int (nI (f))), (3, .long (nL (acc * 256 + 0))), (5, .int (ki n)), (6, .int (nI 0))], [])) (h' := (Wd C e P Q m N R 0 Z)) (fun _ _ => rfl) ?_
        exact l_rdB hlo he hf ho hx6 hb6 hs6 n _ _ (by omega)
theorem m_read {cm sm fr lo : Nat} {C : gC} {e : Nat → Nat} {P Q : gT} {m : Nat} {N : Nat → Nat} {R : gS} {t : Nat} {Z : mj_H} (hlo : 159 ≤ lo) (V : qV e) (hN : ∀ k, N k < 256) (ht : ∀ k, P.1 k < 65536) (hl : P.2 ≤ 40) {f m1 : Nat} {N1 : Nat → Nat} (hf0 : fo e P N = f) (hm0 : (pP P.1 P.2 N).2.1 = m1) (hN0 : (pP P.1 P.2 N).2.2 = N1) (h11 : e 11 = 1) (hfn : ¬ f = 0) (hf : f < 16) {o : Nat} (ho : o < 2 ^ 31) (hk : ¬ e (32 + (16 * f)) = 2) (hx6 : e (32 + (16 * f) + 10) < 64) (hb6 : ∀ w, w < 38 → bo e f w < 64) (hs6 : e (32 + (16 * f) + 2) + (256 * e (32 + (16 * f) + 3)) ≤ 1216) : eE mm_P cm sm (fr + 8) lo 154 [.ref 23, .int (nI (o))] (Wd C e P Q m N R t Z) (.inl (some (.long (nL (hz (fun k => if o ≤ 1216 ∧ o + k < e (32 + (16 * f) + 2) + (256 * e (32 + (16 * f) + 3)) then gy e f (o + k) else 0) 0 8)))), (Wd C e (P.1, 0) Q m1 N1 R 0 Z)) := by
  refine eE.of ?_
  have htf := tf_le e f
  refine eR.step 2 (F' := (2, [(0, .ref 23), (1, .int (nI (o)))], [.int (nI 0), .ref 23])) (h' := (Wd C e P Q m N R t Z)) (fun _ _ => rfl) ?_
  refine eR.call (k' := 142) (as := [.ref 23, .int (nI 0)]) (rest := []) (v := some (.int (nI (fo e P N)))) (h1 := (Wd C e (P.1, 0) Q (pP P.1 P.2 N).2.1 (pP P.1 P.2 N).2.2 R (tf e (fo e P N)) Z)) rfl rfl rfl rfl (eg (Nat.le_of_ble_eq_true rfl) (show 23 ≤ lo by omega) (Nat.le_of_ble_eq_true rfl)) (m_found0 (show 136 ≤ lo - 23 by omega) V hN ht hl) ?_
  rw [hf0, hm0, hN0]
  refine eR.step 3 (F' := (10, [(0, .ref 23), (1, .int (nI (o))), (2, .int (nI (f)))], [.int (nI ((tf e f)))])) (h' := (Wd C e (P.1, 0) Q m1 N1 R (tf e f) Z)) (fun _ _ => rfl) ?_
  rw [tf_0 h11 hfn]
  refine eR.ifc rfl false ((nc_ne (b := 0) (by omega) (by decide)).trans (decide_eq_false (by omega))) ?_
  refine eR.step 3 (F' := (16, [(0, .ref 23), (1, .int (nI (o))), (2, .int (nI (f)))], [.int (nI (f)), .ref 23, .ref 23])) (h' := (Wd C e (P.1, 0) Q m1 N1 R 0 Z)) (fun _ _ => rfl) ?_
  have h6 := V.B.dk.1 (32 + (16 * f))
  refine eR.call (k' := 128) (as := [.ref 23, .int (nI (f))]) (rest := [.ref 23]) (v := some (.int (nI (e (32 + (16 * f)))))) (h1 := (Wd C e (P.1, 0) Q m1 N1 R 0 Z)) rfl rfl rfl rfl (eg (Nat.le_of_ble_eq_true rfl) (show 21 ≤ lo by omega) (Nat.le_of_ble_eq_true rfl)) (m_kind (show 20 ≤ lo - 21 by omega) hf) ?_
  refine eR.step 1 (F' := (20, [(0, .ref 23), (1, .int (nI (o))), (2, .int (nI (f)))], [.int (nI 2), .int (nI (e (32 + (16 * f)))), .ref 23])) (h' := (Wd C e (P.1, 0) Q m1 N1 R 0 Z)) (fun _ _ => rfl) ?_
  refine eR.icmp rfl true ((nc_ne (by omega) (by omega)).trans (decide_eq_true (by omega))) ?_
  refine eR.step 2 (F' := (29, [(0, .ref 23), (1, .int (nI (o))), (2, .int (nI (f)))], [.int (nI 3), .int (nI 0), .ref 23])) (h' := (Wd C e (P.1, 0) Q m1 N1 R 0 Z)) (fun _ _ => rfl) ?_
  refine eR.call (k' := 136) (as := [.ref 23, .int (nI 0), .int (nI 3)]) (rest := []) (v := none) (h1 := (Wd C e (P.1, 0) Q m1 N1 R (ri false 0 3) Z)) rfl rfl rfl rfl (eg (Nat.le_of_ble_eq_true rfl) (show 22 ≤ lo by omega) (Nat.le_of_ble_eq_true rfl)) (m_refIf (b := false) (show 21 ≤ lo - 22 by omega) (by decide)) ?_
  rw [show ri false 0 3 = 0 from rfl]
  refine eR.step 2 (F' := (34, [(0, .ref 23), (1, .int (nI (o))), (2, .int (nI (f)))], [.int (nI (o)), .ref 23])) (h' := (Wd C e (P.1, 0) Q m1 N1 R 0 Z)) (fun _ _ => rfl) ?_
  refine eR.ifc rfl true ((nc_ge (b := 0) (by omega) (by decide)).trans (decide_eq_true (by omega))) ?_
  refine eR.step 2 (F' := (43, [(0, .ref 23), (1, .int (nI (o))), (2, .int (nI (f)))], [.int (nI 4), .int (nI 0), .ref 23])) (h' := (Wd C e (P.1, 0) Q m1 N1 R 0 Z)) (fun _ _ => rfl) ?_
  refine eR.call (k' := 136) (as := [.ref 23, .int (nI 0), .int (nI 4)]) (rest := []) (v := none) (h1 := (Wd C e (P.1, 0) Q m1 N1 R (ri false 0 4) Z)) rfl rfl rfl rfl (eg (Nat.le_of_ble_eq_true rfl) (show 22 ≤ lo by omega) (Nat.le_of_ble_eq_true rfl)) (m_refIf (b := false) (show 21 ≤ lo - 22 by omega) (by decide)) ?_
  rw [show ri false 0 4 = 0 from rfl]
  refine eR.step 4 (F' := (52, [(0, .ref 23), (1, .int (nI (o))), (2, .int (nI (f))), (3, .long (0)), (5, .int (nI 7))], [])) (h' := (Wd C e (P.1, 0) Q m1 N1 R 0 Z)) (fun _ _ => rfl) ?_
  exact l_rdA (show 159 ≤ lo by omega) V.B.dk hf ho hx6 hb6 hs6 8 0 (by omega)

