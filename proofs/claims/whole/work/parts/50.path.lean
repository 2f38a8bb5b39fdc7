theorem ch_eq {c : Nat} (h : c < 65536) : vp_nar .char (nI c) = nI c := by
  show (((nI c).toUInt32 % 65536).toInt32 : Int32) = nI c
  apply Int32.toInt_inj.mp
  have h1 : ((nI c).toUInt32 % 65536) = (nI c).toUInt32 := by
    apply UInt32.toNat_inj.mp
    have h2 : (nI c).toUInt32.toNat = c := by
      show (UInt32.ofNat c).toNat = c
      simp
      omega
    rw [UInt32.toNat_mod, h2]
    exact Nat.mod_eq_of_lt h
  rw [h1]
  rfl
def ut (t : Nat → Nat) (l c : Nat) : Nat → Nat := fun k => if k = l then c else t k
theorem ut_eq (t : Nat → Nat) (l c : Nat) : upd (fun k => nI (t k)) l (nI c) = fun k => nI (ut t l c k) := by
  funext k
  unfold upd ut
  split <;> rfl
theorem un_eq (t : Nat → Nat) (l c : Nat) : upd (fun k => sb (t k)) l (sb c) = fun k => sb (ut t l c k) := by
  funext k
  unfold upd ut
  split <;> rfl
/-- a path is well formed from i on: c letters of a name stand before -/
def ip (t : Nat → Nat) (l : Nat) : Nat → Nat → Nat → Bool
  | _, c, 0 => decide (0 < c ∨ l = 1)
  | i, c, n + 1 => if t i = 47 then (if c = 0 then false else ip t l (i + 1) 0 n) else (if 97 ≤ t i ∧ t i ≤ 122 ∧ c < 7 then ip t l (i + 1) (c + 1) n else false)
def isP (t : Nat → Nat) (l : Nat) : Bool := if l = 0 then false else if t 0 = 47 then ip t l 1 0 (l - 1) else false
def sN (t : Nat → Nat) (l i : Nat) : Bool := decide (0 < i ∧ i < l ∧ t (i - 1) = 47)
theorem c_len_15 {cm sm fr lo L : Nat} {xs : Nat → Int32} {A B : gT} {U V : gU} {S : gS} {d : Nat → Nat} {X : mj_H}  : eE mm_P cm sm (fr + 1) lo 35 [.ref 15] (Gc L xs A B U V S d X) (.inl (some (.int (nI (A.2)))), (Gc L xs A B U V S d X)) := by
  refine eE.of ?_
  refine eR.step 2 (F' := (4, [(0, .ref 15)], [.int (nI (A.2))])) (h' := (Gc L xs A B U V S d X)) (fun _ _ => rfl) ?_
  exact eR.ret rfl rfl rfl
theorem c_emptyP_15 {cm sm fr lo L : Nat} {xs : Nat → Int32} {A B : gT} {U V : gU} {S : gS} {d : Nat → Nat} {X : mj_H}  : eE mm_P cm sm (fr + 1) lo 34 [.ref 15] (Gc L xs A B U V S d X) (.inl (none), (Gc L xs (A.1, 0) B U V S d X)) := by
  refine eE.of ?_
  refine eR.step 2 (F' := (2, [(0, .ref 15)], [.int (nI 0), .ref 15])) (h' := (Gc L xs A B U V S d X)) (fun _ _ => rfl) ?_
  refine eR.sim rfl (F := (5, [(0, .ref 15)], [])) (h' := (Gc L xs (A.1, 0) B U V S d X)) (by rfl) ?_
  exact eR.ret rfl rfl rfl
theorem l_isPath_15 {cm sm fr lo L : Nat} {xs : Nat → Int32} {A B : gT} {U V : gU} {S : gS} {d : Nat → Nat} {X : mj_H} (ht : ∀ k, A.1 k < 65536) (hl : A.2 ≤ 40) : ∀ q i c : Nat, i + q = A.2 → c ≤ i → eR mm_P cm sm fr lo 67 (24, [(0, .ref 15), (1, .int (nI (c))), (2, .int (nI (i)))], []) (Gc L xs A B U V S d X) (.inl (some (.int (nI (bi (ip A.1 A.2 i c q))))), (Gc L xs A B U V S d X))
  | 0, i, c, hq, hc => by
    refine eR.step 3 (F' := (29, [(0, .ref 15), (1, .int (nI (c))), (2, .int (nI (i)))], [.int (nI (A.2)), .int (nI (i))])) (h' := (Gc L xs A B U V S d X)) (fun _ _ => rfl) ?_
    refine eR.icmp rfl true ((nc_ge (by omega) (by omega)).trans (decide_eq_true (by omega))) ?_
    refine eR.step 1 (F' := (97, [(0, .ref 15), (1, .int (nI (c))), (2, .int (nI (i)))], [.int (nI (c))])) (h' := (Gc L xs A B U V S d X)) (fun _ _ => rfl) ?_
    unfold ip
    by_cases h0 : 0 < c
    · rw [decide_eq_true (Or.inl h0)]
      refine eR.ifc rfl true ((nc_gt (b := 0) (by omega) (by decide)).trans (decide_eq_true (by omega))) ?_
      refine eR.step 2 (F' := (113, [(0, .ref 15), (1, .int (nI (c))), (2, .int (nI (i)))], [.int (nI 1)])) (h' := (Gc L xs A B U V S d X)) (fun _ _ => rfl) ?_
      exact eR.ret rfl rfl rfl
    · refine eR.ifc rfl false ((nc_gt (b := 0) (by omega) (by decide)).trans (decide_eq_false (by omega))) ?_
      refine eR.step 3 (F' := (105, [(0, .ref 15), (1, .int (nI (c))), (2, .int (nI (i)))], [.int (nI 1), .int (nI (A.2))])) (h' := (Gc L xs A B U V S d X)) (fun _ _ => rfl) ?_
      by_cases h1 : A.2 = 1
      · rw [decide_eq_true (Or.inr h1)]
        refine eR.icmp rfl false ((nc_ne (by omega) (by decide)).trans (decide_eq_false (by omega))) ?_
        refine eR.step 2 (F' := (113, [(0, .ref 15), (1, .int (nI (c))), (2, .int (nI (i)))], [.int (nI 1)])) (h' := (Gc L xs A B U V S d X)) (fun _ _ => rfl) ?_
        exact eR.ret rfl rfl rfl
      · rw [decide_eq_false (fun z => z.elim h0 h1)]
        refine eR.icmp rfl true ((nc_ne (by omega) (by decide)).trans (decide_eq_true (by omega))) ?_
        refine eR.step 1 (F' := (113, [(0, .ref 15), (1, .int (nI (c))), (2, .int (nI (i)))], [.int (nI 0)])) (h' := (Gc L xs A B U V S d X)) (fun _ _ => rfl) ?_
        exact eR.ret rfl rfl rfl
  | q + 1, i, c, hq, hc => by
    have h6 := ht i
    unfold ip
    refine eR.step 3 (F' := (29, [(0, .ref 15), (1, .int (nI (c))), (2, .int (nI (i)))], [.int (nI (A.2)), .int (nI (i))])) (h' := (Gc L xs A B U V S d X)) (fun _ _ => rfl) ?_
    refine eR.icmp rfl false ((nc_ge (by omega) (by omega)).trans (decide_eq_false (by omega))) ?_
    refine eR.step 3 (F' := (37, [(0, .ref 15), (1, .int (nI (c))), (2, .int (nI (i)))], [.int (nI (i)), .ref 16])) (h' := (Gc L xs A B U V S d X)) (fun _ _ => rfl) ?_
    refine eR.sim rfl (F := (38, [(0, .ref 15), (1, .int (nI (c))), (2, .int (nI (i)))], [.int (nI (A.1 i))])) (h' := (Gc L xs A B U V S d X)) (by simp [mj_sim, mj_ar, mj_gi, Gc, na_ix (show i < 40 by omega) (by decide)]) ?_
    refine eR.step 1 (F' := (40, [(0, .ref 15), (1, .int (nI (c))), (2, .int (nI (i)))], [.int (nI 47), .int (nI (A.1 i))])) (h' := (Gc L xs A B U V S d X)) (fun _ _ => rfl) ?_
    by_cases h0 : A.1 i = 47
    · rw [if_pos h0]
      refine eR.icmp rfl false ((nc_ne (by omega) (by decide)).trans (decide_eq_false (by omega))) ?_
      refine eR.step 1 (F' := (44, [(0, .ref 15), (1, .int (nI (c))), (2, .int (nI (i)))], [.int (nI (c))])) (h' := (Gc L xs A B U V S d X)) (fun _ _ => rfl) ?_
      by_cases h1 : c = 0
      · rw [if_pos h1]
        refine eR.ifc rfl false ((nc_ne (b := 0) (by omega) (by decide)).trans (decide_eq_false (by omega))) ?_
        refine eR.step 1 (F' := (48, [(0, .ref 15), (1, .int (nI (c))), (2, .int (nI (i)))], [.int (nI 0)])) (h' := (Gc L xs A B U V S d X)) (fun _ _ => rfl) ?_
        exact eR.ret rfl rfl rfl
      · rw [if_neg h1]
        refine eR.ifc rfl true ((nc_ne (b := 0) (by omega) (by decide)).trans (decide_eq_true (by omega))) ?_
        refine eR.step 4 (F' := (93, [(0, .ref 15), (1, .int (nI 0)), (2, .int (nI (i) + 1))], [])) (h' := (Gc L xs A B U V S d X)) (fun _ _ => rfl) ?_
        rw [show nI (i) + 1 = nI (i + 1) from nI_add (i) 1]
        refine eR.step 1 (F' := (24, [(0, .ref 15), (1, .int (nI 0)), (2, .int (nI (i + 1)))], [])) (h' := (Gc L xs A B U V S d X)) (fun _ _ => rfl) ?_
        exact l_isPath_15 ht hl q (i + 1) 0 (by omega) (by omega)
    · rw [if_neg h0]
      refine eR.icmp rfl true ((nc_ne (by omega) (by decide)).trans (decide_eq_true (by omega))) ?_
      refine eR.step 3 (F' := (59, [(0, .ref 15), (1, .int (nI (c))), (2, .int (nI (i)))], [.int (nI (i)), .ref 16])) (h' := (Gc L xs A B U V S d X)) (fun _ _ => rfl) ?_
      refine eR.sim rfl (F := (60, [(0, .ref 15), (1, .int (nI (c))), (2, .int (nI (i)))], [.int (nI (A.1 i))])) (h' := (Gc L xs A B U V S d X)) (by simp [mj_sim, mj_ar, mj_gi, Gc, na_ix (show i < 40 by omega) (by decide)]) ?_
      refine eR.step 1 (F' := (62, [(0, .ref 15), (1, .int (nI (c))), (2, .int (nI (i)))], [.int (nI 97), .int (nI (A.1 i))])) (h' := (Gc L xs A B U V S d X)) (fun _ _ => rfl) ?_
      by_cases h1 : A.1 i < 97
      · rw [if_neg (by omega)]
        refine eR.icmp rfl true ((nc_lt (by omega) (by decide)).trans (decide_eq_true (by omega))) ?_
        refine eR.step 1 (F' := (89, [(0, .ref 15), (1, .int (nI (c))), (2, .int (nI (i)))], [.int (nI 0)])) (h' := (Gc L xs A B U V S d X)) (fun _ _ => rfl) ?_
        exact eR.ret rfl rfl rfl
      · refine eR.icmp rfl false ((nc_lt (by omega) (by decide)).trans (decide_eq_false (by omega))) ?_
        refine eR.step 3 (F' := (70, [(0, .ref 15), (1, .int (nI (c))), (2, .int (nI (i)))], [.int (nI (i)), .ref 16])) (h' := (Gc L xs A B U V S d X)) (fun _ _ => rfl) ?_
        refine eR.sim rfl (F := (71, [(0, .ref 15), (1, .int (nI (c))), (2, .int (nI (i)))], [.int (nI (A.1 i))])) (h' := (Gc L xs A B U V S d X)) (by simp [mj_sim, mj_ar, mj_gi, Gc, na_ix (show i < 40 by omega) (by decide)]) ?_
        refine eR.step 1 (F' := (73, [(0, .ref 15), (1, .int (nI (c))), (2, .int (nI (i)))], [.int (nI 122), .int (nI (A.1 i))])) (h' := (Gc L xs A B U V S d X)) (fun _ _ => rfl) ?_
        by_cases h2 : 122 < A.1 i
        · rw [if_neg (by omega)]
          refine eR.icmp rfl true ((nc_gt (by omega) (by decide)).trans (decide_eq_true (by omega))) ?_
          refine eR.step 1 (F' := (89, [(0, .ref 15), (1, .int (nI (c))), (2, .int (nI (i)))], [.int (nI 0)])) (h' := (Gc L xs A B U V S d X)) (fun _ _ => rfl) ?_
          exact eR.ret rfl rfl rfl
        · refine eR.icmp rfl false ((nc_gt (by omega) (by decide)).trans (decide_eq_false (by omega))) ?_
          refine eR.step 2 (F' := (79, [(0, .ref 15), (1, .int (nI (c))), (2, .int (nI (i)))], [.int (nI 7), .int (nI (c))])) (h' := (Gc L xs A B U V S d X)) (fun _ _ => rfl) ?_
          by_cases h3 : c < 7
          · rw [if_pos (by omega)]
            refine eR.icmp rfl false ((nc_ge (by omega) (by decide)).trans (decide_eq_false (by omega))) ?_
            refine eR.step 1 (F' := (85, [(0, .ref 15), (1, .int (nI (c) + 1)), (2, .int (nI (i)))], [])) (h' := (Gc L xs A B U V S d X)) (fun _ _ => rfl) ?_
            rw [show nI (c) + 1 = nI (c + 1) from nI_add (c) 1]
            refine eR.step 2 (F' := (93, [(0, .ref 15), (1, .int (nI (c + 1))), (2, .int (nI (i) + 1))], [])) (h' := (Gc L xs A B U V S d X)) (fun _ _ => rfl) ?_
            rw [show nI (i) + 1 = nI (i + 1) from nI_add (i) 1]
            refine eR.step 1 (F' := (24, [(0, .ref 15), (1, .int (nI (c + 1))), (2, .int (nI (i + 1)))], [])) (h' := (Gc L xs A B U V S d X)) (fun _ _ => rfl) ?_
            exact l_isPath_15 ht hl q (i + 1) (c + 1) (by omega) (by omega)
          · rw [if_neg (by omega)]
            refine eR.icmp rfl true ((nc_ge (by omega) (by decide)).trans (decide_eq_true (by omega))) ?_
            refine eR.step 1 (F' := (89, [(0, .ref 15), (1, .int (nI (c))), (2, .int (nI (i)))], [.int (nI 0)])) (h' := (Gc L xs A B U V S d X)) (fun _ _ => rfl) ?_
            exact eR.ret rfl rfl rfl
theorem c_isPath_15 {cm sm fr lo L : Nat} {xs : Nat → Int32} {A B : gT} {U V : gU} {S : gS} {d : Nat → Nat} {X : mj_H} (ht : ∀ k, A.1 k < 65536) (hl : A.2 ≤ 40) : eE mm_P cm sm (fr + 1) lo 67 [.ref 15] (Gc L xs A B U V S d X) (.inl (some (.int (nI (bi (isP A.1 A.2))))), (Gc L xs A B U V S d X)) := by
  have h6 := ht 0
  unfold isP
  by_cases h0 : A.2 = 0
  · refine eE.of ?_
    rw [if_pos h0]
    refine eR.step 2 (F' := (4, [(0, .ref 15)], [.int (nI (A.2))])) (h' := (Gc L xs A B U V S d X)) (fun _ _ => rfl) ?_
    refine eR.ifc rfl true ((nc_eq (b := 0) (by omega) (by decide)).trans (decide_eq_true (by omega))) ?_
    refine eR.step 1 (F' := (19, [(0, .ref 15)], [.int (nI 0)])) (h' := (Gc L xs A B U V S d X)) (fun _ _ => rfl) ?_
    exact eR.ret rfl rfl rfl
  · refine eE.of ?_
    rw [if_neg h0]
    refine eR.step 2 (F' := (4, [(0, .ref 15)], [.int (nI (A.2))])) (h' := (Gc L xs A B U V S d X)) (fun _ _ => rfl) ?_
    refine eR.ifc rfl false ((nc_eq (b := 0) (by omega) (by decide)).trans (decide_eq_false (by omega))) ?_
    refine eR.step 3 (F' := (12, [(0, .ref 15)], [.int (nI 0), .ref 16])) (h' := (Gc L xs A B U V S d X)) (fun _ _ => rfl) ?_
    refine eR.sim rfl (F := (13, [(0, .ref 15)], [.int (nI (A.1 0))])) (h' := (Gc L xs A B U V S d X)) (by simp [mj_sim, mj_ar, mj_gi, Gc, na_ix (show 0 < 40 by decide) (by decide)]) ?_
    refine eR.step 1 (F' := (15, [(0, .ref 15)], [.int (nI 47), .int (nI (A.1 0))])) (h' := (Gc L xs A B U V S d X)) (fun _ _ => rfl) ?_
    by_cases h1 : A.1 0 = 47
    · rw [if_pos h1]
      refine eR.icmp rfl true ((nc_eq (by omega) (by decide)).trans (decide_eq_true (by omega))) ?_
      refine eR.step 4 (F' := (24, [(0, .ref 15), (1, .int (nI 0)), (2, .int (nI 1))], [])) (h' := (Gc L xs A B U V S d X)) (fun _ _ => rfl) ?_
      exact l_isPath_15 ht hl (A.2 - 1) 1 0 (by omega) (by omega)
    · rw [if_neg h1]
      refine eR.icmp rfl false ((nc_eq (by omega) (by decide)).trans (decide_eq_false (by omega))) ?_
      refine eR.step 1 (F' := (19, [(0, .ref 15)], [.int (nI 0)])) (h' := (Gc L xs A B U V S d X)) (fun _ _ => rfl) ?_
      exact eR.ret rfl rfl rfl
theorem c_startsName_15 {cm sm fr lo L : Nat} {xs : Nat → Int32} {A B : gT} {U V : gU} {S : gS} {d : Nat → Nat} {X : mj_H} (ht : ∀ k, A.1 k < 65536) (hl : A.2 ≤ 40) {i : Nat} (hi : i < 2 ^ 20) : eE mm_P cm sm (fr + 1) lo 68 [.ref 15, .int (nI (i))] (Gc L xs A B U V S d X) (.inl (some (.int (nI (bi (sN A.1 A.2 i))))), (Gc L xs A B U V S d X)) := by
  have h6 := ht (i - 1)
  unfold sN
  by_cases h0 : 0 < i
  · refine eE.of ?_
    refine eR.step 1 (F' := (1, [(0, .ref 15), (1, .int (nI (i)))], [.int (nI (i))])) (h' := (Gc L xs A B U V S d X)) (fun _ _ => rfl) ?_
    refine eR.ifc rfl false ((nc_le (b := 0) (by omega) (by decide)).trans (decide_eq_false (by omega))) ?_
    refine eR.step 3 (F' := (9, [(0, .ref 15), (1, .int (nI (i)))], [.int (nI (A.2)), .int (nI (i))])) (h' := (Gc L xs A B U V S d X)) (fun _ _ => rfl) ?_
    by_cases h1 : i < A.2
    · refine eR.icmp rfl false ((nc_ge (by omega) (by omega)).trans (decide_eq_false (by omega))) ?_
      refine eR.step 4 (F' := (18, [(0, .ref 15), (1, .int (nI (i)))], [.int (nI 1), .int (nI (i)), .ref 16])) (h' := (Gc L xs A B U V S d X)) (fun _ _ => rfl) ?_
      refine eR.nsub rfl (by omega) ?_
      refine eR.sim rfl (F := (20, [(0, .ref 15), (1, .int (nI (i)))], [.int (nI (A.1 (i - 1)))])) (h' := (Gc L xs A B U V S d X)) (by simp [mj_sim, mj_ar, mj_gi, Gc, na_ix (show i - 1 < 40 by omega) (by decide)]) ?_
      refine eR.step 1 (F' := (22, [(0, .ref 15), (1, .int (nI (i)))], [.int (nI 47), .int (nI (A.1 (i - 1)))])) (h' := (Gc L xs A B U V S d X)) (fun _ _ => rfl) ?_
      by_cases h2 : A.1 (i - 1) = 47
      · rw [decide_eq_true ⟨h0, h1, h2⟩]
        refine eR.icmp rfl false ((nc_ne (by omega) (by decide)).trans (decide_eq_false (by omega))) ?_
        refine eR.step 2 (F' := (30, [(0, .ref 15), (1, .int (nI (i)))], [.int (nI 1)])) (h' := (Gc L xs A B U V S d X)) (fun _ _ => rfl) ?_
        exact eR.ret rfl rfl rfl
      · rw [decide_eq_false (fun z => h2 z.2.2)]
        refine eR.icmp rfl true ((nc_ne (by omega) (by decide)).trans (decide_eq_true (by omega))) ?_
        refine eR.step 1 (F' := (30, [(0, .ref 15), (1, .int (nI (i)))], [.int (nI 0)])) (h' := (Gc L xs A B U V S d X)) (fun _ _ => rfl) ?_
        exact eR.ret rfl rfl rfl
    · rw [decide_eq_false (fun z => h1 z.2.1)]
      refine eR.icmp rfl true ((nc_ge (by omega) (by omega)).trans (decide_eq_true (by omega))) ?_
      refine eR.step 1 (F' := (30, [(0, .ref 15), (1, .int (nI (i)))], [.int (nI 0)])) (h' := (Gc L xs A B U V S d X)) (fun _ _ => rfl) ?_
      exact eR.ret rfl rfl rfl
  · refine eE.of ?_
    rw [decide_eq_false (fun z => h0 z.1)]
    refine eR.step 1 (F' := (1, [(0, .ref 15), (1, .int (nI (i)))], [.int (nI (i))])) (h' := (Gc L xs A B U V S d X)) (fun _ _ => rfl) ?_
    refine eR.ifc rfl true ((nc_le (b := 0) (by omega) (by decide)).trans (decide_eq_true (by omega))) ?_
    refine eR.step 1 (F' := (30, [(0, .ref 15), (1, .int (nI (i)))], [.int (nI 0)])) (h' := (Gc L xs A B U V S d X)) (fun _ _ => rfl) ?_
    exact eR.ret rfl rfl rfl
theorem c_len_17 {cm sm fr lo L : Nat} {xs : Nat → Int32} {A B : gT} {U V : gU} {S : gS} {d : Nat → Nat} {X : mj_H}  : eE mm_P cm sm (fr + 1) lo 35 [.ref 17] (Gc L xs A B U V S d X) (.inl (some (.int (nI (B.2)))), (Gc L xs A B U V S d X)) := by
  refine eE.of ?_
  refine eR.step 2 (F' := (4, [(0, .ref 17)], [.int (nI (B.2))])) (h' := (Gc L xs A B U V S d X)) (fun _ _ => rfl) ?_
  exact eR.ret rfl rfl rfl
theorem c_emptyP_17 {cm sm fr lo L : Nat} {xs : Nat → Int32} {A B : gT} {U V : gU} {S : gS} {d : Nat → Nat} {X : mj_H}  : eE mm_P cm sm (fr + 1) lo 34 [.ref 17] (Gc L xs A B U V S d X) (.inl (none), (Gc L xs A (B.1, 0) U V S d X)) := by
  refine eE.of ?_
  refine eR.step 2 (F' := (2, [(0, .ref 17)], [.int (nI 0), .ref 17])) (h' := (Gc L xs A B U V S d X)) (fun _ _ => rfl) ?_
  refine eR.sim rfl (F := (5, [(0, .ref 17)], [])) (h' := (Gc L xs A (B.1, 0) U V S d X)) (by rfl) ?_
  exact eR.ret rfl rfl rfl
theorem l_isPath_17 {cm sm fr lo L : Nat} {xs : Nat → Int32} {A B : gT} {U V : gU} {S : gS} {d : Nat → Nat} {X : mj_H} (ht : ∀ k, B.1 k < 65536) (hl : B.2 ≤ 40) : ∀ q i c : Nat, i + q = B.2 → c ≤ i → eR mm_P cm sm fr lo 67 (24, [(0, .ref 17), (1, .int (nI (c))), (2, .int (nI (i)))], []) (Gc L xs A B U V S d X) (.inl (some (.int (nI (bi (ip B.1 B.2 i c q))))), (Gc L xs A B U V S d X))
  | 0, i, c, hq, hc => by
    refine eR.step 3 (F' := (29, [(0, .ref 17), (1, .int (nI (c))), (2, .int (nI (i)))], [.int (nI (B.2)), .int (nI (i))])) (h' := (Gc L xs A B U V S d X)) (fun _ _ => rfl) ?_
    refine eR.icmp rfl true ((nc_ge (by omega) (by omega)).trans (decide_eq_true (by omega))) ?_
    refine eR.step 1 (F' := (97, [(0, .ref 17), (1, .int (nI (c))), (2, .int (nI (i)))], [.int (nI (c))])) (h' := (Gc L xs A B U V S d X)) (fun _ _ => rfl) ?_
    unfold ip
    by_cases h0 : 0 < c
    · rw [decide_eq_true (Or.inl h0)]
      refine eR.ifc rfl true ((nc_gt (b := 0) (by omega) (by decide)).trans (decide_eq_true (by omega))) ?_
      refine eR.step 2 (F' := (113, [(0, .ref 17), (1, .int (nI (c))), (2, .int (nI (i)))], [.int (nI 1)])) (h' := (Gc L xs A B U V S d X)) (fun _ _ => rfl) ?_
      exact eR.ret rfl rfl rfl
    · refine eR.ifc rfl false ((nc_gt (b := 0) (by omega) (by decide)).trans (decide_eq_false (by omega))) ?_
      refine eR.step 3 (F' := (105, [(0, .ref 17), (1, .int (nI (c))), (2, .int (nI (i)))], [.int (nI 1), .int (nI (B.2))])) (h' := (Gc L xs A B U V S d X)) (fun _ _ => rfl) ?_
      by_cases h1 : B.2 = 1
      · rw [decide_eq_true (Or.inr h1)]
        refine eR.icmp rfl false ((nc_ne (by omega) (by decide)).trans (decide_eq_false (by omega))) ?_
        refine eR.step 2 (F' := (113, [(0, .ref 17), (1, .int (nI (c))), (2, .int (nI (i)))], [.int (nI 1)])) (h' := (Gc L xs A B U V S d X)) (fun _ _ => rfl) ?_
        exact eR.ret rfl rfl rfl
      · rw [decide_eq_false (fun z => z.elim h0 h1)]
        refine eR.icmp rfl true ((nc_ne (by omega) (by decide)).trans (decide_eq_true (by omega))) ?_
        refine eR.step 1 (F' := (113, [(0, .ref 17), (1, .int (nI (c))), (2, .int (nI (i)))], [.int (nI 0)])) (h' := (Gc L xs A B U V S d X)) (fun _ _ => rfl) ?_
        exact eR.ret rfl rfl rfl
  | q + 1, i, c, hq, hc => by
    have h6 := ht i
    unfold ip
    refine eR.step 3 (F' := (29, [(0, .ref 17), (1, .int (nI (c))), (2, .int (nI (i)))], [.int (nI (B.2)), .int (nI (i))])) (h' := (Gc L xs A B U V S d X)) (fun _ _ => rfl) ?_
    refine eR.icmp rfl false ((nc_ge (by omega) (by omega)).trans (decide_eq_false (by omega))) ?_
    refine eR.step 3 (F' := (37, [(0, .ref 17), (1, .int (nI (c))), (2, .int (nI (i)))], [.int (nI (i)), .ref 18])) (h' := (Gc L xs A B U V S d X)) (fun _ _ => rfl) ?_
    refine eR.sim rfl (F := (38, [(0, .ref 17), (1, .int (nI (c))), (2, .int (nI (i)))], [.int (nI (B.1 i))])) (h' := (Gc L xs A B U V S d X)) (by simp [mj_sim, mj_ar, mj_gi, Gc, na_ix (show i < 40 by omega) (by decide)]) ?_
    refine eR.step 1 (F' := (40, [(0, .ref 17), (1, .int (nI (c))), (2, .int (nI (i)))], [.int (nI 47), .int (nI (B.1 i))])) (h' := (Gc L xs A B U V S d X)) (fun _ _ => rfl) ?_
    by_cases h0 : B.1 i = 47
    · rw [if_pos h0]
      refine eR.icmp rfl false ((nc_ne (by omega) (by decide)).trans (decide_eq_false (by omega))) ?_
      refine eR.step 1 (F' := (44, [(0, .ref 17), (1, .int (nI (c))), (2, .int (nI (i)))], [.int (nI (c))])) (h' := (Gc L xs A B U V S d X)) (fun _ _ => rfl) ?_
      by_cases h1 : c = 0
      · rw [if_pos h1]
        refine eR.ifc rfl false ((nc_ne (b := 0) (by omega) (by decide)).trans (decide_eq_false (by omega))) ?_
        refine eR.step 1 (F' := (48, [(0, .ref 17), (1, .int (nI (c))), (2, .int (nI (i)))], [.int (nI 0)])) (h' := (Gc L xs A B U V S d X)) (fun _ _ => rfl) ?_
        exact eR.ret rfl rfl rfl
      · rw [if_neg h1]
        refine eR.ifc rfl true ((nc_ne (b := 0) (by omega) (by decide)).trans (decide_eq_true (by omega))) ?_
        refine eR.step 4 (F' := (93, [(0, .ref 17), (1, .int (nI 0)), (2, .int (nI (i) + 1))], [])) (h' := (Gc L xs A B U V S d X)) (fun _ _ => rfl) ?_
        rw [show nI (i) + 1 = nI (i + 1) from nI_add (i) 1]
        refine eR.step 1 (F' := (24, [(0, .ref 17), (1, .int (nI 0)), (2, .int (nI (i + 1)))], [])) (h' := (Gc L xs A B U V S d X)) (fun _ _ => rfl) ?_
        exact l_isPath_17 ht hl q (i + 1) 0 (by omega) (by omega)
    · rw [if_neg h0]
      refine eR.icmp rfl true ((nc_ne (by omega) (by decide)).trans (decide_eq_true (by omega))) ?_
      refine eR.step 3 (F' := (59, [(0, .ref 17), (1, .int (nI (c))), (2, .int (nI (i)))], [.int (nI (i)), .ref 18])) (h' := (Gc L xs A B U V S d X)) (fun _ _ => rfl) ?_
      refine eR.sim rfl (F := (60, [(0, .ref 17), (1, .int (nI (c))), (2, .int (nI (i)))], [.int (nI (B.1 i))])) (h' := (Gc L xs A B U V S d X)) (by simp [mj_sim, mj_ar, mj_gi, Gc, na_ix (show i < 40 by omega) (by decide)]) ?_
      refine eR.step 1 (F' := (62, [(0, .ref 17), (1, .int (nI (c))), (2, .int (nI (i)))], [.int (nI 97), .int (nI (B.1 i))])) (h' := (Gc L xs A B U V S d X)) (fun _ _ => rfl) ?_
      by_cases h1 : B.1 i < 97
      · rw [if_neg (by omega)]
        refine eR.icmp rfl true ((nc_lt (by omega) (by decide)).trans (decide_eq_true (by omega))) ?_
        refine eR.step 1 (F' := (89, [(0, .ref 17), (1, .int (nI (c))), (2, .int (nI (i)))], [.int (nI 0)])) (h' := (Gc L xs A B U V S d X)) (fun _ _ => rfl) ?_
        exact eR.ret rfl rfl rfl
      · refine eR.icmp rfl false ((nc_lt (by omega) (by decide)).trans (decide_eq_false (by omega))) ?_
        refine eR.step 3 (F' := (70, [(0, .ref 17), (1, .int (nI (c))), (2, .int (nI (i)))], [.int (nI (i)), .ref 18])) (h' := (Gc L xs A B U V S d X)) (fun _ _ => rfl) ?_
        refine eR.sim rfl (F := (71, [(0, .ref 17), (1, .int (nI (c))), (2, .int (nI (i)))], [.int (nI (B.1 i))])) (h' := (Gc L xs A B U V S d X)) (by simp [mj_sim, mj_ar, mj_gi, Gc, na_ix (show i < 40 by omega) (by decide)]) ?_
        refine eR.step 1 (F' := (73, [(0, .ref 17), (1, .int (nI (c))), (2, .int (nI (i)))], [.int (nI 122), .int (nI (B.1 i))])) (h' := (Gc L xs A B U V S d X)) (fun _ _ => rfl) ?_
        by_cases h2 : 122 < B.1 i
        · rw [if_neg (by omega)]
          refine eR.icmp rfl true ((nc_gt (by omega) (by decide)).trans (decide_eq_true (by omega))) ?_
          refine eR.step 1 (F' := (89, [(0, .ref 17), (1, .int (nI (c))), (2, .int (nI (i)))], [.int (nI 0)])) (h' := (Gc L xs A B U V S d X)) (fun _ _ => rfl) ?_
          exact eR.ret rfl rfl rfl
        · refine eR.icmp rfl false ((nc_gt (by omega) (by decide)).trans (decide_eq_false (by omega))) ?_
          refine eR.step 2 (F' := (79, [(0, .ref 17), (1, .int (nI (c))), (2, .int (nI (i)))], [.int (nI 7), .int (nI (c))])) (h' := (Gc L xs A B U V S d X)) (fun _ _ => rfl) ?_
          by_cases h3 : c < 7
          · rw [if_pos (by omega)]
            refine eR.icmp rfl false ((nc_ge (by omega) (by decide)).trans (decide_eq_false (by omega))) ?_
            refine eR.step 1 (F' := (85, [(0, .ref 17), (1, .int (nI (c) + 1)), (2, .int (nI (i)))], [])) (h' := (Gc L xs A B U V S d X)) (fun _ _ => rfl) ?_
            rw [show nI (c) + 1 = nI (c + 1) from nI_add (c) 1]
            refine eR.step 2 (F' := (93, [(0, .ref 17), (1, .int (nI (c + 1))), (2, .int (nI (i) + 1))], [])) (h' := (Gc L xs A B U V S d X)) (fun _ _ => rfl) ?_
            rw [show nI (i) + 1 = nI (i + 1) from nI_add (i) 1]
            refine eR.step 1 (F' := (24, [(0, .ref 17), (1, .int (nI (c + 1))), (2, .int (nI (i + 1)))], [])) (h' := (Gc L xs A B U V S d X)) (fun _ _ => rfl) ?_
            exact l_isPath_17 ht hl q (i + 1) (c + 1) (by omega) (by omega)
          · rw [if_neg (by omega)]
            refine eR.icmp rfl true ((nc_ge (by omega) (by decide)).trans (decide_eq_true (by omega))) ?_
            refine eR.step 1 (F' := (89, [(0, .ref 17), (1, .int (nI (c))), (2, .int (nI (i)))], [.int (nI 0)])) (h' := (Gc L xs A B U V S d X)) (fun _ _ => rfl) ?_
            exact eR.ret rfl rfl rfl
theorem c_isPath_17 {cm sm fr lo L : Nat} {xs : Nat → Int32} {A B : gT} {U V : gU} {S : gS} {d : Nat → Nat} {X : mj_H} (ht : ∀ k, B.1 k < 65536) (hl : B.2 ≤ 40) : eE mm_P cm sm (fr + 1) lo 67 [.ref 17] (Gc L xs A B U V S d X) (.inl (some (.int (nI (bi (isP B.1 B.2))))), (Gc L xs A B U V S d X)) := by
  have h6 := ht 0
  unfold isP
  by_cases h0 : B.2 = 0
  · refine eE.of ?_
    rw [if_pos h0]
    refine eR.step 2 (F' := (4, [(0, .ref 17)], [.int (nI (B.2))])) (h' := (Gc L xs A B U V S d X)) (fun _ _ => rfl) ?_
    refine eR.ifc rfl true ((nc_eq (b := 0) (by omega) (by decide)).trans (decide_eq_true (by omega))) ?_
    refine eR.step 1 (F' := (19, [(0, .ref 17)], [.int (nI 0)])) (h' := (Gc L xs A B U V S d X)) (fun _ _ => rfl) ?_
    exact eR.ret rfl rfl rfl
  · refine eE.of ?_
    rw [if_neg h0]
    refine eR.step 2 (F' := (4, [(0, .ref 17)], [.int (nI (B.2))])) (h' := (Gc L xs A B U V S d X)) (fun _ _ => rfl) ?_
    refine eR.ifc rfl false ((nc_eq (b := 0) (by omega) (by decide)).trans (decide_eq_false (by omega))) ?_
    refine eR.step 3 (F' := (12, [(0, .ref 17)], [.int (nI 0), .ref 18])) (h' := (Gc L xs A B U V S d X)) (fun _ _ => rfl) ?_
    refine eR.sim rfl (F := (13, [(0, .ref 17)], [.int (nI (B.1 0))])) (h' := (Gc L xs A B U V S d X)) (by simp [mj_sim, mj_ar, mj_gi, Gc, na_ix (show 0 < 40 by decide) (by decide)]) ?_
    refine eR.step 1 (F' := (15, [(0, .ref 17)], [.int (nI 47), .int (nI (B.1 0))])) (h' := (Gc L xs A B U V S d X)) (fun _ _ => rfl) ?_
    by_cases h1 : B.1 0 = 47
    · rw [if_pos h1]
      refine eR.icmp rfl true ((nc_eq (by omega) (by decide)).trans (decide_eq_true (by omega))) ?_
      refine eR.step 4 (F' := (24, [(0, .ref 17), (1, .int (nI 0)), (2, .int (nI 1))], [])) (h' := (Gc L xs A B U V S d X)) (fun _ _ => rfl) ?_
      exact l_isPath_17 ht hl (B.2 - 1) 1 0 (by omega) (by omega)
    · rw [if_neg h1]
      refine eR.icmp rfl false ((nc_eq (by omega) (by decide)).trans (decide_eq_false (by omega))) ?_
      refine eR.step 1 (F' := (19, [(0, .ref 17)], [.int (nI 0)])) (h' := (Gc L xs A B U V S d X)) (fun _ _ => rfl) ?_
      exact eR.ret rfl rfl rfl
theorem c_startsName_17 {cm sm fr lo L : Nat} {xs : Nat → Int32} {A B : gT} {U V : gU} {S : gS} {d : Nat → Nat} {X : mj_H} (ht : ∀ k, B.1 k < 65536) (hl : B.2 ≤ 40) {i : Nat} (hi : i < 2 ^ 20) : eE mm_P cm sm (fr + 1) lo 68 [.ref 17, .int (nI (i))] (Gc L xs A B U V S d X) (.inl (some (.int (nI (bi (sN B.1 B.2 i))))), (Gc L xs A B U V S d X)) := by
  have h6 := ht (i - 1)
  unfold sN
  by_cases h0 : 0 < i
  · refine eE.of ?_
    refine eR.step 1 (F' := (1, [(0, .ref 17), (1, .int (nI (i)))], [.int (nI (i))])) (h' := (Gc L xs A B U V S d X)) (fun _ _ => rfl) ?_
    refine eR.ifc rfl false ((nc_le (b := 0) (by omega) (by decide)).trans (decide_eq_false (by omega))) ?_
    refine eR.step 3 (F' := (9, [(0, .ref 17), (1, .int (nI (i)))], [.int (nI (B.2)), .int (nI (i))])) (h' := (Gc L xs A B U V S d X)) (fun _ _ => rfl) ?_
    by_cases h1 : i < B.2
    · refine eR.icmp rfl false ((nc_ge (by omega) (by omega)).trans (decide_eq_false (by omega))) ?_
      refine eR.step 4 (F' := (18, [(0, .ref 17), (1, .int (nI (i)))], [.int (nI 1), .int (nI (i)), .ref 18])) (h' := (Gc L xs A B U V S d X)) (fun _ _ => rfl) ?_
      refine eR.nsub rfl (by omega) ?_
      refine eR.sim rfl (F := (20, [(0, .ref 17), (1, .int (nI (i)))], [.int (nI (B.1 (i - 1)))])) (h' := (Gc L xs A B U V S d X)) (by simp [mj_sim, mj_ar, mj_gi, Gc, na_ix (show i - 1 < 40 by omega) (by decide)]) ?_
      refine eR.step 1 (F' := (22, [(0, .ref 17), (1, .int (nI (i)))], [.int (nI 47), .int (nI (B.1 (i - 1)))])) (h' := (Gc L xs A B U V S d X)) (fun _ _ => rfl) ?_
      by_cases h2 : B.1 (i - 1) = 47
      · rw [decide_eq_true ⟨h0, h1, h2⟩]
        refine eR.icmp rfl false ((nc_ne (by omega) (by decide)).trans (decide_eq_false (by omega))) ?_
        refine eR.step 2 (F' := (30, [(0, .ref 17), (1, .int (nI (i)))], [.int (nI 1)])) (h' := (Gc L xs A B U V S d X)) (fun _ _ => rfl) ?_
        exact eR.ret rfl rfl rfl
      · rw [decide_eq_false (fun z => h2 z.2.2)]
        refine eR.icmp rfl true ((nc_ne (by omega) (by decide)).trans (decide_eq_true (by omega))) ?_
        refine eR.step 1 (F' := (30, [(0, .ref 17), (1, .int (nI (i)))], [.int (nI 0)])) (h' := (Gc L xs A B U V S d X)) (fun _ _ => rfl) ?_
        exact eR.ret rfl rfl rfl
    · rw [decide_eq_false (fun z => h1 z.2.1)]
      refine eR.icmp rfl true ((nc_ge (by omega) (by omega)).trans (decide_eq_true (by omega))) ?_
      refine eR.step 1 (F' := (30, [(0, .ref 17), (1, .int (nI (i)))], [.int (nI 0)])) (h' := (Gc L xs A B U V S d X)) (fun _ _ => rfl) ?_
      exact eR.ret rfl rfl rfl
  · refine eE.of ?_
    rw [decide_eq_false (fun z => h0 z.1)]
    refine eR.step 1 (F' := (1, [(0, .ref 17), (1, .int (nI (i)))], [.int (nI (i))])) (h' := (Gc L xs A B U V S d X)) (fun _ _ => rfl) ?_
    refine eR.ifc rfl true ((nc_le (b := 0) (by omega) (by decide)).trans (decide_eq_true (by omega))) ?_
    refine eR.step 1 (F' := (30, [(0, .ref 17), (1, .int (nI (i)))], [.int (nI 0)])) (h' := (Gc L xs A B U V S d X)) (fun _ _ => rfl) ?_
    exact eR.ret rfl rfl rfl
theorem c_clearP_19 {cm sm fr lo L : Nat} {xs : Nat → Int32} {A B : gT} {U V : gU} {S : gS} {d : Nat → Nat} {X : mj_H}  : eE mm_P cm sm (fr + 1) lo 66 [.ref 19] (Gc L xs A B U V S d X) (.inl (none), (Gc L xs A B (0, 0, 0, U.2.2.2) V S d X)) := by
  refine eE.of ?_
  refine eR.step 2 (F' := (2, [(0, .ref 19)], [.int (nI 0), .ref 19])) (h' := (Gc L xs A B U V S d X)) (fun _ _ => rfl) ?_
  refine eR.sim rfl (F := (5, [(0, .ref 19)], [])) (h' := (Gc L xs A B (0, U.2.1, U.2.2.1, U.2.2.2) V S d X)) (by rfl) ?_
  refine eR.step 2 (F' := (7, [(0, .ref 19)], [.int (nI 0), .ref 19])) (h' := (Gc L xs A B (0, U.2.1, U.2.2.1, U.2.2.2) V S d X)) (fun _ _ => rfl) ?_
  refine eR.sim rfl (F := (10, [(0, .ref 19)], [])) (h' := (Gc L xs A B (0, 0, U.2.2.1, U.2.2.2) V S d X)) (by rfl) ?_
  refine eR.step 2 (F' := (12, [(0, .ref 19)], [.int (nI 0), .ref 19])) (h' := (Gc L xs A B (0, 0, U.2.2.1, U.2.2.2) V S d X)) (fun _ _ => rfl) ?_
  refine eR.sim rfl (F := (15, [(0, .ref 19)], [])) (h' := (Gc L xs A B (0, 0, 0, U.2.2.2) V S d X)) (by rfl) ?_
  exact eR.ret rfl rfl rfl
theorem c_clearP_21 {cm sm fr lo L : Nat} {xs : Nat → Int32} {A B : gT} {U V : gU} {S : gS} {d : Nat → Nat} {X : mj_H}  : eE mm_P cm sm (fr + 1) lo 66 [.ref 21] (Gc L xs A B U V S d X) (.inl (none), (Gc L xs A B U (0, 0, 0, V.2.2.2) S d X)) := by
  refine eE.of ?_
  refine eR.step 2 (F' := (2, [(0, .ref 21)], [.int (nI 0), .ref 21])) (h' := (Gc L xs A B U V S d X)) (fun _ _ => rfl) ?_
  refine eR.sim rfl (F := (5, [(0, .ref 21)], [])) (h' := (Gc L xs A B U (0, V.2.1, V.2.2.1, V.2.2.2) S d X)) (by rfl) ?_
  refine eR.step 2 (F' := (7, [(0, .ref 21)], [.int (nI 0), .ref 21])) (h' := (Gc L xs A B U (0, V.2.1, V.2.2.1, V.2.2.2) S d X)) (fun _ _ => rfl) ?_
  refine eR.sim rfl (F := (10, [(0, .ref 21)], [])) (h' := (Gc L xs A B U (0, 0, V.2.2.1, V.2.2.2) S d X)) (by rfl) ?_
  refine eR.step 2 (F' := (12, [(0, .ref 21)], [.int (nI 0), .ref 21])) (h' := (Gc L xs A B U (0, 0, V.2.2.1, V.2.2.2) S d X)) (fun _ _ => rfl) ?_
  refine eR.sim rfl (F := (15, [(0, .ref 21)], [])) (h' := (Gc L xs A B U (0, 0, 0, V.2.2.2) S d X)) (by rfl) ?_
  exact eR.ret rfl rfl rfl
theorem c_addP {cm sm fr lo L : Nat} {xs : Nat → Int32} {A B : gT} {U V : gU} {S : gS} {d : Nat → Nat} {X : mj_H} (hl : A.2 < 40) {c : Nat} (hc : c < 65536) : eE mm_P cm sm (fr + 1) lo 31 [.ref 15, .int (nI (c))] (Gc L xs A B U V S d X) (.inl (some (.int (nI (A.2 + 1)))), (Gc L xs (ut A.1 A.2 c, A.2 + 1) B U V S d X)) := by
  refine eE.of ?_
  refine eR.step 5 (F' := (9, [(0, .ref 15), (1, .int (nI (c)))], [.int (nI 40), .int (nI (A.2))])) (h' := (Gc L xs A B U V S d X)) (fun _ _ => rfl) ?_
  refine eR.icmp rfl true ((nc_lt (by omega) (by omega)).trans (decide_eq_true (by omega))) ?_
  refine eR.step 5 (F' := (23, [(0, .ref 15), (1, .int (nI (c)))], [.int (nI (c)), .int (nI (A.2)), .ref 16])) (h' := (Gc L xs A B U V S d X)) (fun _ _ => rfl) ?_
  refine eR.sim rfl (F := (24, [(0, .ref 15), (1, .int (nI (c)))], [])) (h' := (Gc L xs (ut A.1 A.2 c, A.2) B U V S d X)) (by simp [mj_sim, mj_ar, mj_pi, mj_nw, Gc, na_ix hl (by decide), ch_eq hc, ut_eq]) ?_
  refine eR.step 4 (F' := (30, [(0, .ref 15), (1, .int (nI (c)))], [.int (nI 1), .int (nI (A.2)), .ref 15])) (h' := (Gc L xs (ut A.1 A.2 c, A.2) B U V S d X)) (fun _ _ => rfl) ?_
  refine eR.nadd rfl ?_
  refine eR.sim rfl (F := (34, [(0, .ref 15), (1, .int (nI (c)))], [])) (h' := (Gc L xs (ut A.1 A.2 c, A.2 + 1) B U V S d X)) (by rfl) ?_
  refine eR.step 2 (F' := (38, [(0, .ref 15), (1, .int (nI (c)))], [.int (nI (A.2 + 1))])) (h' := (Gc L xs (ut A.1 A.2 c, A.2 + 1) B U V S d X)) (fun _ _ => rfl) ?_
  exact eR.ret rfl rfl rfl
theorem c_addF {cm sm fr lo L : Nat} {xs : Nat → Int32} {A B : gT} {U V : gU} {S : gS} {d : Nat → Nat} {X : mj_H} (hl : 40 ≤ A.2) (hl2 : A.2 < 2 ^ 20) {c : Nat} : eE mm_P cm sm (fr + 1) lo 31 [.ref 15, .int (nI (c))] (Gc L xs A B U V S d X) (.inl (some (.int (-1))), (Gc L xs A B U V S d X)) := by
  refine eE.of ?_
  refine eR.step 5 (F' := (9, [(0, .ref 15), (1, .int (nI (c)))], [.int (nI 40), .int (nI (A.2))])) (h' := (Gc L xs A B U V S d X)) (fun _ _ => rfl) ?_
  refine eR.icmp rfl false ((nc_lt (by omega) (by omega)).trans (decide_eq_false (by omega))) ?_
  refine eR.step 1 (F' := (13, [(0, .ref 15), (1, .int (nI (c)))], [.int ((-1 : Int32))])) (h' := (Gc L xs A B U V S d X)) (fun _ _ => rfl) ?_
  exact eR.ret rfl rfl rfl

