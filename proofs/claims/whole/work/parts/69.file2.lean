def wb (i o : Nat) (b : Nat → Nat) : (Nat → Nat) → Nat → Nat → (Nat → Nat)
  | d, _, 0 => d
  | d, k, n + 1 => wb i o b (py d i (o + k) (b k)) (k + 1) n
def pz (i : Nat) : (Nat → Nat) → Nat → Nat → (Nat → Nat)
  | d, _, 0 => d
  | d, f, n + 1 => pz i (py d i f 0) (f + 1) n
theorem py_file {d} (E : qE d) (i f v : Nat) (hi : i < 16) (hf : f < 1216) (hk : d (32 + (16 * i)) = 1) : qE (py d i f v) ∧ qI d (py d i f v) ∧ (∀ j k, j < 16 → k < 16 → py d i f v (32 + (16 * j) + k) = d (32 + (16 * j) + k)) ∧
    (∀ j u, j < 16 → u ≤ 38 → qb (py d i f v) j u = qb d j u) := by
  unfold py
  by_cases a : bo d i (f / 32) = 0
  · rw [if_pos a]; exact ⟨E, qI.refl d, fun _ _ _ _ => rfl, fun _ _ _ _ => rfl⟩
  · rw [if_neg a, ← qb_bo _ _ _ (by omega)]
    rw [← qb_bo _ _ _ (by omega)] at a
    exact data_file E i (f / 32) (f % 32) v hi (by omega) (by omega) hk a rfl
theorem wb_file (i o : Nat) (b : Nat → Nat) (hi : i < 16) (n : Nat) : ∀ (d : Nat → Nat) (k : Nat), qE d → o + k + n ≤ 1216 → d (32 + (16 * i)) = 1 → qE (wb i o b d k n) ∧ qI d (wb i o b d k n) ∧ (∀ j k', j < 16 → k' < 16 → wb i o b d k n (32 + (16 * j) + k') = d (32 + (16 * j) + k')) := by
  induction n with
  | zero => intro d k E _ _; exact ⟨E, qI.refl d, fun _ _ _ _ => rfl⟩
  | succ n ih =>
    intro d k E h hk
    rw [wb]
    have P := py_file E i (o + k) (b k) hi (by omega) hk
    have G := ih _ (k + 1) P.1 (by omega) (by rw [P.2.1.k i hi]; exact hk)
    exact ⟨G.1, P.2.1.trans G.2.1, fun j k' hj hk' => (G.2.2 j k' hj hk').trans (P.2.2.1 j k' hj hk')⟩
theorem pz_file (i : Nat) (hi : i < 16) (n : Nat) : ∀ (d : Nat → Nat) (f : Nat), qE d → f + n ≤ 1216 → d (32 + (16 * i)) = 1 → qE (pz i d f n) ∧ qI d (pz i d f n) ∧ (∀ j k', j < 16 → k' < 16 → pz i d f n (32 + (16 * j) + k') = d (32 + (16 * j) + k')) := by
  induction n with
  | zero => intro d f E _ _; exact ⟨E, qI.refl d, fun _ _ _ _ => rfl⟩
  | succ n ih =>
    intro d f E h hk
    rw [pz]
    have P := py_file E i f 0 hi (by omega) hk
    have G := ih _ (f + 1) P.1 (by omega) (by rw [P.2.1.k i hi]; exact hk)
    exact ⟨G.1, P.2.1.trans G.2.1, fun j k' hj hk' => (G.2.2 j k' hj hk').trans (P.2.2.1 j k' hj hk')⟩
theorem pz_cz (i : Nat) (hi : i < 16) (n : Nat) : ∀ (d : Nat → Nat) (f : Nat), qE d → f % 32 + n ≤ 32 → f + n ≤ 1216 → (n ≠ 0 → f < 1216) → d (32 + (16 * i)) = 1 →
    pz i d f n = if bo d i (f / 32) = 0 then d else cz d (bo d i (f / 32) * 32 + f % 32) n := by
  induction n with
  | zero =>
    intro d f _ _ _ _ _
    rw [pz]
    split
    · rfl
    · funext x; rw [cz_ne _ _ _ _ (by omega)]
  | succ n ih =>
    intro d f E h1 h2 h3 hk
    rw [pz]
    have P := py_file E i f 0 hi (by omega) hk
    by_cases a : bo d i (f / 32) = 0
    · have e : py d i f 0 = d := by unfold py; rw [if_pos a]
      rw [e, if_pos a]
      by_cases z : n = 0
      · subst z; rfl
      · rw [ih d (f + 1) E (by omega) (by omega) (by omega) hk, show (f + 1) / 32 = f / 32 by omega, if_pos a]
    · have bb := E.B.b1 i (f / 32) hi (by omega)
      rw [qb_bo _ _ _ (by omega)] at bb
      have e : py d i f 0 = dp d (bo d i (f / 32) * 32 + f % 32) 0 := by unfold py; rw [if_neg a]
      rw [if_neg a]
      by_cases z : n = 0
      · subst z
        rw [pz, e]
        funext x
        unfold dp cz
        by_cases y : x = bo d i (f / 32) * 32 + f % 32
        · rw [if_pos (by omega), if_pos (by omega)]
        · rw [if_neg (by omega), if_neg (by omega)]
      · have be : bo (py d i f 0) i (f / 32) = bo d i (f / 32) := by
          rw [← qb_bo _ _ _ (by omega), ← qb_bo _ _ _ (by omega)]; exact P.2.2.2 i (f / 32) hi (by omega)
        rw [ih (py d i f 0) (f + 1) P.1 (by omega) (by omega) (by omega) (by rw [P.2.1.k i hi]; exact hk), show (f + 1) / 32 = f / 32 by omega, be, if_neg a, show (f + 1) % 32 = f % 32 + 1 by omega, e]
        generalize bo d i (f / 32) = b at bb ⊢
        funext x
        by_cases y : x = b * 32 + f % 32
        · rw [cz_ne (dp d (b * 32 + f % 32) 0) _ _ _ (by omega), y, dp_at _ _ _ (by omega), cz_in d _ _ _ (by omega)]
        · by_cases w : b * 32 + (f % 32 + 1) ≤ x ∧ x < b * 32 + (f % 32 + 1) + n
          · rw [cz_in (dp d (b * 32 + f % 32) 0) _ _ _ w, cz_in d _ _ _ (by omega)]
          · rw [cz_ne (dp d (b * 32 + f % 32) 0) _ _ _ w, dp_ne _ _ _ _ y, cz_ne d _ _ _ (by omega)]
theorem qV.write {d} (V : qV d) (h1 : d 11 = 1) (i o n u c : Nat) (b : Nat → Nat) (hi : i < 16) (hk : d (32 + (16 * i)) = 1) (hn : 1 ≤ n) (ho : o + n ≤ 1216) (hu : u = o / 32) (hc : c = (o + n - 1) / 32 + 1 - u)
    (hb : bw d i u ((o + n - 1) / 32) ≤ cf d 3 9 55) (z : Nat) (hz : z ≤ 1216) : qV (ss (wb i o b (fn i d u c) 0 n) i z) ∧ qE (fn i d u c) ∧ qI d (fn i d u c) ∧ qE (wb i o b (fn i d u c) 0 n) ∧ qI d (wb i o b (fn i d u c) 0 n) ∧
    wb i o b (fn i d u c) 0 n (32 + (16 * i) + 2) = d (32 + (16 * i) + 2) ∧ wb i o b (fn i d u c) 0 n (32 + (16 * i) + 3) = d (32 + (16 * i) + 3) ∧ (∀ v, u ≤ v → v < u + c → bo (fn i d u c) i v ≠ 0) := by
  have E := V.E h1
  have F := fn_file i c hi d u E (by omega) hk (by
    unfold bw at hb
    rw [show (o + n - 1) / 32 + 1 - u = c from hc.symm] at hb
    by_cases a : 6 ≤ (o + n - 1) / 32 ∧ d (32 + (16 * i) + 10) = 0
    · rw [if_pos a] at hb; rw [if_pos (by omega)]; exact hb
    · rw [if_neg a] at hb; rw [if_neg (by omega)]; exact hb)
  have W := wb_file i o b hi n (fn i d u c) 0 F.1 (by omega) (by rw [F.2.1.k i hi]; exact hk)
  have I2 := F.2.1.trans W.2.1
  have S := ss_file W.1 i z hi (by rw [I2.k i hi]; exact hk) hz
  refine ⟨V.file h1 S.1 (I2.trans S.2.1), F.1, F.2.1, W.1, I2, ?_, ?_, ?_⟩
  · rw [W.2.2 i 2 hi (by omega)]; exact F.2.2.1
  · rw [W.2.2 i 3 hi (by omega)]; exact F.2.2.2.1
  · intro v v1 v2
    rw [← qb_bo _ _ _ (by omega)]; exact F.2.2.2.2.1 v v1 v2
theorem qV.trunc {d} (V : qV d) (h1 : d 11 = 1) (i s u : Nat) (hi : i < 16) (hk : d (32 + (16 * i)) = 1) (hs : s ≤ 1216) (hu : u = (s + 31) / 32) :
    qV (ss (pz i (dr d i u) s (u * 32 - s)) i s) ∧ qE (dr d i u) ∧ qI d (dr d i u) ∧
    pz i (dr d i u) s (u * 32 - s) = if s % 32 = 0 then dr d i u else if bo (dr d i u) i (s / 32) = 0 then dr d i u else cz (dr d i u) (bo (dr d i u) i (s / 32) * 32 + s % 32) (32 - s % 32) := by
  have E := V.E h1
  have D := dr_file E i u hi (by omega) hk
  have kD : dr d i u (32 + (16 * i)) = 1 := by rw [D.2.1.k i hi]; exact hk
  have P := pz_file i hi (u * 32 - s) (dr d i u) s D.1 (by omega) kD
  have I2 := D.2.1.trans P.2.1
  have S := ss_file P.1 i s hi (by rw [I2.k i hi]; exact hk) hs
  refine ⟨V.file h1 S.1 (I2.trans S.2.1), D.1, D.2.1, ?_⟩
  by_cases a : s % 32 = 0
  · rw [if_pos a, show u * 32 - s = 0 by omega]; rfl
  · rw [if_neg a, pz_cz i hi _ _ s D.1 (by omega) (by omega) (by omega) kD, show u * 32 - s = 32 - s % 32 by omega]
def pN (d : Nat → Nat) (i w : Nat) : Nat := if bo d i w ≠ 0 then 0 else if 6 ≤ w ∧ d (32 + (16 * i) + 10) = 0 then 2 else 1
theorem bo_ix0 (d : Nat → Nat) (i w : Nat) (h : 6 ≤ w) (hx : d (32 + (16 * i) + 10) = 0) : bo d i w = 0 := by
  unfold bo eo; rw [if_neg (by omega), if_pos hx]; rfl
theorem bw_one (d : Nat → Nat) (i u : Nat) : bw d i u u = pN d i u := by
  unfold bw pN
  rw [show u + 1 - u = 1 by omega, ho, ho]
  by_cases a : 6 ≤ u ∧ d (32 + (16 * i) + 10) = 0
  · have := bo_ix0 d i u a.1 a.2
    rw [if_pos a, if_pos this, if_neg (by omega), if_pos a]
  · rw [if_neg a]
    by_cases b : bo d i u = 0
    · rw [if_pos b, if_neg (by omega), if_neg a]
    · rw [if_neg b, if_pos b]
theorem bw_two (d : Nat → Nat) (i u : Nat) : bw d i u (u + 1) + (if 6 ≤ u ∧ d (32 + (16 * i) + 10) = 0 then 1 else 0) = pN d i u + pN d i (u + 1) := by
  rw [← bw_one, ← bw_one]
  unfold bw
  have e2 : ho d i u 2 = (if bo d i u = 0 then 1 else 0) + ((if bo d i (u + 1) = 0 then 1 else 0) + 0) := rfl
  have e1 : ∀ w, ho d i w 1 = (if bo d i w = 0 then 1 else 0) + 0 := fun w => rfl
  rw [show u + 1 + 1 - u = 2 by omega, show u + 1 - u = 1 by omega, show u + 1 + 1 - (u + 1) = 1 by omega, e2, e1, e1]
  by_cases a : 6 ≤ u ∧ d (32 + (16 * i) + 10) = 0
  · rw [if_pos a, if_pos (by omega)]; omega
  · rw [if_neg a]; omega
theorem fh_hole {d} (B : qB d) (M : qM d) (i w : Nat) (hi : i < 16) (hw : w < 38) (hh : bo d i w = 0) (hc : (if 6 ≤ w ∧ d (32 + (16 * i) + 10) = 0 then 1 else 0) + 1 ≤ cf d 3 9 55) :
    fh d i w = op (tB (f1 d i w)) (eo (f1 d i w) i w) (lw (f1 d i w) 3 9 55) ∧ lw (f1 d i w) 3 9 55 ≠ 0 ∧ (w < 6 ∨ f1 d i w (32 + (16 * i) + 10) ≠ 0) ∧ qB (f1 d i w) ∧ (∀ b, b < 9 → bt (f1 d i w) 3 b = true) ∧
    (6 ≤ w → d (32 + (16 * i) + 10) = 0 → lw d 3 9 55 ≠ 0) := by
  by_cases a : 6 ≤ w ∧ d (32 + (16 * i) + 10) = 0
  · rw [if_pos a] at hc
    have h0 := lw_cf d (by omega)
    have N := alloc B M _ rfl h0 i 38 hi (by omega) (by rw [qb_ix]; exact a.2) (Or.inr (Or.inl rfl))
    have e1 : f1 d i w = dp (tB d) (ea d i 38) (lw d 3 9 55) := by unfold f1; rw [if_pos a, ea_38]
    rw [← e1] at N
    have C := N.cf
    have ix := N.qb i 38 hi (by omega)
    rw [if_pos ⟨rfl, rfl⟩, qb_ix] at ix
    have hbo : bo (f1 d i w) i w = 0 := by
      have := N.qb i w hi (by omega)
      rw [if_neg (by omega), qb_bo _ _ _ hw, qb_bo _ _ _ hw] at this; rw [this]; exact hh
    refine ⟨?_, lw_cf _ (by omega), Or.inr (by rw [ix]; exact h0), N.B, N.B.m3, fun _ _ => h0⟩
    unfold fh f2
    rw [if_pos hbo]
  · rw [if_neg a] at hc
    have e1 : f1 d i w = d := by unfold f1; rw [if_neg a]
    unfold fh
    rw [e1]
    refine ⟨?_, lw_cf d (by omega), by omega, B, B.m3, fun z1 z2 => absurd ⟨z1, z2⟩ a⟩
    unfold f2
    rw [if_pos hh]
theorem fh_full (d : Nat → Nat) (i w : Nat) (h : bo d i w ≠ 0) : fh d i w = d := by
  have a : ¬ (6 ≤ w ∧ d (32 + (16 * i) + 10) = 0) := fun z => h (bo_ix0 d i w z.1 z.2)
  have e1 : f1 d i w = d := by unfold f1; rw [if_neg a]
  unfold fh f2
  rw [e1, if_neg h]
theorem fd_spec (d : Nat → Nat) (p : Nat) (nm : Nat → Nat) (n : Nat) : ∀ j, 0 < j → fd d p nm j n ≠ 0 → j ≤ fd d p nm j n ∧ fd d p nm j n < j + n ∧ si d p (fd d p nm j n) ≠ 0 := by
  induction n with
  | zero => intro j _ h; exact absurd rfl h
  | succ n ih =>
    intro j hj h
    rw [fd] at h ⊢
    by_cases a : si d p j ≠ 0 ∧ nq d (sa d p j) nm 0 7 = true
    · rw [if_pos a]; exact ⟨by omega, by omega, a.1⟩
    · rw [if_neg a] at h ⊢
      have := ih (j + 1) (by omega) h
      exact ⟨by omega, by omega, this.2.2⟩
theorem qV.slot {d} (V : qV d) (p j : Nat) (hp : p < 16) (hk : d (32 + (16 * p)) = 2) (h2 : 2 ≤ j) (hj : j < sn d p) (hn : si d p j ≠ 0) : si d p j < 16 ∧ si d p j ≠ 1 ∧ d (32 + (16 * si d p j)) ≠ 0 := by
  have h24 := sn_le d p
  have e := qs_si d p j hk hj
  have t := V.T.t3 p j hp h2 (by omega) (by omega)
  rw [e] at t
  have := t.2.2.1
  rw [qk_lt d _ t.1] at this
  exact ⟨t.1, t.2.1, this⟩
theorem ld_ok {d} (V : qV d) (N : Nat → Nat) (k : Nat) : ld d N k = 0 ∨ (ld d N k < 16 ∧ d (32 + (16 * ld d N k)) ≠ 0) := by
  induction k with
  | zero =>
    right
    have := V.T.k1
    rw [qk_lt d 1 (by omega)] at this
    show 1 < 16 ∧ d (32 + (16 * 1)) ≠ 0
    exact ⟨by omega, by omega⟩
  | succ k ih =>
    rw [ld]
    by_cases a : d (32 + (16 * ld d N k)) = 2
    · rw [if_pos a]
      by_cases b : fd d (ld d N k) (fun q => N (7 * k + q)) 2 (sn d (ld d N k) - 2) = 0
      · rw [if_pos b]; exact Or.inl rfl
      · rw [if_neg b]
        have i0 : ld d N k ≠ 0 := by intro z; rw [z] at a; have := V.k00; omega
        have hi : ld d N k < 16 := by omega
        have f := fd_spec d (ld d N k) _ _ 2 (by omega) b
        have s := V.slot _ _ hi a f.1 (by omega) f.2.2
        exact Or.inr ⟨s.1, s.2.2⟩
    · rw [if_neg a]; exact Or.inl rfl
def qU (d : Nat → Nat) (U : gU) : Prop :=
  (U.1 ≠ 0 → U.1 < 16 ∧ d (32 + (16 * U.1)) = 2) ∧
  (U.2.2.1 ≠ 0 → U.2.2.1 < 16 ∧ d (32 + (16 * U.2.2.1)) ≠ 0) ∧
  (U.2.2.1 ≠ 0 → U.2.2.1 = 1 ∧ U.1 = 0 ∧ U.2.1 = 0 ∨ (U.2.2.1 ≠ 1 ∧ U.1 ≠ 0 ∧ 2 ≤ U.2.1 ∧ U.2.1 < sn d U.1 ∧ si d U.1 U.2.1 = U.2.2.1)) ∧
  (U.2.2.1 = 0 → U.2.1 = 0)
theorem qU.p {d : Nat → Nat} {U : gU} (h : qU d U) : U.1 ≠ 0 → U.1 < 16 ∧ d (32 + (16 * U.1)) = 2 := h.1
theorem qU.i {d : Nat → Nat} {U : gU} (h : qU d U) : U.2.2.1 ≠ 0 → U.2.2.1 < 16 ∧ d (32 + (16 * U.2.2.1)) ≠ 0 := h.2.1
theorem qU.s {d : Nat → Nat} {U : gU} (h : qU d U) : U.2.2.1 ≠ 0 → U.2.2.1 = 1 ∧ U.1 = 0 ∧ U.2.1 = 0 ∨ (U.2.2.1 ≠ 1 ∧ U.1 ≠ 0 ∧ 2 ≤ U.2.1 ∧ U.2.1 < sn d U.1 ∧ si d U.1 U.2.1 = U.2.2.1) := h.2.2.1
theorem qU.z {d : Nat → Nat} {U : gU} (h : qU d U) : U.2.2.1 = 0 → U.2.1 = 0 := h.2.2.2
theorem fw_U {d} (V : qV d) (t : Nat → Nat) (l : Nat) (U : gU) : qU d (fw d t l U) := by
  have h0 : d (32 + (16 * 0)) ≠ 2 := by have := V.k00; omega
  have k1 := V.T.k1
  rw [qk_lt d 1 (by omega)] at k1
  have F := fw_P d t l U (fun _ => 0) h0
  cases hp : (pP t l (fun _ => 0)).1 with
  | false =>
    obtain ⟨a, b, c⟩ := F.2.1 hp
    exact ⟨fun h => absurd a h, fun h => absurd c h, fun h => absurd c h, fun _ => b⟩
  | true =>
    by_cases m0 : (pP t l (fun _ => 0)).2.1 = 0
    · obtain ⟨a, b, c⟩ := F.2.2.1 hp m0
      exact ⟨fun h => absurd a h, fun _ => by rw [c]; exact ⟨by omega, by omega⟩, fun _ => Or.inl ⟨c, a, b⟩, fun h => by rw [c] at h; omega⟩
    · have P := F.2.2.2 hp m0
      generalize (pP t l (fun _ => 0)).2.2 = N at P
      generalize (pP t l (fun _ => 0)).2.1 - 1 = m at P
      generalize fw d t l U = W at P ⊢
      have L := ld_ok V N m
      obtain ⟨par, slot, ino, _⟩ := P
      rw [ld] at ino
      by_cases a : d (32 + (16 * ld d N m)) = 2
      · rw [if_pos a] at par slot ino
        have i0 : ld d N m ≠ 0 := by intro z; rw [z] at a; exact h0 a
        have hi : ld d N m < 16 := by omega
        have pP : W.1 ≠ 0 → W.1 < 16 ∧ d (32 + (16 * W.1)) = 2 := fun _ => by rw [par]; exact ⟨hi, a⟩
        by_cases b : fd d (ld d N m) (fun q => N (7 * m + q)) 2 (sn d (ld d N m) - 2) = 0
        · rw [if_pos b] at ino
          exact ⟨pP, fun h => absurd ino h, fun h => absurd ino h, fun _ => by rw [slot]; exact b⟩
        · rw [if_neg b] at ino
          have f := fd_spec d (ld d N m) _ _ 2 (by omega) b
          have s := V.slot _ _ hi a f.1 (by omega) f.2.2
          refine ⟨pP, fun _ => by rw [ino]; exact ⟨s.1, s.2.2⟩, fun _ => Or.inr ⟨by rw [ino]; exact s.2.1, by rw [par]; exact i0, by rw [slot]; exact f.1, by rw [slot, par]; omega, by rw [slot, par, ino]⟩, fun h => ?_⟩
          rw [ino] at h; exact absurd h f.2.2
      · rw [if_neg a] at par slot ino
        exact ⟨fun h => absurd par h, fun h => absurd ino h, fun h => absurd ino h, fun _ => slot⟩
def rl (d : Nat → Nat) (v : Nat) : Nat → Nat → Bool
  | _, 0 => false
  | p, n + 1 => if p = v then true else if p = 1 then false else rl d v (si d p 1) n
theorem up_1 (d : Nat → Nat) (v n : Nat) (h : si d 1 1 = 1) (hv : 1 ≠ v) : up d v 1 n = false := by
  induction n with
  | zero => rfl
  | succ n ih => rw [up, if_neg hv, h]; exact ih
theorem rl_up (d : Nat → Nat) (v n : Nat) (h : si d 1 1 = 1) : ∀ p, rl d v p n = up d v p n := by
  induction n with
  | zero => intro p; rfl
  | succ n ih =>
    intro p
    rw [rl, up]
    by_cases a : p = v
    · rw [if_pos a, if_pos a]
    · rw [if_neg a, if_neg a]
      by_cases b : p = 1
      · rw [if_pos b, b, h]
        exact (up_1 d v n h (by rw [← b]; exact a)).symm
      · rw [if_neg b]; exact ih _
theorem qV.s11 {d} (V : qV d) : si d 1 1 = 1 := by
  have k1 := V.T.k1
  rw [qk_lt d 1 (by omega)] at k1
  have r := V.R.dr 1 (by omega) k1
  rw [← qs_si d 1 1 k1 (by omega)]; exact V.T.s1
def ca (g : Nat → Nat) : Nat → Nat → Nat → Nat
  | acc, _, 0 => acc
  | acc, k, n + 1 => ca g (acc + g k * 256 ^ k) (k + 1) n
def hz (f : Nat → Nat) : Nat → Nat → Nat
  | acc, 0 => acc
  | acc, n + 1 => hz f (acc * 256 + f n) n
theorem ca_sm (g : Nat → Nat) (n : Nat) : ∀ acc k, ca g acc k n = acc + sm (fun j => g (k + j) * 256 ^ (k + j)) n := by
  induction n with
  | zero => intro acc k; rfl
  | succ n ih =>
    intro acc k
    rw [ca, ih, sm_shift]
    have e : sm (fun j => g (k + 1 + j) * 256 ^ (k + 1 + j)) n = sm (fun j => g (k + (j + 1)) * 256 ^ (k + (j + 1))) n :=
      sm_congr _ _ _ (fun j _ => by rw [show k + 1 + j = k + (j + 1) by omega])
    rw [e]
    show acc + g k * 256 ^ k + _ = acc + (g (k + 0) * 256 ^ (k + 0) + _)
    rw [Nat.add_zero]; omega
theorem hz_sm (f : Nat → Nat) (n : Nat) : ∀ acc, hz f acc n = acc * 256 ^ n + sm (fun j => f j * 256 ^ j) n := by
  induction n with
  | zero => intro acc; show acc = acc * 1 + 0; omega
  | succ n ih =>
    intro acc
    rw [hz, ih, sm, Nat.pow_succ]
    rw [Nat.add_mul, Nat.mul_assoc, Nat.mul_comm 256 (256 ^ n)]; omega
theorem ca_hz (g f : Nat → Nat) (n : Nat) (hn : n ≤ 8) (h1 : ∀ k, k < n → f k = g k) (h2 : ∀ k, n ≤ k → k < 8 → f k = 0) : ca g 0 0 n = hz f 0 8 := by
  rw [ca_sm, hz_sm, Nat.zero_mul, show (8 : Nat) = n + (8 - n) by omega, sm_cat]
  have e1 : sm (fun k => f (n + k) * 256 ^ (n + k)) (8 - n) = 0 := sm_zero _ _ (fun k hk => by rw [h2 (n + k) (by omega) (by omega), Nat.zero_mul])
  rw [e1, Nat.add_zero]
  congr 1
  exact sm_congr _ _ _ (fun k hk => by rw [Nat.zero_add, h1 k hk])
theorem sm_256 (f : Nat → Nat) (h : ∀ k, f k < 256) (n : Nat) : sm (fun j => f j * 256 ^ j) n < 256 ^ n := by
  induction n with
  | zero => show 0 < 1; omega
  | succ n ih =>
    rw [sm, Nat.pow_succ]
    have : f n * 256 ^ n ≤ 255 * 256 ^ n := Nat.mul_le_mul_right _ (by have := h n; omega)
    have : 256 ^ n * 256 = 255 * 256 ^ n + 256 ^ n := by rw [Nat.mul_comm]; omega
    omega
