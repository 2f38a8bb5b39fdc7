def pI (t : Nat → Nat) : Nat → Nat → Nat → Nat → (Nat → Nat) → Bool × Nat × (Nat → Nat)
  | 0, _, c, m, N => if c = 0 then (false, m, N) else (true, m + 1, N)
  | n + 1, k, c, m, N => if 97 ≤ t k ∧ t k ≤ 122 then (if c = 7 then (false, m, N) else pI t n (k + 1) (c + 1) m (ut N (7 * m + c) (t k)))
    else if c = 0 then (false, m, N) else if t k = 47 then pI t n (k + 1) 0 (m + 1) (cz N (7 * (m + 1)) 7) else (false, m + 1, N)
def pP (t : Nat → Nat) (l : Nat) (N : Nat → Nat) : Bool × Nat × (Nat → Nat) :=
  if l = 1 then (decide (t 0 = 47), 0, N) else if l = 0 then (false, 0, N) else if t 0 = 47 then pI t (l - 1) 1 0 0 (cz N 0 7) else (false, 0, N)
def ld (d N : Nat → Nat) : Nat → Nat
  | 0 => 1
  | k + 1 => if d (32 + (16 * ld d N k)) = 2 then (if fd d (ld d N k) (fun q => N (7 * k + q)) 2 (sn d (ld d N k) - 2) = 0 then 0 else si d (ld d N k) (fd d (ld d N k) (fun q => N (7 * k + q)) 2 (sn d (ld d N k) - 2))) else 0
theorem pI_ip (t : Nat → Nat) (l : Nat) (hl : l ≠ 1) (n : Nat) : ∀ (k c m : Nat) (N : Nat → Nat), c ≤ 7 → (pI t n k c m N).1 = ip t l k c n := by
  induction n with
  | zero =>
    intro k c m N _
    rw [pI, ip]
    by_cases a : c = 0
    · rw [if_pos a, a]
      show false = decide (0 < 0 ∨ l = 1)
      rw [decide_eq_false (by omega)]
    · rw [if_neg a]
      show true = decide (0 < c ∨ l = 1)
      rw [decide_eq_true (by omega)]
  | succ n ih =>
    intro k c m N hc
    rw [pI, ip]
    by_cases a : 97 ≤ t k ∧ t k ≤ 122
    · rw [if_pos a, if_neg (show ¬ t k = 47 by omega)]
      by_cases b : c = 7
      · rw [if_pos b, if_neg (show ¬ (97 ≤ t k ∧ t k ≤ 122 ∧ c < 7) by omega)]
      · rw [if_neg b, if_pos (show (97 ≤ t k ∧ t k ≤ 122 ∧ c < 7) by omega)]; exact ih _ _ _ _ (by omega)
    · rw [if_neg a]
      by_cases e : t k = 47
      · by_cases b : c = 0
        · rw [if_pos b, if_pos e, if_pos b]
        · rw [if_neg b, if_pos e, if_pos e, if_neg b]; exact ih _ _ _ _ (by omega)
      · rw [if_neg e, if_neg e, if_neg (show ¬ (97 ≤ t k ∧ t k ≤ 122 ∧ c < 7) by omega)]
        by_cases b : c = 0
        · rw [if_pos b]
        · rw [if_neg b]
theorem pP_isP (t : Nat → Nat) (l : Nat) (N : Nat → Nat) : (pP t l N).1 = isP t l := by
  unfold pP isP
  by_cases a : l = 1
  · subst a
    rw [if_pos rfl, if_neg (by omega)]
    by_cases b : t 0 = 47
    · rw [if_pos b]; show decide (t 0 = 47) = ip t 1 1 0 0; rw [ip, decide_eq_true b, decide_eq_true (Or.inr rfl)]
    · rw [if_neg b]; exact decide_eq_false b
  · rw [if_neg a]
    by_cases b : l = 0
    · rw [if_pos b, if_pos b]
    · rw [if_neg b, if_neg b]
      by_cases c : t 0 = 47
      · rw [if_pos c, if_pos c]; exact pI_ip t l a _ _ _ _ _ (by omega)
      · rw [if_neg c, if_neg c]
theorem pI_keep (t : Nat → Nat) (n : Nat) : ∀ (k c m : Nat) (N : Nat → Nat), c ≤ 7 → (pI t n k c m N).1 = true → m + 1 ≤ (pI t n k c m N).2.1 ∧ (pI t n k c m N).2.1 ≤ m + 1 + n ∧ ∀ x, x < 7 * m + c → (pI t n k c m N).2.2 x = N x := by
  induction n with
  | zero =>
    intro k c m N _ h
    rw [pI] at h ⊢
    by_cases a : c = 0
    · rw [if_pos a] at h; exact Bool.noConfusion h
    · rw [if_neg a]; exact ⟨Nat.le_refl _, Nat.le_refl _, fun _ _ => rfl⟩
  | succ n ih =>
    intro k c m N hc h
    rw [pI] at h ⊢
    by_cases a : 97 ≤ t k ∧ t k ≤ 122
    · rw [if_pos a] at h ⊢
      by_cases b : c = 7
      · rw [if_pos b] at h; exact Bool.noConfusion h
      · rw [if_neg b] at h ⊢
        have G := ih (k + 1) (c + 1) m (ut N (7 * m + c) (t k)) (by omega) h
        refine ⟨G.1, by omega, fun x hx => ?_⟩
        rw [G.2.2 x (by omega)]
        unfold ut; rw [if_neg (by omega)]
    · rw [if_neg a] at h ⊢
      by_cases b : c = 0
      · rw [if_pos b] at h; exact Bool.noConfusion h
      · rw [if_neg b] at h ⊢
        by_cases e : t k = 47
        · rw [if_pos e] at h ⊢
          have G := ih (k + 1) 0 (m + 1) (cz N (7 * (m + 1)) 7) (by omega) h
          refine ⟨by omega, by omega, fun x hx => ?_⟩
          rw [G.2.2 x (by omega), cz_ne _ _ _ _ (by omega)]
        · rw [if_neg e] at h; exact Bool.noConfusion h
theorem cn_lo (t : Nat → Nat) (l i n : Nat) : ∀ (nm : Nat → Nat) (b : Bool) (k q : Nat), q < k → cn t l i nm b k n q = nm q := by
  induction n with
  | zero => intro nm b k q _; rfl
  | succ n ih =>
    intro nm b k q hq
    rw [cn]
    split
    · rw [ih _ _ _ _ (by omega)]; unfold ut; rw [if_neg (by omega)]
    · rw [ih _ _ _ _ (by omega)]; unfold ut; rw [if_neg (by omega)]
theorem cn_off (t : Nat → Nat) (l i n : Nat) : ∀ (nm : Nat → Nat) (k q : Nat), k ≤ q → q < k + n → cn t l i nm false k n q = 0 := by
  induction n with
  | zero => intro nm k q h1 h2; omega
  | succ n ih =>
    intro nm k q h1 h2
    rw [cn, if_neg (by simp)]
    by_cases a : q = k
    · rw [cn_lo _ _ _ _ _ _ _ _ (by omega)]; unfold ut; rw [if_pos a]
    · exact ih _ _ _ (by omega) (by omega)
theorem pI_row (t : Nat → Nat) (l n : Nat) : ∀ (k c m : Nat) (N nm : Nat → Nat), c ≤ 7 → c ≤ k → k + n = l → (∀ q, c ≤ q → q < 7 → N (7 * m + q) = 0) → (pI t n k c m N).1 = true →
    ∀ q, c ≤ q → q < 7 → (pI t n k c m N).2.2 (7 * m + q) = cn t l (k - c) nm true c (7 - c) q := by
  induction n with
  | zero =>
    intro k c m N nm _ hck hk hN h q h1 h2
    rw [pI] at h ⊢
    by_cases a : c = 0
    · rw [if_pos a] at h; exact Bool.noConfusion h
    · rw [if_neg a]
      rw [show 7 - c = (6 - c) + 1 by omega, cn, if_neg (by omega)]
      show N (7 * m + q) = _
      rw [hN q h1 h2]
      by_cases e : q = c
      · rw [cn_lo _ _ _ _ _ _ _ _ (by omega)]; unfold ut; rw [if_pos e]
      · rw [cn_off _ _ _ _ _ _ _ (by omega) (by omega)]
  | succ n ih =>
    intro k c m N nm hc hck hk hN h q h1 h2
    rw [pI] at h ⊢
    by_cases a : 97 ≤ t k ∧ t k ≤ 122
    · rw [if_pos a] at h ⊢
      by_cases b : c = 7
      · omega
      · rw [if_neg b] at h ⊢
        rw [show 7 - c = (6 - c) + 1 by omega, cn, show k - c + c = k by omega, if_pos ⟨rfl, by omega, by omega⟩]
        by_cases e : q = c
        · have K := (pI_keep t n (k + 1) (c + 1) m (ut N (7 * m + c) (t k)) (by omega) h).2.2 (7 * m + q) (by omega)
          rw [K, cn_lo _ _ _ _ _ _ _ _ (by omega)]
          unfold ut; rw [if_pos (by omega), if_pos e]
        · have G := ih (k + 1) (c + 1) m (ut N (7 * m + c) (t k)) (ut nm c (t k)) (by omega) (by omega) (by omega)
            (fun q' z1 z2 => by unfold ut; rw [if_neg (by omega)]; exact hN q' (by omega) z2) h q (by omega) h2
          rw [G, show k + 1 - (c + 1) = k - c by omega, show 7 - (c + 1) = 6 - c by omega]
    · rw [if_neg a] at h ⊢
      by_cases b : c = 0
      · rw [if_pos b] at h; exact Bool.noConfusion h
      · rw [if_neg b] at h ⊢
        by_cases e : t k = 47
        · rw [if_pos e] at h ⊢
          have K := (pI_keep t n (k + 1) 0 (m + 1) (cz N (7 * (m + 1)) 7) (by omega) h).2.2 (7 * m + q) (by omega)
          rw [K, cz_ne _ _ _ _ (by omega), hN q h1 h2, show 7 - c = (6 - c) + 1 by omega, cn, show k - c + c = k by omega, if_neg (fun z => z.2.2 e)]
          by_cases f : q = c
          · rw [cn_lo _ _ _ _ _ _ _ _ (by omega)]; unfold ut; rw [if_pos f]
          · rw [cn_off _ _ _ _ _ _ _ (by omega) (by omega)]
        · rw [if_neg e] at h; exact Bool.noConfusion h
theorem nq_ext (d : Nat → Nat) (a : Nat) (f g : Nat → Nat) (n : Nat) : ∀ k, k + n = 7 → (∀ q, q < 7 → f q = g q) → nq d a f k n = nq d a g k n := by
  induction n with
  | zero => intro k _ _; rfl
  | succ n ih => intro k hk h; rw [nq, nq, h k (by omega), ih (k + 1) (by omega) h]
theorem fd_ext (d : Nat → Nat) (i : Nat) (f g : Nat → Nat) (n : Nat) (h : ∀ q, q < 7 → f q = g q) : ∀ j, fd d i f j n = fd d i g j n := by
  induction n with
  | zero => intro j; rfl
  | succ n ih => intro j; rw [fd, fd, nq_ext d _ f g 7 0 (by omega) h, ih (j + 1)]
def qP (d N : Nat → Nat) (m : Nat) (U : gU) : Prop :=
  (U.1 = if d (32 + (16 * ld d N m)) = 2 then ld d N m else 0) ∧
  (U.2.1 = if d (32 + (16 * ld d N m)) = 2 then fd d (ld d N m) (fun q => N (7 * m + q)) 2 (sn d (ld d N m) - 2) else 0) ∧
  (U.2.2.1 = ld d N (m + 1)) ∧
  (∀ q, q < 7 → U.2.2.2 q = N (7 * m + q))
theorem qP.par {d N : Nat → Nat} {m : Nat} {U : gU} (h : qP d N m U) : U.1 = if d (32 + (16 * ld d N m)) = 2 then ld d N m else 0 := h.1
theorem qP.slot {d N : Nat → Nat} {m : Nat} {U : gU} (h : qP d N m U) : U.2.1 = if d (32 + (16 * ld d N m)) = 2 then fd d (ld d N m) (fun q => N (7 * m + q)) 2 (sn d (ld d N m) - 2) else 0 := h.2.1
theorem qP.ino {d N : Nat → Nat} {m : Nat} {U : gU} (h : qP d N m U) : U.2.2.1 = ld d N (m + 1) := h.2.2.1
theorem qP.nam {d N : Nat → Nat} {m : Nat} {U : gU} (h : qP d N m U) : ∀ q, q < 7 → U.2.2.2 q = N (7 * m + q) := h.2.2.2
theorem st1_P (d t N : Nat → Nat) (l i m no : Nat) (nm : Nat → Nat) (h0 : d (32 + (16 * 0)) ≠ 2) (hno : no = ld d N m) (hrow : ∀ q, q < 7 → cn t l i nm true 0 7 q = N (7 * m + q)) : qP d N m (st1 d t l i no nm) := by
  have e : ∀ p, fd d p (cn t l i nm true 0 7) 2 (sn d p - 2) = fd d p (fun q => N (7 * m + q)) 2 (sn d p - 2) := fun p => fd_ext d p _ _ _ hrow 2
  unfold st1
  by_cases a : d (32 + (16 * no)) = 2
  · have b : no ≠ 0 := by intro z; rw [z] at a; exact h0 a
    rw [if_pos a, if_neg b, e no]
    by_cases c : fd d no (fun q => N (7 * m + q)) 2 (sn d no - 2) = 0
    · rw [if_pos c]
      subst hno
      refine ⟨by rw [if_pos a], by rw [if_pos a, c], ?_, hrow⟩
      show 0 = ld d N (m + 1)
      rw [ld, if_pos a, if_pos c]
    · rw [if_neg c]
      subst hno
      refine ⟨by rw [if_pos a], by rw [if_pos a], ?_, hrow⟩
      show si d (ld d N m) _ = ld d N (m + 1)
      rw [ld, if_pos a, if_neg c]
  · rw [if_neg a]
    subst hno
    refine ⟨by rw [if_neg a], by rw [if_neg a], ?_, hrow⟩
    show 0 = ld d N (m + 1)
    rw [ld, if_neg a]
theorem fw1_P (d t : Nat → Nat) (l : Nat) (h0 : d (32 + (16 * 0)) ≠ 2) (M : Nat) (N' : Nat → Nat) (n : Nat) : ∀ (k c m : Nat) (N : Nat → Nat) (U : gU), c ≤ 7 → c ≤ k → 1 ≤ k → k + n = l →
    (∀ q, c ≤ q → q < 7 → N (7 * m + q) = 0) → pI t n k c m N = (true, M, N') → (c = 0 → t (k - 1) = 47 ∧ U.2.2.1 = ld d N' m) → (c ≠ 0 → t (k - 1) ≠ 47 ∧ qP d N' m U) → 1 ≤ M ∧ qP d N' (M - 1) (fw1 d t l U k n) := by
  induction n with
  | zero =>
    intro k c m N U _ _ _ hk hN h hc0 hc1
    rw [pI] at h
    by_cases a : c = 0
    · rw [if_pos a] at h; exact Bool.noConfusion (congrArg (·.1) h)
    · rw [if_neg a] at h
      have e : m + 1 = M := congrArg (·.2.1) h
      refine ⟨by omega, ?_⟩
      rw [← e, fw1]
      exact (hc1 a).2
  | succ n ih =>
    intro k c m N U hc hck hk1 hk hN h hc0 hc1
    have hrow := pI_row t l (n + 1) k c m N U.2.2.2 hc hck hk hN (by rw [h])
    rw [h] at hrow
    rw [pI] at h
    rw [fw1]
    by_cases a : 97 ≤ t k ∧ t k ≤ 122
    · rw [if_pos a] at h
      by_cases b : c = 7
      · rw [if_pos b] at h; exact Bool.noConfusion (congrArg (·.1) h)
      · rw [if_neg b] at h
        have hN2 : ∀ q, c + 1 ≤ q → q < 7 → ut N (7 * m + c) (t k) (7 * m + q) = 0 := fun q' z1 z2 => by
          unfold ut; rw [if_neg (by omega)]; exact hN q' (by omega) z2
        by_cases e : c = 0
        · have hs : sN t l k = true := by unfold sN; rw [decide_eq_true ⟨by omega, by omega, (hc0 e).1⟩]
          rw [if_pos hs]
          subst e
          refine ih (k + 1) 1 m _ _ (by omega) (by omega) (by omega) (by omega) hN2 h (fun z => by omega) (fun _ => ⟨by rw [show k + 1 - 1 = k by omega]; omega, ?_⟩)
          apply st1_P d t N' l k m _ _ h0 (hc0 rfl).2
          intro q hq
          have := hrow q (by omega) hq
          rw [show k - 0 = k by omega] at this
          exact this.symm
        · have hs : ¬ sN t l k = true := by unfold sN; rw [decide_eq_false (fun z => (hc1 e).1 z.2.2)]; simp
          rw [if_neg hs]
          exact ih (k + 1) (c + 1) m _ U (by omega) (by omega) (by omega) (by omega) hN2 h (fun z => by omega) (fun _ => ⟨by rw [show k + 1 - 1 = k by omega]; omega, (hc1 e).2⟩)
    · rw [if_neg a] at h
      by_cases b : c = 0
      · rw [if_pos b] at h; exact Bool.noConfusion (congrArg (·.1) h)
      · rw [if_neg b] at h
        by_cases e : t k = 47
        · rw [if_pos e] at h
          have hs : ¬ sN t l k = true := by unfold sN; rw [decide_eq_false (fun z => (hc1 b).1 z.2.2)]; simp
          rw [if_neg hs]
          exact ih (k + 1) 0 (m + 1) _ U (by omega) (by omega) (by omega) (by omega) (fun q _ z2 => cz_in _ _ _ _ (by omega)) h
            (fun _ => ⟨by rw [show k + 1 - 1 = k by omega]; exact e, (hc1 b).2.ino⟩) (fun z => absurd rfl z)
        · rw [if_neg e] at h; exact Bool.noConfusion (congrArg (·.1) h)
theorem fw_P (d t : Nat → Nat) (l : Nat) (U : gU) (N : Nat → Nat) (h0 : d (32 + (16 * 0)) ≠ 2) :
    (isP t l = (pP t l N).1) ∧ ((pP t l N).1 = false → (fw d t l U).1 = 0 ∧ (fw d t l U).2.1 = 0 ∧ (fw d t l U).2.2.1 = 0) ∧
    ((pP t l N).1 = true → (pP t l N).2.1 = 0 → (fw d t l U).1 = 0 ∧ (fw d t l U).2.1 = 0 ∧ (fw d t l U).2.2.1 = 1) ∧
    ((pP t l N).1 = true → (pP t l N).2.1 ≠ 0 → qP d (pP t l N).2.2 ((pP t l N).2.1 - 1) (fw d t l U)) := by
  have e := pP_isP t l N
  refine ⟨e.symm, ?_, ?_, ?_⟩
  · intro h
    rw [h] at e
    unfold fw
    rw [if_neg (by rw [← e]; simp)]
    exact ⟨rfl, rfl, rfl⟩
  · intro h hm
    rw [h] at e
    unfold fw
    rw [if_pos e.symm]
    unfold pP at h hm
    by_cases a : l = 1
    · subst a
      rw [fw1]; exact ⟨rfl, rfl, rfl⟩
    · rw [if_neg a] at h hm
      by_cases b : l = 0
      · rw [if_pos b] at h; exact Bool.noConfusion h
      · rw [if_neg b] at h hm
        by_cases c : t 0 = 47
        · rw [if_pos c] at h hm
          have := (pI_keep t _ _ _ _ _ (by omega) h).1
          omega
        · rw [if_neg c] at h; exact Bool.noConfusion h
  · intro h hm
    rw [h] at e
    unfold fw
    rw [if_pos e.symm]
    unfold pP at h hm ⊢
    by_cases a : l = 1
    · rw [if_pos a] at hm; exact absurd rfl hm
    · rw [if_neg a] at h hm ⊢
      by_cases b : l = 0
      · rw [if_pos b] at h; exact Bool.noConfusion h
      · rw [if_neg b] at h hm ⊢
        by_cases c : t 0 = 47
        · rw [if_pos c] at h hm ⊢
          have hh : pI t (l - 1) 1 0 0 (cz N 0 7) = (true, (pI t (l - 1) 1 0 0 (cz N 0 7)).2.1, (pI t (l - 1) 1 0 0 (cz N 0 7)).2.2) := by rw [← h]
          exact (fw1_P d t l h0 _ _ (l - 1) 1 0 0 (cz N 0 7) (0, 0, 1, U.2.2.2) (by omega) (by omega) (by omega) (by omega) (fun q _ z => cz_in _ _ _ _ (by omega)) hh
            (fun _ => ⟨c, rfl⟩) (fun z => absurd rfl z)).2
        · rw [if_neg c] at h; exact Bool.noConfusion h
def tl (d : Nat → Nat) (x : Nat) : (Nat → Bool) → Nat → Nat → (Nat → Bool)
  | B, _, 0 => B
  | B, w, n + 1 => tl d x (ub B (bo d x w) true) (w + 1) n
def tU (d : Nat → Nat) (x : Nat) (B : Nat → Bool) : Nat → Bool := ub (tl d x B 0 38) (d (32 + (16 * x) + 10)) true
def tN (d : Nat → Nat) (S : gS) (x : Nat) : gS :=
  if S.1 x = true then (S.1, S.2.1, ut S.2.2.1 x (S.2.2.1 x + 1), S.2.2.2.1, S.2.2.2.2) else (ub S.1 x true, tU d x S.2.1, ut S.2.2.1 x (S.2.2.1 x + 1), S.2.2.2.1, S.2.2.2.2)
def tp (S : gS) (x : Nat) : gS := (S.1, S.2.1, S.2.2.1, ut S.2.2.2.1 S.2.2.2.2 x, S.2.2.2.2 + 1)
def tJ (d : Nat → Nat) (S : gS) (x : Nat) : gS := if x = 0 then S else if S.1 x = true then tN d S x else if d (32 + (16 * x)) = 2 then tp (tN d S x) x else tN d S x
def tS (d : Nat → Nat) (p : Nat) : gS → Nat → Nat → gS
  | S, _, 0 => S
  | S, j, n + 1 => tS d p (tJ d S (si d p j)) (j + 1) n
def to (S : gS) : gS := (S.1, S.2.1, S.2.2.1, S.2.2.2.1, S.2.2.2.2 - 1)
def tP (d : Nat → Nat) (S : gS) : gS := tS d (S.2.2.2.1 (S.2.2.2.2 - 1)) (to S) 0 (sn d (S.2.2.2.1 (S.2.2.2.2 - 1)))
def tW (d : Nat → Nat) : Nat → gS → gS
  | 0, S => S
  | m + 1, S => if S.2.2.2.2 = 0 then S else tW d m (tP d S)
def tz (S : gS) : gS := (zb S.1 0 16, zb S.2.1 0 64, zn S.2.2.1 0 16, ut S.2.2.2.1 0 1, 1)
def tR (d : Nat → Nat) (S : gS) : gS := ((tN d (tz S) 1).1, (tN d (tz S) 1).2.1, ut (tN d (tz S) 1).2.2.1 1 0, (tN d (tz S) 1).2.2.2.1, 1)
def tA (d : Nat → Nat) (S : gS) : gS := tW d 16 (tR d S)
theorem tl_at (d : Nat → Nat) (x n : Nat) : ∀ (B : Nat → Bool) (w c : Nat), tl d x B w n c = true ↔ B c = true ∨ ∃ v, w ≤ v ∧ v < w + n ∧ bo d x v = c := by
  induction n with
  | zero => intro B w c; exact ⟨fun h => Or.inl h, fun h => h.elim id (fun ⟨v, a, b, _⟩ => by omega)⟩
  | succ n ih =>
    intro B w c
    rw [tl, ih]
    unfold ub
    by_cases a : c = bo d x w
    · rw [if_pos a]; exact ⟨fun _ => Or.inr ⟨w, by omega, by omega, a.symm⟩, fun _ => Or.inl rfl⟩
    · rw [if_neg a]
      constructor
      · rintro (h | ⟨v, h1, h2, h3⟩)
        · exact Or.inl h
        · exact Or.inr ⟨v, by omega, by omega, h3⟩
      · rintro (h | ⟨v, h1, h2, h3⟩)
        · exact Or.inl h
        · by_cases z : v = w
          · rw [z] at h3; exact absurd h3.symm a
          · exact Or.inr ⟨v, by omega, by omega, h3⟩
theorem tU_at (d : Nat → Nat) (x : Nat) (B : Nat → Bool) (c : Nat) : tU d x B c = true ↔ B c = true ∨ ∃ v, v ≤ 38 ∧ qb d x v = c := by
  unfold tU ub
  by_cases a : c = d (32 + (16 * x) + 10)
  · rw [if_pos a]; exact ⟨fun _ => Or.inr ⟨38, by omega, by rw [qb_ix]; exact a.symm⟩, fun _ => rfl⟩
  · rw [if_neg a, tl_at]
    constructor
    · rintro (h | ⟨v, h1, h2, h3⟩)
      · exact Or.inl h
      · exact Or.inr ⟨v, by omega, by rw [qb_bo _ _ _ (by omega)]; exact h3⟩
    · rintro (h | ⟨v, h1, h3⟩)
      · exact Or.inl h
      · by_cases z : v = 38
        · rw [z, qb_ix] at h3; exact absurd h3.symm a
        · exact Or.inr ⟨v, by omega, by omega, by rw [← qb_bo _ _ _ (by omega)]; exact h3⟩
def qY (d : Nat → Nat) (P : Nat → Bool) (S : gS) : Prop :=
  (∀ x, x < 16 → S.1 x = true → 1 ≤ x ∧ d (32 + (16 * x)) ≠ 0) ∧
  (∀ a b, a < b → b < S.2.2.2.2 → S.2.2.2.1 a ≠ S.2.2.2.1 b) ∧
  (∀ t, t < S.2.2.2.2 → S.2.2.2.1 t < 16 ∧ d (32 + (16 * S.2.2.2.1 t)) = 2 ∧ S.1 (S.2.2.2.1 t) = true ∧ P (S.2.2.2.1 t) = false) ∧
  (∀ x, x < 16 → S.1 x = true → d (32 + (16 * x)) = 2 → P x = true ∨ ∃ t, t < S.2.2.2.2 ∧ S.2.2.2.1 t = x) ∧
  (∀ x, x < 16 → P x = true → S.1 x = true ∧ d (32 + (16 * x)) = 2) ∧
  (∀ c, 0 < c ∧ c < 64 → (S.2.1 c = true ↔ ∃ i v, i < 16 ∧ S.1 i = true ∧ v ≤ 38 ∧ qb d i v = c)) ∧
  (S.1 1 = true)
theorem qY.val {d : Nat → Nat} {P : Nat → Bool} {S : gS} (h : qY d P S) : ∀ x, x < 16 → S.1 x = true → 1 ≤ x ∧ d (32 + (16 * x)) ≠ 0 := h.1
theorem qY.dis {d : Nat → Nat} {P : Nat → Bool} {S : gS} (h : qY d P S) : ∀ a b, a < b → b < S.2.2.2.2 → S.2.2.2.1 a ≠ S.2.2.2.1 b := h.2.1
theorem qY.stk {d : Nat → Nat} {P : Nat → Bool} {S : gS} (h : qY d P S) : ∀ t, t < S.2.2.2.2 → S.2.2.2.1 t < 16 ∧ d (32 + (16 * S.2.2.2.1 t)) = 2 ∧ S.1 (S.2.2.2.1 t) = true ∧ P (S.2.2.2.1 t) = false := h.2.2.1
theorem qY.cov {d : Nat → Nat} {P : Nat → Bool} {S : gS} (h : qY d P S) : ∀ x, x < 16 → S.1 x = true → d (32 + (16 * x)) = 2 → P x = true ∨ ∃ t, t < S.2.2.2.2 ∧ S.2.2.2.1 t = x := h.2.2.2.1
theorem qY.sub {d : Nat → Nat} {P : Nat → Bool} {S : gS} (h : qY d P S) : ∀ x, x < 16 → P x = true → S.1 x = true ∧ d (32 + (16 * x)) = 2 := h.2.2.2.2.1
theorem qY.bf {d : Nat → Nat} {P : Nat → Bool} {S : gS} (h : qY d P S) : ∀ c, 0 < c ∧ c < 64 → (S.2.1 c = true ↔ ∃ i v, i < 16 ∧ S.1 i = true ∧ v ≤ 38 ∧ qb d i v = c) := h.2.2.2.2.2.1
theorem qY.one {d : Nat → Nat} {P : Nat → Bool} {S : gS} (h : qY d P S) : S.1 1 = true := h.2.2.2.2.2.2
theorem qY.le {d P S} (Y : qY d P S) : S.2.2.2.2 ≤ 15 := by
  have h := vis_le S.2.2.2.1 S.2.2.2.2 (fun q => if 1 ≤ q then 1 else 0) Y.dis (fun a ha => by
    have := Y.stk a ha
    refine ⟨this.1, ?_⟩
    show 1 ≤ if 1 ≤ S.2.2.2.1 a then 1 else 0
    rw [if_pos (Y.val _ this.1 this.2.2.1).1]; omega)
  have e : sm (fun q => if 1 ≤ q then 1 else 0) 16 = 15 := by decide
  omega
theorem tN_new {d S} (x : Nat) (h : ¬ S.1 x = true) : tN d S x = (ub S.1 x true, tU d x S.2.1, ut S.2.2.1 x (S.2.2.1 x + 1), S.2.2.2.1, S.2.2.2.2) := if_neg h
theorem tN_old {d S} (x : Nat) (h : S.1 x = true) : tN d S x = (S.1, S.2.1, ut S.2.2.1 x (S.2.2.1 x + 1), S.2.2.2.1, S.2.2.2.2) := if_pos h
theorem qY.lf {d P S} (Y : qY d P S) (l : Nat → Nat) : qY d P (S.1, S.2.1, l, S.2.2.2.1, S.2.2.2.2) := ⟨Y.val, Y.dis, Y.stk, Y.cov, Y.sub, Y.bf, Y.one⟩
theorem tJ_Y {d P S} (Y : qY d P S) (x : Nat) (hx : x ≠ 0 → x < 16 ∧ d (32 + (16 * x)) ≠ 0) :
    qY d P (tJ d S x) ∧ (∀ y, y < 16 → S.1 y = true → (tJ d S x).1 y = true) ∧ (x ≠ 0 → (tJ d S x).1 x = true) ∧ (∀ y, 1 ≤ y → y < 16 → (tJ d S x).2.2.1 y = S.2.2.1 y + if x = y then 1 else 0) ∧
    (x ≠ 0 → ¬ S.1 x = true → d (32 + (16 * x)) = 2 → S.2.2.2.2 ≤ 14) := by
  unfold tJ
  by_cases a : x = 0
  · rw [if_pos a]
    exact ⟨Y, fun _ _ h => h, fun h => absurd a h, fun y h1 h2 => by rw [if_neg (by omega)]; rfl, fun h => absurd a h⟩
  · rw [if_neg a]
    have v := hx a
    have hlf : ∀ y, ut S.2.2.1 x (S.2.2.1 x + 1) y = S.2.2.1 y + if x = y then 1 else 0 := by
      intro y
      unfold ut
      by_cases z : y = x
      · rw [if_pos z, if_pos z.symm, z]
      · rw [if_neg z, if_neg (fun w => z w.symm)]; rfl
    by_cases b : S.1 x = true
    · rw [if_pos b, tN_old x b]
      exact ⟨Y.lf _, fun _ _ h => h, fun _ => b, fun y _ _ => hlf y, fun _ h => absurd b h⟩
    · rw [if_neg b, tN_new x b]
      have Px : P x = false := by
        cases e : P x with
        | false => rfl
        | true => exact absurd (Y.sub x v.1 e).1 b
      have ubx : ∀ y, ub S.1 x true y = true ↔ y = x ∨ S.1 y = true := by
        intro y; unfold ub
        by_cases z : y = x
        · rw [if_pos z]; exact ⟨fun _ => Or.inl z, fun _ => rfl⟩
        · rw [if_neg z]; exact ⟨fun h => Or.inr h, fun h => h.elim (fun w => absurd w z) id⟩
      have bf' : ∀ c, 0 < c ∧ c < 64 → (tU d x S.2.1 c = true ↔ ∃ i v, i < 16 ∧ ub S.1 x true i = true ∧ v ≤ 38 ∧ qb d i v = c) := by
        intro c hc
        rw [tU_at, Y.bf c hc]
        constructor
        · rintro (⟨i, u, h1, h2, h3, h4⟩ | ⟨u, h3, h4⟩)
          · exact ⟨i, u, h1, (ubx i).mpr (Or.inr h2), h3, h4⟩
          · exact ⟨x, u, v.1, (ubx x).mpr (Or.inl rfl), h3, h4⟩
        · rintro ⟨i, u, h1, h2, h3, h4⟩
          rcases (ubx i).mp h2 with z | z
          · rw [z] at h4; exact Or.inr ⟨u, h3, h4⟩
          · exact Or.inl ⟨i, u, h1, z, h3, h4⟩
      have val' : ∀ y, y < 16 → ub S.1 x true y = true → 1 ≤ y ∧ d (32 + (16 * y)) ≠ 0 := by
        intro y hy h
        rcases (ubx y).mp h with z | z
        · rw [z]; exact ⟨by omega, v.2⟩
        · exact Y.val y hy z
      have sub' : ∀ y, y < 16 → P y = true → ub S.1 x true y = true ∧ d (32 + (16 * y)) = 2 :=
        fun y hy h => ⟨(ubx y).mpr (Or.inr (Y.sub y hy h).1), (Y.sub y hy h).2⟩
      by_cases c : d (32 + (16 * x)) = 2
      · rw [if_pos c]
        have hnew : ∀ t, t < S.2.2.2.2 → S.2.2.2.1 t ≠ x := fun t ht z => b (by have := (Y.stk t ht).2.2.1; rw [z] at this; exact this)
        have Y' : qY d P (tp (ub S.1 x true, tU d x S.2.1, ut S.2.2.1 x (S.2.2.1 x + 1), S.2.2.2.1, S.2.2.2.2) x) := by
          refine ⟨val', ?_, ?_, ?_, sub', bf', (ubx 1).mpr (Or.inr Y.one)⟩
          · intro u w huw hw
            show ut S.2.2.2.1 S.2.2.2.2 x u ≠ ut S.2.2.2.1 S.2.2.2.2 x w
            have hw' : w < S.2.2.2.2 + 1 := hw
            unfold ut
            rw [if_neg (by omega)]
            by_cases e : w = S.2.2.2.2
            · rw [if_pos e]; exact hnew u (by omega)
            · rw [if_neg e]; exact Y.dis u w huw (by omega)
          · intro t ht
            have ht' : t < S.2.2.2.2 + 1 := ht
            show ut S.2.2.2.1 S.2.2.2.2 x t < 16 ∧ d (32 + (16 * ut S.2.2.2.1 S.2.2.2.2 x t)) = 2 ∧ ub S.1 x true (ut S.2.2.2.1 S.2.2.2.2 x t) = true ∧ P (ut S.2.2.2.1 S.2.2.2.2 x t) = false
            unfold ut
            by_cases e : t = S.2.2.2.2
            · rw [if_pos e]; exact ⟨v.1, c, (ubx x).mpr (Or.inl rfl), Px⟩
            · rw [if_neg e]
              have := Y.stk t (by omega)
              exact ⟨this.1, this.2.1, (ubx _).mpr (Or.inr this.2.2.1), this.2.2.2⟩
          · intro y hy h h2
            show P y = true ∨ ∃ t, t < S.2.2.2.2 + 1 ∧ ut S.2.2.2.1 S.2.2.2.2 x t = y
            rcases (ubx y).mp h with z | z
            · exact Or.inr ⟨S.2.2.2.2, by omega, by unfold ut; rw [if_pos rfl, z]⟩
            · rcases Y.cov y hy z h2 with w | ⟨t, h3, h4⟩
              · exact Or.inl w
              · exact Or.inr ⟨t, by omega, by unfold ut; rw [if_neg (by omega)]; exact h4⟩
        have le := Y'.le
        refine ⟨Y', fun y _ h => (ubx y).mpr (Or.inr h), fun _ => (ubx x).mpr (Or.inl rfl), fun y _ _ => hlf y, fun _ _ _ => ?_⟩
        have : S.2.2.2.2 + 1 ≤ 15 := le
        omega
      · rw [if_neg c]
        refine ⟨⟨val', Y.dis, ?_, ?_, sub', bf', (ubx 1).mpr (Or.inr Y.one)⟩, fun y _ h => (ubx y).mpr (Or.inr h), fun _ => (ubx x).mpr (Or.inl rfl), fun y _ _ => hlf y, fun _ _ h => absurd h c⟩
        · intro t ht
          have := Y.stk t ht
          exact ⟨this.1, this.2.1, (ubx _).mpr (Or.inr this.2.2.1), this.2.2.2⟩
        · intro y hy h h2
          rcases (ubx y).mp h with z | z
          · rw [z] at h2; exact absurd h2 c
          · exact Y.cov y hy z h2
theorem tS_Y {d P} (p n : Nat) : ∀ (S : gS) (j : Nat), qY d P S → (∀ l, j ≤ l → l < j + n → si d p l ≠ 0 → si d p l < 16 ∧ d (32 + (16 * si d p l)) ≠ 0) →
    qY d P (tS d p S j n) ∧ (∀ y, y < 16 → S.1 y = true → (tS d p S j n).1 y = true) ∧ (∀ l, j ≤ l → l < j + n → si d p l ≠ 0 → (tS d p S j n).1 (si d p l) = true) ∧
    (∀ y, 1 ≤ y → y < 16 → (tS d p S j n).2.2.1 y = S.2.2.1 y + sm (fun k => if si d p (j + k) = y then 1 else 0) n) := by
  induction n with
  | zero =>
    intro S j Y _
    exact ⟨Y, fun _ _ h => h, fun l h1 h2 => by omega, fun y _ _ => rfl⟩
  | succ n ih =>
    intro S j Y hv
    rw [tS]
    have J := tJ_Y Y (si d p j) (fun h => hv j (by omega) (by omega) h)
    have G := ih (tJ d S (si d p j)) (j + 1) J.1 (fun l h1 h2 => hv l (by omega) (by omega))
    refine ⟨G.1, fun y hy h => G.2.1 y hy (J.2.1 y hy h), ?_, ?_⟩
    · intro l h1 h2 hn
      by_cases z : l = j
      · rw [z] at hn ⊢
        exact G.2.1 _ (hv j (by omega) (by omega) hn).1 (J.2.2.1 hn)
      · exact G.2.2.1 l (by omega) (by omega) hn
    · intro y h1 hy
      rw [G.2.2.2 y h1 hy, J.2.2.2.1 y h1 hy, sm_shift]
      have e : sm (fun k => if si d p (j + 1 + k) = y then 1 else 0) n = sm (fun k => if si d p (j + (k + 1)) = y then 1 else 0) n :=
        sm_congr _ _ _ (fun k _ => by rw [show j + 1 + k = j + (k + 1) by omega])
      rw [e]
      show _ = S.2.2.1 y + ((if si d p (j + 0) = y then 1 else 0) + _)
      rw [Nat.add_zero, Nat.add_assoc]
def qZ (d : Nat → Nat) (P : Nat → Bool) (S : gS) : Prop :=
  (qY d P S) ∧
  (∀ x, 1 ≤ x → x < 16 → S.2.2.1 x = sm (fun p => if P p = true then rc (qs d) p x else 0) 16) ∧
  (∀ p, p < 16 → P p = true → ∀ j, j < 24 → qs d p j ≠ 0 → S.1 (qs d p j) = true)
theorem qZ.Y {d : Nat → Nat} {P : Nat → Bool} {S : gS} (h : qZ d P S) : qY d P S := h.1
theorem qZ.lf {d : Nat → Nat} {P : Nat → Bool} {S : gS} (h : qZ d P S) : ∀ x, 1 ≤ x → x < 16 → S.2.2.1 x = sm (fun p => if P p = true then rc (qs d) p x else 0) 16 := h.2.1
theorem qZ.cl {d : Nat → Nat} {P : Nat → Bool} {S : gS} (h : qZ d P S) : ∀ p, p < 16 → P p = true → ∀ j, j < 24 → qs d p j ≠ 0 → S.1 (qs d p j) = true := h.2.2
theorem to_Y {d P S} (Y : qY d P S) (hn : S.2.2.2.2 ≠ 0) : qY d (ub P (S.2.2.2.1 (S.2.2.2.2 - 1)) true) (to S) := by
  have top := Y.stk (S.2.2.2.2 - 1) (by omega)
  have ubx : ∀ y, ub P (S.2.2.2.1 (S.2.2.2.2 - 1)) true y = true ↔ y = S.2.2.2.1 (S.2.2.2.2 - 1) ∨ P y = true := by
    intro y; unfold ub
    by_cases z : y = S.2.2.2.1 (S.2.2.2.2 - 1)
    · rw [if_pos z]; exact ⟨fun _ => Or.inl z, fun _ => rfl⟩
    · rw [if_neg z]; exact ⟨fun h => Or.inr h, fun h => h.elim (fun w => absurd w z) id⟩
  refine ⟨Y.val, ?_, ?_, ?_, ?_, Y.bf, Y.one⟩
  · intro a b hab hb
    have hb' : b < S.2.2.2.2 - 1 := hb
    exact Y.dis a b hab (by omega)
  · intro t ht
    have ht' : t < S.2.2.2.2 - 1 := ht
    have := Y.stk t (by omega)
    refine ⟨this.1, this.2.1, this.2.2.1, ?_⟩
    show ub P (S.2.2.2.1 (S.2.2.2.2 - 1)) true (S.2.2.2.1 t) = false
    have ne := Y.dis t (S.2.2.2.2 - 1) ht' (by omega)
    unfold ub
    rw [if_neg ne]; exact this.2.2.2
  · intro x hx h h2
    rcases Y.cov x hx h h2 with w | ⟨t, h3, h4⟩
    · exact Or.inl ((ubx x).mpr (Or.inr w))
    · by_cases z : t = S.2.2.2.2 - 1
      · rw [z] at h4; exact Or.inl ((ubx x).mpr (Or.inl h4.symm))
      · exact Or.inr ⟨t, show t < S.2.2.2.2 - 1 by omega, h4⟩
  · intro x hx h
    rcases (ubx x).mp h with z | z
    · rw [z]; exact ⟨top.2.2.1, top.2.1⟩
    · exact Y.sub x hx z
theorem slots_ok {d} (T : qT (qk d) (qs d)) (p : Nat) (hp : p < 16) (hk : d (32 + (16 * p)) = 2) : ∀ l, 0 ≤ l → l < 0 + sn d p → si d p l ≠ 0 → si d p l < 16 ∧ d (32 + (16 * si d p l)) ≠ 0 := by
  intro l _ h2 hn
  have h24 := sn_le d p
  have e := qs_si d p l hk (by omega)
  have := T.nz p l hp (by omega) (by omega)
  rw [e] at this
  refine ⟨this.1, ?_⟩
  have h3 := this.2.1
  rw [qk_lt d _ this.1] at h3; exact h3
theorem tP_Z {d P S} (T : qT (qk d) (qs d)) (Z : qZ d P S) (hn : S.2.2.2.2 ≠ 0) : qZ d (ub P (S.2.2.2.1 (S.2.2.2.2 - 1)) true) (tP d S) := by
  have top := Z.Y.stk (S.2.2.2.2 - 1) (by omega)
  have Y' := to_Y Z.Y hn
  have hok := slots_ok T (S.2.2.2.1 (S.2.2.2.2 - 1)) top.1 top.2.1
  have G := tS_Y (S.2.2.2.1 (S.2.2.2.2 - 1)) (sn d (S.2.2.2.1 (S.2.2.2.2 - 1))) (to S) 0 Y' hok
  refine ⟨G.1, ?_, ?_⟩
  · intro x h1 hx
    show (tS d (S.2.2.2.1 (S.2.2.2.2 - 1)) (to S) 0 (sn d (S.2.2.2.1 (S.2.2.2.2 - 1)))).2.2.1 x = _
    rw [G.2.2.2 x h1 hx, ← rc_dir d _ x top.2.1 h1]
    show S.2.2.1 x + _ = _
    rw [Z.lf x h1 hx]
    have u := sm_upd (fun p => if P p = true then rc (qs d) p x else 0) (fun p => if ub P (S.2.2.2.1 (S.2.2.2.2 - 1)) true p = true then rc (qs d) p x else 0) 16 (S.2.2.2.1 (S.2.2.2.2 - 1)) top.1
      (fun k _ hk => by
        show (if ub P (S.2.2.2.1 (S.2.2.2.2 - 1)) true k = true then rc (qs d) k x else 0) = if P k = true then rc (qs d) k x else 0
        rw [show ub P (S.2.2.2.1 (S.2.2.2.2 - 1)) true k = P k from if_neg hk])
    have e1 : ub P (S.2.2.2.1 (S.2.2.2.2 - 1)) true (S.2.2.2.1 (S.2.2.2.2 - 1)) = true := if_pos rfl
    simp only [top.2.2.2, e1, if_true] at u
    rw [if_neg (by simp)] at u
    omega
  · intro p hp h j hj hnz
    by_cases z : p = S.2.2.2.1 (S.2.2.2.2 - 1)
    · have hj' : j < sn d p := by
        by_cases y : j < sn d p
        · exact y
        · unfold qs at hnz; rw [if_neg (by omega)] at hnz; exact absurd rfl hnz
      have e := qs_si d p j (by rw [z]; exact top.2.1) hj'
      rw [e] at hnz ⊢
      rw [z] at hnz hj' ⊢
      exact G.2.2.1 j (by omega) (by omega) hnz
    · have hP : P p = true := by unfold ub at h; rw [if_neg z] at h; exact h
      have k2 := (Z.Y.sub p hp hP).2
      have nz := T.nz p j hp hj hnz
      exact G.2.1 _ nz.1 (Z.cl p hp hP j hj hnz)
def pc (P : Nat → Bool) : Nat := sm (fun x => if P x = true then 1 else 0) 16
theorem pc_ub (P : Nat → Bool) (x : Nat) (hx : x < 16) (h : P x = false) : pc (ub P x true) = pc P + 1 := by
  have u := sm_upd (fun y => if P y = true then 1 else 0) (fun y => if ub P x true y = true then 1 else 0) 16 x hx (fun k _ hk => by
    show (if ub P x true k = true then 1 else 0) = if P k = true then 1 else 0
    rw [show ub P x true k = P k from if_neg hk])
  have e1 : ub P x true x = true := if_pos rfl
  simp only [h, e1, if_true] at u
  rw [if_neg (by simp)] at u
  unfold pc
  omega
theorem pc_le (P : Nat → Bool) : pc P ≤ 16 := by
  have h := sm_le (fun x => if P x = true then 1 else 0) (fun _ => 1) 16 (fun k _ => by show (if P k = true then 1 else 0) ≤ 1; split <;> omega)
  have e : sm (fun _ => 1) 16 = 16 := by decide
  unfold pc; omega
theorem tW_Z {d} (T : qT (qk d) (qs d)) (m : Nat) : ∀ (P : Nat → Bool) (S : gS), qZ d P S → 16 ≤ pc P + m → ∃ P', qZ d P' (tW d m S) ∧ (tW d m S).2.2.2.2 = 0 := by
  induction m with
  | zero =>
    intro P S Z h
    refine ⟨P, Z, ?_⟩
    rw [tW]
    by_cases a : S.2.2.2.2 = 0
    · exact a
    · have top := Z.Y.stk (S.2.2.2.2 - 1) (by omega)
      have := pc_ub P _ top.1 top.2.2.2
      have := pc_le (ub P (S.2.2.2.1 (S.2.2.2.2 - 1)) true)
      omega
  | succ m ih =>
    intro P S Z h
    rw [tW]
    by_cases a : S.2.2.2.2 = 0
    · rw [if_pos a]; exact ⟨P, Z, a⟩
    · rw [if_neg a]
      have top := Z.Y.stk (S.2.2.2.2 - 1) (by omega)
      have := pc_ub P _ top.1 top.2.2.2
      exact ih _ _ (tP_Z T Z a) (by omega)
theorem tR_Z {d} (T : qT (qk d) (qs d)) (S : gS) : qZ d (fun _ => false) (tR d S) := by
  have k1 : d (32 + (16 * 1)) = 2 := by have := T.k1; rw [qk_lt d 1 (by omega)] at this; exact this
  have z1 : ∀ x, x < 16 → (tz S).1 x = false := fun x hx => by show zb S.1 0 16 x = false; rw [zb_at, if_pos (by omega)]
  have zb' : ∀ c, c < 64 → (tz S).2.1 c = false := fun c hc => by show zb S.2.1 0 64 c = false; rw [zb_at, if_pos (by omega)]
  have zl : ∀ x, x < 16 → (tz S).2.2.1 x = 0 := fun x hx => by show zn S.2.2.1 0 16 x = 0; rw [zn_at, if_pos (by omega)]
  have e := tN_new (d := d) (S := tz S) 1 (by rw [z1 1 (by omega)]; simp)
  have f1 : ∀ x, x < 16 → ((tR d S).1 x = true ↔ x = 1) := by
    intro x hx
    show (tN d (tz S) 1).1 x = true ↔ x = 1
    rw [e]
    show ub (tz S).1 1 true x = true ↔ x = 1
    unfold ub
    by_cases a : x = 1
    · rw [if_pos a]; exact ⟨fun _ => a, fun _ => rfl⟩
    · rw [if_neg a, z1 x hx]; exact ⟨fun h => Bool.noConfusion h, fun h => absurd h a⟩
  have q0 : (tR d S).2.2.2.1 0 = 1 := by
    show (tN d (tz S) 1).2.2.2.1 0 = 1
    rw [e]
    show ut S.2.2.2.1 0 1 0 = 1
    unfold ut; rw [if_pos rfl]
  have n1 : (tR d S).2.2.2.2 = 1 := rfl
  refine ⟨⟨?_, ?_, ?_, ?_, ?_, ?_, (f1 1 (by omega)).mpr rfl⟩, ?_, ?_⟩
  · intro x hx h
    have := (f1 x hx).mp h
    subst this
    exact ⟨by omega, by omega⟩
  · intro a b h1 h2; rw [n1] at h2; omega
  · intro t ht
    rw [n1] at ht
    have : t = 0 := by omega
    subst this
    rw [q0]
    exact ⟨by omega, k1, (f1 1 (by omega)).mpr rfl, rfl⟩
  · intro x hx h _
    exact Or.inr ⟨0, by rw [n1]; omega, by rw [q0]; exact ((f1 x hx).mp h).symm⟩
  · intro x _ h; exact Bool.noConfusion h
  · intro c hc
    show (tN d (tz S) 1).2.1 c = true ↔ _
    rw [e]
    show tU d 1 (tz S).2.1 c = true ↔ _
    rw [tU_at, zb' c hc.2]
    constructor
    · rintro (h | ⟨v, h1, h2⟩)
      · exact Bool.noConfusion h
      · exact ⟨1, v, by omega, (f1 1 (by omega)).mpr rfl, h1, h2⟩
    · rintro ⟨i, v, h1, h2, h3, h4⟩
      rw [(f1 i h1).mp h2] at h4; exact Or.inr ⟨v, h3, h4⟩
  · intro x h1 hx
    have ez : sm (fun p => if (fun _ => false) p = true then rc (qs d) p x else 0) 16 = 0 := sm_zero _ _ (fun k _ => by simp)
    rw [ez]
    show ut (tN d (tz S) 1).2.2.1 1 0 x = 0
    rw [e]
    show ut (ut (tz S).2.2.1 1 ((tz S).2.2.1 1 + 1)) 1 0 x = 0
    unfold ut
    by_cases a : x = 1
    · rw [if_pos a]
    · rw [if_neg a, if_neg a]; exact zl x hx
  · intro p _ h; exact Bool.noConfusion h
theorem tA_all {d} (T : qT (qk d) (qs d)) (S : gS) : (tA d S).2.2.2.2 = 0 ∧
    (∀ x, x < 16 → ((tA d S).1 x = true ↔ d (32 + (16 * x)) ≠ 0)) ∧ (∀ x, 1 ≤ x → x < 16 → (tA d S).2.2.1 x = ct (qs d) x) ∧
    (∀ c, 0 < c ∧ c < 64 → ((tA d S).2.1 c = true ↔ ∃ i v, i < 16 ∧ d (32 + (16 * i)) ≠ 0 ∧ v ≤ 38 ∧ qb d i v = c)) := by
  obtain ⟨P, Z, h0⟩ := tW_Z T 16 (fun _ => false) (tR d S) (tR_Z T S) (by omega)
  show (tW d 16 (tR d S)).2.2.2.2 = 0 ∧ (∀ x, x < 16 → ((tW d 16 (tR d S)).1 x = true ↔ d (32 + (16 * x)) ≠ 0)) ∧ (∀ x, 1 ≤ x → x < 16 → (tW d 16 (tR d S)).2.2.1 x = ct (qs d) x) ∧
    (∀ c, 0 < c ∧ c < 64 → ((tW d 16 (tR d S)).2.1 c = true ↔ ∃ i v, i < 16 ∧ d (32 + (16 * i)) ≠ 0 ∧ v ≤ 38 ∧ qb d i v = c))
  generalize tW d 16 (tR d S) = R at Z h0 ⊢
  obtain ⟨Y, lf, cl⟩ := Z
  have done : ∀ p, p < 16 → R.1 p = true → d (32 + (16 * p)) = 2 → P p = true := by
    intro p hp h h2
    rcases Y.cov p hp h h2 with w | ⟨t, h3, _⟩
    · exact w
    · omega
  have hall : ∀ x, x < 16 → d (32 + (16 * x)) ≠ 0 → R.1 x = true := by
    obtain ⟨r, hr⟩ := T.t5
    have key : ∀ n x, r x < n → x < 16 → d (32 + (16 * x)) ≠ 0 → R.1 x = true := by
      intro n
      induction n with
      | zero => intro x h; omega
      | succ n ih =>
        intro x hn hx hk
        by_cases a : x = 1
        · rw [a]; exact Y.one
        · obtain ⟨p, j, b1, b2, b3, b4, b5⟩ := hr x hx (by rw [qk_lt d x hx]; exact hk) a
          have x0 : x ≠ 0 := by
            intro z; rw [z] at hk; have := T.k0; rw [qk_lt d 0 (by omega)] at this; exact hk this
          have nz := T.nz p j b1 b3 (by omega)
          have kp := nz.2.2
          rw [qk_lt d p b1] at kp
          have hp := ih p (by omega) b1 (by omega)
          have := cl p b1 (done p b1 hp kp) j b3 (by rw [b4]; exact x0)
          rw [b4] at this; exact this
    intro x hx hk
    exact key (r x + 1) x (by omega) hx hk
  have hfnd : ∀ x, x < 16 → (R.1 x = true ↔ d (32 + (16 * x)) ≠ 0) := fun x hx => ⟨fun h => (Y.val x hx h).2, hall x hx⟩
  refine ⟨h0, hfnd, ?_, ?_⟩
  · intro x h1 hx
    rw [lf x h1 hx, ct_rc]
    apply sm_congr
    intro p hp
    by_cases a : P p = true
    · rw [if_pos a]
    · rw [if_neg a]
      symm
      apply rc_no d p x _ h1
      intro z
      exact a (done p hp (hall p hp (by omega)) z)
  · intro c hc
    rw [Y.bf c hc]
    constructor
    · rintro ⟨i, v, h1, h2, h3, h4⟩; exact ⟨i, v, h1, (hfnd i h1).mp h2, h3, h4⟩
    · rintro ⟨i, v, h1, h2, h3, h4⟩; exact ⟨i, v, h1, (hfnd i h1).mpr h2, h3, h4⟩
def rI (f : Nat → Bool) (lf : Nat → Nat) (r : Bool) : (Nat → Nat) → Nat → Nat → (Nat → Nat)
  | d, _, 0 => d
  | d, i, n + 1 => rI f lf r (if r = true then (if f i = true then dp (rm d 1 i (f i)) (32 + (16 * i) + 1) (lf i) else rm d 1 i (f i)) else d) (i + 1) n
def rIc (f : Nat → Bool) (lf : Nat → Nat) (r : Bool) : (Nat → Nat) → Nat → Nat → Nat → Nat
  | _, c, _, 0 => c
  | d, c, i, n + 1 => rIc f lf r (if r = true then (if f i = true then dp (rm d 1 i (f i)) (32 + (16 * i) + 1) (lf i) else rm d 1 i (f i)) else d)
      (if f i = true ∧ d (32 + (16 * i) + 1) ≠ lf i then (if bt d 1 i = f i then c else c + 1) + 1 else (if bt d 1 i = f i then c else c + 1)) (i + 1) n
def rJ (g : Nat → Bool) (r : Bool) : (Nat → Nat) → Nat → Nat → (Nat → Nat)
  | d, _, 0 => d
  | d, i, n + 1 => rJ g r (if r = true then rm d 3 i (g i) else d) (i + 1) n
def rJc (g : Nat → Bool) (r : Bool) : (Nat → Nat) → Nat → Nat → Nat → Nat
  | _, c, _, 0 => c
  | d, c, i, n + 1 => rJc g r (if r = true then rm d 3 i (g i) else d) (if bt d 3 i = g i then c else c + 1) (i + 1) n
def rK (d : Nat → Nat) (R : gS) (r : Bool) : Nat → Nat :=
  if r = true then dp (rJ R.2.1 r (rI R.1 R.2.2.1 r d 1 15) 9 55) 11 1 else rJ R.2.1 r (rI R.1 R.2.2.1 r d 1 15) 9 55
def rKv (d : Nat → Nat) (R : gS) (r : Bool) : Nat := rJc R.2.1 r (rI R.1 R.2.2.1 r d 1 15) (rIc R.1 R.2.2.1 r d 0 1 15) 9 55
theorem rI_f (f : Nat → Bool) (lf : Nat → Nat) (n : Nat) : ∀ (d : Nat → Nat) (i : Nat), rI f lf false d i n = d := by
  induction n with
  | zero => intro d i; rfl
  | succ n ih => intro d i; rw [rI, if_neg (by simp), ih]
theorem rJ_f (g : Nat → Bool) (n : Nat) : ∀ (d : Nat → Nat) (i : Nat), rJ g false d i n = d := by
  induction n with
  | zero => intro d i; rfl
  | succ n ih => intro d i; rw [rJ, if_neg (by simp), ih]
theorem rI_t (f : Nat → Bool) (lf : Nat → Nat) (n : Nat) : ∀ (d : Nat → Nat) (i : Nat), i + n ≤ 16 → dk d → dk (rI f lf true d i n) ∧
    (∀ c, c < 16 → bt (rI f lf true d i n) 1 c = if i ≤ c ∧ c < i + n then f c else bt d 1 c) ∧
    (∀ j, i ≤ j → j < i + n → rI f lf true d i n (32 + (16 * j) + 1) = if f j = true then lf j % 256 else d (32 + (16 * j) + 1)) ∧
    (∀ x, ¬ (1 ≤ x ∧ x < 3) → (∀ j, i ≤ j → j < i + n → f j = true → x ≠ 32 + (16 * j) + 1) → rI f lf true d i n x = d x) := by
  induction n with
  | zero => intro d i h hd; exact ⟨hd, fun c _ => by rw [if_neg (by omega)]; rfl, fun j h1 h2 => by omega, fun _ _ _ => rfl⟩
  | succ n ih =>
    intro d i h hd
    rw [rI, if_pos rfl]
    have hd' : dk (if f i = true then dp (rm d 1 i (f i)) (32 + (16 * i) + 1) (lf i) else rm d 1 i (f i)) := by
      split
      · exact dk_dp _ (dk_rm _ hd _ _ _) _ _
      · exact dk_rm _ hd _ _ _
    have ne : ∀ x, ¬ (1 ≤ x ∧ x < 3) → (f i = true → x ≠ 32 + (16 * i) + 1) → (if f i = true then dp (rm d 1 i (f i)) (32 + (16 * i) + 1) (lf i) else rm d 1 i (f i)) x = d x := by
      intro x h1 h2
      split
      · rename_i z; rw [dp_ne _ _ _ _ (h2 z), rm_ne _ _ _ _ _ (by omega)]
      · rw [rm_ne _ _ _ _ _ (by omega)]
    have hat : (if f i = true then dp (rm d 1 i (f i)) (32 + (16 * i) + 1) (lf i) else rm d 1 i (f i)) (32 + (16 * i) + 1) = if f i = true then lf i % 256 else d (32 + (16 * i) + 1) := by
      by_cases z : f i = true
      · rw [if_pos z, if_pos z, dp_at _ _ _ (by omega)]
      · rw [if_neg z, if_neg z, rm_ne _ _ _ _ _ (by omega)]
    have hbt : ∀ c, c < 16 → bt (if f i = true then dp (rm d 1 i (f i)) (32 + (16 * i) + 1) (lf i) else rm d 1 i (f i)) 1 c = if c = i then f i else bt d 1 c := by
      intro c hc
      split
      · rw [bt_ext (rm d 1 i (f i)) _ 1 c (dp_ne _ _ _ _ (by omega)), rm_bt _ _ _ _ _ (by omega)]
      · rw [rm_bt _ _ _ _ _ (by omega)]
    generalize (if f i = true then dp (rm d 1 i (f i)) (32 + (16 * i) + 1) (lf i) else rm d 1 i (f i)) = e at hd' ne hat hbt ⊢
    have G := ih e (i + 1) (by omega) hd'
    refine ⟨G.1, fun c hc => ?_, fun j h1 h2 => ?_, fun x h1 h2 => ?_⟩
    · rw [G.2.1 c hc, hbt c hc]
      by_cases z : c = i
      · rw [if_neg (by omega), if_pos z, if_pos (by omega), z]
      · by_cases y : i + 1 ≤ c ∧ c < i + 1 + n
        · rw [if_pos y, if_pos (by omega)]
        · rw [if_neg y, if_neg z, if_neg (by omega)]
    · by_cases z : j = i
      · rw [z, G.2.2.2 _ (by omega) (fun k _ _ _ => by omega)]; exact hat
      · rw [G.2.2.1 j (by omega) (by omega), ne _ (by omega) (by omega)]
    · rw [G.2.2.2 x h1 (fun j a b c => h2 j (by omega) (by omega) c), ne x h1 (fun z => h2 i (by omega) (by omega) z)]
theorem rJ_wB (g : Nat → Bool) (n : Nat) : ∀ (d : Nat → Nat) (i : Nat), rJ g true d i n = wB 3 g true d i n := by
  induction n with
  | zero => intro d i; rfl
  | succ n ih =>
    intro d i
    rw [rJ, wB, ih]
    rfl
theorem rIc_eq (f : Nat → Bool) (lf : Nat → Nat) (r : Bool) (n : Nat) : ∀ (d : Nat → Nat) (c i : Nat), i + n ≤ 16 → rIc f lf r d c i n = c + wc 1 f d i n + wl f lf d i n := by
  induction n with
  | zero => intro d c i _; rfl
  | succ n ih =>
    intro d c i h
    rw [rIc, ih _ _ _ (by omega), wc_succ, wl_succ]
    have e1 : wc 1 f (if r = true then (if f i = true then dp (rm d 1 i (f i)) (32 + (16 * i) + 1) (lf i) else rm d 1 i (f i)) else d) (i + 1) n = wc 1 f d (i + 1) n := by
      apply wc_ext
      intro x h1 h2
      split
      · split
        · rw [bt_ext (rm d 1 i (f i)) _ 1 x (dp_ne _ _ _ _ (by omega)), rm_bt _ _ _ _ _ (by omega), if_neg (by omega)]
        · rw [rm_bt _ _ _ _ _ (by omega), if_neg (by omega)]
      · rfl
    have e2 : wl f lf (if r = true then (if f i = true then dp (rm d 1 i (f i)) (32 + (16 * i) + 1) (lf i) else rm d 1 i (f i)) else d) (i + 1) n = wl f lf d (i + 1) n := by
      apply wl_ext
      intro j h1 h2
      split
      · split
        · rw [dp_ne _ _ _ _ (by omega), rm_ne _ _ _ _ _ (by omega)]
        · rw [rm_ne _ _ _ _ _ (by omega)]
      · rfl
    rw [e1, e2]
    split <;> split <;> omega
theorem rJc_eq (g : Nat → Bool) (r : Bool) (n : Nat) : ∀ (d : Nat → Nat) (c i : Nat), i + n ≤ 64 → rJc g r d c i n = c + wc 3 g d i n := by
  induction n with
  | zero => intro d c i _; rfl
  | succ n ih =>
    intro d c i h
    rw [rJc, ih _ _ _ (by omega), wc_succ]
    have e1 : wc 3 g (if r = true then rm d 3 i (g i) else d) (i + 1) n = wc 3 g d (i + 1) n := by
      apply wc_ext
      intro x h1 h2
      split
      · rw [rm_bt _ _ _ _ _ (by omega), if_neg (by omega)]
      · rfl
    rw [e1]
    split <;> omega
theorem dk_ext (d d' : Nat → Nat) (hd : dk d) (hd' : dk d') (h1 : ∀ c, c < 16 → bt d 1 c = bt d' 1 c) (h3 : ∀ c, c < 64 → bt d 3 c = bt d' 3 c) (h : ∀ x, ¬ (1 ≤ x ∧ x < 11) → d x = d' x) : d = d' := by
  funext x
  by_cases a : 1 ≤ x ∧ x < 11
  · apply Nat.eq_of_testBit_eq
    intro k
    by_cases b : k < 8
    · by_cases c : x < 3
      · have := h1 (8 * (x - 1) + k) (by omega)
        unfold bt at this
        rw [show 1 + (8 * (x - 1) + k) / 8 = x by omega, show (8 * (x - 1) + k) % 8 = k by omega] at this
        exact this
      · have := h3 (8 * (x - 3) + k) (by omega)
        unfold bt at this
        rw [show 3 + (8 * (x - 3) + k) / 8 = x by omega, show (8 * (x - 3) + k) % 8 = k by omega] at this
        exact this
    · have p : (256 : Nat) ≤ 2 ^ k := by
        have : (2 : Nat) ^ 8 ≤ 2 ^ k := Nat.pow_le_pow_right (by omega) (by omega)
        exact this
      rw [Nat.testBit_lt_two_pow (Nat.lt_of_lt_of_le (hd.1 x) p), Nat.testBit_lt_two_pow (Nat.lt_of_lt_of_le (hd'.1 x) p)]
  · exact h x a
theorem e_check {d} (V : qV d) (S R : gS) (r : Bool) : rK d (tA d R) r = kd d S r ∧ rKv d (tA d R) r = kv d S r := by
  have W := sW_all V.T S
  have A := (tA_all V.T R).2
  have kvE := kv_eq d V.B.dk S r
  have f1 : ∀ x, x < 16 → (tA d R).1 x = (sW d S).1 x := by
    intro x hx
    have a := A.1 x hx; have b := W.1 x hx
    rw [← b] at a
    cases h : (tA d R).1 x <;> cases h' : (sW d S).1 x <;> simp_all
  have f2 : ∀ x, 1 ≤ x → x < 16 → (tA d R).2.2.1 x = (sW d S).2.2.1 x := fun x h1 hx => by rw [A.2.1 x h1 hx, W.2.1 x h1 hx]
  have f3 : ∀ c, 0 < c → c < 64 → (tA d R).2.1 c = (sW d S).2.1 c := by
    intro c h0 hc
    have a := A.2.2 c ⟨h0, hc⟩; have b := W.2.2 c ⟨h0, hc⟩
    rw [← b] at a
    cases h : (tA d R).2.1 c <;> cases h' : (sW d S).2.1 c <;> simp_all
  have wcE1 : ∀ e, wc 1 (tA d R).1 e 1 15 = wc 1 (sW d S).1 e 1 15 := fun e => sm_congr _ _ _ (fun k hk => by rw [f1 (1 + k) (by omega)])
  have wcE3 : ∀ e, wc 3 (tA d R).2.1 e 9 55 = wc 3 (sW d S).2.1 e 9 55 := fun e => sm_congr _ _ _ (fun k hk => by rw [f3 (9 + k) (by omega) (by omega)])
  have wlE : ∀ e, wl (tA d R).1 (tA d R).2.2.1 e 1 15 = wl (sW d S).1 (sW d S).2.2.1 e 1 15 := fun e => sm_congr _ _ _ (fun k hk => by rw [f1 (1 + k) (by omega), f2 (1 + k) (by omega) (by omega)])
  have hl : ∀ j, 1 ≤ j → j < 16 → (sW d S).1 j = true → (sW d S).2.2.1 j < 256 := fun j h1 h2 hf => by
    rw [W.2.1 j h1 h2]
    have := V.cnt j h2 ((W.1 j h2).mp hf); omega
  cases r with
  | false =>
    refine ⟨?_, ?_⟩
    · unfold rK
      rw [if_neg (by simp), rI_f, rJ_f, kd_f]
    · unfold rKv
      rw [rI_f, rJc_eq _ _ _ _ _ _ (by omega), rIc_eq _ _ _ _ _ _ _ (by omega), kvE, wcE1, wcE3, wlE]; omega
  | true =>
    have I := rI_t (tA d R).1 (tA d R).2.2.1 15 d 1 (by omega) V.B.dk
    have K := kd_t d V.B.dk S (sW d S) rfl hl
    refine ⟨?_, ?_⟩
    · unfold rK
      rw [if_pos rfl, rJ_wB]
      generalize rI (tA d R).1 (tA d R).2.2.1 true d 1 15 = e at I ⊢
      have J := wB_t 3 (tA d R).2.1 55 e 9 (by omega) I.1
      generalize wB 3 (tA d R).2.1 true e 9 55 = g at J ⊢
      apply dk_ext _ _ (dk_dp _ J.1 _ _) K.1
      · intro c hc
        rw [K.2.2.1 c hc, bt_ext g _ 1 c (dp_ne _ _ _ _ (by omega)), bt_ext e g 1 c (J.2.2 _ (by omega)), I.2.1 c hc]
        by_cases z : 1 ≤ c
        · rw [if_pos (by omega), if_pos z, f1 c hc]
        · rw [if_neg (by omega), if_neg z]
      · intro c hc
        rw [K.2.2.2.1 c hc, bt_ext g _ 3 c (dp_ne _ _ _ _ (by omega)), J.2.1 c]
        by_cases z : 9 ≤ c
        · rw [if_pos (by omega), if_pos z, f3 c (by omega) hc]
        · rw [if_neg (by omega), if_neg z, bt_ext d e 3 c (I.2.2.2 _ (by omega) (fun j _ _ _ => by omega))]
      · intro x hx
        by_cases z : x = 11
        · rw [z, K.2.1, dp_at _ _ _ (by omega)]
        · rw [dp_ne _ _ _ _ z, J.2.2 _ (by omega)]
          by_cases y : ∃ j, 1 ≤ j ∧ j < 16 ∧ x = 32 + (16 * j) + 1
          · obtain ⟨j, j1, j2, j3⟩ := y
            rw [j3, I.2.2.1 j j1 (by omega), K.2.2.2.2.1 j j1 j2, f1 j j2]
            by_cases w : (sW d S).1 j = true
            · rw [if_pos w, if_pos w, f2 j j1 j2]
              have := hl j j1 j2 w; omega
            · rw [if_neg w, if_neg w]
          · rw [I.2.2.2 x (by omega) (fun j a b _ c => y ⟨j, a, by omega, c⟩), K.2.2.2.2.2 x (by omega) (fun j a b _ c => y ⟨j, a, b, c⟩)]
    · unfold rKv
      rw [rJc_eq _ _ _ _ _ _ (by omega), rIc_eq _ _ _ _ _ _ _ (by omega), kvE, wcE1, wlE, ← wcE3]
      rw [wc_ext 3 _ d _ 9 55 (fun c h1 h2 => bt_ext _ _ _ _ (I.2.2.2 _ (by omega) (fun j _ _ _ => by omega)))]; omega
