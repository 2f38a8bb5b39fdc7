theorem sm_cat (f : Nat → Nat) (n m : Nat) : sm f (n + m) = sm f n + sm (fun k => f (n + k)) m := by
  induction m with
  | zero => rfl
  | succ m ih => rw [← Nat.add_assoc, sm, ih, sm]; omega
theorem sm_block (f : Nat → Nat → Nat) (n : Nat) : sm (fun e => f (e / 24) (e % 24)) (24 * n) = sm (fun p => sm (fun j => f p j) 24) n := by
  induction n with
  | zero => rfl
  | succ n ih =>
    rw [show 24 * (n + 1) = 24 * n + 24 by omega, sm_cat, ih]
    have e : sm (fun k => f ((24 * n + k) / 24) ((24 * n + k) % 24)) 24 = sm (fun j => f n j) 24 := by
      apply sm_congr
      intro k hk
      rw [show (24 * n + k) / 24 = n by omega, show (24 * n + k) % 24 = k by omega]
    rw [e]; rfl
def rc (s : Nat → Nat → Nat) (p x : Nat) : Nat := sm (fun j => if s p j = x then 1 else 0) 24
theorem ct_rc (s : Nat → Nat → Nat) (x : Nat) : ct s x = sm (fun p => rc s p x) 16 := sm_block (fun p j => if s p j = x then 1 else 0) 16
theorem sm_inj (q : Nat → Nat) (n : Nat) : ∀ g : Nat → Nat, (∀ a b, a < b → b < n → q a ≠ q b) → (∀ t, t < n → q t < 16) → (∀ p, p < 16 → (∀ t, t < n → q t ≠ p) → g p = 0) → sm (fun t => g (q t)) n = sm g 16 := by
  induction n with
  | zero =>
    intro g _ _ h
    rw [sm_zero g 16 (fun p hp => h p hp (fun t ht => by omega))]; rfl
  | succ n ih =>
    intro g h1 h2 h3
    have a := ih (u1 g (q n) 0) (fun a b x y => h1 a b x (by omega)) (fun t ht => h2 t (by omega)) (fun p hp hn => by
      by_cases e : p = q n
      · rw [e, u1_at]
      · rw [u1_ne _ _ _ _ e]
        exact h3 p hp (fun t ht => by
          by_cases z : t = n
          · rw [z]; exact fun w => e w.symm
          · exact hn t (by omega)))
    have b := sm_upd g (u1 g (q n) 0) 16 (q n) (h2 n (by omega)) (fun k _ hn => u1_ne _ _ _ _ hn)
    have c : sm (fun t => u1 g (q n) 0 (q t)) n = sm (fun t => g (q t)) n := sm_congr _ _ _ (fun t ht => u1_ne _ _ _ _ (h1 t n ht (by omega)))
    rw [u1_at] at b
    rw [sm]
    show sm (fun t => g (q t)) n + g (q n) = sm g 16
    omega
def qQ (d : Nat → Nat) (S : gS) : Prop :=
  (∀ a b, a < b → b < S.2.2.2.2 → S.2.2.2.1 a ≠ S.2.2.2.1 b) ∧
  (∀ t, t < S.2.2.2.2 → 1 ≤ S.2.2.2.1 t ∧ S.2.2.2.1 t < 16 ∧ d (32 + (16 * S.2.2.2.1 t)) ≠ 0) ∧
  (∀ x, x < 16 → (S.1 x = true ↔ ∃ t, t < S.2.2.2.2 ∧ S.2.2.2.1 t = x))
theorem qQ.dis {d : Nat → Nat} {S : gS} (h : qQ d S) : ∀ a b, a < b → b < S.2.2.2.2 → S.2.2.2.1 a ≠ S.2.2.2.1 b := h.1
theorem qQ.val {d : Nat → Nat} {S : gS} (h : qQ d S) : ∀ t, t < S.2.2.2.2 → 1 ≤ S.2.2.2.1 t ∧ S.2.2.2.1 t < 16 ∧ d (32 + (16 * S.2.2.2.1 t)) ≠ 0 := h.2.1
theorem qQ.fnd {d : Nat → Nat} {S : gS} (h : qQ d S) : ∀ x, x < 16 → (S.1 x = true ↔ ∃ t, t < S.2.2.2.2 ∧ S.2.2.2.1 t = x) := h.2.2
theorem qQ.le {d S} (Q : qQ d S) : S.2.2.2.2 ≤ 15 := by
  have h := vis_le S.2.2.2.1 S.2.2.2.2 (fun q => if 1 ≤ q then 1 else 0) Q.dis (fun a ha => by
    have := Q.val a ha
    refine ⟨this.2.1, ?_⟩
    show 1 ≤ if 1 ≤ S.2.2.2.1 a then 1 else 0
    rw [if_pos this.1]; omega)
  have e : sm (fun q => if 1 ≤ q then 1 else 0) 16 = 15 := by decide
  omega
def qO (S S' : gS) : Prop :=
  (S.2.2.2.2 ≤ S'.2.2.2.2) ∧
  (∀ t, t < S.2.2.2.2 → S'.2.2.2.1 t = S.2.2.2.1 t)
theorem qO.n {S S' : gS} (h : qO S S') : S.2.2.2.2 ≤ S'.2.2.2.2 := h.1
theorem qO.q {S S' : gS} (h : qO S S') : ∀ t, t < S.2.2.2.2 → S'.2.2.2.1 t = S.2.2.2.1 t := h.2
theorem qO.refl (S : gS) : qO S S := ⟨Nat.le_refl _, fun _ _ => rfl⟩
theorem qO.trans {A B C : gS} (h : qO A B) (g : qO B C) : qO A C :=
  ⟨Nat.le_trans h.n g.n, fun t ht => (g.q t (Nat.lt_of_lt_of_le ht h.n)).trans (h.q t ht)⟩
theorem qO.f {d A B} (h : qO A B) (P : qQ d A) (Q : qQ d B) (x : Nat) (hx : x < 16) (hf : A.1 x = true) : B.1 x = true := by
  obtain ⟨t, h1, h2⟩ := (P.fnd x hx).mp hf
  exact (Q.fnd x hx).mpr ⟨t, Nat.lt_of_lt_of_le h1 h.n, by rw [h.q t h1]; exact h2⟩
theorem sI_Q {d S} (Q : qQ d S) (x : Nat) (h1 : 1 ≤ x) (hx : x < 16) (hk : d (32 + (16 * x)) ≠ 0) : qQ d (sI S x) ∧ qO S (sI S x) ∧ (sI S x).1 x = true ∧ (sI S x).2.1 = S.2.1 ∧ (sI S x).2.2.1 = S.2.2.1 := by
  have hle := Q.le
  unfold sI
  by_cases a : S.1 x = true
  · rw [if_pos a]; exact ⟨Q, qO.refl S, a, rfl, rfl⟩
  · rw [if_neg a, if_pos (by omega)]
    have hnew : ∀ t, t < S.2.2.2.2 → S.2.2.2.1 t ≠ x := fun t ht z => a ((Q.fnd x hx).mpr ⟨t, ht, z⟩)
    refine ⟨⟨?_, ?_, ?_⟩, ⟨Nat.le_succ _, ?_⟩, ?_, rfl, rfl⟩
    · intro u v huv hv
      show ut S.2.2.2.1 S.2.2.2.2 x u ≠ ut S.2.2.2.1 S.2.2.2.2 x v
      have hv' : v < S.2.2.2.2 + 1 := hv
      unfold ut
      rw [if_neg (by omega)]
      by_cases e : v = S.2.2.2.2
      · rw [if_pos e]; exact hnew u (by omega)
      · rw [if_neg e]; exact Q.dis u v huv (by omega)
    · intro t ht
      have ht' : t < S.2.2.2.2 + 1 := ht
      show 1 ≤ ut S.2.2.2.1 S.2.2.2.2 x t ∧ ut S.2.2.2.1 S.2.2.2.2 x t < 16 ∧ d (32 + (16 * ut S.2.2.2.1 S.2.2.2.2 x t)) ≠ 0
      unfold ut
      by_cases e : t = S.2.2.2.2
      · rw [if_pos e]; exact ⟨h1, hx, hk⟩
      · rw [if_neg e]; exact Q.val t (by omega)
    · intro y hy
      show ub S.1 x true y = true ↔ ∃ t, t < S.2.2.2.2 + 1 ∧ ut S.2.2.2.1 S.2.2.2.2 x t = y
      unfold ub ut
      by_cases e : y = x
      · rw [if_pos e]
        exact ⟨fun _ => ⟨S.2.2.2.2, by omega, by rw [if_pos rfl, e]⟩, fun _ => rfl⟩
      · rw [if_neg e, Q.fnd y hy]
        constructor
        · rintro ⟨t, p, q⟩; exact ⟨t, by omega, by rw [if_neg (by omega)]; exact q⟩
        · rintro ⟨t, p, q⟩
          by_cases z : t = S.2.2.2.2
          · rw [if_pos z] at q; exact absurd q.symm e
          · rw [if_neg z] at q; exact ⟨t, by omega, q⟩
    · intro t ht
      show ut S.2.2.2.1 S.2.2.2.2 x t = S.2.2.2.1 t
      unfold ut
      rw [if_neg (by omega)]
    · show ub S.1 x true x = true
      unfold ub; rw [if_pos rfl]
theorem qQ.lf {d S} (Q : qQ d S) (b : Nat → Bool) (l : Nat → Nat) : qQ d (S.1, b, l, S.2.2.2.1, S.2.2.2.2) := ⟨Q.dis, Q.val, Q.fnd⟩
theorem sS_Q {d} (i n : Nat) : ∀ (S : gS) (j : Nat), qQ d S → (∀ l, j ≤ l → l < j + n → si d i l ≠ 0 → si d i l < 16 ∧ d (32 + (16 * si d i l)) ≠ 0) →
    qQ d (sS d i S j n) ∧ qO S (sS d i S j n) ∧ (∀ l, j ≤ l → l < j + n → si d i l ≠ 0 → (sS d i S j n).1 (si d i l) = true) ∧ (sS d i S j n).2.1 = S.2.1 ∧
    (∀ x, 1 ≤ x → x < 16 → (sS d i S j n).2.2.1 x = S.2.2.1 x + sm (fun k => if si d i (j + k) = x then 1 else 0) n) := by
  induction n with
  | zero =>
    intro S j Q _
    exact ⟨Q, qO.refl S, fun l h1 h2 => by omega, rfl, fun x _ _ => rfl⟩
  | succ n ih =>
    intro S j Q hv
    rw [sS]
    have hsum : ∀ x, sm (fun k => if si d i (j + k) = x then 1 else 0) (n + 1) = (if si d i j = x then 1 else 0) + sm (fun k => if si d i (j + 1 + k) = x then 1 else 0) n := by
      intro x
      have := sm_cat (fun k => if si d i (j + k) = x then 1 else 0) 1 n
      rw [Nat.add_comm 1 n] at this
      rw [this]
      congr 1
      · show 0 + _ = _
        rw [Nat.zero_add]; rfl
      · apply sm_congr
        intro k _
        rw [← Nat.add_assoc]
    by_cases a : si d i j = 0
    · have e : sJ S (si d i j) = S := by unfold sJ; rw [a, if_neg (by omega)]
      rw [e]
      have G := ih S (j + 1) Q (fun l h1 h2 => hv l (by omega) (by omega))
      refine ⟨G.1, G.2.1, ?_, G.2.2.2.1, ?_⟩
      · intro l h1 h2 hn
        by_cases z : l = j
        · rw [z] at hn; exact absurd a hn
        · exact G.2.2.1 l (by omega) (by omega) hn
      · intro x h1 hx
        rw [G.2.2.2.2 x h1 hx, hsum x, if_neg (by omega)]; omega
    · have v := hv j (by omega) (by omega) a
      have e : sJ S (si d i j) = sI (sL S (si d i j)) (si d i j) := by unfold sJ; rw [if_pos (by omega)]
      have QL : qQ d (sL S (si d i j)) := Q.lf _ _
      have OL : qO S (sL S (si d i j)) := ⟨Nat.le_refl _, fun _ _ => rfl⟩
      have I := sI_Q QL (si d i j) (by omega) v.1 v.2
      rw [e]
      have G := ih (sI (sL S (si d i j)) (si d i j)) (j + 1) I.1 (fun l h1 h2 => hv l (by omega) (by omega))
      refine ⟨G.1, (OL.trans I.2.1).trans G.2.1, ?_, ?_, ?_⟩
      · intro l h1 h2 hn
        by_cases z : l = j
        · rw [z]; exact G.2.1.f I.1 G.1 _ v.1 I.2.2.1
        · exact G.2.2.1 l (by omega) (by omega) hn
      · rw [G.2.2.2.1, I.2.2.2.1]; rfl
      · intro x h1 hx
        rw [G.2.2.2.2 x h1 hx, hsum x, I.2.2.2.2]
        show ut S.2.2.1 (si d i j) (S.2.2.1 (si d i j) + 1) x + _ = _
        unfold ut
        by_cases z : x = si d i j
        · rw [if_pos z, if_pos z.symm, z]; omega
        · rw [if_neg z, if_neg (fun w => z w.symm)]; omega
theorem sB_at (S : gS) (b c : Nat) (hc : 0 < c ∧ c < 64) : (sB S b).2.1 c = true ↔ S.2.1 c = true ∨ b = c := by
  unfold sB
  by_cases a : 0 < b ∧ b < 64
  · rw [if_pos a]
    show ub S.2.1 b true c = true ↔ _
    unfold ub
    by_cases e : c = b
    · rw [if_pos e]; exact ⟨fun _ => Or.inr e.symm, fun _ => rfl⟩
    · rw [if_neg e]
      exact ⟨fun h => Or.inl h, fun h => h.elim id (fun z => absurd z.symm e)⟩
  · rw [if_neg a]
    exact ⟨fun h => Or.inl h, fun h => h.elim id (fun z => by omega)⟩
theorem sB_oth (S : gS) (b : Nat) : (sB S b).1 = S.1 ∧ (sB S b).2.2 = S.2.2 := by
  unfold sB; split <;> exact ⟨rfl, rfl⟩
theorem sBl_at (d : Nat → Nat) (i n : Nat) : ∀ (S : gS) (w : Nat), ((sBl d i S w n).1 = S.1 ∧ (sBl d i S w n).2.2 = S.2.2) ∧ ∀ c, 0 < c ∧ c < 64 → ((sBl d i S w n).2.1 c = true ↔ S.2.1 c = true ∨ ∃ v, w ≤ v ∧ v < w + n ∧ bo d i v = c) := by
  induction n with
  | zero =>
    intro S w
    exact ⟨⟨rfl, rfl⟩, fun c _ => ⟨fun h => Or.inl h, fun h => h.elim id (fun ⟨v, h1, h2, _⟩ => by omega)⟩⟩
  | succ n ih =>
    intro S w
    rw [sBl]
    have G := ih (sB S (bo d i w)) (w + 1)
    have O := sB_oth S (bo d i w)
    refine ⟨⟨G.1.1.trans O.1, G.1.2.trans O.2⟩, fun c hc => ?_⟩
    rw [G.2 c hc, sB_at _ _ _ hc]
    constructor
    · rintro ((h | h) | ⟨v, h1, h2, h3⟩)
      · exact Or.inl h
      · exact Or.inr ⟨w, by omega, by omega, h⟩
      · exact Or.inr ⟨v, by omega, by omega, h3⟩
    · rintro (h | ⟨v, h1, h2, h3⟩)
      · exact Or.inl (Or.inl h)
      · by_cases z : v = w
        · rw [z] at h3; exact Or.inl (Or.inr h3)
        · exact Or.inr ⟨v, by omega, by omega, h3⟩
theorem sk_at (d : Nat → Nat) (i : Nat) (S : gS) : ((sk d i S).1 = S.1 ∧ (sk d i S).2.2 = S.2.2) ∧ ∀ c, 0 < c ∧ c < 64 → ((sk d i S).2.1 c = true ↔ S.2.1 c = true ∨ ∃ v, v ≤ 38 ∧ qb d i v = c) := by
  have G := sBl_at d i 38 (sB S (d (32 + (16 * i) + 10))) 0
  have O := sB_oth S (d (32 + (16 * i) + 10))
  refine ⟨⟨G.1.1.trans O.1, G.1.2.trans O.2⟩, fun c hc => ?_⟩
  show (sBl d i (sB S (d (32 + (16 * i) + 10))) 0 38).2.1 c = true ↔ _
  rw [G.2 c hc, sB_at _ _ _ hc]
  constructor
  · rintro ((h | h) | ⟨v, h1, h2, h3⟩)
    · exact Or.inl h
    · exact Or.inr ⟨38, by omega, by rw [qb_ix]; exact h⟩
    · exact Or.inr ⟨v, by omega, by rw [qb_bo _ _ _ (by omega)]; exact h3⟩
  · rintro (h | ⟨v, h1, h3⟩)
    · exact Or.inl (Or.inl h)
    · by_cases z : v = 38
      · rw [z, qb_ix] at h3; exact Or.inl (Or.inr h3)
      · rw [qb_bo _ _ _ (by omega)] at h3
        exact Or.inr ⟨v, by omega, by omega, h3⟩
theorem zb_at (n : Nat) : ∀ (s : Nat → Bool) (i x : Nat), zb s i n x = if i ≤ x ∧ x < i + n then false else s x := by
  induction n with
  | zero => intro s i x; rw [if_neg (by omega)]; rfl
  | succ n ih =>
    intro s i x
    rw [zb, ih]
    unfold ub
    by_cases a : x = i
    · rw [if_neg (by omega), if_pos a, if_pos (by omega)]
    · by_cases b : i ≤ x ∧ x < i + (n + 1)
      · rw [if_pos (by omega), if_pos b]
      · rw [if_neg (by omega), if_neg a, if_neg b]
theorem zn_at (n : Nat) : ∀ (s : Nat → Nat) (i x : Nat), zn s i n x = if i ≤ x ∧ x < i + n then 0 else s x := by
  induction n with
  | zero => intro s i x; rw [if_neg (by omega)]; rfl
  | succ n ih =>
    intro s i x
    rw [zn, ih]
    unfold ut
    by_cases a : x = i
    · rw [if_neg (by omega), if_pos a, if_pos (by omega)]
    · by_cases b : i ≤ x ∧ x < i + (n + 1)
      · rw [if_pos (by omega), if_pos b]
      · rw [if_neg (by omega), if_neg a, if_neg b]
theorem rc_dir (d : Nat → Nat) (p x : Nat) (hk : d (32 + (16 * p)) = 2) (hx : 1 ≤ x) : rc (qs d) p x = sm (fun k => if si d p (0 + k) = x then 1 else 0) (sn d p) := by
  have h24 := sn_le d p
  unfold rc
  rw [show 24 = sn d p + (24 - sn d p) by omega, sm_cat]
  have e1 : sm (fun k => if qs d p (sn d p + k) = x then 1 else 0) (24 - sn d p) = 0 := by
    apply sm_zero
    intro k hk'
    rw [show qs d p (sn d p + k) = 0 by unfold qs; rw [if_neg (by omega)], if_neg (by omega)]
  rw [e1, Nat.add_zero]
  apply sm_congr
  intro k hk'
  rw [qs_si d p k hk hk', Nat.zero_add]
theorem rc_no (d : Nat → Nat) (p x : Nat) (hk : d (32 + (16 * p)) ≠ 2) (hx : 1 ≤ x) : rc (qs d) p x = 0 := by
  apply sm_zero
  intro k _
  rw [show qs d p k = 0 by unfold qs; rw [if_neg (fun z => hk z.1)], if_neg (by omega)]
def qJ (d : Nat → Nat) (S : gS) (k : Nat) : Prop :=
  (qQ d S) ∧
  (k ≤ S.2.2.2.2) ∧
  (1 ≤ S.2.2.2.2) ∧
  (S.2.2.2.1 0 = 1) ∧
  (∀ x, 1 ≤ x → x < 16 → S.2.2.1 x = sm (fun t => rc (qs d) (S.2.2.2.1 t) x) k) ∧
  (∀ c, 0 < c ∧ c < 64 → (S.2.1 c = true ↔ ∃ t v, t < k ∧ v ≤ 38 ∧ qb d (S.2.2.2.1 t) v = c)) ∧
  (∀ t, t < k → ∀ j, j < 24 → qs d (S.2.2.2.1 t) j ≠ 0 → S.1 (qs d (S.2.2.2.1 t) j) = true)
theorem qJ.Q {d : Nat → Nat} {S : gS} {k : Nat} (h : qJ d S k) : qQ d S := h.1
theorem qJ.kn {d : Nat → Nat} {S : gS} {k : Nat} (h : qJ d S k) : k ≤ S.2.2.2.2 := h.2.1
theorem qJ.q1 {d : Nat → Nat} {S : gS} {k : Nat} (h : qJ d S k) : 1 ≤ S.2.2.2.2 := h.2.2.1
theorem qJ.q0 {d : Nat → Nat} {S : gS} {k : Nat} (h : qJ d S k) : S.2.2.2.1 0 = 1 := h.2.2.2.1
theorem qJ.lf {d : Nat → Nat} {S : gS} {k : Nat} (h : qJ d S k) : ∀ x, 1 ≤ x → x < 16 → S.2.2.1 x = sm (fun t => rc (qs d) (S.2.2.2.1 t) x) k := h.2.2.2.2.1
theorem qJ.bf {d : Nat → Nat} {S : gS} {k : Nat} (h : qJ d S k) : ∀ c, 0 < c ∧ c < 64 → (S.2.1 c = true ↔ ∃ t v, t < k ∧ v ≤ 38 ∧ qb d (S.2.2.2.1 t) v = c) := h.2.2.2.2.2.1
theorem qJ.cl {d : Nat → Nat} {S : gS} {k : Nat} (h : qJ d S k) : ∀ t, t < k → ∀ j, j < 24 → qs d (S.2.2.2.1 t) j ≠ 0 → S.1 (qs d (S.2.2.2.1 t) j) = true := h.2.2.2.2.2.2
theorem sG_J {d} (T : qT (qk d) (qs d)) (S : gS) (k : Nat) (J : qJ d S k) (hk : k < S.2.2.2.2) : qJ d (sG d (S.2.2.2.1 k) S) (k + 1) := by
  obtain ⟨Q, kn, q1, q0, lf, bf, cl⟩ := J
  have v := Q.val k hk
  have K := sk_at d (S.2.2.2.1 k) S
  have QK : qQ d (sk d (S.2.2.2.1 k) S) := by
    have e : sk d (S.2.2.2.1 k) S = (S.1, (sk d (S.2.2.2.1 k) S).2.1, S.2.2.1, S.2.2.2.1, S.2.2.2.2) := by
      have h1 := K.1.1
      have h2 := K.1.2
      generalize sk d (S.2.2.2.1 k) S = R at h1 h2 ⊢
      obtain ⟨a, b, c⟩ := R
      subst h1
      simp only at h2
      subst h2
      rfl
    rw [e]; exact Q.lf _ _
  have OK : qO S (sk d (S.2.2.2.1 k) S) := by
    rw [show qO S (sk d (S.2.2.2.1 k) S) ↔ (S.2.2.2.2 ≤ (sk d (S.2.2.2.1 k) S).2.2.2.2 ∧ ∀ t, t < S.2.2.2.2 → (sk d (S.2.2.2.1 k) S).2.2.2.1 t = S.2.2.2.1 t) from ⟨fun h => ⟨h.n, h.q⟩, fun h => ⟨h.1, h.2⟩⟩, K.1.2]
    exact ⟨Nat.le_refl _, fun _ _ => rfl⟩
  have key : ∃ R, sG d (S.2.2.2.1 k) S = R ∧ qQ d R ∧ qO S R ∧ (∀ j, j < 24 → qs d (S.2.2.2.1 k) j ≠ 0 → R.1 (qs d (S.2.2.2.1 k) j) = true) ∧
      (∀ c, 0 < c ∧ c < 64 → (R.2.1 c = true ↔ S.2.1 c = true ∨ ∃ v, v ≤ 38 ∧ qb d (S.2.2.2.1 k) v = c)) ∧ (∀ x, 1 ≤ x → x < 16 → R.2.2.1 x = S.2.2.1 x + rc (qs d) (S.2.2.2.1 k) x) := by
    refine ⟨_, rfl, ?_⟩
    unfold sG
    by_cases a : d (32 + (16 * S.2.2.2.1 k)) = 2
    · rw [if_pos a]
      have h24 := sn_le d (S.2.2.2.1 k)
      have G := sS_Q (S.2.2.2.1 k) (sn d (S.2.2.2.1 k)) (sk d (S.2.2.2.1 k) S) 0 QK (fun l h1 h2 hn => by
        have e := qs_si d (S.2.2.2.1 k) l a (by omega)
        have := T.nz (S.2.2.2.1 k) l v.2.1 (by omega) (by omega)
        rw [e] at this
        refine ⟨this.1, ?_⟩
        have h3 := this.2.1
        rw [qk_lt d _ this.1] at h3; exact h3)
      refine ⟨G.1, OK.trans G.2.1, ?_, ?_, ?_⟩
      · intro j hj hn
        have hj' : j < sn d (S.2.2.2.1 k) := by
          by_cases z : j < sn d (S.2.2.2.1 k)
          · exact z
          · unfold qs at hn; rw [if_neg (by omega)] at hn; exact absurd rfl hn
        have e := qs_si d (S.2.2.2.1 k) j a hj'
        rw [e] at hn ⊢
        exact G.2.2.1 j (by omega) (by omega) hn
      · intro c hc; rw [G.2.2.2.1]; exact K.2 c hc
      · intro x h1 hx
        rw [G.2.2.2.2 x h1 hx, rc_dir d _ x a h1, K.1.2]
    · rw [if_neg a]
      refine ⟨QK, OK, ?_, K.2, ?_⟩
      · intro j hj hn
        exact absurd (by unfold qs; rw [if_neg (fun z => a z.1)]) hn
      · intro x h1 hx
        rw [rc_no d _ x a h1, K.1.2]; rfl
  obtain ⟨R, e, QR, OR, h1, h2, h3⟩ := key
  rw [e]
  refine ⟨QR, by have := OR.n; omega, by have := OR.n; omega, by rw [OR.q 0 (by omega)]; exact q0, ?_, ?_, ?_⟩
  · intro x hx1 hx
    rw [h3 x hx1 hx, sm, lf x hx1 hx, OR.q k hk]
    congr 1
    apply sm_congr
    intro t ht
    rw [OR.q t (by omega)]
  · intro c hc
    rw [h2 c hc, bf c hc]
    constructor
    · rintro (⟨t, u, a1, a2, a3⟩ | ⟨u, a2, a3⟩)
      · exact ⟨t, u, by omega, a2, by rw [OR.q t (by omega)]; exact a3⟩
      · exact ⟨k, u, by omega, a2, by rw [OR.q k hk]; exact a3⟩
    · rintro ⟨t, u, a1, a2, a3⟩
      by_cases z : t = k
      · rw [z, OR.q k hk] at a3; exact Or.inr ⟨u, a2, a3⟩
      · rw [OR.q t (by omega)] at a3; exact Or.inl ⟨t, u, by omega, a2, a3⟩
  · intro t ht j hj hn
    by_cases z : t = k
    · rw [z, OR.q k hk] at hn ⊢; exact h1 j hj hn
    · rw [OR.q t (by omega)] at hn ⊢
      have vt := Q.val t (by omega)
      have := T.nz _ j vt.2.1 hj hn
      exact OR.f Q QR _ this.1 (cl t (by omega) j hj hn)
theorem sT_J {d} (T : qT (qk d) (qs d)) (m : Nat) : ∀ (S : gS) (k : Nat), qJ d S k → k + m = 16 → qJ d (sT d S k m) (sT d S k m).2.2.2.2 := by
  induction m with
  | zero =>
    intro S k J h
    have := J.Q.le
    have := J.kn
    omega
  | succ m ih =>
    intro S k J h
    rw [sT]
    by_cases a : k < S.2.2.2.2
    · rw [if_pos a]
      exact ih _ (k + 1) (sG_J T S k J a) (by omega)
    · rw [if_neg a]
      have : k = S.2.2.2.2 := by have := J.kn; omega
      rw [← this]; exact J
theorem sW_all {d} (T : qT (qk d) (qs d)) (S : gS) :
    (∀ x, x < 16 → ((sW d S).1 x = true ↔ d (32 + (16 * x)) ≠ 0)) ∧ (∀ x, 1 ≤ x → x < 16 → (sW d S).2.2.1 x = ct (qs d) x) ∧
    (∀ c, 0 < c ∧ c < 64 → ((sW d S).2.1 c = true ↔ ∃ i v, i < 16 ∧ d (32 + (16 * i)) ≠ 0 ∧ v ≤ 38 ∧ qb d i v = c)) := by
  have k1 : d (32 + (16 * 1)) ≠ 0 := by have := T.k1; rw [qk_lt d 1 (by omega)] at this; omega
  have Q0 : qQ d (fg S) := by
    refine ⟨fun a b _ h => ?_, fun t h => ?_, fun x hx => ?_⟩
    · exact absurd (show b < 0 from h) (by omega)
    · exact absurd (show t < 0 from h) (by omega)
    · constructor
      · intro h
        have : zb S.1 0 16 x = true := h
        rw [zb_at, if_pos (by omega)] at this; exact Bool.noConfusion this
      · rintro ⟨t, h, _⟩; exact absurd (show t < 0 from h) (by omega)
  have I := sI_Q Q0 1 (by omega) (by omega) k1
  have f1 : (fg S).1 1 = false := by
    show zb S.1 0 16 1 = false
    rw [zb_at, if_pos (by omega)]
  have e : sI (fg S) 1 = (ub (fg S).1 1 true, (fg S).2.1, (fg S).2.2.1, ut (fg S).2.2.2.1 0 1, 1) := by
    unfold sI
    rw [if_neg (by rw [f1]; exact Bool.noConfusion), if_pos (show (fg S).2.2.2.2 < 16 by show 0 < 16; omega)]
    rfl
  have J0 : qJ d (sI (fg S) 1) 0 := by
    refine ⟨I.1, Nat.zero_le _, ?_, ?_, ?_, ?_, ?_⟩
    · rw [e]; exact Nat.le_refl 1
    · rw [e]; show ut (fg S).2.2.2.1 0 1 0 = 1; unfold ut; rw [if_pos rfl]
    · intro x h1 hx
      rw [I.2.2.2.2]
      show zn S.2.2.1 0 16 x = 0
      rw [zn_at, if_pos (by omega)]
    · intro c hc
      rw [I.2.2.2.1]
      show zb S.2.1 0 64 c = true ↔ _
      rw [zb_at, if_pos (by omega)]
      exact ⟨fun h => Bool.noConfusion h, fun ⟨t, v, h, _⟩ => by omega⟩
    · intro t ht; omega
  have J := sT_J T 16 (sI (fg S) 1) 0 J0 (by omega)
  show (∀ x, x < 16 → ((sT d (sI (fg S) 1) 0 16).1 x = true ↔ d (32 + (16 * x)) ≠ 0)) ∧ (∀ x, 1 ≤ x → x < 16 → (sT d (sI (fg S) 1) 0 16).2.2.1 x = ct (qs d) x) ∧
    (∀ c, 0 < c ∧ c < 64 → ((sT d (sI (fg S) 1) 0 16).2.1 c = true ↔ ∃ i v, i < 16 ∧ d (32 + (16 * i)) ≠ 0 ∧ v ≤ 38 ∧ qb d i v = c))
  generalize sT d (sI (fg S) 1) 0 16 = R at J ⊢
  obtain ⟨Q, kn, q1, q0, lf, bf, cl⟩ := J
  have hall : ∀ x, x < 16 → d (32 + (16 * x)) ≠ 0 → R.1 x = true := by
    obtain ⟨r, hr⟩ := T.t5
    have key : ∀ n x, r x < n → x < 16 → d (32 + (16 * x)) ≠ 0 → R.1 x = true := by
      intro n
      induction n with
      | zero => intro x h; omega
      | succ n ih =>
        intro x hn hx hk
        by_cases a : x = 1
        · rw [a]; exact (Q.fnd 1 (by omega)).mpr ⟨0, by omega, q0⟩
        · obtain ⟨p, j, b1, b2, b3, b4, b5⟩ := hr x hx (by rw [qk_lt d x hx]; exact hk) a
          have x0 : x ≠ 0 := by
            intro z; rw [z] at hk; have := T.k0; rw [qk_lt d 0 (by omega)] at this; exact hk this
          have nz := T.nz p j b1 b3 (by omega)
          have kp := nz.2.2
          rw [qk_lt d p b1] at kp
          have hp := ih p (by omega) b1 (by omega)
          obtain ⟨t, t1, t2⟩ := (Q.fnd p b1).mp hp
          have := cl t t1 j b3 (by rw [t2, b4]; exact x0)
          rw [t2, b4] at this; exact this
    intro x hx hk
    exact key (r x + 1) x (by omega) hx hk
  have hfnd : ∀ x, x < 16 → (R.1 x = true ↔ d (32 + (16 * x)) ≠ 0) := by
    intro x hx
    constructor
    · intro h
      obtain ⟨t, h1, h2⟩ := (Q.fnd x hx).mp h
      have := (Q.val t h1).2.2
      rw [h2] at this; exact this
    · exact hall x hx
  refine ⟨hfnd, ?_, ?_⟩
  · intro x h1 hx
    rw [lf x h1 hx, ct_rc]
    apply sm_inj R.2.2.2.1 R.2.2.2.2 (fun p => rc (qs d) p x) Q.dis (fun t ht => (Q.val t ht).2.1)
    intro p hp hn
    apply rc_no d p x _ h1
    intro z
    obtain ⟨t, t1, t2⟩ := (Q.fnd p hp).mp (hall p hp (by omega))
    exact hn t t1 t2
  · intro c hc
    rw [bf c hc]
    constructor
    · rintro ⟨t, v, h1, h2, h3⟩
      have := Q.val t h1
      exact ⟨R.2.2.2.1 t, v, this.2.1, this.2.2, h2, h3⟩
    · rintro ⟨i, v, h1, h2, h3, h4⟩
      obtain ⟨t, t1, t2⟩ := (Q.fnd i h1).mp (hall i h1 h2)
      exact ⟨t, v, t1, h3, by rw [t2]; exact h4⟩
def rm (d : Nat → Nat) (a i : Nat) (t : Bool) : Nat → Nat := if bt d a i = t then d else tb d a i
theorem rm_bt (d : Nat → Nat) (a i j : Nat) (t : Bool) (h : a + i / 8 < 2048) : bt (rm d a i t) a j = if j = i then t else bt d a j := by
  unfold rm
  by_cases e : bt d a i = t
  · rw [if_pos e]; by_cases f : j = i
    · rw [if_pos f, f, e]
    · rw [if_neg f]
  · rw [if_neg e, bt_tb _ _ _ _ h]
    by_cases f : j = i
    · rw [if_pos f, if_pos f]
      cases t <;> cases h' : bt d a i <;> simp_all
    · rw [if_neg f, if_neg f]
theorem rm_ne (d : Nat → Nat) (a i x : Nat) (t : Bool) (h : x ≠ a + i / 8) : rm d a i t x = d x := by
  unfold rm; split
  · rfl
  · exact tb_ne _ _ _ _ h
theorem dk_rm (d : Nat → Nat) (hd : dk d) (a i : Nat) (t : Bool) : dk (rm d a i t) := by
  unfold rm; split
  · exact hd
  · exact dk_tb _ hd _ _
theorem wB_f (a : Nat) (f : Nat → Bool) (n : Nat) : ∀ (d : Nat → Nat) (i : Nat), wB a f false d i n = d := by
  induction n with
  | zero => intro d i; rfl
  | succ n ih =>
    intro d i
    rw [wB, ih]
    split
    · rfl
    · rfl
theorem wL_f (S : gS) (n : Nat) : ∀ (d : Nat → Nat) (i : Nat), wL S false d i n = d := by
  induction n with
  | zero => intro d i; rfl
  | succ n ih =>
    intro d i
    rw [wL, ih, if_neg (by simp)]
def wc (a : Nat) (f : Nat → Bool) (d : Nat → Nat) (i n : Nat) : Nat := sm (fun k => if bt d a (i + k) = f (i + k) then 0 else 1) n
theorem sm_shift (f : Nat → Nat) (n : Nat) : sm f (n + 1) = f 0 + sm (fun k => f (k + 1)) n := by
  have := sm_cat f 1 n
  rw [Nat.add_comm 1 n] at this
  rw [this]
  have e : sm f 1 = f 0 := by show 0 + f 0 = f 0; omega
  rw [e]
  congr 1
  exact sm_congr _ _ _ (fun k _ => by rw [Nat.add_comm 1 k])
theorem wc_succ (a : Nat) (f : Nat → Bool) (d : Nat → Nat) (i n : Nat) : wc a f d i (n + 1) = (if bt d a i = f i then 0 else 1) + wc a f d (i + 1) n := by
  unfold wc
  rw [sm_shift]
  congr 1
  exact sm_congr _ _ _ (fun k _ => by rw [show i + (k + 1) = i + 1 + k by omega])
theorem wc_ext (a : Nat) (f : Nat → Bool) (d d' : Nat → Nat) (i n : Nat) (h : ∀ c, i ≤ c → c < i + n → bt d' a c = bt d a c) : wc a f d' i n = wc a f d i n :=
  sm_congr _ _ _ (fun k hk => by rw [h (i + k) (by omega) (by omega)])
theorem wC_wc (a : Nat) (f : Nat → Bool) (r : Bool) (n : Nat) : ∀ (d : Nat → Nat) (c i : Nat), a + (i + n) / 8 < 2048 → wC a f r d c i n = c + wc a f d i n := by
  induction n with
  | zero => intro d c i _; rfl
  | succ n ih =>
    intro d c i h
    rw [wC, ih _ _ _ (by rw [show i + 1 + n = i + (n + 1) by omega]; exact h), wc_succ]
    have e : wc a f (if bt d a i = f i then d else if r = true then tb d a i else d) (i + 1) n = wc a f d (i + 1) n := by
      apply wc_ext
      intro x h1 h2
      split
      · rfl
      · split
        · rw [bt_tb _ _ _ _ (by omega), if_neg (by omega)]
        · rfl
    rw [e]
    split <;> omega
theorem wB_t (a : Nat) (f : Nat → Bool) (n : Nat) : ∀ (d : Nat → Nat) (i : Nat), a + (i + n) / 8 < 2048 → dk d →
    dk (wB a f true d i n) ∧ (∀ c, bt (wB a f true d i n) a c = if i ≤ c ∧ c < i + n then f c else bt d a c) ∧ (∀ x, ¬ (a + i / 8 ≤ x ∧ x ≤ a + (i + n - 1) / 8) → wB a f true d i n x = d x) := by
  induction n with
  | zero => intro d i h hd; exact ⟨hd, fun c => by rw [if_neg (by omega)]; rfl, fun _ _ => rfl⟩
  | succ n ih =>
    intro d i h hd
    rw [wB]
    have e : (if bt d a i = f i then d else if true = true then tb d a i else d) = rm d a i (f i) := by unfold rm; rfl
    rw [e]
    have G := ih (rm d a i (f i)) (i + 1) (by rw [show i + 1 + n = i + (n + 1) by omega]; exact h) (dk_rm _ hd _ _ _)
    refine ⟨G.1, fun c => ?_, fun x hx => ?_⟩
    · rw [G.2.1 c, rm_bt _ _ _ _ _ (by omega)]
      by_cases z : c = i
      · rw [if_neg (by omega), if_pos z, if_pos (by omega), z]
      · by_cases y : i + 1 ≤ c ∧ c < i + 1 + n
        · rw [if_pos y, if_pos (by omega)]
        · rw [if_neg y, if_neg z, if_neg (by omega)]
    · rw [G.2.2 x (by omega), rm_ne _ _ _ _ _ (by omega)]
theorem wL_t (S : gS) (n : Nat) : ∀ (d : Nat → Nat) (i : Nat), i + n ≤ 16 → dk d → dk (wL S true d i n) ∧ (∀ j, i ≤ j → j < i + n → wL S true d i n (32 + (16 * j) + 1) = if S.1 j = true then (if d (32 + (16 * j) + 1) = S.2.2.1 j then S.2.2.1 j else S.2.2.1 j % 256) else d (32 + (16 * j) + 1)) ∧
    (∀ x, (∀ j, i ≤ j → j < i + n → S.1 j = true → x ≠ 32 + (16 * j) + 1) → wL S true d i n x = d x) := by
  induction n with
  | zero => intro d i h hd; exact ⟨hd, fun j h1 h2 => by omega, fun _ _ => rfl⟩
  | succ n ih =>
    intro d i h hd
    rw [wL]
    have hd' : dk (if S.1 i = true ∧ d (32 + (16 * i) + 1) ≠ S.2.2.1 i ∧ true = true then dp d (32 + (16 * i) + 1) (S.2.2.1 i) else d) := by
      split
      · exact dk_dp _ hd _ _
      · exact hd
    have ne : ∀ x, (S.1 i = true → x ≠ 32 + (16 * i) + 1) → (if S.1 i = true ∧ d (32 + (16 * i) + 1) ≠ S.2.2.1 i ∧ true = true then dp d (32 + (16 * i) + 1) (S.2.2.1 i) else d) x = d x := by
      intro x hx
      split
      · rename_i z; exact dp_ne _ _ _ _ (hx z.1)
      · rfl
    have hat : (if S.1 i = true ∧ d (32 + (16 * i) + 1) ≠ S.2.2.1 i ∧ true = true then dp d (32 + (16 * i) + 1) (S.2.2.1 i) else d) (32 + (16 * i) + 1) = if S.1 i = true then (if d (32 + (16 * i) + 1) = S.2.2.1 i then S.2.2.1 i else S.2.2.1 i % 256) else d (32 + (16 * i) + 1) := by
      by_cases z : S.1 i = true
      · rw [if_pos z]
        by_cases y : d (32 + (16 * i) + 1) = S.2.2.1 i
        · rw [if_neg (fun w => w.2.1 y), if_pos y]; exact y
        · rw [if_pos ⟨z, y, rfl⟩, if_neg y, dp_at _ _ _ (by omega)]
      · rw [if_neg (fun w => z w.1), if_neg z]
    generalize (if S.1 i = true ∧ d (32 + (16 * i) + 1) ≠ S.2.2.1 i ∧ true = true then dp d (32 + (16 * i) + 1) (S.2.2.1 i) else d) = e at hd' ne hat ⊢
    have G := ih e (i + 1) (by omega) hd'
    refine ⟨G.1, fun j h1 h2 => ?_, fun x hx => ?_⟩
    · by_cases z : j = i
      · rw [z, G.2.2 _ (fun k _ _ _ => by omega)]; exact hat
      · rw [G.2.1 j (by omega) (by omega), ne _ (by omega)]
    · rw [G.2.2 x (fun j h1 h2 h3 => hx j (by omega) (by omega) h3), ne x (fun z => hx i (by omega) (by omega) z)]
def wl (f : Nat → Bool) (lf : Nat → Nat) (d : Nat → Nat) (i n : Nat) : Nat := sm (fun k => if f (i + k) = true ∧ d (32 + (16 * (i + k)) + 1) ≠ lf (i + k) then 1 else 0) n
theorem wl_succ (f : Nat → Bool) (lf d : Nat → Nat) (i n : Nat) : wl f lf d i (n + 1) = (if f i = true ∧ d (32 + (16 * i) + 1) ≠ lf i then 1 else 0) + wl f lf d (i + 1) n := by
  unfold wl
  rw [sm_shift]
  congr 1
  exact sm_congr _ _ _ (fun k _ => by rw [show i + (k + 1) = i + 1 + k by omega])
theorem wl_ext (f : Nat → Bool) (lf d d' : Nat → Nat) (i n : Nat) (h : ∀ j, i ≤ j → j < i + n → d' (32 + (16 * j) + 1) = d (32 + (16 * j) + 1)) : wl f lf d' i n = wl f lf d i n :=
  sm_congr _ _ _ (fun k hk => by rw [h (i + k) (by omega) (by omega)])
theorem wM_wl (S : gS) (r : Bool) (n : Nat) : ∀ (d : Nat → Nat) (c i : Nat), wM S r d c i n = c + wl S.1 S.2.2.1 d i n := by
  induction n with
  | zero => intro d c i; rfl
  | succ n ih =>
    intro d c i
    rw [wM, ih, wl_succ]
    have e : wl S.1 S.2.2.1 (if S.1 i = true ∧ d (32 + (16 * i) + 1) ≠ S.2.2.1 i ∧ r = true then dp d (32 + (16 * i) + 1) (S.2.2.1 i) else d) (i + 1) n = wl S.1 S.2.2.1 d (i + 1) n := by
      apply wl_ext
      intro j h1 h2
      split
      · exact dp_ne _ _ _ _ (by omega)
      · rfl
    rw [e]
    split <;> omega
theorem kv_eq (d : Nat → Nat) (hd : dk d) (S : gS) (r : Bool) : kv d S r = wc 1 (sW d S).1 d 1 15 + wc 3 (sW d S).2.1 d 9 55 + wl (sW d S).1 (sW d S).2.2.1 d 1 15 := by
  unfold kv
  generalize sW d S = R
  rw [wC_wc _ _ _ _ _ _ _ (by omega), wC_wc _ _ _ _ _ _ _ (by omega), wM_wl, Nat.zero_add, Nat.zero_add, Nat.zero_add]
  cases r with
  | false => rw [wB_f, wB_f]
  | true =>
    have W1 := wB_t 1 R.1 15 d 1 (by omega) hd
    generalize wB 1 R.1 true d 1 15 = e at W1 ⊢
    have W3 := wB_t 3 R.2.1 55 e 9 (by omega) W1.1
    generalize wB 3 R.2.1 true e 9 55 = g at W3 ⊢
    rw [wc_ext 3 _ d e _ _ (fun c h1 h2 => bt_ext _ _ _ _ (W1.2.2 _ (by omega))), wl_ext _ _ d g _ _ (fun j h1 h2 => by rw [W3.2.2 _ (by omega), W1.2.2 _ (by omega)])]
theorem kd_f (d : Nat → Nat) (S : gS) : kd d S false = d := by
  unfold kd
  rw [if_neg (by simp), wB_f, wB_f, wL_f]
theorem kd_t (d : Nat → Nat) (hd : dk d) (S : gS) (R : gS) (hR : sW d S = R) (hl : ∀ j, 1 ≤ j → j < 16 → R.1 j = true → R.2.2.1 j < 256) : dk (kd d S true) ∧ kd d S true 11 = 1 ∧
    (∀ c, c < 16 → bt (kd d S true) 1 c = if 1 ≤ c then R.1 c else bt d 1 c) ∧ (∀ c, c < 64 → bt (kd d S true) 3 c = if 9 ≤ c then R.2.1 c else bt d 3 c) ∧
    (∀ j, 1 ≤ j → j < 16 → kd d S true (32 + (16 * j) + 1) = if R.1 j = true then R.2.2.1 j else d (32 + (16 * j) + 1)) ∧
    (∀ x, ¬ (1 ≤ x ∧ x < 12) → (∀ j, 1 ≤ j → j < 16 → R.1 j = true → x ≠ 32 + (16 * j) + 1) → kd d S true x = d x) := by
  unfold kd
  rw [hR, if_pos rfl]
  have W1 := wB_t 1 R.1 15 d 1 (by omega) hd
  generalize wB 1 R.1 true d 1 15 = e at W1 ⊢
  have W3 := wB_t 3 R.2.1 55 e 9 (by omega) W1.1
  generalize wB 3 R.2.1 true e 9 55 = g at W3 ⊢
  have WL := wL_t R 15 g 1 (by omega) W3.1
  generalize wL R true g 1 15 = k at WL ⊢
  have lo : ∀ x, x < 11 → dp k 11 1 x = g x := by
    intro x hx; rw [dp_ne _ _ _ _ (by omega), WL.2.2 x (fun j _ _ _ => by omega)]
  refine ⟨dk_dp _ WL.1 _ _, by rw [dp_at _ _ _ (by omega)], ?_, ?_, ?_, ?_⟩
  · intro c hc
    rw [bt_ext g _ 1 c (lo _ (by omega)), bt_ext e _ 1 c (W3.2.2 _ (by omega)), W1.2.1 c]
    by_cases z : 1 ≤ c
    · rw [if_pos (by omega), if_pos z]
    · rw [if_neg (by omega), if_neg z]
  · intro c hc
    rw [bt_ext g _ 3 c (lo _ (by omega)), W3.2.1 c]
    by_cases z : 9 ≤ c
    · rw [if_pos (by omega), if_pos z]
    · rw [if_neg (by omega), if_neg z]
      exact bt_ext _ _ _ _ (W1.2.2 _ (by omega))
  · intro j h1 h2
    rw [dp_ne _ _ _ _ (by omega), WL.2.1 j h1 (by omega), W3.2.2 _ (by omega), W1.2.2 _ (by omega)]
    by_cases z : R.1 j = true
    · rw [if_pos z, if_pos z]
      have := hl j h1 h2 z
      split <;> omega
    · rw [if_neg z, if_neg z]
  · intro x h1 h2
    rw [dp_ne _ _ _ _ (by omega), WL.2.2 x (fun j a b c => h2 j a (by omega) c), W3.2.2 _ (by omega), W1.2.2 _ (by omega)]
theorem qV.maps {d d'} (V : qV d) (hd : dk d') (h : ∀ x, ¬ (1 ≤ x ∧ x < 12) → (∀ i, i < 16 → d (32 + (16 * i)) ≠ 0 → x ≠ 32 + (16 * i) + 1) → d' x = d x) (m1 : bt d' 1 0 = true) (m3 : ∀ b, b < 9 → bt d' 3 b = true) :
    qB d' ∧ qR d' ∧ qT (qk d') (qs d') ∧ (∀ j u, j < 16 → u ≤ 38 → qb d' j u = qb d j u) ∧ (∀ p j, p < 16 → j < 24 → qs d' p j = qs d p j) ∧ (∀ j, j < 16 → d' (32 + (16 * j)) = d (32 + (16 * j))) := by
  obtain ⟨B, R, T, _, _, _⟩ := V
  have ne : ∀ x, 32 ≤ x → (∀ i, i < 16 → x ≠ 32 + (16 * i) + 1) → d' x = d x := fun x h1 h2 => h x (by omega) (fun i hi _ => h2 i hi)
  have hT : ∀ j k, j < 16 → k < 16 → k ≠ 1 → d' (32 + (16 * j) + k) = d (32 + (16 * j) + k) := fun j k hj hk hn => ne _ (by omega) (fun i hi => by omega)
  have h0 : ∀ j, j < 16 → d' (32 + (16 * j)) = d (32 + (16 * j)) := fun j hj => hT j 0 hj (by omega) (by omega)
  have hqb : ∀ j u, j < 16 → u ≤ 38 → qb d' j u = qb d j u := by
    intro j u hj hu
    have h10 := hT j 10 hj (by omega) (by omega)
    unfold qb
    rw [h10]
    by_cases a : u < 6
    · rw [if_pos a, if_pos a]
      have := hT j (4 + u) hj (by omega) (by omega)
      rw [← Nat.add_assoc] at this; exact this
    · rw [if_neg a, if_neg a]
      by_cases b : u = 38
      · rw [if_pos b, if_pos b]
      · rw [if_neg b, if_neg b]
        by_cases c : d (32 + (16 * j) + 10) = 0
        · rw [if_pos c, if_pos c]
        · rw [if_neg c, if_neg c]
          have := B.b1 j 38 hj (by omega)
          rw [qb_ix] at this
          exact ne _ (by omega) (fun i hi => by omega)
  have hsn : ∀ j, j < 16 → sn d' j = sn d j := fun j hj => sn_ext d d' j (hT j 2 hj (by omega) (by omega)) (hT j 3 hj (by omega) (by omega))
  have hqs : ∀ p j, p < 16 → j < 24 → qs d' p j = qs d p j := by
    intro p j hp hj
    unfold qs si
    rw [h0 p hp, hsn p hp]
    by_cases a : d (32 + (16 * p)) = 2 ∧ j < sn d p
    · rw [if_pos a, if_pos a]
      have s := R.sa B p j hp a.1 a.2
      have e : sa d' p j = sa d p j := by
        unfold sa
        have := hT p (4 + j / 4) hp (by omega) (by omega)
        rw [← Nat.add_assoc] at this; rw [this]
      rw [e, s.1]; exact ne _ (by omega) (fun i hi => by omega)
    · rw [if_neg a, if_neg a]
  refine ⟨⟨hd, ?_, ?_, m1, m3⟩, ⟨?_, ?_, ?_⟩, T.congr (qk_eq d d' h0) hqs, hqb, hqs, h0⟩
  · intro j u hj hu; rw [hqb j u hj hu]; exact B.b1 j u hj hu
  · intro j u j' u' hj hu hj' hu'
    rw [hqb j u hj hu, hqb j' u' hj' hu']; exact B.b2 j u j' u' hj hu hj' hu'
  · intro j k hj hk hz
    rw [h0 j hj] at hz
    rw [h _ (by omega) (fun i hi hn => by intro z; have e : i = j := (by omega); rw [e] at hn; exact hn hz)]
    exact R.z j k hj hk hz
  · intro j hj h2
    rw [h0 j hj] at h2
    have r := R.dr j hj h2
    rw [hT j 10 hj (by omega) (by omega), hT j 2 hj (by omega) (by omega), hT j 3 hj (by omega) (by omega), hsn j hj]
    refine ⟨r.1, r.2.1, r.2.2.1, fun w hw => ?_⟩
    have := hT j (4 + w) hj (by omega) (by omega)
    rw [← Nat.add_assoc] at this
    rw [this]; exact r.2.2.2 w hw
  · intro j hj h2
    rw [h0 j hj] at h2
    rw [hT j 2 hj (by omega) (by omega), hT j 3 hj (by omega) (by omega)]; exact R.fi j hj h2
theorem qV.cnt {d} (V : qV d) (i : Nat) (hi : i < 16) (hk : d (32 + (16 * i)) ≠ 0) : ct (qs d) i ≤ 255 := by
  have k2 := V.T.k2 i
  rw [qk_lt d i hi] at k2
  by_cases a : d (32 + (16 * i)) = 2
  · have := V.T.few i hi (by rw [qk_lt d i hi]; exact a); omega
  · exact V.T.t6 i hi (by rw [qk_lt d i hi]; omega)
theorem qV.check {d} (V : qV d) (S : gS) : qV (kd d S true) := by
  have W := sW_all V.T S
  have K := kd_t d V.B.dk S (sW d S) rfl (fun j h1 h2 hf => by
    rw [W.2.1 j h1 h2]
    have := V.cnt j h2 ((W.1 j h2).mp hf); omega)
  generalize sW d S = R at W K
  generalize kd d S true = e at K ⊢
  obtain ⟨K1, K2, K3, K4, K5, K6⟩ := K
  have m1 : bt e 1 0 = true := by rw [K3 0 (by omega), if_neg (by omega)]; exact V.B.m1
  have m3 : ∀ b, b < 9 → bt e 3 b = true := by intro b hb; rw [K4 b (by omega), if_neg (by omega)]; exact V.B.m3 b hb
  have M := V.maps K1 (fun x h1 h2 => K6 x h1 (fun j a b c => h2 j b ((W.1 j b).mp c))) m1 m3
  refine ⟨M.1, M.2.1, M.2.2.1, Or.inr K2, fun _ => ⟨?_, ?_⟩, fun _ => ?_⟩
  · intro i hi hn
    rw [M.2.2.2.2.2 i hi] at hn
    by_cases a : i = 0
    · rw [a]; exact m1
    · rw [K3 i hi, if_pos (by omega)]; exact (W.1 i hi).mpr hn
  · intro i w hi hw hn
    rw [M.2.2.2.1 i w hi hw] at hn ⊢
    have b := V.B.b1 i w hi hw
    rw [K4 _ (by omega), if_pos (by omega)]
    refine (W.2.2 _ (by omega)).mpr ⟨i, w, hi, ?_, hw, rfl⟩
    intro z
    apply hn
    by_cases a : w < 6
    · rw [qb_lo _ _ _ a]
      have := V.R.z i (4 + w) hi (by omega) z
      rw [← Nat.add_assoc] at this; exact this
    · have := V.R.z i 10 hi (by omega) z
      unfold qb
      rw [if_neg a]
      by_cases c : w = 38
      · rw [if_pos c]; exact this
      · rw [if_neg c, if_pos this]
  · intro i hi hn
    rw [M.2.2.2.2.2 i hi] at hn
    have i0 : i ≠ 0 := by intro z; rw [z] at hn; exact hn V.k00
    have f := (W.1 i hi).mpr hn
    rw [K5 i (by omega) hi, if_pos f, ct_congr _ _ i M.2.2.2.2.1]
    exact W.2.1 i (by omega) hi
theorem qV.spoil1 {d} (V : qV d) (i : Nat) (h1 : 1 ≤ i) (hi : i < 16) : qV (dp (tb d 1 i) 11 0) := by
  have ne : ∀ x, ¬ (1 ≤ x ∧ x < 12) → dp (tb d 1 i) 11 0 x = d x := fun x hx => by rw [dp_ne _ _ _ _ (by omega), tb_ne _ _ _ _ (by omega)]
  have h11 : dp (tb d 1 i) 11 0 11 = 0 := by rw [dp_at _ _ _ (by omega)]
  have M := V.maps (d' := dp (tb d 1 i) 11 0) (dk_dp _ (dk_dp _ V.B.dk _ _) _ _) (fun x hx _ => ne x hx)
    (by rw [bt_ext (tb d 1 i) _ 1 0 (dp_ne _ _ _ _ (by omega)), bt_tb _ _ _ _ (by omega), if_neg (by omega)]; exact V.B.m1)
    (fun b hb => by rw [bt_ext d _ 3 b (by rw [dp_ne _ _ _ _ (by omega), tb_ne _ _ _ _ (by omega)])]; exact V.B.m3 b hb)
  exact ⟨M.1, M.2.1, M.2.2.1, Or.inl h11, fun z => by omega, fun z => by omega⟩
theorem qV.spoil3 {d} (V : qV d) (i : Nat) (h1 : 9 ≤ i) (hi : i < 64) : qV (dp (tb d 3 i) 11 0) := by
  have ne : ∀ x, ¬ (1 ≤ x ∧ x < 12) → dp (tb d 3 i) 11 0 x = d x := fun x hx => by rw [dp_ne _ _ _ _ (by omega), tb_ne _ _ _ _ (by omega)]
  have h11 : dp (tb d 3 i) 11 0 11 = 0 := by rw [dp_at _ _ _ (by omega)]
  have M := V.maps (d' := dp (tb d 3 i) 11 0) (dk_dp _ (dk_dp _ V.B.dk _ _) _ _) (fun x hx _ => ne x hx)
    (by rw [bt_ext d _ 1 0 (by rw [dp_ne _ _ _ _ (by omega), tb_ne _ _ _ _ (by omega)])]; exact V.B.m1)
    (fun b hb => by rw [bt_ext (tb d 3 i) _ 3 b (dp_ne _ _ _ _ (by omega)), bt_tb _ _ _ _ (by omega), if_neg (by omega)]; exact V.B.m3 b hb)
  exact ⟨M.1, M.2.1, M.2.2.1, Or.inl h11, fun z => by omega, fun z => by omega⟩
theorem qV.spoil2 {d} (V : qV d) (i v : Nat) (hi : i < 16) (hk : d (32 + (16 * i)) ≠ 0) : qV (dp (dp d (32 + (16 * i) + 1) v) 11 0) := by
  have h11 : dp (dp d (32 + (16 * i) + 1) v) 11 0 11 = 0 := by rw [dp_at _ _ _ (by omega)]
  have M := V.maps (d' := dp (dp d (32 + (16 * i) + 1) v) 11 0) (dk_dp _ (dk_dp _ V.B.dk _ _) _ _) (fun x hx h => by rw [dp_ne _ _ _ _ (by omega), dp_ne _ _ _ _ (h i hi hk)])
    (by rw [bt_ext d _ 1 0 (by rw [dp_ne _ _ _ _ (by omega), dp_ne _ _ _ _ (by omega)])]; exact V.B.m1)
    (fun b hb => by rw [bt_ext d _ 3 b (by rw [dp_ne _ _ _ _ (by omega), dp_ne _ _ _ _ (by omega)])]; exact V.B.m3 b hb)
  exact ⟨M.1, M.2.1, M.2.2.1, Or.inl h11, fun z => by omega, fun z => by omega⟩
