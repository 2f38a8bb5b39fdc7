def qW (d d' : Nat → Nat) (p j : Nat) : Prop :=
  (qE d') ∧
  (∀ q k, q < 16 → k < 16 → ¬ (q = p ∧ 2 ≤ k) → d' (32 + (16 * q) + k) = d (32 + (16 * q) + k)) ∧
  (j < sn d' p) ∧
  (∀ q l, q < 16 → l < 24 → ¬ (q = p ∧ l = j) → qs d' q l = qs d q l) ∧
  (d' 11 = d 11)
theorem qW.E {d d' : Nat → Nat} {p j : Nat} (h : qW d d' p j) : qE d' := h.1
theorem qW.T {d d' : Nat → Nat} {p j : Nat} (h : qW d d' p j) : ∀ q k, q < 16 → k < 16 → ¬ (q = p ∧ 2 ≤ k) → d' (32 + (16 * q) + k) = d (32 + (16 * q) + k) := h.2.1
theorem qW.n {d d' : Nat → Nat} {p j : Nat} (h : qW d d' p j) : j < sn d' p := h.2.2.1
theorem qW.s {d d' : Nat → Nat} {p j : Nat} (h : qW d d' p j) : ∀ q l, q < 16 → l < 24 → ¬ (q = p ∧ l = j) → qs d' q l = qs d q l := h.2.2.2.1
theorem qW.c {d d' : Nat → Nat} {p j : Nat} (h : qW d d' p j) : d' 11 = d 11 := h.2.2.2.2
theorem grow_E {d e} (B : qB e) (hc2 : ∀ i w, i < 16 → w ≤ 38 → qb e i w ≠ 0 → bt e 3 (qb e i w) = true) (R : qR d) (M : qM d) (Bd : qB d) (p n : Nat) (hp : p < 16) (hk : d (32 + (16 * p)) = 2) (hn : sn d p = n) (hn24 : n < 24)
    (hT : ∀ q k, q < 16 → k < 16 → ¬ (q = p ∧ k = 4 + n / 4) → e (32 + (16 * q) + k) = d (32 + (16 * q) + k)) (hpg : e (32 + (16 * p) + 4 + n / 4) ≠ 0) (hold : d (32 + (16 * p) + 4 + n / 4) ≠ 0 → e (32 + (16 * p) + 4 + n / 4) = d (32 + (16 * p) + 4 + n / 4))
    (ht1 : ∀ c, c < 16 → bt e 1 c = bt d 1 c) (hblk : ∀ q w o, q < 16 → d (32 + (16 * q)) = 2 → w < 6 → qb d q w ≠ 0 → o < 32 → e (qb d q w * 32 + o) = d (qb d q w * 32 + o)) (h11 : e 11 = d 11) :
    qW d (ss e p ((n + 1) * 8)) p n := by
  have ne : ∀ x, x ≠ 32 + (16 * p) + 2 → x ≠ 32 + (16 * p) + 3 → ss e p ((n + 1) * 8) x = e x := by
    intro x h1 h2; rw [ss_at _ _ _ _ hp, if_neg h2, if_neg h1]
  have z2 : ss e p ((n + 1) * 8) (32 + (16 * p) + 2) = (n + 1) * 8 := by rw [ss_at _ _ _ _ hp, if_neg (by omega), if_pos rfl]; omega
  have z3 : ss e p ((n + 1) * 8) (32 + (16 * p) + 3) = 0 := by rw [ss_at _ _ _ _ hp, if_pos rfl]; omega
  have hdk : dk (ss e p ((n + 1) * 8)) := dk_dp _ (dk_dp _ B.dk _ _) _ _
  generalize ss e p ((n + 1) * 8) = g at ne z2 z3 hdk ⊢
  have Me : qM e := ⟨fun i hi h => by
    have h0 := hT i 0 hi (by omega) (by omega)
    simp only [Nat.add_zero] at h0
    rw [h0] at h
    rw [ht1 i hi]; exact M.c1 i hi h, hc2⟩
  have G := row_ne e g B Me hdk (fun x hx => ne _ (by omega) (by omega)) (fun j k hj hk hn => ne _ (by omega) (by omega))
  have hT' : ∀ q k, q < 16 → k < 16 → ¬ (q = p ∧ 2 ≤ k) → g (32 + (16 * q) + k) = d (32 + (16 * q) + k) := by
    intro q k hq hk' hn'
    rw [ne _ (by omega) (by omega), hT q k hq hk' (by omega)]
  have h0 : ∀ q, q < 16 → g (32 + (16 * q)) = d (32 + (16 * q)) := fun q hq => hT' q 0 hq (by omega) (by omega)
  have hsn : ∀ q, q < 16 → q ≠ p → sn g q = sn d q := fun q hq hn' => sn_ext d g q (hT' q 2 hq (by omega) (by omega)) (hT' q 3 hq (by omega) (by omega))
  have hsp : sn g p = n + 1 := by
    unfold sn
    rw [z2, show 32 + (16 * p) + 2 + 1 = 32 + (16 * p) + 3 by omega, z3]; omega
  have rp := R.dr p hp hk
  have pg : ∀ w, w < 6 → (g (32 + (16 * p) + 4 + w) ≠ 0 ↔ 4 * w < n + 1) := by
    intro w hw
    rw [ne _ (by omega) (by omega)]
    by_cases a : w = n / 4
    · subst a; exact ⟨fun _ => by omega, fun _ => hpg⟩
    · have t := hT p (4 + w) hp (by omega) (by omega)
      rw [← Nat.add_assoc] at t
      rw [t]
      have := rp.2.2.2 w hw
      rw [hn] at this
      exact ⟨fun h => by have := this.mp h; omega, fun h => this.mpr (by omega)⟩
  refine ⟨⟨G.1, ⟨?_, ?_, ?_⟩, G.2.1⟩, hT', by omega, ?_, ?_⟩
  · intro q k hq hk' hz
    rw [h0 q hq] at hz
    have : q ≠ p := by intro z; rw [z] at hz; omega
    rw [hT' q k hq hk' (by omega)]; exact R.z q k hq hk' hz
  · intro q hq h2
    rw [h0 q hq] at h2
    by_cases a : q = p
    · subst a
      rw [z2, z3, hsp, ne _ (by omega) (by omega), hT q 10 hq (by omega) (by omega)]
      exact ⟨rp.1, by omega, by omega, pg⟩
    · have r := R.dr q hq h2
      rw [hT' q 10 hq (by omega) (by omega), hT' q 2 hq (by omega) (by omega), hT' q 3 hq (by omega) (by omega), hsn q hq a]
      refine ⟨r.1, r.2.1, r.2.2.1, fun w hw => ?_⟩
      have := hT' q (4 + w) hq (by omega) (by omega)
      rw [← Nat.add_assoc] at this
      rw [this]; exact r.2.2.2 w hw
  · intro q hq h2
    rw [h0 q hq] at h2
    have a : q ≠ p := by intro z; rw [z] at h2; omega
    rw [hT' q 2 hq (by omega) (by omega), hT' q 3 hq (by omega) (by omega)]; exact R.fi q hq h2
  · intro q l hq hl hne
    by_cases a : q = p
    · subst a
      unfold qs si
      rw [h0 q hq, hsp]
      by_cases b : l < n
      · rw [if_pos ⟨hk, by omega⟩, if_pos ⟨hk, by omega⟩]
        have e4 : g (32 + (16 * q) + 4 + l / 4) = d (32 + (16 * q) + 4 + l / 4) := by
          by_cases c : l / 4 = n / 4
          · have : qb d q (n / 4) ≠ 0 := by
              rw [qb_lo _ _ _ (by omega)]
              exact (rp.2.2.2 (n / 4) (by omega)).mpr (by omega)
            rw [qb_lo _ _ _ (by omega)] at this
            rw [c, ne _ (by omega) (by omega)]; exact hold this
          · rw [ne _ (by omega) (by omega)]
            have t := hT q (4 + l / 4) hq (by omega) (by omega)
            rw [← Nat.add_assoc] at t
            exact t
        have es : sa g q l = sa d q l := by unfold sa; rw [e4]
        have s := R.sa Bd q l hq hk (by omega)
        rw [es, s.1, ne _ (by omega) (by omega)]
        exact hblk q (l / 4) _ hq hk (by omega) (by omega) (by omega)
      · rw [if_neg (by omega), if_neg (by omega)]
    · apply qs_ext d g q l hl (fun k hk => hT' q k hq hk (by omega))
      intro h2 hl2
      have s := R.sa Bd q l hq h2 hl2
      rw [s.1, ne _ (by omega) (by omega)]
      exact hblk q (l / 4) _ hq h2 (by omega) (by omega) (by omega)
  · rw [ne _ (by omega) (by omega), h11]
theorem bw_dir (d : Nat → Nat) (p w : Nat) (hw : w < 6) : bw d p w w = if bo d p w = 0 then 1 else 0 := by
  unfold bw
  rw [if_neg (by omega), show w + 1 - w = 1 by omega, ho, ho]; omega
theorem bo_lo (d : Nat → Nat) (p w : Nat) (hw : w < 6) : bo d p w = d (32 + (16 * p) + 4 + w) := by rw [← qb_bo _ _ _ (by omega), qb_lo _ _ _ hw]
theorem a1_E {d} (E : qE d) (p : Nat) (hp : p < 16) (hk : d (32 + (16 * p)) = 2) (hn : nsl d p ≠ 0) (hc : bw d p (nsl d p / 4) (nsl d p / 4) ≤ cf d 3 9 55) : qW d (a1 d p) p (nsl d p) := by
  obtain ⟨B, R, M⟩ := E
  have r := R.dr p hp hk
  have s := nsl_spec d p r.2.2.1 hn
  unfold a1
  by_cases h : nsl d p = sn d p
  · rw [if_pos h]
    rw [h] at hc s ⊢
    have w6 : sn d p / 4 < 6 := by omega
    rw [bw_dir d p _ w6, bo_lo d p _ w6] at hc
    by_cases a : d (32 + (16 * p) + 4 + sn d p / 4) = 0
    · rw [if_pos a] at hc
      have h0 := lw_cf d hc
      have N := alloc B M _ rfl h0 p (sn d p / 4) hp (by omega) (by rw [qb_lo _ _ _ w6]; exact a) (Or.inl w6)
      have e0 : ea d p (sn d p / 4) = 32 + (16 * p) + 4 + sn d p / 4 := by unfold ea; rw [if_pos w6]
      have e1 : fh d p (sn d p / 4) = dp (tB d) (ea d p (sn d p / 4)) (lw d 3 9 55) := by
        unfold fh f1
        rw [if_neg (by omega)]
        unfold f2
        rw [bo_lo d p _ w6, if_pos a, eo_ea d p _ (by omega) (Or.inl w6)]
        rfl
      rw [← e1] at N
      generalize fh d p (sn d p / 4) = e at N ⊢
      have nb := N.qb p (sn d p / 4) hp (by omega)
      rw [if_pos ⟨rfl, rfl⟩, qb_lo _ _ _ w6] at nb
      have rb := N.rb
      apply grow_E N.B N.c2 R M B p (sn d p) hp hk rfl (by omega)
      · intro q k hq hk' hn'
        exact N.ne _ (by omega) (by omega) (by omega)
      · rw [nb]; exact h0
      · intro z; exact absurd a z
      · exact N.t1
      · intro q w o hq h2 hw hne ho
        have b1 := B.b1 q w hq (by omega)
        have n1 := N.nu q w hq (by omega)
        exact N.ne _ (by omega) (by omega) (by omega)
      · exact N.ne _ (by omega) (by omega) (by omega)
    · have e1 : fh d p (sn d p / 4) = d := by
        unfold fh f1
        rw [if_neg (by omega)]
        unfold f2
        rw [bo_lo d p _ w6, if_neg a]
      rw [e1]
      apply grow_E B M.c2 R M B p (sn d p) hp hk rfl (by omega)
      · intro q k hq hk' hn'; rfl
      · exact a
      · intro _; rfl
      · intro c _; rfl
      · intro q w o _ _ _ _ _; rfl
      · rfl
  · rw [if_neg h]
    exact ⟨⟨B, R, M⟩, fun _ _ _ _ _ => rfl, by omega, fun _ _ _ _ _ => rfl, rfl⟩
def qAd (d d' : Nat → Nat) (p j v : Nat) : Prop :=
  (qE d') ∧
  (∀ q, q < 16 → d' (32 + (16 * q)) = d (32 + (16 * q))) ∧
  (∀ q, q < 16 → d' (32 + (16 * q) + 1) = if q = v then (d (32 + (16 * v) + 1) + 1) % 256 else d (32 + (16 * q) + 1)) ∧
  (∀ q l, q < 16 → l < 24 → qs d' q l = u2 (qs d) p j v q l) ∧
  (d' 11 = d 11) ∧
  (j < sn d' p)
theorem qAd.E {d d' : Nat → Nat} {p j v : Nat} (h : qAd d d' p j v) : qE d' := h.1
theorem qAd.k {d d' : Nat → Nat} {p j v : Nat} (h : qAd d d' p j v) : ∀ q, q < 16 → d' (32 + (16 * q)) = d (32 + (16 * q)) := h.2.1
theorem qAd.l {d d' : Nat → Nat} {p j v : Nat} (h : qAd d d' p j v) : ∀ q, q < 16 → d' (32 + (16 * q) + 1) = if q = v then (d (32 + (16 * v) + 1) + 1) % 256 else d (32 + (16 * q) + 1) := h.2.2.1
theorem qAd.s {d d' : Nat → Nat} {p j v : Nat} (h : qAd d d' p j v) : ∀ q l, q < 16 → l < 24 → qs d' q l = u2 (qs d) p j v q l := h.2.2.2.1
theorem qAd.c {d d' : Nat → Nat} {p j v : Nat} (h : qAd d d' p j v) : d' 11 = d 11 := h.2.2.2.2.1
theorem qAd.n {d d' : Nat → Nat} {p j v : Nat} (h : qAd d d' p j v) : j < sn d' p := h.2.2.2.2.2
theorem ad_E {d} (E : qE d) (p v : Nat) (nm : Nat → Nat) (hp : p < 16) (hk : d (32 + (16 * p)) = 2) (hv : v < 16) (hkv : d (32 + (16 * v)) ≠ 0) (hn : nsl d p ≠ 0)
    (hc : bw d p (nsl d p / 4) (nsl d p / 4) ≤ cf d 3 9 55) : qAd d (ad d p v nm) p (nsl d p) v := by
  have W := a1_E E p hp hk hn hc
  unfold ad
  generalize a1 d p = g at W ⊢
  have k0 : ∀ q, q < 16 → g (32 + (16 * q)) = d (32 + (16 * q)) := fun q hq => W.T q 0 hq (by omega) (by omega)
  have k1 : ∀ q, q < 16 → g (32 + (16 * q) + 1) = d (32 + (16 * q) + 1) := fun q hq => W.T q 1 hq (by omega) (by omega)
  have F := fl_E W.E p (nsl d p) v nm hp (by rw [k0 p hp]; exact hk) W.n hv (by rw [k0 v hv]; exact hkv)
  refine ⟨F.1, ?_, ?_, ?_, ?_, ?_⟩
  · intro q hq; rw [F.2.1 _ (by omega) (by omega), k0 q hq]
  · intro q hq
    by_cases a : q = v
    · rw [if_pos a, a, F.2.2.1, k1 v hv]
    · rw [if_neg a, F.2.1 _ (by omega) (by omega), k1 q hq]
  · intro q l hq hl
    rw [F.2.2.2.2 q l hq hl]
    unfold u2
    by_cases a : q = p ∧ l = nsl d p
    · rw [if_pos a, if_pos a]
    · rw [if_neg a, if_neg a, W.s q l hq hl a]
  · rw [F.2.1 _ (by omega) (by omega), W.c]
  · rw [sn_ext g _ p (F.2.1 _ (by omega) (by omega)) (F.2.1 _ (by omega) (by omega))]; exact W.n
def qTi (d d' : Nat → Nat) (i v : Nat) : Prop :=
  (1 ≤ i ∧ i < 16) ∧
  (∀ k, k < 16 → d (32 + (16 * i) + k) = 0) ∧
  (∀ x, ¬ (1 ≤ x ∧ x < 3) → x ≠ 32 + (16 * i) → d' x = d x) ∧
  (d' (32 + (16 * i)) = v) ∧
  (qB d') ∧
  (qM d') ∧
  (∀ j u, j < 16 → u ≤ 38 → qb d' j u = qb d j u)
theorem qTi.ri {d d' : Nat → Nat} {i v : Nat} (h : qTi d d' i v) : 1 ≤ i ∧ i < 16 := h.1
theorem qTi.z {d d' : Nat → Nat} {i v : Nat} (h : qTi d d' i v) : ∀ k, k < 16 → d (32 + (16 * i) + k) = 0 := h.2.1
theorem qTi.ne {d d' : Nat → Nat} {i v : Nat} (h : qTi d d' i v) : ∀ x, ¬ (1 ≤ x ∧ x < 3) → x ≠ 32 + (16 * i) → d' x = d x := h.2.2.1
theorem qTi.at_ {d d' : Nat → Nat} {i v : Nat} (h : qTi d d' i v) : d' (32 + (16 * i)) = v := h.2.2.2.1
theorem qTi.B {d d' : Nat → Nat} {i v : Nat} (h : qTi d d' i v) : qB d' := h.2.2.2.2.1
theorem qTi.M {d d' : Nat → Nat} {i v : Nat} (h : qTi d d' i v) : qM d' := h.2.2.2.2.2.1
theorem qTi.qb {d d' : Nat → Nat} {i v : Nat} (h : qTi d d' i v) : ∀ j u, j < 16 → u ≤ 38 → qb d' j u = qb d j u := h.2.2.2.2.2.2
theorem ti_E {d} (E : qE d) (v : Nat) (hv : v = 1 ∨ v = 2) (h0 : lw d 1 1 15 ≠ 0) : qTi d (ti d v) (lw d 1 1 15) v := by
  obtain ⟨B, R, M⟩ := E
  have L := lw_spec d 1 15 1 h0
  have e : ti d v = dp (tb d 1 (lw d 1 1 15)) (32 + (16 * (lw d 1 1 15))) v := by unfold ti tk; rw [if_neg h0, if_neg h0]
  rw [e]
  generalize lw d 1 1 15 = i at L h0 ⊢
  have k0 : d (32 + (16 * i)) = 0 := by
    by_cases a : d (32 + (16 * i)) = 0
    · exact a
    · have := M.c1 i (by omega) a
      rw [L.2.2.1] at this; exact Bool.noConfusion this
  have hz : ∀ k, k < 16 → d (32 + (16 * i) + k) = 0 := fun k hk => R.z i k (by omega) hk k0
  have ne : ∀ x, ¬ (1 ≤ x ∧ x < 3) → x ≠ 32 + (16 * i) → dp (tb d 1 i) (32 + (16 * i)) v x = d x := by
    intro x h1 h2; rw [dp_ne _ _ _ _ h2, tb_ne _ _ _ _ (by omega)]
  have hat : dp (tb d 1 i) (32 + (16 * i)) v (32 + (16 * i)) = v := by rw [dp_at _ _ _ (by omega)]; omega
  have hdk : dk (dp (tb d 1 i) (32 + (16 * i)) v) := dk_dp _ (dk_dp _ B.dk _ _) _ _
  have t1 : ∀ c, c < 16 → bt (dp (tb d 1 i) (32 + (16 * i)) v) 1 c = if c = i then true else bt d 1 c := by
    intro c hc
    rw [bt_ext (tb d 1 i) _ 1 c (dp_ne _ _ _ _ (by omega)), bt_tb _ _ _ _ (by omega), L.2.2.1]; rfl
  generalize dp (tb d 1 i) (32 + (16 * i)) v = g at ne hat hdk t1 ⊢
  have hqb : ∀ j u, j < 16 → u ≤ 38 → qb g j u = qb d j u := by
    intro j u hj hu
    have h10 := ne (32 + (16 * j) + 10) (by omega) (by omega)
    unfold qb
    rw [h10]
    by_cases a : u < 6
    · rw [if_pos a, if_pos a]; exact ne _ (by omega) (by omega)
    · rw [if_neg a, if_neg a]
      by_cases b : u = 38
      · rw [if_pos b, if_pos b]
      · rw [if_neg b, if_neg b]
        by_cases c : d (32 + (16 * j) + 10) = 0
        · rw [if_pos c, if_pos c]
        · rw [if_neg c, if_neg c]
          have := B.b1 j 38 hj (by omega)
          rw [qb_ix] at this
          exact ne _ (by omega) (by omega)
  have t3 : ∀ c, c < 64 → bt g 3 c = bt d 3 c := fun c hc => bt_ext _ _ _ _ (ne _ (by omega) (by omega))
  refine ⟨by omega, hz, ne, hat, ⟨hdk, ?_, ?_, ?_, ?_⟩, ⟨?_, ?_⟩, hqb⟩
  · intro j u hj hu; rw [hqb j u hj hu]; exact B.b1 j u hj hu
  · intro j u j' u' hj hu hj' hu'
    rw [hqb j u hj hu, hqb j' u' hj' hu']; exact B.b2 j u j' u' hj hu hj' hu'
  · rw [t1 0 (by omega)]; split
    · rfl
    · exact B.m1
  · intro c hc; rw [t3 c (by omega)]; exact B.m3 c hc
  · intro j hj hn
    rw [t1 j hj]; split
    · rfl
    · rename_i hji
      rw [ne _ (by omega) (by omega)] at hn
      exact M.c1 j hj hn
  · intro j u hj hu hn
    rw [hqb j u hj hu] at hn ⊢
    have := B.b1 j u hj hu
    rw [t3 _ (by omega)]; exact M.c2 j u hj hu hn
theorem qTi.cf {d d' i v} (I : qTi d d' i v) : cf d' 3 9 55 = cf d 3 9 55 :=
  cf_ext d d' 3 55 9 (fun c h1 h2 => bt_ext _ _ _ _ (I.ne _ (by omega) (by have := I.ri; omega)))
theorem qTi.sn {d d' i v} (I : qTi d d' i v) (j : Nat) (hj : j < 16) : sn d' j = sn d j :=
  sn_ext d d' j (I.ne _ (by omega) (by have := I.ri; omega)) (I.ne _ (by omega) (by have := I.ri; omega))
theorem qTi.qs {d d' i v} (I : qTi d d' i v) (E : qE d) (q l : Nat) (hq : q < 16) (hl : l < 24) (hn : q ≠ i) : qs d' q l = qs d q l := by
  have ri := I.ri
  apply qs_ext d d' q l hl (fun k hk => I.ne _ (by omega) (by omega))
  intro h2 hl2
  have s := E.R.sa E.B q l hq h2 hl2
  rw [s.1]; exact I.ne _ (by omega) (by omega)
theorem ti_file {d d'} (E : qE d) (i : Nat) (I : qTi d d' i 1) : qE d' ∧ (∀ q l, q < 16 → l < 24 → qs d' q l = qs d q l) := by
  have ri := I.ri
  have k0 := I.z 0 (by omega)
  simp only [Nat.add_zero] at k0
  have hat := I.at_
  refine ⟨⟨I.B, ⟨?_, ?_, ?_⟩, I.M⟩, ?_⟩
  · intro j k hj hk hz
    have : j ≠ i := by intro z; rw [z, hat] at hz; omega
    rw [I.ne _ (by omega) (by omega)] at hz ⊢
    exact E.R.z j k hj hk hz
  · intro j hj h2
    have : j ≠ i := by intro z; rw [z, hat] at h2; omega
    rw [I.ne _ (by omega) (by omega)] at h2
    have r := E.R.dr j hj h2
    rw [I.sn j hj, I.ne _ (by omega) (by omega), I.ne (32 + (16 * j) + 2) (by omega) (by omega), I.ne (32 + (16 * j) + 3) (by omega) (by omega)]
    exact ⟨r.1, r.2.1, r.2.2.1, fun w hw => by rw [I.ne _ (by omega) (by omega)]; exact r.2.2.2 w hw⟩
  · intro j hj h2
    rw [I.ne (32 + (16 * j) + 2) (by omega) (by omega), I.ne (32 + (16 * j) + 3) (by omega) (by omega)]
    by_cases a : j = i
    · rw [a, I.z 2 (by omega), I.z 3 (by omega)]; omega
    · rw [I.ne _ (by omega) (by omega)] at h2
      exact E.R.fi j hj h2
  · intro q l hq hl
    by_cases a : q = i
    · unfold Jvm.Pilot.@@N@@.qs
      rw [a, hat, k0, if_neg (by omega), if_neg (by omega)]
    · exact I.qs E q l hq hl a
def qMk (d d' : Nat → Nat) (i p : Nat) : Prop :=
  (qE d') ∧
  (∀ q, q < 16 → d' (32 + (16 * q)) = if q = i then 2 else d (32 + (16 * q))) ∧
  (∀ q, q < 16 → d' (32 + (16 * q) + 1) = if q = i then 1 else if q = p then (d (32 + (16 * p) + 1) + 1) % 256 else d (32 + (16 * q) + 1)) ∧
  (∀ q k, q < 16 → 2 ≤ k → k < 16 → q ≠ i → d' (32 + (16 * q) + k) = d (32 + (16 * q) + k)) ∧
  (∀ q l, q < 16 → l < 24 → qs d' q l = u2 (u2 (qs d) i 0 i) i 1 p q l) ∧
  (cf d' 3 9 55 + 1 = cf d 3 9 55) ∧
  (d' 11 = d 11)
theorem qMk.E {d d' : Nat → Nat} {i p : Nat} (h : qMk d d' i p) : qE d' := h.1
theorem qMk.k {d d' : Nat → Nat} {i p : Nat} (h : qMk d d' i p) : ∀ q, q < 16 → d' (32 + (16 * q)) = if q = i then 2 else d (32 + (16 * q)) := h.2.1
theorem qMk.l {d d' : Nat → Nat} {i p : Nat} (h : qMk d d' i p) : ∀ q, q < 16 → d' (32 + (16 * q) + 1) = if q = i then 1 else if q = p then (d (32 + (16 * p) + 1) + 1) % 256 else d (32 + (16 * q) + 1) := h.2.2.1
theorem qMk.T {d d' : Nat → Nat} {i p : Nat} (h : qMk d d' i p) : ∀ q k, q < 16 → 2 ≤ k → k < 16 → q ≠ i → d' (32 + (16 * q) + k) = d (32 + (16 * q) + k) := h.2.2.2.1
theorem qMk.s {d d' : Nat → Nat} {i p : Nat} (h : qMk d d' i p) : ∀ q l, q < 16 → l < 24 → qs d' q l = u2 (u2 (qs d) i 0 i) i 1 p q l := h.2.2.2.2.1
theorem qMk.cf {d d' : Nat → Nat} {i p : Nat} (h : qMk d d' i p) : cf d' 3 9 55 + 1 = cf d 3 9 55 := h.2.2.2.2.2.1
theorem qMk.c {d d' : Nat → Nat} {i p : Nat} (h : qMk d d' i p) : d' 11 = d 11 := h.2.2.2.2.2.2
theorem sd_E {d g} (E : qE d) (i p : Nat) (I : qTi d g i 2) (hp : p < 16) (hk : d (32 + (16 * p)) = 2) (hc : 1 ≤ cf d 3 9 55) : qMk d (sd g i p) i p := by
  have ri := I.ri
  have hi : i < 16 := ri.2
  have hat := I.at_
  have k0 := I.z 0 (by omega)
  simp only [Nat.add_zero] at k0
  have hpi : p ≠ i := by intro z; rw [z] at hk; omega
  have h4 : g (32 + (16 * i) + 4 + 0) = 0 := by
    rw [I.ne _ (by omega) (by omega)]; exact I.z 4 (by omega)
  have h0 := lw_cf g (by rw [I.cf]; exact hc)
  have N := alloc I.B I.M _ rfl h0 i 0 hi (by omega) (by rw [qb_lo _ _ _ (by omega)]; exact h4) (Or.inl (by omega))
  have e0 : ea g i 0 = 32 + (16 * i) + 4 := by unfold ea; rw [if_pos (by omega)]
  have e1 : fh g i 0 = dp (tB g) (ea g i 0) (lw g 3 9 55) := by
    unfold fh f1
    rw [if_neg (by omega)]
    unfold f2
    rw [bo_lo g i _ (by omega), if_pos h4, eo_ea g i _ (by omega) (Or.inl (by omega))]
    rfl
  rw [← e1] at N
  have NC := N.cf
  rw [I.cf] at NC
  unfold sd
  generalize fh g i 0 = e at N NC ⊢
  have nb := N.qb i 0 hi (by omega)
  rw [if_pos ⟨rfl, rfl⟩, qb_lo _ _ _ (by omega)] at nb
  have rb := N.rb
  generalize lw g 3 9 55 = b at N nb rb h0
  have nu : ∀ q w, q < 16 → w ≤ 38 → qb d q w ≠ b := by
    intro q w hq hw; rw [← I.qb q w hq hw]; exact N.nu q w hq hw
  have ne : ∀ x, x ≠ 32 + (16 * i) + 2 → x ≠ 32 + (16 * i) + 3 → ss e i 16 x = e x := by
    intro x h1 h2; rw [ss_at _ _ _ _ hi, if_neg h2, if_neg h1]
  have z2 : ss e i 16 (32 + (16 * i) + 2) = 16 := by rw [ss_at _ _ _ _ hi, if_neg (by omega), if_pos rfl]
  have z3 : ss e i 16 (32 + (16 * i) + 3) = 0 := by rw [ss_at _ _ _ _ hi, if_pos rfl]
  have hdk : dk (ss e i 16) := dk_dp _ (dk_dp _ N.B.dk _ _) _ _
  generalize ss e i 16 = f at ne z2 z3 hdk ⊢
  have eT : ∀ q k, q < 16 → k < 16 → ¬ (q = i ∧ k = 0) → ¬ (q = i ∧ k = 4) → e (32 + (16 * q) + k) = d (32 + (16 * q) + k) := by
    intro q k hq hk' h1 h2
    rw [N.ne _ (by omega) (by omega) (by omega), I.ne _ (by omega) (by omega)]
  have e2 : e (32 + (16 * i)) = 2 := by rw [N.ne _ (by omega) (by omega) (by omega)]; exact hat
  have Me : qM e := ⟨fun q hq h => by
    rw [N.t1 q hq]
    by_cases a : q = i
    · exact I.M.c1 q hq (by rw [a, hat]; omega)
    · exact I.M.c1 q hq (by rw [N.ne _ (by omega) (by omega) (by omega)] at h; exact h), N.c2⟩
  have G := row_ne e f N.B Me hdk (fun x hx => ne _ (by omega) (by omega)) (fun j k hj hk hn => ne _ (by omega) (by omega))
  have fT : ∀ q k, q < 16 → k < 16 → q ≠ i → f (32 + (16 * q) + k) = d (32 + (16 * q) + k) := by
    intro q k hq hk' hn
    rw [ne _ (by omega) (by omega), eT q k hq hk' (by omega) (by omega)]
  have f0 : ∀ q, q < 16 → f (32 + (16 * q)) = if q = i then 2 else d (32 + (16 * q)) := by
    intro q hq
    by_cases a : q = i
    · rw [if_pos a, a, ne _ (by omega) (by omega), e2]
    · rw [if_neg a]; exact fT q 0 hq (by omega) a
  have fi2 : f (32 + (16 * i)) = 2 := by rw [f0 i hi, if_pos rfl]
  have sni : sn f i = 2 := by
    unfold sn
    rw [z2, show 32 + (16 * i) + 2 + 1 = 32 + (16 * i) + 3 by omega, z3]; rfl
  have snq : ∀ q, q < 16 → q ≠ i → sn f q = sn d q := fun q hq hn => sn_ext d f q (fT q 2 hq (by omega) hn) (fT q 3 hq (by omega) hn)
  have fi1 : f (32 + (16 * i) + 1) = 0 := by rw [ne _ (by omega) (by omega), eT i 1 hi (by omega) (by omega) (by omega)]; exact I.z 1 (by omega)
  have fblk : ∀ q w o, q < 16 → q ≠ i → w ≤ 38 → qb d q w ≠ 0 → o < 32 → f (qb d q w * 32 + o) = d (qb d q w * 32 + o) := by
    intro q w o hq hn hw hne ho
    have b1 := E.B.b1 q w hq hw
    have n1 := nu q w hq hw
    rw [ne _ (by omega) (by omega), N.ne _ (by omega) (by omega) (by omega), I.ne _ (by omega) (by omega)]
  have fpg : ∀ w, w < 6 → f (32 + (16 * i) + 4 + w) = if w = 0 then b else 0 := by
    intro w hw
    rw [ne _ (by omega) (by omega)]
    by_cases a : w = 0
    · rw [if_pos a, a]; exact nb
    · rw [if_neg a]
      have t := eT i (4 + w) hi (by omega) (by omega) (by omega)
      rw [← Nat.add_assoc] at t
      rw [t]
      have := I.z (4 + w) (by omega)
      rw [← Nat.add_assoc] at this; exact this
  have Ef : qE f := by
    refine ⟨G.1, ⟨?_, ?_, ?_⟩, G.2.1⟩
    · intro q k hq hk' hz
      rw [f0 q hq] at hz
      by_cases a : q = i
      · rw [if_pos a] at hz; omega
      · rw [if_neg a] at hz
        rw [fT q k hq hk' a]; exact E.R.z q k hq hk' hz
    · intro q hq h2
      rw [f0 q hq] at h2
      by_cases a : q = i
      · subst a
        rw [z2, z3, sni, ne _ (by omega) (by omega), eT q 10 hq (by omega) (by omega) (by omega), I.z 10 (by omega)]
        refine ⟨rfl, rfl, Nat.le_refl 2, fun w hw => ?_⟩
        rw [fpg w hw]
        by_cases c : w = 0
        · rw [if_pos c, c]; exact ⟨fun _ => by omega, fun _ => h0⟩
        · rw [if_neg c]; exact ⟨fun z => absurd rfl z, fun z => by omega⟩
      · rw [if_neg a] at h2
        have r := E.R.dr q hq h2
        rw [fT q 10 hq (by omega) a, fT q 2 hq (by omega) a, fT q 3 hq (by omega) a, snq q hq a]
        refine ⟨r.1, r.2.1, r.2.2.1, fun w hw => ?_⟩
        have := fT q (4 + w) hq (by omega) a
        rw [← Nat.add_assoc] at this
        rw [this]; exact r.2.2.2 w hw
    · intro q hq h2
      rw [f0 q hq] at h2
      by_cases a : q = i
      · rw [if_pos a] at h2; omega
      · rw [if_neg a] at h2
        rw [fT q 2 hq (by omega) a, fT q 3 hq (by omega) a]; exact E.R.fi q hq h2
  have fs : ∀ q l, q < 16 → l < 24 → q ≠ i → qs f q l = qs d q l := by
    intro q l hq hl hn
    apply qs_ext d f q l hl (fun k hk => fT q k hq hk hn)
    intro h2 hl2
    have s := E.R.sa E.B q l hq h2 hl2
    rw [s.1]
    exact fblk q (l / 4) _ hq hn (by omega) (by omega) (by omega)
  have ds : ∀ l, qs d i l = 0 := by
    intro l; unfold qs; rw [if_neg (by omega)]
  have fsi : ∀ l, l < 24 → 2 ≤ l → qs f i l = 0 := by
    intro l hl h2; unfold qs; rw [if_neg (by omega)]
  have cff : cf f 3 9 55 = cf e 3 9 55 := cf_ext e f 3 55 9 (fun c h1 h2 => bt_ext _ _ _ _ (ne _ (by omega) (by omega)))
  have f11 : f 11 = d 11 := by rw [ne _ (by omega) (by omega), N.ne _ (by omega) (by omega) (by omega), I.ne _ (by omega) (by omega)]
  have F := fl_E Ef i 0 i n0 hi fi2 (by omega) hi (by omega)
  generalize fl f i 0 i n0 = a at F ⊢
  have a2 : a (32 + (16 * i)) = 2 := by rw [F.2.1 _ (by omega) (by omega)]; exact fi2
  have sna : sn a i = 2 := by rw [sn_ext f a i (F.2.1 _ (by omega) (by omega)) (F.2.1 _ (by omega) (by omega))]; exact sni
  have H := fl_E F.1 i 1 p n1 hi a2 (by omega) hp (by rw [F.2.1 _ (by omega) (by omega), f0 p hp, if_neg hpi]; omega)
  refine ⟨H.1, ?_, ?_, ?_, ?_, ?_, ?_⟩
  · intro q hq; rw [H.2.1 _ (by omega) (by omega), F.2.1 _ (by omega) (by omega), f0 q hq]
  · intro q hq
    by_cases c : q = i
    · rw [if_pos c, c, H.2.1 _ (by omega) (by omega), F.2.2.1, fi1]
    · rw [if_neg c]
      by_cases c' : q = p
      · rw [if_pos c', c', H.2.2.1, F.2.1 _ (by omega) (by omega), fT p 1 hp (by omega) hpi]
      · rw [if_neg c', H.2.1 _ (by omega) (by omega), F.2.1 _ (by omega) (by omega), fT q 1 hq (by omega) c]
  · intro q k hq h2 hk' hn
    rw [H.2.1 _ (by omega) (by omega), F.2.1 _ (by omega) (by omega), fT q k hq hk' hn]
  · intro q l hq hl
    rw [H.2.2.2.2 q l hq hl, F.2.2.2.2 q l hq hl]
    unfold u2
    by_cases c : q = i ∧ l = 1
    · rw [if_pos c, if_pos c]
    · rw [if_neg c, if_neg c]
      by_cases c' : q = i ∧ l = 0
      · rw [if_pos c', if_pos c']
      · rw [if_neg c', if_neg c']
        by_cases c'' : q = i
        · rw [c'', ds l, fsi l hl (by omega)]
        · exact fs q l hq hl c''
  · have : cf (fl a i 1 p n1) 3 9 55 = cf e 3 9 55 := by
      rw [← cff]
      apply cf_ext
      intro c h1 h2
      apply bt_ext
      rw [H.2.1 _ (by omega) (by omega), F.2.1 _ (by omega) (by omega)]
    rw [this]; exact NC
  · rw [H.2.1 _ (by omega) (by omega), F.2.1 _ (by omega) (by omega), f11]
