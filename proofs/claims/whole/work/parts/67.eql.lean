def eL (g g' : Nat → Nat) : Prop := ∀ x, (∀ i, i < 16 → x ≠ 32 + (16 * i) + 1) → g x = g' x
theorem eL.refl (g : Nat → Nat) : eL g g := fun _ _ => rfl
theorem eL.symm {g g'} (h : eL g g') : eL g' g := fun x hx => (h x hx).symm
theorem eL.trans {a b c : Nat → Nat} (h : eL a b) (k : eL b c) : eL a c := fun x hx => (h x hx).trans (k x hx)
theorem eL.dp {g g'} (h : eL g g') (a v : Nat) : eL (dp g a v) (dp g' a v) := by
  intro x hx
  unfold Jvm.Pilot.@@N@@.dp
  split
  · rfl
  · exact h x hx
theorem eL.cz {g g'} (h : eL g g') (a m : Nat) : eL (cz g a m) (cz g' a m) := by
  intro x hx
  unfold Jvm.Pilot.@@N@@.cz
  split
  · rfl
  · exact h x hx
theorem eL.wn (a : Nat) (nm : Nat → Nat) (n : Nat) : ∀ {g g' : Nat → Nat} (k : Nat), eL g g' → eL (wn a nm g k n) (wn a nm g' k n) := by
  induction n with
  | zero => intro g g' k h; exact h
  | succ n ih => intro g g' k h; exact ih (k + 1) (h.dp _ _)
theorem eL.ldp (g : Nat → Nat) (i v : Nat) (hi : i < 16) : eL (Jvm.Pilot.@@N@@.dp g (32 + (16 * i) + 1) v) g := fun x hx => dp_ne _ _ _ _ (hx i hi)
theorem eL.lal (g : Nat → Nat) (i v : Nat) (hi : i < 16) : eL (al g i v) g := fun x hx => dp_ne _ _ _ _ (hx i hi)
theorem eL.lo {g g'} (h : eL g g') (x : Nat) (hx : x < 32) : g x = g' x := h x (fun i _ => by omega)
theorem eL.hi {g g'} (h : eL g g') (x : Nat) (hx : 288 ≤ x) : g x = g' x := h x (fun i _ => by omega)
theorem eL.T {g g'} (h : eL g g') (j k : Nat) (hk : k < 16) (hn : k ≠ 1) : g (32 + (16 * j) + k) = g' (32 + (16 * j) + k) := h _ (fun i _ => by omega)
theorem eL.bt {g g'} (h : eL g g') (a i : Nat) (ha : a + i / 8 < 32) : bt g a i = bt g' a i := bt_ext _ _ _ _ (h.lo _ ha)
theorem lw_ext (d d' : Nat → Nat) (a n : Nat) : ∀ i, (∀ c, i ≤ c → c < i + n → bt d' a c = bt d a c) → lw d' a i n = lw d a i n := by
  induction n with
  | zero => intro i _; rfl
  | succ n ih =>
    intro i h
    rw [lw, lw, h i (by omega) (by omega), ih (i + 1) (fun c h1 h2 => h c (by omega) (by omega))]
theorem eL.lw {g g'} (h : eL g g') : lw g 3 9 55 = lw g' 3 9 55 := lw_ext _ _ _ _ _ (fun c h1 h2 => h.bt 3 c (by omega))
theorem eL.tb {g g'} (h : eL g g') (a i : Nat) (ha : a + i / 8 < 32) : eL (tb g a i) (tb g' a i) := by
  unfold Jvm.Pilot.@@N@@.tb
  rw [h.lo _ ha]
  exact h.dp _ _
theorem eL.tB {g g'} (h : eL g g') : eL (tB g) (tB g') := by
  unfold Jvm.Pilot.@@N@@.tB tk
  rw [h.lw]
  by_cases a : Jvm.Pilot.@@N@@.lw g' 3 9 55 = 0
  · rw [if_pos a, if_pos a]; exact h
  · rw [if_neg a, if_neg a, if_neg a, if_neg a]
    have L := lw_spec g' 3 55 9 a
    exact (h.tb 3 _ (by omega)).cz _ _
theorem eL.fh6 {g g'} (h : eL g g') (p w : Nat) (hw : w < 6) : eL (fh g p w) (fh g' p w) := by
  unfold fh f1
  rw [if_neg (by omega), if_neg (by omega)]
  unfold f2
  rw [bo_lo _ _ _ hw, bo_lo _ _ _ hw, h.lw]
  have e := h.T p (4 + w) (by omega) (by omega)
  rw [← Nat.add_assoc] at e
  rw [e]
  have e2 : ∀ d : Nat → Nat, eo d p w = some (32 + (16 * p) + 4 + w) := fun d => by unfold eo; rw [if_pos hw]
  by_cases a : g' (32 + (16 * p) + 4 + w) = 0
  · rw [if_pos a, if_pos a, e2, e2]; exact h.tB.dp _ _
  · rw [if_neg a, if_neg a]; exact h
theorem eL.ss {g g'} (h : eL g g') (i v : Nat) : eL (ss g i v) (ss g' i v) := (h.dp _ _).dp _ _
theorem eL.sn {g g'} (h : eL g g') (p : Nat) : sn g p = sn g' p := sn_ext _ _ _ (h.T p 2 (by omega) (by omega)) (h.T p 3 (by omega) (by omega))
theorem eL.sa {g g'} (h : eL g g') (p j : Nat) (hj : j < 24) : sa g p j = sa g' p j := by
  unfold Jvm.Pilot.@@N@@.sa
  have e := h.T p (4 + j / 4) (by omega) (by omega)
  rw [← Nat.add_assoc] at e
  rw [e]
theorem eL.nsl {g g'} (h : eL g g') (E : qE g') (p : Nat) (hp : p < 16) (hk : g' (32 + (16 * p)) = 2) : nsl g p = nsl g' p := by
  have h24 := sn_le g' p
  apply nsl_ext _ _ _ (h.sn p)
  intro l h1 h2
  unfold si
  have s := E.R.sa E.B p l hp hk h2
  rw [h.sa p l (by omega)]
  exact h.hi _ (by rw [s.1]; omega)
theorem eL.a1 {g g'} (h : eL g g') (E : qE g') (p : Nat) (hp : p < 16) (hk : g' (32 + (16 * p)) = 2) (hn : Jvm.Pilot.@@N@@.nsl g' p ≠ 0) : eL (a1 g p) (a1 g' p) := by
  have r := E.R.dr p hp hk
  have ns := nsl_spec g' p r.2.2.1 hn
  unfold Jvm.Pilot.@@N@@.a1
  rw [h.nsl E p hp hk, h.sn p]
  by_cases a : Jvm.Pilot.@@N@@.nsl g' p = Jvm.Pilot.@@N@@.sn g' p
  · rw [if_pos a, if_pos a]; exact (h.fh6 p _ (by omega)).ss _ _
  · rw [if_neg a, if_neg a]; exact h
def rA (d : Nat → Nat) (p v : Nat) (nm : Nat → Nat) : Nat → Nat := wn (sa (a1 d p) p (nsl d p)) nm (dp (a1 d p) (sa (a1 d p) p (nsl d p)) v) 0 7
theorem ad_rA (d : Nat → Nat) (p v : Nat) (nm : Nat → Nat) : ad d p v nm = al (rA d p v nm) v 1 := rfl
theorem eL.rA {g g'} (h : eL g g') (E : qE g') (p v : Nat) (nm : Nat → Nat) (hp : p < 16) (hk : g' (32 + (16 * p)) = 2) (hn : Jvm.Pilot.@@N@@.nsl g' p ≠ 0) : eL (rA g p v nm) (rA g' p v nm) := by
  have r := E.R.dr p hp hk
  have ns := nsl_spec g' p r.2.2.1 hn
  have A := h.a1 E p hp hk hn
  unfold Jvm.Pilot.@@N@@.rA
  rw [h.nsl E p hp hk, A.sa p _ ns.2.1]
  exact eL.wn _ _ _ _ (A.dp _ _)
theorem eL.ext {g g'} (h : eL g g') (hl : ∀ i, i < 16 → g (32 + (16 * i) + 1) = g' (32 + (16 * i) + 1)) : g = g' := by
  funext x
  by_cases a : ∃ i, i < 16 ∧ x = 32 + (16 * i) + 1
  · obtain ⟨i, hi, e⟩ := a
    rw [e]; exact hl i hi
  · exact h x (fun i hi e => a ⟨i, hi, e⟩)
theorem rA_l {d} (E : qE d) (p v : Nat) (nm : Nat → Nat) (hp : p < 16) (hk : d (32 + (16 * p)) = 2) (hn : nsl d p ≠ 0) (hc : bw d p (nsl d p / 4) (nsl d p / 4) ≤ cf d 3 9 55) (q : Nat) (hq : q < 16) :
    rA d p v nm (32 + (16 * q) + 1) = d (32 + (16 * q) + 1) := by
  have W := a1_E E p hp hk hn hc
  have h24 := sn_le (a1 d p) p
  have s := W.E.R.sa W.E.B p (nsl d p) hp (by rw [show a1 d p (32 + (16 * p)) = d (32 + (16 * p)) from W.T p 0 hp (by omega) (by omega)]; exact hk) W.n
  unfold rA
  rw [wn_at _ _ _ _ _ _ (by omega), dp_ne _ _ _ _ (by omega)]
  exact W.T q 1 hq (by omega) (by omega)
theorem qE.lk {g g'} (E : qE g') (h : eL g g') (hd : dk g) (hz : ∀ i, i < 16 → g (32 + (16 * i)) = 0 → g (32 + (16 * i) + 1) = 0) : qE g := by
  have ne : ∀ x, (∀ i, i < 16 → x ≠ 32 + (16 * i) + 1) → g x = g' x := h
  have G := row_ne g' g E.B E.M hd (fun x hx => h x (fun i hi => by omega)) (fun j k hj hk hn => h.T j k hk (by omega))
  refine ⟨G.1, ⟨?_, ?_, ?_⟩, G.2.1⟩
  · intro j k hj hk hz'
    by_cases a : k = 1
    · rw [a]; exact hz j hj hz'
    · rw [h.T j k hk a]
      have e := h.T j 0 (by omega) (by omega)
      simp only [Nat.add_zero] at e
      rw [e] at hz'
      exact E.R.z j k hj hk hz'
  · intro j hj h2
    have e := h.T j 0 (by omega) (by omega)
    simp only [Nat.add_zero] at e
    rw [e] at h2
    have r := E.R.dr j hj h2
    rw [h.T j 10 (by omega) (by omega), h.T j 2 (by omega) (by omega), h.T j 3 (by omega) (by omega), h.sn j]
    refine ⟨r.1, r.2.1, r.2.2.1, fun w hw => ?_⟩
    have := h.T j (4 + w) (by omega) (by omega)
    rw [← Nat.add_assoc] at this
    rw [this]; exact r.2.2.2 w hw
  · intro j hj h2
    have e := h.T j 0 (by omega) (by omega)
    simp only [Nat.add_zero] at e
    rw [e] at h2
    rw [h.T j 2 (by omega) (by omega), h.T j 3 (by omega) (by omega)]; exact E.R.fi j hj h2
theorem eL.cf {g g'} (h : eL g g') : cf g 3 9 55 = cf g' 3 9 55 := cf_ext _ _ _ _ _ (fun c h1 h2 => h.bt 3 c (by omega))
theorem eL.bw {g g'} (h : eL g g') (p w : Nat) (hw : w < 6) : bw g p w w = bw g' p w w := by
  rw [bw_dir _ _ _ hw, bw_dir _ _ _ hw, bo_lo _ _ _ hw, bo_lo _ _ _ hw]
  have := h.T p (4 + w) (by omega) (by omega)
  rw [← Nat.add_assoc] at this
  rw [this]
theorem e_create {d} (V : qV d) (h1 : d 11 = 1) (p : Nat) (nm : Nat → Nat) (hp : p < 16) (hk : d (32 + (16 * p)) = 2) (hi : lw d 1 1 15 ≠ 0) (hh : hr d p 0 = true) :
    rA (dp (ti d 1) (32 + (16 * (lw d 1 1 15)) + 1) 1) p (lw d 1 1 15) nm = ad (ti d 1) p (lw d 1 1 15) nm := by
  have E := V.E h1
  have I := ti_E E 1 (Or.inl rfl) hi
  have F := ti_file E _ I
  have hh' := hr_spec d p 0 hh
  generalize lw d 1 1 15 = i at I hi ⊢
  have ri := I.ri
  have k0 := I.z 0 (by omega)
  simp only [Nat.add_zero] at k0
  have hpi : p ≠ i := by intro z; rw [z] at hk; omega
  generalize ti d 1 = g at I F ⊢
  have gp : g (32 + (16 * p)) = 2 := by rw [I.ne _ (by omega) (by omega)]; exact hk
  have en : nsl g p = nsl d p := nsl_same d g p (I.sn p hp) hk gp (fun l hl => F.2 p l hp hl)
  have r := E.R.dr p hp hk
  have ns := nsl_spec d p r.2.2.1 hh'.1
  have hn : nsl g p ≠ 0 := by rw [en]; exact hh'.1
  have eb : bw g p (nsl d p / 4) (nsl d p / 4) = bw d p (nsl d p / 4) (nsl d p / 4) := by
    rw [bw_dir _ _ _ (by omega), bw_dir _ _ _ (by omega), bo_lo _ _ _ (by omega), bo_lo _ _ _ (by omega), I.ne _ (by omega) (by omega)]
  have hc : bw g p (nsl g p / 4) (nsl g p / 4) ≤ cf g 3 9 55 := by rw [en, eb, I.cf]; omega
  have h := eL.ldp g i 1 ri.2
  have lat : dp g (32 + (16 * i) + 1) 1 (32 + (16 * i) + 1) = 1 := by rw [dp_at _ _ _ (by omega)]
  have lne : ∀ q, q < 16 → q ≠ i → dp g (32 + (16 * i) + 1) 1 (32 + (16 * q) + 1) = g (32 + (16 * q) + 1) := fun q hq hn => dp_ne _ _ _ _ (by omega)
  have hdk : dk (dp g (32 + (16 * i) + 1) 1) := dk_dp _ F.1.B.dk _ _
  generalize dp g (32 + (16 * i) + 1) 1 = g' at h lat lne hdk ⊢
  have E' := F.1.lk h hdk (fun q hq hz => by
    have e := h.T q 0 (by omega) (by omega)
    simp only [Nat.add_zero] at e
    rw [e] at hz
    have : q ≠ i := by intro z; rw [z, I.at_] at hz; omega
    rw [lne q hq this]; exact F.1.R.z q 1 hq (by omega) hz)
  have h' := h.rA F.1 p i nm hp gp hn
  have ep := h.T p 0 (by omega) (by omega)
  simp only [Nat.add_zero] at ep
  have en' := h.nsl F.1 p hp gp
  have hl' : ∀ q, q < 16 → rA g' p i nm (32 + (16 * q) + 1) = g' (32 + (16 * q) + 1) := fun q hq =>
    rA_l E' p i nm hp (by rw [ep]; exact gp) (by rw [en']; exact hn) (by rw [en', h.cf, h.bw _ _ (by rw [en]; omega)]; exact hc) q hq
  have hl := fun q hq => rA_l F.1 p i nm hp gp hn hc q hq
  rw [ad_rA]
  apply (h'.trans (eL.lal _ i 1 ri.2).symm).ext
  intro q hq
  rw [hl' q hq]
  by_cases a : q = i
  · rw [a, lat, al_at _ _ _ ri.2, hl i ri.2, I.ne _ (by omega) (by omega), I.z 1 (by omega)]
  · rw [lne q hq a, al_ne _ _ _ _ (by omega), hl q hq]
theorem wn_in (a : Nat) (nm : Nat → Nat) (n : Nat) : ∀ (d : Nat → Nat) (k x : Nat), a + 1 + k + n ≤ 2048 → a + 1 + k ≤ x → x < a + 1 + k + n → wn a nm d k n x = nm (x - a - 1) % 256 := by
  induction n with
  | zero => intro d k x _ h1 h2; omega
  | succ n ih =>
    intro d k x h h1 h2
    rw [wn]
    by_cases e : x = a + 1 + k
    · rw [wn_at _ _ _ _ _ _ (by omega), e, dp_at _ _ _ (by omega), show a + 1 + k - a - 1 = k by omega]
    · exact ih _ _ _ (by omega) (by omega) (by omega)
theorem dp5 (f : Nat → Nat) (a i p x : Nat) (h : a + 32 ≤ 2048) : (dp (dp (dp (dp (dp f a i) (a + 1) 46) (a + 8) p) (a + 9) 46) (a + 10) 46) x =
    if x = a then i % 256 else if x = a + 1 then 46 else if x = a + 8 then p % 256 else if x = a + 9 then 46 else if x = a + 10 then 46 else f x := by
  grind [dp]
def rF (d : Nat → Nat) (i p : Nat) : Nat → Nat :=
  dp (dp (dp (dp (dp (ss (fh d i 0) i 16) (sa (ss (fh d i 0) i 16) i 0) i) (sa (ss (fh d i 0) i 16) i 0 + 1) 46) (sa (ss (fh d i 0) i 16) i 0 + 8) p) (sa (ss (fh d i 0) i 16) i 0 + 9) 46) (sa (ss (fh d i 0) i 16) i 0 + 10) 46
theorem eL.rF {g g'} (h : eL g g') (i p : Nat) : eL (rF g i p) (rF g' i p) := by
  have A := (h.fh6 i 0 (by omega)).ss i 16
  unfold Jvm.Pilot.@@N@@.rF
  rw [A.sa i 0 (by omega)]
  exact ((((A.dp _ _).dp _ _).dp _ _).dp _ _).dp _ _
theorem rF_sd {d g} (E : qE d) (i p : Nat) (I : qTi d g i 2) (hp : p < 16) (hc : 1 ≤ cf d 3 9 55) : eL (rF g i p) (sd g i p) ∧ ∀ q, q < 16 → rF g i p (32 + (16 * q) + 1) = g (32 + (16 * q) + 1) := by
  have ri := I.ri
  have hi : i < 16 := ri.2
  have h4 : g (32 + (16 * i) + 4 + 0) = 0 := by
    rw [I.ne _ (by omega) (by omega)]; exact I.z 4 (by omega)
  have h0 := lw_cf g (by rw [I.cf]; exact hc)
  have N := alloc I.B I.M _ rfl h0 i 0 hi (by omega) (by rw [qb_lo _ _ _ (by omega)]; exact h4) (Or.inl (by omega))
  have e0 : ea g i 0 = 32 + (16 * i) + 4 := by unfold ea; rw [if_pos (by omega)]
  have e1 : fh g i 0 = dp (tB g) (ea g i 0) (lw g 3 9 55) := by
    unfold fh f1
    rw [if_neg (by omega)]
    unfold f2
    rw [bo_lo g i _ (by omega), if_pos h4, eo_ea g i _ (by omega) (Or.inl (by omega))]
    rfl
  rw [← e1] at N
  have nb := N.qb i 0 hi (by omega)
  rw [if_pos ⟨rfl, rfl⟩, qb_lo _ _ _ (by omega)] at nb
  have rb := N.rb
  unfold rF sd
  generalize fh g i 0 = e at N nb ⊢
  generalize lw g 3 9 55 = b at N nb rb h0
  have ne : ∀ x, x ≠ 32 + (16 * i) + 2 → x ≠ 32 + (16 * i) + 3 → ss e i 16 x = e x := by
    intro x h1 h2; rw [ss_at _ _ _ _ hi, if_neg h2, if_neg h1]
  generalize ss e i 16 = f at ne ⊢
  have fa : sa f i 0 = b * 32 := by
    unfold sa
    rw [ne _ (by omega) (by omega)]
    show e (32 + (16 * i) + 4 + 0) * 32 + 0 = b * 32
    rw [nb, Nat.add_zero]
  have fz : ∀ x, b * 32 ≤ x → x < b * 32 + 32 → f x = 0 := fun x h1 h2 => by rw [ne _ (by omega) (by omega)]; exact N.z x h1 h2
  have fl1 : ∀ q, q < 16 → f (32 + (16 * q) + 1) = g (32 + (16 * q) + 1) := fun q hq => by
    rw [ne _ (by omega) (by omega), N.ne _ (by omega) (by omega) (by omega)]
  have f4 : f (32 + (16 * i) + 4) = b := by rw [ne _ (by omega) (by omega)]; exact nb
  have ga : sa (fl f i 0 i n0) i 1 = b * 32 + 8 := by
    have : fl f i 0 i n0 (32 + (16 * i) + 4) = b := by
      unfold fl
      rw [al_ne _ _ _ _ (by omega), fa, wn_at _ _ _ _ _ _ (by omega), dp_ne _ _ _ _ (by omega)]; exact f4
    unfold sa
    show fl f i 0 i n0 (32 + (16 * i) + 4) * 32 + 8 = b * 32 + 8
    rw [this]
  rw [fa]
  refine ⟨?_, ?_⟩
  · intro x hx
    have hr : fl (fl f i 0 i n0) i 1 p n1 x = wn (b * 32 + 8) n1 (dp (wn (b * 32) n0 (dp f (b * 32) i) 0 7) (b * 32 + 8) p) 0 7 x := by
      have s1 : fl (fl f i 0 i n0) i 1 p n1 = al (wn (b * 32 + 8) n1 (dp (fl f i 0 i n0) (b * 32 + 8) p) 0 7) p 1 := by
        rw [show fl (fl f i 0 i n0) i 1 p n1 = al (wn (sa (fl f i 0 i n0) i 1) n1 (dp (fl f i 0 i n0) (sa (fl f i 0 i n0) i 1) p) 0 7) p 1 from rfl, ga]
      have s2 : fl f i 0 i n0 = al (wn (b * 32) n0 (dp f (b * 32) i) 0 7) i 1 := by
        rw [show fl f i 0 i n0 = al (wn (sa f i 0) n0 (dp f (sa f i 0) i) 0 7) i 1 from rfl, fa]
      rw [s1, al_ne _ _ _ _ (hx p hp), s2]
      exact (eL.wn _ _ _ _ ((eL.lal (wn (b * 32) n0 (dp f (b * 32) i) 0 7) i 1 hi).dp _ _)) x hx
    rw [hr]
    rw [dp5 _ _ _ _ _ (by omega)]
    by_cases c : b * 32 + 9 ≤ x ∧ x < b * 32 + 16
    · rw [wn_in _ _ _ _ _ _ (by omega) (by omega) (by omega), fz x (by omega) (by omega)]
      unfold n1
      rw [if_neg (by omega), if_neg (by omega), if_neg (by omega)]
      by_cases z0 : x = b * 32 + 9
      · rw [if_pos z0, if_pos (by omega)]
      · by_cases z1 : x = b * 32 + 10
        · rw [if_neg z0, if_pos z1, if_neg (by omega), if_pos (by omega)]
        · rw [if_neg z0, if_neg z1, if_neg (by omega), if_neg (by omega)]
    · rw [wn_at _ _ _ _ _ _ (by omega)]
      by_cases c8 : x = b * 32 + 8
      · rw [if_neg (by omega), if_neg (by omega), if_pos c8, c8, dp_at _ _ _ (by omega)]
      · have e8 : dp (wn (b * 32) n0 (dp f (b * 32) i) 0 7) (b * 32 + 8) p x = wn (b * 32) n0 (dp f (b * 32) i) 0 7 x := dp_ne _ _ _ _ c8
        rw [e8]
        by_cases c1 : b * 32 + 1 ≤ x ∧ x < b * 32 + 8
        · rw [wn_in _ _ _ _ _ _ (by omega) (by omega) (by omega), if_neg (by omega)]
          unfold n0
          by_cases z : x = b * 32 + 1
          · rw [if_pos z, if_pos (by omega)]
          · rw [if_neg z, if_neg (by omega), if_neg (by omega), if_neg (by omega), if_neg (by omega), fz x (by omega) (by omega)]
        · rw [wn_at _ _ _ _ _ _ (by omega)]
          by_cases z : x = b * 32
          · rw [if_pos z, z, dp_at _ _ _ (by omega)]
          · rw [if_neg z, if_neg (by omega), if_neg (by omega), if_neg (by omega), if_neg (by omega), dp_ne _ _ _ _ z]
  · intro q hq
    rw [dp5 _ _ _ _ _ (by omega), if_neg (by omega), if_neg (by omega), if_neg (by omega), if_neg (by omega), if_neg (by omega)]
    exact fl1 q hq
theorem e_mkdir {d} (V : qV d) (h1 : d 11 = 1) (p : Nat) (nm : Nat → Nat) (hp : p < 16) (hk : d (32 + (16 * p)) = 2) (hi : lw d 1 1 15 ≠ 0) (hh : hr d p 1 = true) :
    al (rA (rF (dp (ti d 2) (32 + (16 * (lw d 1 1 15)) + 1) 2) (lw d 1 1 15) p) p (lw d 1 1 15) nm) p 1 = ad (sd (ti d 2) (lw d 1 1 15) p) p (lw d 1 1 15) nm ∧
    rA (rF (dp (ti d 2) (32 + (16 * (lw d 1 1 15)) + 1) 2) (lw d 1 1 15) p) p (lw d 1 1 15) nm (32 + (16 * p) + 1) = d (32 + (16 * p) + 1) ∧
    qE (rF (dp (ti d 2) (32 + (16 * (lw d 1 1 15)) + 1) 2) (lw d 1 1 15) p) ∧ rF (dp (ti d 2) (32 + (16 * (lw d 1 1 15)) + 1) 2) (lw d 1 1 15) p (32 + (16 * p)) = 2 ∧
    nsl (rF (dp (ti d 2) (32 + (16 * (lw d 1 1 15)) + 1) 2) (lw d 1 1 15) p) p = nsl d p ∧
    bw (rF (dp (ti d 2) (32 + (16 * (lw d 1 1 15)) + 1) 2) (lw d 1 1 15) p) p (nsl d p / 4) (nsl d p / 4) ≤ cf (rF (dp (ti d 2) (32 + (16 * (lw d 1 1 15)) + 1) 2) (lw d 1 1 15) p) 3 9 55 := by
  have E := V.E h1
  have I := ti_E E 2 (Or.inr rfl) hi
  have hh' := hr_spec d p 1 hh
  generalize lw d 1 1 15 = i at I hi ⊢
  have ri := I.ri
  have k0 := I.z 0 (by omega)
  simp only [Nat.add_zero] at k0
  have hpi : p ≠ i := by intro z; rw [z] at hk; omega
  generalize ti d 2 = g at I ⊢
  have F := sd_E E i p I hp hk (by omega)
  have fcf := F.cf
  have X := rF_sd E i p I hp (by omega)
  have h := eL.ldp g i 2 ri.2
  have lat : dp g (32 + (16 * i) + 1) 2 (32 + (16 * i) + 1) = 2 := by rw [dp_at _ _ _ (by omega)]
  have lne : ∀ q, q < 16 → q ≠ i → dp g (32 + (16 * i) + 1) 2 (32 + (16 * q) + 1) = g (32 + (16 * q) + 1) := fun q hq hn => dp_ne _ _ _ _ (by omega)
  have hdk : dk (dp g (32 + (16 * i) + 1) 2) := dk_dp _ I.B.dk _ _
  generalize dp g (32 + (16 * i) + 1) 2 = g' at h lat lne hdk ⊢
  have hX : eL (rF g' i p) (sd g i p) := (h.rF i p).trans X.1
  have hXl : ∀ q, q < 16 → rF g' i p (32 + (16 * q) + 1) = g' (32 + (16 * q) + 1) := by
    intro q hq
    have h4 : g' (32 + (16 * i) + 4 + 0) = 0 := by
      have := h.T i 4 (by omega) (by omega)
      rw [show 32 + (16 * i) + 4 + 0 = 32 + (16 * i) + 4 by omega, this, I.ne _ (by omega) (by omega)]; exact I.z 4 (by omega)
    have h0 : lw g' 3 9 55 ≠ 0 := by rw [h.lw]; exact lw_cf g (by rw [I.cf]; omega)
    have L := lw_spec g' 3 55 9 h0
    have e1 : fh g' i 0 = dp (tB g') (32 + (16 * i) + 4) (lw g' 3 9 55) := by
      unfold fh f1
      rw [if_neg (by omega)]
      unfold f2
      rw [bo_lo g' i _ (by omega), if_pos h4, eo_ea g' i _ (by omega) (Or.inl (by omega))]
      have : ea g' i 0 = 32 + (16 * i) + 4 := by unfold ea; rw [if_pos (by omega)]
      rw [this]; rfl
    have e2 : tB g' (32 + (16 * q) + 1) = g' (32 + (16 * q) + 1) := by
      unfold tB tk
      rw [if_neg h0, if_neg h0, cz_ne _ _ _ _ (by omega), tb_ne _ _ _ _ (by omega)]
    have e3 : ss (fh g' i 0) i 16 (32 + (16 * q) + 1) = g' (32 + (16 * q) + 1) := by
      rw [ss_at _ _ _ _ ri.2, if_neg (by omega), if_neg (by omega), e1, dp_ne _ _ _ _ (by omega), e2]
    have e4 : sa (ss (fh g' i 0) i 16) i 0 = lw g' 3 9 55 * 32 := by
      unfold sa
      rw [ss_at _ _ _ _ ri.2, if_neg (by omega), if_neg (by omega), e1]
      show dp (tB g') (32 + (16 * i) + 4) (lw g' 3 9 55) (32 + (16 * i) + 4) * 32 + 0 = lw g' 3 9 55 * 32
      rw [dp_at _ _ _ (by omega)]; omega
    unfold rF
    rw [e4, dp_ne _ _ _ _ (by omega), dp_ne _ _ _ _ (by omega), dp_ne _ _ _ _ (by omega), dp_ne _ _ _ _ (by omega), dp_ne _ _ _ _ (by omega)]
    exact e3
  generalize sd g i p = f at F fcf X hX ⊢
  have hXk : ∀ q, q < 16 → rF g' i p (32 + (16 * q)) = f (32 + (16 * q)) := fun q hq => hX.T q 0 (by omega) (by omega)
  have hXd : dk (rF g' i p) := dk_dp _ (dk_dp _ (dk_dp _ (dk_dp _ (dk_dp _ (dk_dp _ (dk_dp _ (dk_fh _ hdk _ _) _ _) _ _) _ _) _ _) _ _) _ _) _ _
  generalize rF g' i p = r' at hX hXl hXk hXd ⊢
  have gp : f (32 + (16 * p)) = 2 := by rw [F.k p hp, if_neg hpi]; exact hk
  have es : ∀ l, l < 24 → qs f p l = qs d p l := by
    intro l hl
    rw [F.s p l hp hl]
    unfold u2
    rw [if_neg (fun z => hpi z.1), if_neg (fun z => hpi z.1)]
  have esn : sn f p = sn d p := sn_ext d f p (F.T p 2 hp (by omega) (by omega) hpi) (F.T p 3 hp (by omega) (by omega) hpi)
  have en : nsl f p = nsl d p := nsl_same d f p esn hk gp es
  have r := E.R.dr p hp hk
  have ns := nsl_spec d p r.2.2.1 hh'.1
  have eb : bw f p (nsl d p / 4) (nsl d p / 4) = bw d p (nsl d p / 4) (nsl d p / 4) := by
    rw [bw_dir _ _ _ (by omega), bw_dir _ _ _ (by omega), bo_lo _ _ _ (by omega), bo_lo _ _ _ (by omega)]
    have := F.T p (4 + nsl d p / 4) hp (by omega) (by omega) hpi
    rw [← Nat.add_assoc] at this
    rw [this]
  have hn : nsl f p ≠ 0 := by rw [en]; exact hh'.1
  have hc : bw f p (nsl f p / 4) (nsl f p / 4) ≤ cf f 3 9 55 := by rw [en, eb]; omega
  have gl : ∀ q, q < 16 → q ≠ i → g (32 + (16 * q) + 1) = d (32 + (16 * q) + 1) := fun q hq hn => I.ne _ (by omega) (by omega)
  have E' : qE r' := F.E.lk hX hXd (fun q hq hz => by
    rw [hXk q hq, F.k q hq] at hz
    have qi : q ≠ i := by intro z; rw [if_pos z] at hz; omega
    rw [if_neg qi] at hz
    rw [hXl q hq, lne q hq qi, gl q hq qi]; exact E.R.z q 1 hq (by omega) hz)
  have en' := hX.nsl F.E p hp gp
  have kp' : r' (32 + (16 * p)) = 2 := by rw [hXk p hp]; exact gp
  have hn' : nsl r' p ≠ 0 := by rw [en']; exact hn
  have hc' : bw r' p (nsl r' p / 4) (nsl r' p / 4) ≤ cf r' 3 9 55 := by rw [en', hX.cf, hX.bw _ _ (by rw [en]; omega)]; exact hc
  have hl' := fun q hq => rA_l E' p i nm hp kp' hn' hc' q hq
  have hl := fun q hq => rA_l F.E p i nm hp gp hn hc q hq
  have h'' := hX.rA F.E p i nm hp gp hn
  refine ⟨?_, ?_, E', kp', by rw [en', en], by rw [en', en] at hc'; exact hc'⟩
  · rw [ad_rA]
    apply ((eL.lal _ p 1 hp).trans (h''.trans (eL.lal _ i 1 ri.2).symm)).ext
    intro q hq
    by_cases a : q = i
    · rw [a, al_ne _ _ _ _ (by omega), hl' i ri.2, hXl i ri.2, lat, al_at _ _ _ ri.2, hl i ri.2, F.l i ri.2, if_pos rfl]
    · rw [al_ne (rA f p i nm) _ _ _ (by omega), hl q hq, F.l q hq, if_neg a]
      by_cases c : q = p
      · rw [if_pos c, c, al_at _ _ _ hp, hl' p hp, hXl p hp, lne p hp hpi, gl p hp hpi]
      · rw [if_neg c, al_ne _ _ _ _ (by omega), hl' q hq, hXl q hq, lne q hq a, gl q hq a]
  · rw [hl' p hp, hXl p hp, lne p hp hpi, gl p hp hpi]
theorem e_unlink (d : Nat → Nat) (E : qE d) (p j f : Nat) (hp : p < 16) (hk : d (32 + (16 * p)) = 2) (hj : j < sn d p) (hs : si d p j = f) (hf : f < 16) : al (cz d (sa d p j) 8) f 4294967295 = fr_ d p j := by
  have s := E.R.sa E.B p j hp hk hj
  unfold fr_
  rw [hs]
  funext x
  by_cases a : x = 32 + (16 * f) + 1
  · rw [a, al_at _ _ _ hf, cz_ne _ _ _ _ (by omega), cz_ne _ _ _ _ (by omega), al_at _ _ _ hf]
  · rw [al_ne _ _ _ _ a]
    by_cases b : sa d p j ≤ x ∧ x < sa d p j + 8
    · rw [cz_in _ _ _ _ b, cz_in _ _ _ _ b]
    · rw [cz_ne _ _ _ _ b, cz_ne _ _ _ _ b, al_ne _ _ _ _ a]
theorem eL.gb7 {g g'} (h : eL g g') (b : Nat) : eL (gb_7 g b) (gb_7 g' b) := by
  unfold gb_7
  by_cases a : 9 ≤ b ∧ b < 64
  · rw [h.bt 3 b (by omega)]
    split
    · exact h.tb 3 b (by omega)
    · exact h
  · rw [if_neg (fun z => a z.1), if_neg (fun z => a z.1)]; exact h
theorem eL.eo {g g'} (h : eL g g') (i w : Nat) : eo g i w = eo g' i w := by
  unfold Jvm.Pilot.@@N@@.eo
  rw [h.T i 10 (by omega) (by omega)]
theorem eL.bo {g g'} (h : eL g g') (B : qB g') (i w : Nat) (hi : i < 16) (hw : w < 38) : bo g i w = bo g' i w := by
  unfold Jvm.Pilot.@@N@@.bo
  rw [h.eo i w]
  unfold Jvm.Pilot.@@N@@.eo
  by_cases a : w < 6
  · rw [if_pos a]
    have := h.T i (4 + w) (by omega) (by omega)
    rw [← Nat.add_assoc] at this
    exact this
  · rw [if_neg a]
    by_cases b : g' (32 + (16 * i) + 10) = 0
    · rw [if_pos b]; rfl
    · rw [if_neg b]
      have := B.b1 i 38 hi (by omega)
      rw [qb_ix] at this
      exact h.hi _ (by omega)
theorem eL.op {g g'} (h : eL g g') (e : Option Nat) (v : Nat) : eL (op g e v) (op g' e v) := by
  cases e with
  | none => exact h
  | some e => exact h.dp _ _
theorem eL.d1 {g g'} (h : eL g g') (B : qB g') (i w : Nat) (hi : i < 16) (hw : w < 38) : eL (d1 g i w) (d1 g' i w) := by
  unfold Jvm.Pilot.@@N@@.d1
  rw [h.bo B i w hi hw, h.eo i w]
  exact (h.gb7 _).op _ _
theorem eL.dl (i : Nat) (hi : i < 16) (n : Nat) : ∀ {g g' : Nat → Nat} (w : Nat), eL g g' → qB g' → (∀ i w, i < 16 → w ≤ 38 → qb g' i w ≠ 0 → Jvm.Pilot.@@N@@.bt g' 3 (qb g' i w) = true) → w + n ≤ 38 → eL (dl i g w n) (dl i g' w n) := by
  induction n with
  | zero => intro g g' w h _ _ _; exact h
  | succ n ih =>
    intro g g' w h B c2 hw
    rw [Jvm.Pilot.@@N@@.dl, Jvm.Pilot.@@N@@.dl]
    have D := (dl_drop i hi 1 g' w B c2 (by omega)).1
    rw [Jvm.Pilot.@@N@@.dl, Jvm.Pilot.@@N@@.dl] at D
    exact ih (w + 1) (h.d1 B i w hi (by omega)) D.B D.c2 (by omega)
theorem eL.sp {g g'} (h : eL g g') (B : qB g') (i : Nat) (hi : i < 16) (n : Nat) : ∀ w, w + n ≤ 38 → sp g i w n = sp g' i w n := by
  induction n with
  | zero => intro w _; rfl
  | succ n ih =>
    intro w hw
    rw [Jvm.Pilot.@@N@@.sp, Jvm.Pilot.@@N@@.sp, h.bo B i w hi (by omega), ih (w + 1) (by omega)]
theorem eL.dr {g g'} (h : eL g g') (B : qB g') (c2 : ∀ i w, i < 16 → w ≤ 38 → qb g' i w ≠ 0 → Jvm.Pilot.@@N@@.bt g' 3 (qb g' i w) = true) (i u : Nat) (hi : i < 16) (hu : u ≤ 38) : eL (dr g i u) (dr g' i u) := by
  have A := eL.dl i hi (38 - u) u h B c2 (by omega)
  have D := (dl_drop i hi (38 - u) g' u B c2 (by omega)).1
  unfold Jvm.Pilot.@@N@@.dr
  generalize Jvm.Pilot.@@N@@.dl i g u (38 - u) = e at A ⊢
  generalize Jvm.Pilot.@@N@@.dl i g' u (38 - u) = e' at A D ⊢
  unfold d2
  rw [A.sp D.B i hi 32 6 (by omega), A.T i 10 (by omega) (by omega)]
  split
  · exact A
  · exact (A.gb7 _).dp _ _
theorem e_gi {g g' : Nat → Nat} {i : Nat} (h : ∀ x, x ≠ 32 + (16 * i) + 1 → g x = g' x) (B : qB g') (c2 : ∀ i w, i < 16 → w ≤ 38 → qb g' i w ≠ 0 → bt g' 3 (qb g' i w) = true) (B' : qB g) (c2' : ∀ i w, i < 16 → w ≤ 38 → qb g i w ≠ 0 → bt g 3 (qb g i w) = true) (hi : i < 16) : gi g i = gi g' i := by
  have hL : eL g g' := fun x hx => h x (hx i hi)
  have A := hL.dr B c2 i 0 hi (by omega)
  have D := (dr_drop B c2 i 0 hi (by omega)).1
  have D' := (dr_drop B' c2' i 0 hi (by omega)).1
  unfold gi
  have e : cz (dr g i 0) (32 + (16 * i)) 16 = cz (dr g' i 0) (32 + (16 * i)) 16 := by
    apply (A.cz _ _).ext
    intro q hq
    by_cases a : q = i
    · rw [a, cz_in _ _ _ _ (by omega), cz_in _ _ _ _ (by omega)]
    · rw [cz_ne _ _ _ _ (by omega), cz_ne _ _ _ _ (by omega), D.T q 1 hq (by omega) (by omega), D'.T q 1 hq (by omega) (by omega)]
      exact h _ (by omega)
  rw [e]
theorem cz_slot {d} (E : qE d) (p j : Nat) (hp : p < 16) (hk : d (32 + (16 * p)) = 2) (hj : j < sn d p) :
    qE (cz d (sa d p j) 8) ∧ (∀ x, x < 288 → cz d (sa d p j) 8 x = d x) ∧ (∀ q l, q < 16 → l < 24 → qs (cz d (sa d p j) 8) q l = if q = p ∧ l = j then 0 else qs d q l) := by
  have W := slot_w (d' := cz d (sa d p j) 8) E p j hp hk hj (dk_cz _ E.B.dk _ _) (fun x hx => cz_ne _ _ _ _ hx)
  refine ⟨W.1, W.2.1, fun q l hq hl => ?_⟩
  rw [W.2.2.2 q l hq hl, cz_in _ _ _ _ (by omega)]
theorem e_rmdir {d} (V : qV d) (h1 : d 11 = 1) (p j i : Nat) (hp : p < 16) (hk : d (32 + (16 * p)) = 2) (h2 : 2 ≤ j) (hj : j < sn d p) (hs : si d p j = i) (hi : i < 16) (hki : d (32 + (16 * i)) = 2) :
    gi (al (cz d (sa d p j) 8) p 4294967295) i = gi (al (fr_ d p j) p 4294967295) i ∧ cz d (sa d p j) 8 (32 + (16 * p) + 1) = d (32 + (16 * p) + 1) ∧ 1 ≤ d (32 + (16 * p) + 1) ∧ qE (al (cz d (sa d p j) 8) p 4294967295) := by
  have E := V.E h1
  have C := cz_slot E p j hp hk hj
  have ck : ∀ q, q < 16 → cz d (sa d p j) 8 (32 + (16 * q)) = d (32 + (16 * q)) := fun q hq => C.2.1 _ (by omega)
  have eU := e_unlink d E p j i hp hk hj hs hi
  have A := al_E C.1 p 4294967295 hp (by rw [ck p hp]; omega)
  have A2 := al_E C.1 i 4294967295 hi (by rw [ck i hi]; omega)
  have hpar : 1 ≤ ct (qs d) p := by
    have hq : qs d p j = i := by rw [qs_si d p j hk hj]; exact hs
    have h24 := sn_le d p
    have := V.T.par i p j hp h2 (by omega) hq (by rw [qk_lt d i hi]; exact hki)
    have c := ct_one (qs d) i 1 hi (by omega)
    rw [this] at c; exact c
  refine ⟨?_, C.2.1 _ (by omega), by rw [V.L h1 p hp (by omega)]; exact hpar, A.1⟩
  rw [← eU]
  have A3 := al_E A2.1 p 4294967295 hp (by rw [al_ne _ _ _ _ (by omega), ck p hp]; omega)
  by_cases z : p = i
  · apply e_gi _ A3.1.B A3.1.M.c2 A.1.B A.1.M.c2 hi
    intro x hx
    rw [z, al_ne _ _ _ _ hx, al_ne _ _ _ _ hx, al_ne _ _ _ _ hx]
  · apply e_gi _ A3.1.B A3.1.M.c2 A.1.B A.1.M.c2 hi
    intro x hx
    by_cases y : x = 32 + (16 * p) + 1
    · rw [y, al_at _ _ _ hp, al_at _ _ _ hp, al_ne _ _ _ _ (by omega)]
    · rw [al_ne _ _ _ _ y, al_ne _ _ _ _ y, al_ne _ _ _ _ hx]
theorem al_back (R : Nat → Nat) (i : Nat) (hb : ∀ x, R x < 256) : al (al R i 1) i 4294967295 = R := by
  funext x
  by_cases a : x = 32 + (16 * i) + 1
  · have := hb x
    by_cases b : 32 + (16 * i) + 1 < 2048
    · rw [a, show al (al R i 1) i 4294967295 (32 + (16 * i) + 1) = (al R i 1 (32 + (16 * i) + 1) + 4294967295) % 256 from dp_at _ _ _ b, show al R i 1 (32 + (16 * i) + 1) = (R (32 + (16 * i) + 1) + 1) % 256 from dp_at _ _ _ b]
      rw [a] at this; omega
    · unfold al dp
      rw [if_neg (fun z => b z.2), if_neg (fun z => b z.2)]
  · rw [al_ne _ _ _ _ a, al_ne _ _ _ _ a]
theorem e_rename {d} (V : qV d) (h1 : d 11 = 1) (p p0 j0 i : Nat) (nm : Nat → Nat) (hp : p < 16) (hk : d (32 + (16 * p)) = 2) (hh : hr d p 0 = true)
    (hp0 : p0 < 16) (hk0 : d (32 + (16 * p0)) = 2) (h20 : 2 ≤ j0) (hj0 : j0 < sn d p0) (hs0 : si d p0 j0 = i) (hi : i < 16) (hki : d (32 + (16 * i)) = 1 ∨ d (32 + (16 * i)) = 2) :
    fr_ (ad d p i nm) p0 j0 = cz (rA d p i nm) (sa (rA d p i nm) p0 j0) 8 ∧ sa (rA d p i nm) p0 j0 + 8 ≤ 2048 ∧ 288 ≤ sa (rA d p i nm) p0 j0 ∧
    (∀ q, q < 16 → cz (rA d p i nm) (sa (rA d p i nm) p0 j0) 8 (32 + (16 * q)) = d (32 + (16 * q))) ∧
    (d (32 + (16 * i)) = 2 → 288 ≤ sa (cz (rA d p i nm) (sa (rA d p i nm) p0 j0) 8) i 1 ∧ sa (cz (rA d p i nm) (sa (rA d p i nm) p0 j0) 8) i 1 < 2048 ∧
      pu (fr_ (ad d p i nm) p0 j0) i p = al (al (dp (cz (rA d p i nm) (sa (rA d p i nm) p0 j0) 8) (sa (cz (rA d p i nm) (sa (rA d p i nm) p0 j0) 8) i 1) p) p0 4294967295) p 1 ∧
      1 ≤ dp (cz (rA d p i nm) (sa (rA d p i nm) p0 j0) 8) (sa (cz (rA d p i nm) (sa (rA d p i nm) p0 j0) 8) i 1) p (32 + (16 * p0) + 1) ∧
      al (dp (cz (rA d p i nm) (sa (rA d p i nm) p0 j0) 8) (sa (cz (rA d p i nm) (sa (rA d p i nm) p0 j0) 8) i 1) p) p0 4294967295 (32 + (16 * p) + 1) < 255) := by
  have E := V.E h1
  have hh' := hr_spec d p 0 hh
  have r := E.R.dr p hp hk
  have ns := nsl_spec d p r.2.2.1 hh'.1
  have h24 := sn_le d p0
  have hq0 : qs d p0 j0 = i := by rw [qs_si d p0 j0 hk0 hj0]; exact hs0
  have i0 : i ≠ 0 := by intro z; rw [z] at hki; have := V.k00; omega
  have hne : ¬ (p0 = p ∧ j0 = nsl d p) := by
    rintro ⟨a, b⟩
    have := ns.2.2.2
    rw [← a] at this
    rw [← a] at b
    rw [← b, hq0] at this; omega
  have A := ad_E E p i nm hp hk hi (by omega) hh'.1 (by omega)
  have hRl := fun q hq => rA_l E p i nm hp hk hh'.1 (by omega) q hq
  have hRd : dk (rA d p i nm) := by
    have W := a1_E E p hp hk hh'.1 (by omega)
    exact dk_wn _ _ _ _ _ (dk_dp _ W.E.B.dk _ _)
  have eAR : eL (ad d p i nm) (rA d p i nm) := eL.lal _ i 1 hi
  rw [ad_rA] at A eAR ⊢
  generalize rA d p i nm = R at A hRl hRd eAR ⊢
  have gq0 : qs (al R i 1) p0 j0 = i := by rw [A.s p0 j0 hp0 (by omega), u2_ne _ _ _ _ _ _ hne]; exact hq0
  have gj0 : j0 < sn (al R i 1) p0 := by
    by_cases z : j0 < sn (al R i 1) p0
    · exact z
    · unfold qs at gq0; rw [if_neg (by omega)] at gq0; omega
  have gk0 : al R i 1 (32 + (16 * p0)) = 2 := by rw [A.k p0 hp0]; exact hk0
  have gsi : si (al R i 1) p0 j0 = i := by rw [← qs_si _ _ _ gk0 gj0]; exact gq0
  have s0 := A.E.R.sa A.E.B p0 j0 hp0 gk0 gj0
  have esa : sa (al R i 1) p0 j0 = sa R p0 j0 := eAR.sa p0 j0 (by omega)
  rw [esa] at s0
  have e1 : fr_ (al R i 1) p0 j0 = cz R (sa R p0 j0) 8 := by
    unfold fr_
    rw [gsi, esa, al_back R i hRd.1]
  have Rk : ∀ q, q < 16 → R (32 + (16 * q)) = d (32 + (16 * q)) := fun q hq => by
    have e := eAR.T q 0 (by omega) (by omega)
    simp only [Nat.add_zero] at e
    rw [← e]; exact A.k q hq
  refine ⟨e1, by omega, by omega, fun q hq => by rw [cz_ne _ _ _ _ (by omega)]; exact Rk q hq, fun kd => ?_⟩
  rw [e1]
  have ER : qE R := A.E.lk eAR.symm hRd (fun q hq hz => by
    rw [Rk q hq] at hz
    rw [hRl q hq]; exact E.R.z q 1 hq (by omega) hz)
  have Rj0 : j0 < sn R p0 := by rw [← eAR.sn p0]; exact gj0
  have C := cz_slot ER p0 j0 hp0 (by rw [Rk p0 hp0]; exact hk0) Rj0
  have hpar := V.T.par i p0 j0 hp0 h20 (by omega) hq0 (by rw [qk_lt d i hi]; exact kd)
  generalize cz R (sa R p0 j0) 8 = c at C ⊢
  have ck : ∀ q, q < 16 → c (32 + (16 * q)) = d (32 + (16 * q)) := fun q hq => by rw [C.2.1 _ (by omega)]; exact Rk q hq
  have cl : ∀ q, q < 16 → c (32 + (16 * q) + 1) = d (32 + (16 * q) + 1) := fun q hq => by rw [C.2.1 _ (by omega)]; exact hRl q hq
  have cd : c (32 + (16 * i)) = 2 := by rw [ck i hi]; exact kd
  have csn := (C.1.R.dr i hi cd).2.2.1
  have s1 := C.1.R.sa C.1.B i 1 hi cd (by omega)
  have qR : qs R i 1 = p0 := by
    have e : qs R i 1 = qs (al R i 1) i 1 := by
      have X := al_E ER i 1 hi (by rw [Rk i hi]; omega)
      exact (X.2.2 i 1 hi (by omega)).symm
    rw [e, A.s i 1 hi (by omega), u2_ne _ _ _ _ _ _ (by omega)]; exact hpar
  have csi : si c i 1 = p0 := by
    rw [← qs_si c i 1 cd (by omega), C.2.2 i 1 hi (by omega), if_neg (by omega)]; exact qR
  have c1 := ct_one (qs d) i 1 hi (by omega)
  rw [hpar] at c1
  have lp0 := V.L h1 p0 hp0 (by omega)
  have few := V.few h1 p hp hk
  refine ⟨by omega, by omega, ?_, ?_, ?_⟩
  · unfold pu
    rw [csi]
    congr 1
    funext x
    by_cases z : x = sa c i 1
    · rw [z, dp_at _ _ _ (by omega), al_ne _ _ _ _ (by omega), dp_at _ _ _ (by omega)]
    · rw [dp_ne _ _ _ _ z]
      by_cases y : x = 32 + (16 * p0) + 1
      · rw [y, al_at _ _ _ hp0, al_at _ _ _ hp0, dp_ne _ _ _ _ (by omega)]
      · rw [al_ne _ _ _ _ y, al_ne _ _ _ _ y, dp_ne _ _ _ _ z]
  · rw [dp_ne _ _ _ _ (by omega), cl p0 hp0]; omega
  · by_cases y : p0 = p
    · subst y
      rw [al_at _ _ _ hp0, dp_ne _ _ _ _ (by omega), cl p0 hp0]; omega
    · rw [al_ne _ _ _ _ (by omega), dp_ne _ _ _ _ (by omega), cl p hp]; omega
def rN (d : Nat → Nat) (p : Nat) : Nat := if fs d p 0 2 (sn d p - 2) ≠ 0 then 0 else if sn d p = 24 then 99 else if sn d p % 4 = 0 then 1 else 0
theorem fs_e (d : Nat → Nat) (p e n : Nat) : ∀ j, 0 < j → fs d p e j n = if fs d p 0 j n ≠ 0 then fs d p 0 j n else e := by
  induction n with
  | zero => intro j _; show e = if (0 : Nat) ≠ 0 then 0 else e; rw [if_neg (by omega)]
  | succ n ih =>
    intro j hj
    rw [fs, fs]
    by_cases a : si d p j = 0
    · rw [if_pos a, if_pos a, if_pos (by omega)]
    · rw [if_neg a, if_neg a]; exact ih (j + 1) (by omega)
theorem rN_hr {d} (E : qE d) (p v : Nat) (hp : p < 16) (hk : d (32 + (16 * p)) = 2) (hv : v ≤ 1) : (cf d 3 9 55 < rN d p + v ↔ hr d p v = false) := by
  have r := E.R.dr p hp hk
  have h24 := sn_le d p
  have hc := cf_le d 3 55 9
  have F := fs_spec d p 0 (sn d p - 2) 2
  have hb : ∀ w, w < 6 → bw d p w w = if 4 * w < sn d p then 0 else 1 := by
    intro w hw
    rw [bw_dir _ _ _ hw, bo_lo _ _ _ hw]
    have := r.2.2.2 w hw
    by_cases a : d (32 + (16 * p) + 4 + w) = 0
    · rw [if_pos a, if_neg (fun z => (this.mpr z) a)]
    · rw [if_neg a, if_pos (this.mp a)]
  have h : hr d p v = false ↔ ¬ (nsl d p ≠ 0 ∧ bw d p (nsl d p / 4) (nsl d p / 4) + v ≤ cf d 3 9 55) := by unfold hr; simp
  rw [h]
  unfold nsl rN
  rw [fs_e d p (if sn d p < 24 then sn d p else 0) (sn d p - 2) 2 (by omega)]
  generalize fs d p 0 2 (sn d p - 2) = f at F ⊢
  have F' : f = 0 ∨ (2 ≤ f ∧ f < sn d p) := by
    rcases F with z | z
    · exact Or.inl z.1
    · exact Or.inr ⟨z.1, by omega⟩
  by_cases a : f = 0
  · subst a
    simp only [ne_eq, not_true_eq_false, if_false]
    by_cases b : sn d p = 24
    · rw [if_pos b, if_neg (show ¬ sn d p < 24 by omega)]
      exact ⟨fun _ z => z.1 rfl, fun _ => by omega⟩
    · rw [if_neg b, if_pos (show sn d p < 24 by omega), hb _ (by omega)]
      by_cases c : sn d p % 4 = 0
      · rw [if_pos c, if_neg (by omega)]; omega
      · rw [if_neg c, if_pos (by omega)]; omega
  · simp only [ne_eq, a, not_false_eq_true, if_true]
    rw [hb _ (by omega), if_pos (by omega)]
    simp only [true_and]
    omega
