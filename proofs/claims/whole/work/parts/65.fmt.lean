def fz : Nat → Nat := fun k => if k = 0 then 77 else if k = 1 then 3 else if k = 3 then 255 else if k = 4 then 3 else if k = 11 then 1 else if k = 48 then 2 else if k = 49 then 2 else if k = 50 then 16 else
  if k = 52 then 9 else if k = 288 then 1 else if k = 289 then 46 else if k = 296 then 1 else if k = 297 then 46 else if k = 298 then 46 else 0
theorem fm_lo : ∀ k, k < 2048 → fm (fun _ => 0) k = fz k := by decide +kernel
theorem dk_z : dk (fun _ => 0) := ⟨fun _ => by show (0 : Nat) < 256; omega, fun _ _ => rfl⟩
theorem dk_tb (d : Nat → Nat) (hd : dk d) (a i : Nat) : dk (tb d a i) := dk_dp _ hd _ _
theorem dk_ms (a n : Nat) : ∀ (d : Nat → Nat) (i : Nat), dk d → dk (ms a d i n) := by
  induction n with
  | zero => intro d i h; exact h
  | succ n ih => intro d i h; rw [ms]; exact ih _ _ (dk_tb _ h _ _)
theorem dk_tk (d : Nat → Nat) (hd : dk d) (a j : Nat) : dk (tk d a j) := by
  unfold tk; split
  · exact hd
  · exact dk_tb _ hd _ _
theorem dk_ti (d : Nat → Nat) (hd : dk d) (v : Nat) : dk (ti d v) := by
  unfold ti; split
  · exact hd
  · exact dk_dp _ (dk_tk _ hd _ _) _ _
theorem dk_tB (d : Nat → Nat) (hd : dk d) : dk (tB d) := by
  unfold tB; split
  · exact hd
  · exact dk_cz _ (dk_tk _ hd _ _) _ _
theorem dk_op (d : Nat → Nat) (hd : dk d) (e : Option Nat) (v : Nat) : dk (op d e v) := by
  cases e with
  | none => exact hd
  | some e => exact dk_dp _ hd _ _
theorem dk_fh (d : Nat → Nat) (hd : dk d) (i w : Nat) : dk (fh d i w) := by
  have h1 : dk (f1 d i w) := by
    unfold f1; split
    · exact dk_dp _ (dk_tB _ hd) _ _
    · exact hd
  unfold fh
  generalize f1 d i w = e at h1 ⊢
  unfold f2; split
  · exact dk_op _ (dk_tB _ h1) _ _
  · exact h1
theorem dk_fl (d : Nat → Nat) (hd : dk d) (i j v : Nat) (nm : Nat → Nat) : dk (fl d i j v nm) := dk_dp _ (dk_wn _ _ _ _ _ (dk_dp _ hd _ _)) _ _
theorem dk_sd (d : Nat → Nat) (hd : dk d) (i v : Nat) : dk (sd d i v) := dk_fl _ (dk_fl _ (dk_dp _ (dk_dp _ (dk_fh _ hd _ _) _ _) _ _) _ _ _ _) _ _ _ _
theorem dk_fm (d : Nat → Nat) (hd : dk d) : dk (fm d) := dk_dp _ (dk_sd _ (dk_ti _ (dk_ms _ _ _ _ (dk_ms _ _ _ _ (dk_dp _ (dk_cz _ hd _ _) _ _))) _) _ _) _ _
theorem fm_z (d : Nat → Nat) (hd : dk d) : fm d = fz := by
  have e : cz d 0 2048 = cz (fun _ => 0) 0 2048 := by
    funext k
    unfold cz
    by_cases a : 0 ≤ k ∧ k < 0 + 2048
    · rw [if_pos a, if_pos a]
    · rw [if_neg a, if_neg a]; exact hd.2 k (by omega)
  have e2 : fm d = fm (fun _ => 0) := by unfold fm f3; rw [e]
  rw [e2]
  funext k
  by_cases a : k < 2048
  · exact fm_lo k a
  · rw [(dk_fm _ dk_z).2 k (by omega)]
    unfold fz
    repeat rw [if_neg (by omega)]
theorem fz_qb : ∀ i, i < 16 → ∀ w, w < 39 → qb fz i w = if i = 1 ∧ w = 0 then 9 else 0 := by decide +kernel
theorem fz_qs : ∀ p, p < 16 → ∀ j, j < 24 → qs fz p j = if p = 1 ∧ j < 2 then 1 else 0 := by decide +kernel
theorem fz_k : ∀ i, i < 16 → fz (32 + (16 * i)) = if i = 1 then 2 else 0 := by decide +kernel
theorem qV.fz : qV fz := by
  have hb : ∀ i w, i < 16 → w ≤ 38 → qb Jvm.Pilot.@@N@@.fz i w = if i = 1 ∧ w = 0 then 9 else 0 := fun i w hi hw => fz_qb i hi w (by omega)
  have hs := fun p j hp hj => fz_qs p hp j hj
  refine ⟨⟨?_, ?_, ?_, ?_, ?_⟩, ⟨?_, ?_, ?_⟩, ?_, Or.inr rfl, fun _ => ⟨?_, ?_⟩, fun _ => ?_⟩
  · rw [← fm_z (fun _ => 0) dk_z]; exact dk_fm _ dk_z
  · intro i w hi hw; rw [hb i w hi hw]; split <;> omega
  · intro i w j v hi hw hj hv h0 he
    rw [hb i w hi hw] at h0 he
    rw [hb j v hj hv] at he
    split at h0 <;> split at he <;> split at he <;> omega
  · decide
  · decide
  · have : ∀ i, i < 16 → ∀ k, k < 16 → Jvm.Pilot.@@N@@.fz (32 + (16 * i)) = 0 → Jvm.Pilot.@@N@@.fz (32 + (16 * i) + k) = 0 := by decide +kernel
    exact fun i k hi hk => this i hi k hk
  · have : ∀ i, i < 16 → Jvm.Pilot.@@N@@.fz (32 + (16 * i)) = 2 → Jvm.Pilot.@@N@@.fz (32 + (16 * i) + 10) = 0 ∧ Jvm.Pilot.@@N@@.fz (32 + (16 * i) + 2) + (256 * (Jvm.Pilot.@@N@@.fz (32 + (16 * i) + 3))) = 8 * sn Jvm.Pilot.@@N@@.fz i ∧ 2 ≤ sn Jvm.Pilot.@@N@@.fz i ∧
      ∀ w, w < 6 → (Jvm.Pilot.@@N@@.fz (32 + (16 * i) + 4 + w) ≠ 0 ↔ 4 * w < sn Jvm.Pilot.@@N@@.fz i) := by decide +kernel
    exact this
  · have : ∀ i, i < 16 → Jvm.Pilot.@@N@@.fz (32 + (16 * i)) = 1 → Jvm.Pilot.@@N@@.fz (32 + (16 * i) + 2) + (256 * (Jvm.Pilot.@@N@@.fz (32 + (16 * i) + 3))) ≤ 1216 := by decide +kernel
    exact this
  · have hk : ∀ i, qk Jvm.Pilot.@@N@@.fz i = if i = 1 then 2 else 0 := by
      intro i
      unfold qk; split
      · rename_i h; exact fz_k i h
      · rw [if_neg (by omega)]
    refine ⟨?_, ?_, ?_, ?_, ?_, ?_, ?_, ?_, ?_, ?_⟩
    · intro i; rw [hk i]; split <;> omega
    · intro p j hp hj h; rw [hk p] at h; rw [hs p j hp hj]; split at h <;> split <;> omega
    · intro p hp h
      rw [hk p] at h
      have : p = 1 := by split at h <;> omega
      subst this
      rw [hs 1 0 (by omega) (by omega), hs 1 1 (by omega) (by omega)]
      exact ⟨rfl, by decide, by rw [if_pos ⟨rfl, by omega⟩, hk 1]; rfl⟩
    · rw [hk 0]; rfl
    · rw [hk 1]; rfl
    · rw [hs 1 1 (by omega) (by omega)]; rfl
    · intro p j hp h2 hj h; rw [hs p j hp hj, if_neg (by omega)] at h; exact absurd rfl h
    · intro p j j' hp h2 hj _ _ h; rw [hs p j hp hj, if_neg (by omega)] at h; exact absurd rfl h
    · refine ⟨fun _ => 0, fun i hi h h1 => ?_⟩
      rw [hk i, if_neg h1] at h; exact absurd rfl h
    · intro i hi h; rw [hk i] at h; split at h <;> omega
  · have : ∀ i, i < 16 → Jvm.Pilot.@@N@@.fz (32 + (16 * i)) ≠ 0 → bt Jvm.Pilot.@@N@@.fz 1 i = true := by decide +kernel
    exact this
  · intro i w hi hw h0
    rw [hb i w hi hw] at h0 ⊢
    split
    · decide
    · rename_i h; rw [if_neg h] at h0; exact absurd rfl h0
  · have : ∀ i, i < 16 → Jvm.Pilot.@@N@@.fz (32 + (16 * i)) ≠ 0 → Jvm.Pilot.@@N@@.fz (32 + (16 * i) + 1) = ct (qs Jvm.Pilot.@@N@@.fz) i := by decide +kernel
    exact this
theorem qV.fm {d} (hd : dk d) : qV (fm d) := by rw [fm_z d hd]; exact qV.fz
