/-! the world of the class: its cells by their numbers; X: what lies behind (the reference, the law's own, the exceptions) -/
def sb (n : Nat) : Int32 := (nI n).toInt8.toInt32
def bi (b : Bool) : Nat := if b = true then 1 else 0
/-- a path: text, length -/
abbrev gT : Type := (Nat → Nat) × Nat
/-- a place: parent, slot, inode, name -/
abbrev gU : Type := Nat × Nat × Nat × (Nat → Nat)
/-- a survey: inodes found, blocks found, links found, the queue, its length -/
abbrev gS : Type := (Nat → Bool) × (Nat → Bool) × (Nat → Nat) × (Nat → Nat) × Nat
def Gc (L : Nat) (xs : Nat → Int32) (A B : gT) (U V : gU) (S : gS) (d : Nat → Nat) (X : mj_H) : mj_H :=
  .inl (0, (7, .inl mm_f0)) :: .inl (0, (7, .inl mm_f1)) :: .inl (3, (L, .inl xs)) ::
  .inr (4, [.ref 4, .ref 6, .ref 7, .ref 8, .ref 9, .ref 10, .ref 15, .ref 17, .ref 19, .ref 21]) :: .inr (5, [.ref 5]) :: .inl (0, (2048, .inl fun k => sb (d k))) ::
  .inr (6, [.ref 4, .int (nI 1), .int (nI 1), .int (nI 16)]) :: .inr (6, [.ref 4, .int (nI 3), .int (nI 9), .int (nI 64)]) :: .inr (7, [.ref 4, .ref 6, .ref 7]) :: .inr (8, [.ref 4, .ref 8]) ::
  .inr (9, [.ref 8, .ref 9, .ref 11, .ref 12, .ref 13, .ref 14, .int (nI S.2.2.2.2)]) :: .inl (1, (16, .inl fun k => nI (bi (S.1 k)))) :: .inl (1, (64, .inl fun k => nI (bi (S.2.1 k)))) :: .inl (3, (16, .inl fun k => nI (S.2.2.1 k))) :: .inl (3, (16, .inl fun k => nI (S.2.2.2.1 k))) ::
  .inr (10, [.ref 16, .int (nI A.2)]) :: .inl (2, (40, .inl fun k => nI (A.1 k))) :: .inr (10, [.ref 18, .int (nI B.2)]) :: .inl (2, (40, .inl fun k => nI (B.1 k))) ::
  .inr (11, [.int (nI U.1), .int (nI U.2.1), .int (nI U.2.2.1), .ref 20]) :: .inl (0, (7, .inl fun k => sb (U.2.2.2 k))) :: .inr (11, [.int (nI V.1), .int (nI V.2.1), .int (nI V.2.2.1), .ref 22]) :: .inl (0, (7, .inl fun k => sb (V.2.2.2 k))) :: X
/-- a disk: bytes, zeros behind its end -/
def dk (d : Nat → Nat) : Prop := (∀ k, d k < 256) ∧ ∀ k, 2048 ≤ k → d k = 0
def dp (d : Nat → Nat) (i v : Nat) : Nat → Nat := fun k => if k = i ∧ i < 2048 then v % 256 else d k
theorem dp_dk {d : Nat → Nat} (h : dk d) (i v : Nat) : dk (dp d i v) := by
  refine ⟨fun k => ?_, fun k hk => ?_⟩
  · unfold dp
    split
    · omega
    · exact h.1 k
  · unfold dp
    rw [if_neg (by omega)]
    exact h.2 k hk
theorem dp_out {d : Nat → Nat} {i v : Nat} (h : 2048 ≤ i) : dp d i v = d := by
  funext k
  unfold dp
  rw [if_neg (by omega)]
theorem sb_and : ∀ n, n < 256 → sb n &&& 255 = nI n := by decide +kernel
theorem sb_upd {d : Nat → Nat} {i v : Nat} (hi : i < 2048) {x : Int32} (hx : x = sb (v % 256)) : upd (fun k => sb (d k)) i x = fun k => sb (dp d i v k) := by
  funext k
  unfold upd dp
  by_cases hk : k = i
  · rw [if_pos hk, if_pos ⟨hk, hi⟩, hx]
  · rw [if_neg hk, if_neg (fun z => hk z.1)]
theorem i8_mod (v : Nat) : Int8.ofNat (v % 256) = Int8.ofNat v := by
  have h : UInt8.ofNat (v % 256) = UInt8.ofNat v := by
    apply UInt8.toNat_inj.mp
    simp
  exact congrArg UInt8.toInt8 h
theorem sb_mod (v : Nat) : ((nI v).toInt8.toInt32).toInt8.toInt32 = sb (v % 256) := by
  unfold sb nI
  have e1 : (Int32.ofNat v).toInt8 = Int8.ofNat v := by first | exact Int32.toInt8_ofNat | exact Int32.toInt8_ofNat v | simp
  have e2 : (Int32.ofNat (v % 256)).toInt8 = Int8.ofNat v := by
    rw [show (Int32.ofNat (v % 256)).toInt8 = Int8.ofNat (v % 256) from by first | exact Int32.toInt8_ofNat | exact Int32.toInt8_ofNat _ | simp, i8_mod]
  rw [e1, e2]
  first | rw [Int8.toInt8_toInt32] | simp
