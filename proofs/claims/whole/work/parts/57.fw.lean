/-- a place: numbers in range, a name of letters -/
def pk (U : gU) : Prop := U.1 < 256 ∧ U.2.1 < 26 ∧ U.2.2.1 < 256 ∧ ∀ k, U.2.2.2 k < 128
theorem st1_pk {d t : Nat → Nat} (hd : dk d) {l i no : Nat} {nm : Nat → Nat} (hs : ∀ k, k < l → t k < 128) (hno : no < 256) (hn : ∀ k, nm k < 128) : pk (st1 d t l i no nm) := by
  have h2 := cn_lt (i := i) hs 7 0 nm true hn
  unfold st1
  split
  · split
    · exact ⟨Nat.zero_lt_succ _, Nat.zero_lt_succ _, Nat.zero_lt_succ _, h2⟩
    · split
      · exact ⟨hno, Nat.zero_lt_succ _, Nat.zero_lt_succ _, h2⟩
      · exact ⟨hno, fd_lt d no _ 26 (by decide) _ 2 (by have := sn_le d no; omega), hd.1 _, h2⟩
  · exact ⟨Nat.zero_lt_succ _, Nat.zero_lt_succ _, Nat.zero_lt_succ _, h2⟩
theorem fw1_pk {d t : Nat → Nat} (hd : dk d) {l : Nat} (hs : ∀ k, k < l → t k < 128) : ∀ (n i : Nat) (U : gU), pk U → pk (fw1 d t l U i n)
  | 0, _, _, h => h
  | n + 1, i, U, h => by
    unfold fw1
    refine fw1_pk hd hs n (i + 1) _ ?_
    split
    · exact st1_pk hd hs h.2.2.1 h.2.2.2
    · exact h
theorem fw_pk {d t : Nat → Nat} (hd : dk d) {l : Nat} {U : gU} (h : ∀ k, U.2.2.2 k < 128) : pk (fw d t l U) := by
  unfold fw
  split
  · next z => exact fw1_pk hd (isP_lt z) _ 1 _ ⟨Nat.zero_lt_succ _, Nat.zero_lt_succ _, (by decide : 1 < 256), h⟩
  · exact ⟨Nat.zero_lt_succ _, Nat.zero_lt_succ _, Nat.zero_lt_succ _, h⟩
