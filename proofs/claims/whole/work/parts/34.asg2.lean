theorem zft_l (qM : Nat → Nat → Int32) (rSt rHo rEl rEh : Nat → Int32) (t u : Nat) : ∀ n j, zl_X0_firstTaker_3 qM rSt rHo rEl rEh t u n j = (-1 : Int32) ∨ ∃ v, v < j + n ∧ zl_X0_firstTaker_3 qM rSt rHo rEl rEh t u n j = nI v := by
  intro n
  induction n with
  | zero => intro j; exact .inl rfl
  | succ n ih =>
    intro j
    rw [zl_X0_firstTaker_3_s]
    have h := ih (j + 1)
    have h2 : zl_X0_firstTaker_3 qM rSt rHo rEl rEh t u n (j + 1) = (-1 : Int32) ∨ ∃ v, v < j + (n + 1) ∧ zl_X0_firstTaker_3 qM rSt rHo rEl rEh t u n (j + 1) = nI v := by
      rcases h with h | ⟨v, hv, h⟩
      · exact .inl h
      · exact .inr ⟨v, by omega, h⟩
    split
    · split
      · split
        · exact .inr ⟨j, by omega, rfl⟩
        · exact h2
      · exact h2
    · exact h2
theorem zi_nI {v : Nat} (h : v < 2 ^ 31) : zi (nI v) = v := by
  unfold zi
  rw [nI_toInt h]
  exact Int.toNat_natCast v
theorem zft {qM : Nat → Nat → Int32} {rS : Nat} {rSt rHo rEl rEh : Nat → Int32} {t u : Nat} (hs : rS ≤ 8) (h : ¬ zf_X0_firstTaker qM rS rSt rHo rEl rEh t u = (-1 : Int32)) : zf_X0_firstTaker qM rS rSt rHo rEl rEh t u = nI (zi (zf_X0_firstTaker qM rS rSt rHo rEl rEh t u)) ∧ zi (zf_X0_firstTaker qM rS rSt rHo rEl rEh t u) < 8 := by
  rw [zf_X0_firstTaker_e] at h ⊢
  rcases zft_l qM rSt rHo rEl rEh t u rS 0 with q | ⟨v, hv, q⟩
  · exact absurd q h
  · rw [q, zi_nI (by omega)]
    exact ⟨rfl, by omega⟩
