/-! THE START: the arrays of constants, no font -/
theorem bk_0 (N : Nat) (xs : Nat → Int32) : BK N (lw_V0 xs) := by
  refine ⟨bi_0 N xs, ⟨fun k hk => ?_, fun k hk => ?_, fun k hk => ?_, fun k hk => ?_⟩, Or.inl ⟨?_, ?_⟩⟩
  · rw [V0_S xs k (by decide)]
    have key : ∀ k, k < 11 → (lw_stat.getD 0 []).getD k 0 = nI (tg k) := by decide +kernel
    exact key k hk
  · rw [V0_S xs k (by decide)]
    have key : ∀ k, k < 7 → (lw_stat.getD 1 []).getD k 0 = nI ([14, 16, 18, 20, 22, 24, 30].getD k 0) := by decide +kernel
    exact key k hk
  · rw [V0_S xs k (by decide)]
    have key : ∀ k, k < 7 → (lw_stat.getD 3 []).getD k 0 = nI ([1, 0, 0, 0, 0, 0, 0].getD k 0) := by decide +kernel
    exact key k hk
  · rw [V0_S xs k (by decide)]
    have key : ∀ k, k < 7 → (lw_stat.getD 4 []).getD k 0 = nI ([2, 64, 64, 64, 16, 256, 4].getD k 0) := by decide +kernel
    exact key k hk
  · rw [V0_I xs 2 (by decide)]
    decide +kernel
  · rw [V0_I xs 4 (by decide)]
    decide +kernel
