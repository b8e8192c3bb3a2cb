/-! THE START: no font, nothing noted of glyphs -/
theorem bg_0 (N : Nat) (xs : Nat → Int32) : BG N (lw_V0 xs) := by
  obtain ⟨b, s, h⟩ := bk_0 N xs
  refine ⟨b, s, Or.inl ⟨?_, ?_⟩⟩
  · rw [V0_I xs 2 (by decide)]
    decide +kernel
  · rw [V0_I xs 4 (by decide)]
    decide +kernel
