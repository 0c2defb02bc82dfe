theorem xheads : ∀ a, xisM a = true → xmfb a = true := sorry
theorem xalls : ∀ k, k < 327 → xall k = true := sorry
