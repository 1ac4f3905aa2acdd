/-! ===== THE LOOP ===== -/
theorem law_goes {b L : Nat} {xs : Nat → Int32} (hL : L ≤ 4096) {n0 la : Nat} (h1 : b < n0) (h2 : la < n0) (h3 : la ≠ b) : HL_law_18 (lw_Th1 n0 la b L) b n0 (n0 + 113) 0 (lw_M1 n0 la b xs) := by
  sorry
