/-! ===== THE LOOP (its cases by a program) ===== -/
set_option maxHeartbeats 4000000 in
theorem law_loop {Th : mT} {n b L : Nat} (hL : L ≤ 4096) (hb0 : Th.2.2 b = some (.inr (.int, true, L))) : ∀ (u j : Nat) (s : mS) (c : Int) (M : mM), j + u = 514 → Jv Th n b s c M → c ≤ (j : Int) → HL_law_18 Th b n (n + 113) (jI ((8 * j : Nat) : Int)) M := by
  intro u
  induction u with
  | zero =>
    intro j s c M hj hJ hc
    refine hL_law_18 ⟨.int, true, L, hb0, ?_⟩
    rw [if_pos (by rw [jI_nI, show (8 : Int32) = jI 8 from rfl, jI_sub, jIlt (rI_of (by omega) (by omega)) (rI_nat (by omega))]; omega)]
    trivial
  | succ u ih =>
    intro j s c M hj hJ hc
    refine hL_law_18 ⟨.int, true, L, hb0, ?_⟩
    by_cases c0 : (L : Int) - 8 < ((8 * j : Nat) : Int)
    · rw [if_pos (by rw [jI_nI, show (8 : Int32) = jI 8 from rfl, jI_sub, jIlt (rI_of (by omega) (by omega)) (rI_nat (by omega))]; exact c0)]
      trivial
    rw [if_neg (by rw [jI_nI, show (8 : Int32) = jI 8 from rfl, jI_sub, jIlt (rI_of (by omega) (by omega)) (rI_nat (by omega))]; exact c0)]
    have hc1 : c < 100000 := by omega
    have hT10 : Th.2.2 n = some (.inl 10) := hJ.1.1.1 0 _ rfl
    have nx : jI ((8 * j : Nat) : Int) + 8 = jI ((8 * (j + 1) : Nat) : Int) := by
      rw [show (8 : Int32) = jI 8 from rfl, jI_add]; congr 1
    have K : Jk Th n b c M (fun M' => HL_law_18 Th b n (n + 113) (jI ((8 * j : Nat) : Int) + 8) M') := fun s' c' M' hJ' hc' _ => by
      show HL_law_18 Th b n (n + 113) (jI ((8 * j : Nat) : Int) + 8) M'
      rw [nx]
      exact ih (j + 1) s' c' M' (by omega) hJ' (by omega)
    have ok0 : m_ok Th b .int (jI ((8 * j : Nat) : Int)) := m_ok_jI hb0 (by omega) (by omega) (by omega)
    have ok1 : m_ok Th b .int (jI ((8 * j : Nat) : Int) + 1) := by
      rw [kI1, jI_add]; exact m_ok_jI hb0 (by omega) (by omega) (by omega)
    have ok2 : m_ok Th b .int (jI ((8 * j : Nat) : Int) + 2) := by
      rw [kI2, jI_add]; exact m_ok_jI hb0 (by omega) (by omega) (by omega)
    have ok3 : m_ok Th b .int (jI ((8 * j : Nat) : Int) + 3) := by
      rw [kI3, jI_add]; exact m_ok_jI hb0 (by omega) (by omega) (by omega)
    have ok4 : m_ok Th b .int (jI ((8 * j : Nat) : Int) + 4) := by
      rw [kI4, jI_add]; exact m_ok_jI hb0 (by omega) (by omega) (by omega)
    have ok5 : m_ok Th b .int (jI ((8 * j : Nat) : Int) + 5) := by
      rw [kI5, jI_add]; exact m_ok_jI hb0 (by omega) (by omega) (by omega)
    have ok6 : m_ok Th b .int (jI ((8 * j : Nat) : Int) + 6) := by
      rw [kI6, jI_add]; exact m_ok_jI hb0 (by omega) (by omega) (by omega)
    have ok7 : m_ok Th b .int (jI ((8 * j : Nat) : Int) + 7) := by
      rw [kI7, jI_add]; exact m_ok_jI hb0 (by omega) (by omega) (by omega)
    refine ⟨ok0, ?_⟩
    generalize jI ((8 * j : Nat) : Int) = x3 at *
    generalize (M.1 b (Int32.toNatClampNeg x3)) &&& 31 = w
    by_cases q0 : w = 0
    · rw [if_pos q0]
      exact ⟨ok1, ok2, ok3, hT10, t_riddle (G := fun M' => HL_law_18 Th b n (n + 113) (x3 + 8) M') hc1 hJ K⟩
    rw [if_neg q0]
    by_cases q1 : w = 1
    · rw [if_pos q1]
      exact ⟨ok1, ok2, ok3, hT10, t_band (G := fun M' => HL_law_18 Th b n (n + 113) (x3 + 8) M') hc1 hJ K⟩
    rw [if_neg q1]
    by_cases q2 : w = 2
    · rw [if_pos q2]
      exact ⟨ok1, ok2, hT10, t_weather (G := fun M' => HL_law_18 Th b n (n + 113) (x3 + 8) M') hc1 hJ K⟩
    rw [if_neg q2]
    by_cases q3 : w = 3
    · rw [if_pos q3]
      exact ⟨ok1, ok2, ok3, ok4, ok5, hT10, t_feed (G := fun M' => HL_law_18 Th b n (n + 113) (x3 + 8) M') hJ K⟩
    rw [if_neg q3]
    by_cases q4 : w = 4
    · rw [if_pos q4]
      exact ⟨ok1, hT10, t_law (G := fun M' => HL_law_18 Th b n (n + 113) (x3 + 8) M') hc1 hJ K⟩
    rw [if_neg q4]
    by_cases q5 : w = 5
    · rw [if_pos q5]
      exact ⟨ok1, ok2, ok3, ok4, hT10, t_chance (G := fun M' => HL_law_18 Th b n (n + 113) (x3 + 8) M') hJ K⟩
    rw [if_neg q5]
    by_cases q6 : w = 6
    · rw [if_pos q6]
      exact ⟨ok1, ok2, hT10, t_walk (G := fun M' => HL_law_18 Th b n (n + 113) (x3 + 8) M') hJ K⟩
    rw [if_neg q6]
    by_cases q7 : w = 7
    · rw [if_pos q7]
      exact ⟨ok1, ok2, ok3, hT10, t_ways (G := fun M' => HL_law_18 Th b n (n + 113) (x3 + 8) M') hJ K⟩
    rw [if_neg q7]
    by_cases q8 : w = 8
    · rw [if_pos q8]
      exact ⟨ok1, ok2, ok3, hT10, t_ahead (G := fun M' => HL_law_18 Th b n (n + 113) (x3 + 8) M') hJ K⟩
    rw [if_neg q8]
    by_cases q9 : w = 9
    · rw [if_pos q9]
      exact ⟨ok1, ok2, ok3, hT10, t_share (G := fun M' => HL_law_18 Th b n (n + 113) (x3 + 8) M') hJ K⟩
    rw [if_neg q9]
    by_cases q10 : w = 10
    · rw [if_pos q10]
      exact ⟨ok1, ok2, ok3, ok4, hT10, t_after (G := fun M' => HL_law_18 Th b n (n + 113) (x3 + 8) M') hJ K⟩
    rw [if_neg q10]
    by_cases q11 : w = 11
    · rw [if_pos q11]
      exact ⟨ok1, ok2, hT10, t_edge (G := fun M' => HL_law_18 Th b n (n + 113) (x3 + 8) M') hJ K⟩
    rw [if_neg q11]
    by_cases q12 : w = 12
    · rw [if_pos q12]
      exact ⟨ok1, ok2, ok3, ok4, ok5, ok6, ok7, hT10, t_best (G := fun M' => HL_law_18 Th b n (n + 113) (x3 + 8) M') hJ K⟩
    rw [if_neg q12]
    by_cases q13 : w = 13
    · rw [if_pos q13]
      exact ⟨ok1, ok2, ok3, hT10, t_without (G := fun M' => HL_law_18 Th b n (n + 113) (x3 + 8) M') hJ K⟩
    rw [if_neg q13]
    by_cases q14 : w = 14
    · rw [if_pos q14]
      exact ⟨ok1, ok2, ok3, ok4, ok5, hT10, t_waits (G := fun M' => HL_law_18 Th b n (n + 113) (x3 + 8) M') hJ K⟩
    rw [if_neg q14]
    by_cases q15 : w = 15
    · rw [if_pos q15]
      exact ⟨hT10, t_order (G := fun M' => HL_law_18 Th b n (n + 113) (x3 + 8) M') hJ K⟩
    rw [if_neg q15]
    by_cases q16 : w = 16
    · rw [if_pos q16]
      exact ⟨ok1, ok2, hT10, t_given (G := fun M' => HL_law_18 Th b n (n + 113) (x3 + 8) M') hJ K⟩
    rw [if_neg q16]
    by_cases q17 : w = 17
    · rw [if_pos q17]
      exact ⟨ok1, ok2, ok3, hT10, t_cleverest (G := fun M' => HL_law_18 Th b n (n + 113) (x3 + 8) M') hJ K⟩
    rw [if_neg q17]
    by_cases q18 : w = 18
    · rw [if_pos q18]
      exact ⟨ok1, ok2, ok3, hT10, t_went (G := fun M' => HL_law_18 Th b n (n + 113) (x3 + 8) M') hJ K⟩
    rw [if_neg q18]
    by_cases q19 : w = 19
    · rw [if_pos q19]
      exact ⟨ok1, ok2, hT10, t_logged (G := fun M' => HL_law_18 Th b n (n + 113) (x3 + 8) M') hJ K⟩
    rw [if_neg q19]
    by_cases q20 : w = 20
    · rw [if_pos q20]
      exact ⟨ok1, ok2, ok3, hT10, t_knew (G := fun M' => HL_law_18 Th b n (n + 113) (x3 + 8) M') hJ K⟩
    rw [if_neg q20]
    by_cases q21 : w = 21
    · rw [if_pos q21]
      exact ⟨ok1, hT10, t_seed (G := fun M' => HL_law_18 Th b n (n + 113) (x3 + 8) M') hJ K⟩
    rw [if_neg q21]
    by_cases q22 : w = 22
    · rw [if_pos q22]
      exact ⟨hT10, t_draw (G := fun M' => HL_law_18 Th b n (n + 113) (x3 + 8) M') hJ K⟩
    rw [if_neg q22]
    by_cases q23 : w = 23
    · rw [if_pos q23]
      exact ⟨ok1, hT10, t_had (G := fun M' => HL_law_18 Th b n (n + 113) (x3 + 8) M') hJ K⟩
    rw [if_neg q23]
    by_cases q24 : w = 24
    · rw [if_pos q24]
      exact ⟨hT10, t_clear (G := fun M' => HL_law_18 Th b n (n + 113) (x3 + 8) M') hJ K⟩
    rw [if_neg q24]
    by_cases q25 : w = 25
    · rw [if_pos q25]
      exact ⟨ok1, hT10, t_check (G := fun M' => HL_law_18 Th b n (n + 113) (x3 + 8) M') hJ K⟩
    rw [if_neg q25]
    by_cases q26 : w = 26
    · rw [if_pos q26]
      exact ⟨ok1, hT10, t_count (G := fun M' => HL_law_18 Th b n (n + 113) (x3 + 8) M') hJ K⟩
    rw [if_neg q26]
    exact K s c M hJ (by omega) (fun _ => rfl)
theorem law_goes {b L : Nat} {xs : Nat → Int32} (hL : L ≤ 4096) {n0 la : Nat} (h1 : b < n0) (h2 : la < n0) (h3 : la ≠ b) : HL_law_18 (lw_Th1 n0 la b L) b n0 (n0 + 113) 0 (lw_M1 n0 la b xs) := by
  have := law_loop (n := n0) hL (st_b h1) 514 0 s0S 0 (lw_M1 n0 la b xs) (by omega) (st_J h1 h2 h3) (by omega)
  exact this
