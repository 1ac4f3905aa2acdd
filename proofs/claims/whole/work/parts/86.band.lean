/-! ===== BAND: both sides ===== -/
def vBand (z1 z2 z3 : Int) : Prop := (0 ≤ z1 ∧ z1 ≤ 9) ∧ (1 ≤ z2 ∧ z2 ≤ 9) ∧ (0 ≤ z3 ∧ z3 ≤ 1)
def u10_band (n : Nat) (M : mM) (r : Nat) (x1 x2 x3 c : Int32) : mM :=
  m_ui (m_ui (m_ui (m_ui (m_ui (m_ui (m_ui M (n + 105) 1 0) (n + 107) 9 0) (n + 12) r x1) (n + 13) r x2) (n + 14) r x3) (n + 3) 1 (jI ((r : Int) + 1))) (n + 3) 4 (c + 1)
def u11_band (m : Nat) (M : mM) (r : Nat) (x1 x2 x3 : Int32) : mM :=
  m_ui (m_ui (m_ui (m_ui (m_ui (m_ui M (m + 4) r x1) (m + 5) r x2) (m + 6) r x3) m 1 (jI ((r : Int) + 1))) m 60 0) m 61 0
section BN
variable {d : Nat} {Th : mT} {M : mM} {n m r : Nat}
theorem s2_addBand {Q : Int32 → mM → Prop} {x1 x2 x3 c : Int32} (hT : Ly Th n) (hR : Rf n M) (h0 : M.1 (n + 3) 1 = jI r) (h4 : M.1 (n + 3) 4 = c) (hr : r < 5)
    (k : Q (jI r) (m_ui (m_ui (m_ui (m_ui (m_ui M (n + 12) r x1) (n + 13) r x2) (n + 14) r x3) (n + 3) 1 (jI ((r : Int) + 1))) (n + 3) 4 (c + 1))) : P2_addBand (d + 1) Th (n + 3) x1 x2 x3 M Q := by
  have rr : rI (r : Int) := ⟨by omega, by omega⟩
  have t1 : Int32.toNatClampNeg (jI r) = r := jInatN r (by omega)
  refine e2_addBand ⟨hT 3 _ rfl, ?_⟩
  rw [if_neg (by rw [h0, jl0 rr]; omega), if_pos (by rw [h0, jl5 rr]; omega)]
  refine ⟨n + 12, hR 3 10 12 (by decide), by rw [h0]; exact m_okw_jI (hT 12 _ rfl) (by omega) (by omega) (by omega), n + 13, hR 3 11 13 (by decide), ?_⟩
  intro M7 h7
  have g7 : M7.1 (n + 3) 1 = jI r := by rw [h7]; simp [m_u, h0]
  refine ⟨by rw [g7]; exact m_okw_jI (hT 13 _ rfl) (by omega) (by omega) (by omega), n + 14, hR 3 12 14 (by decide), ?_⟩
  intro M11 h11
  have g11 : M11.1 (n + 3) 1 = jI r := by rw [h11]; simp [m_u, g7]
  refine ⟨by rw [g11]; exact m_okw_jI (hT 14 _ rfl) (by omega) (by omega) (by omega), ?_⟩
  intro M13 h13 M14 h14 M15 h15
  have g13 : M13.1 (n + 3) 1 = jI r := by rw [h13]; simp [m_u, g11]
  rw [g7, t1] at h11
  rw [g11, t1] at h13
  rw [h0, t1] at h7
  rw [g13, i1, jI_add] at h14
  have g14 : M14.1 (n + 3) 4 = c := by rw [h14, h13, h11, h7]; simp [m_u, h4]
  rw [g14] at h15
  have g15 : M15.1 (n + 3) 1 = jI ((r : Int) + 1) := by rw [h15, h14]; simp [m_u]
  rw [g15, show jI ((r : Int) + 1) - 1 = jI (r : Int) by rw [i1, jI_sub]; congr 1; omega, h15, h14, h13, h11, h7]
  exact k
theorem s10_band {Q : Int32 → mM → Prop} {z1 z2 z3 : Int} {c : Int32} (hT : Ly Th n) (hR : Rf n M) (h0 : M.1 (n + 3) 1 = jI r) (h4 : M.1 (n + 3) 4 = c) (hr : r ≤ 5) (hz1 : rI z1) (hz2 : rI z2) (hz3 : rI z3)
    (k0 : ¬ (vBand z1 z2 z3 ∧ r < 5) → Q (-1) M) (k1 : vBand z1 z2 z3 → r < 5 → Q (jI r) (u10_band n M r (jI z1) (jI z2) (jI z3) c)) : P10_band (d + 4) Th n (jI z1) (jI z2) (jI z3) M Q := by
  have rr : rI (r : Int) := ⟨by omega, by omega⟩
  refine e10_band ?_
  refine s_within 0 9 rfl rfl rfl hz1 (rI_of (by omega) (by omega)) (rI_of (by omega) (by omega)) (fun p1 p2 => ?_) (fun p => ?_)
  rotate_left
  · rw [if_pos rfl]; exact k0 (fun h => p h.1.1)
  rw [if_neg (by decide)]
  refine s_within 1 9 rfl rfl rfl hz2 (rI_of (by omega) (by omega)) (rI_of (by omega) (by omega)) (fun p3 p4 => ?_) (fun p => ?_)
  rotate_left
  · rw [if_pos rfl]; exact k0 (fun h => p h.1.2.1)
  rw [if_neg (by decide)]
  refine s_within 0 1 rfl rfl rfl hz3 (rI_of (by omega) (by omega)) (rI_of (by omega) (by omega)) (fun p5 p6 => ?_) (fun p => ?_)
  rotate_left
  · rw [if_pos rfl]; exact k0 (fun h => p h.1.2.2)
  rw [if_neg (by decide)]
  refine ⟨hT 0 _ rfl, n + 3, hR 0 1 3 (by decide), hT 3 _ rfl, ?_⟩
  by_cases hlt : r < 5
  · rw [if_pos (by rw [h0, jl5 rr]; omega)]
    refine s10_logFalls hT hR ?_
    refine ⟨n + 3, hR 0 1 3 (by decide), hT 3 _ rfl, ?_⟩
    refine s2_addBand (c := c) hT hR (by simp [m_u, h0]) (by simp [m_u, h4]) hlt ?_
    exact k1 ⟨⟨p1, p2⟩, ⟨p3, p4⟩, p5, p6⟩ hlt
  · rw [if_neg (by rw [h0, jl5 rr]; omega)]
    exact k0 (fun h => hlt h.2)
theorem s11_band {Q : Int32 → mM → Prop} {z1 z2 z3 lz : Int} (hT : LyM Th m) (hR : RfM m M) (h0 : M.1 m 1 = jI r) (h6 : M.1 m 60 = jI lz) (hr : r ≤ 5) (hz1 : rI z1) (hz2 : rI z2) (hz3 : rI z3)
    (k0 : ¬ (vBand z1 z2 z3 ∧ r < 5) → Q (-1) M) (k1 : vBand z1 z2 z3 → r < 5 → Q (jI r) (u11_band m M r (jI z1) (jI z2) (jI z3))) : P11_band (d + 2) Th m (jI z1) (jI z2) (jI z3) M Q := by
  have rr : rI (r : Int) := ⟨by omega, by omega⟩
  refine e11_band ?_
  refine s_in 0 9 rfl rfl rfl hz1 (rI_of (by omega) (by omega)) (rI_of (by omega) (by omega)) (fun p1 p2 => ?_) (fun p => ?_)
  rotate_left
  · rw [if_pos rfl]; exact k0 (fun h => p h.1.1)
  rw [if_neg (by decide)]
  refine s_in 1 9 rfl rfl rfl hz2 (rI_of (by omega) (by omega)) (rI_of (by omega) (by omega)) (fun p3 p4 => ?_) (fun p => ?_)
  rotate_left
  · rw [if_pos rfl]; exact k0 (fun h => p h.1.2.1)
  rw [if_neg (by decide)]
  refine s_in 0 1 rfl rfl rfl hz3 (rI_of (by omega) (by omega)) (rI_of (by omega) (by omega)) (fun p5 p6 => ?_) (fun p => ?_)
  rotate_left
  · rw [if_pos rfl]; exact k0 (fun h => p h.1.2.2)
  rw [if_neg (by decide)]
  refine ⟨hT 0 _ rfl, ?_⟩
  by_cases hlt : r < 5
  · rw [if_neg (by rw [h0, jq5 rr]; omega)]
    have t1 : Int32.toNatClampNeg (jI r) = r := jInatN r (by omega)
    refine ⟨m + 4, hR 0 8 4 (by decide), by rw [h0]; exact m_okw_jI (hT 4 _ rfl) (by omega) (by omega) (by omega), m + 5, hR 0 9 5 (by decide), ?_⟩
    intro M13 h13
    have g13 : M13.1 m 1 = jI r := by rw [h13]; simp [m_u, h0]
    refine ⟨by rw [g13]; exact m_okw_jI (hT 5 _ rfl) (by omega) (by omega) (by omega), m + 6, hR 0 10 6 (by decide), ?_⟩
    intro M17 h17
    have g17 : M17.1 m 1 = jI r := by rw [h17]; simp [m_u, g13]
    refine ⟨by rw [g17]; exact m_okw_jI (hT 6 _ rfl) (by omega) (by omega) (by omega), ?_⟩
    intro M19 h19
    have g19 : M19.1 m 1 = jI r := by rw [h19]; simp [m_u, g17]
    rw [h0, t1] at h13
    rw [g13, t1] at h17
    rw [g17, t1] at h19
    rw [g19, show jI (r : Int) + 1 = jI ((r : Int) + 1) by rw [i1, jI_add]]
    refine s11_clears (z := lz) hT (by rw [h19, h17, h13]; simp [m_u, h6]) ?_
    have g21 : (m_ui (m_ui (m_ui M19 m 1 (jI ((r : Int) + 1))) m 60 0) m 61 0).1 m 1 = jI ((r : Int) + 1) := by simp [m_u]
    rw [g21, show jI ((r : Int) + 1) - 1 = jI (r : Int) by rw [i1, jI_sub]; congr 1; omega, h19, h17, h13]
    exact k1 ⟨⟨p1, p2⟩, ⟨p3, p4⟩, p5, p6⟩ hlt
  · rw [if_pos (by rw [h0, jq5 rr]; omega)]
    exact k0 (fun h => hlt h.2)
end BN
