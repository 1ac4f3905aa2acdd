/-! ===== riddle, band, weather ===== -/
def u10_riddle (n : Nat) (M : mM) (r : Nat) (x1 x2 x3 c : Int32) : mM :=
  m_ui (m_ui (m_ui (m_ui (m_ui (m_ui (m_ui (m_ui M (n + 100) 5 0) (n + 105) 1 0) (n + 107) 9 0) (n + 9) r x1) (n + 10) (r + 1) x2) (n + 11) (r + 1) x3) (n + 3) 0 (jI ((r : Int) + 1))) (n + 3) 4 (c + 1)
def vRiddle (z1 z2 z3 : Int) : Prop := (0 ≤ z1 ∧ z1 ≤ 9) ∧ (0 ≤ z2 ∧ z2 ≤ 30) ∧ (0 ≤ z3 ∧ z3 ≤ 30)
theorem s10_riddle {d : Nat} {Th : mT} {M : mM} {Q : Int32 → mM → Prop} {n r : Nat} {z1 z2 z3 : Int} {c : Int32} (hT : Ly Th n) (hR : Rf n M) (h0 : M.1 (n + 3) 0 = jI r) (h4 : M.1 (n + 3) 4 = c) (hr : r ≤ 5) (hz1 : rI z1) (hz2 : rI z2) (hz3 : rI z3)
    (k0 : ¬ (vRiddle z1 z2 z3 ∧ r < 5) → Q (-1) M) (k1 : vRiddle z1 z2 z3 → r < 5 → Q (jI r) (u10_riddle n M r (jI z1) (jI z2) (jI z3) c)) : P10_riddle (d + 4) Th n (jI z1) (jI z2) (jI z3) M Q := by
  have b0 : rI 0 := ⟨by omega, by omega⟩
  have b9 : rI 9 := ⟨by omega, by omega⟩
  have b30 : rI 30 := ⟨by omega, by omega⟩
  refine e10_riddle ?_
  refine s_within 0 9 rfl rfl rfl hz1 b0 b9 (fun p1 p2 => ?_) (fun p => ?_)
  rotate_left
  · rw [if_pos rfl]; exact k0 (fun h => p h.1.1)
  rw [if_neg (by decide)]
  refine s_within 0 30 rfl rfl rfl hz2 b0 b30 (fun p3 p4 => ?_) (fun p => ?_)
  rotate_left
  · rw [if_pos rfl]; exact k0 (fun h => p h.1.2.1)
  rw [if_neg (by decide)]
  refine s_within 0 30 rfl rfl rfl hz3 b0 b30 (fun p5 p6 => ?_) (fun p => ?_)
  rotate_left
  · rw [if_pos rfl]; exact k0 (fun h => p h.1.2.2)
  rw [if_neg (by decide)]
  refine ⟨hT 0 _ rfl, n + 3, hR 0 1 3 (by decide), hT 3 _ rfl, ?_⟩
  have rr : rI (r : Int) := ⟨by omega, by omega⟩
  have e5 : (5 : Int32) = jI 5 := rfl
  by_cases hlt : r < 5
  · rw [if_pos (by rw [h0, e5, jIlt rr ⟨by omega, by omega⟩]; omega)]
    refine ⟨n + 100, hR 0 7 100 (by decide), hT 100 _ rfl, ?_⟩
    refine e6_fall ⟨hT 100 _ rfl, ?_⟩
    refine s10_logFalls hT hR ?_
    refine ⟨n + 3, hR 0 1 3 (by decide), hT 3 _ rfl, ?_⟩
    refine s2_addRiddle (c := c) hT hR (by simp [m_u, h0]) (by simp [m_u, h4]) hlt ?_
    exact k1 ⟨⟨p1, p2⟩, ⟨p3, p4⟩, p5, p6⟩ hlt
  · rw [if_neg (by rw [h0, e5, jIlt rr ⟨by omega, by omega⟩]; omega)]
    exact k0 (fun h => hlt h.2)
def u11_riddle (m : Nat) (M : mM) (r : Nat) (x1 x2 x3 : Int32) : mM :=
  m_ui (m_ui (m_ui (m_ui (m_ui (m_ui (m_ui M (m + 1) r x1) (m + 2) (r + 1) x2) (m + 3) (r + 1) x3) m 0 (jI ((r : Int) + 1))) m 56 0) m 60 0) m 61 0
theorem s11_riddle {d : Nat} {Th : mT} {M : mM} {Q : Int32 → mM → Prop} {m r : Nat} {z1 z2 z3 lz : Int} (hT : LyM Th m) (hR : RfM m M) (h0 : M.1 m 0 = jI r) (h6 : M.1 m 60 = jI lz) (hr : r ≤ 5) (hz1 : rI z1) (hz2 : rI z2) (hz3 : rI z3)
    (k0 : ¬ (vRiddle z1 z2 z3 ∧ r < 5) → Q (-1) M) (k1 : vRiddle z1 z2 z3 → r < 5 → Q (jI r) (u11_riddle m M r (jI z1) (jI z2) (jI z3))) : P11_riddle (d + 2) Th m (jI z1) (jI z2) (jI z3) M Q := by
  have b0 : rI 0 := ⟨by omega, by omega⟩
  have b9 : rI 9 := ⟨by omega, by omega⟩
  have b30 : rI 30 := ⟨by omega, by omega⟩
  have e1 : (1 : Int32) = jI 1 := rfl
  have e5 : (5 : Int32) = jI 5 := rfl
  refine e11_riddle ?_
  refine s_in 0 9 rfl rfl rfl hz1 b0 b9 (fun p1 p2 => ?_) (fun p => ?_)
  rotate_left
  · rw [if_pos rfl]; exact k0 (fun h => p h.1.1)
  rw [if_neg (by decide)]
  refine s_in 0 30 rfl rfl rfl hz2 b0 b30 (fun p3 p4 => ?_) (fun p => ?_)
  rotate_left
  · rw [if_pos rfl]; exact k0 (fun h => p h.1.2.1)
  rw [if_neg (by decide)]
  refine s_in 0 30 rfl rfl rfl hz3 b0 b30 (fun p5 p6 => ?_) (fun p => ?_)
  rotate_left
  · rw [if_pos rfl]; exact k0 (fun h => p h.1.2.2)
  rw [if_neg (by decide)]
  have rr : rI (r : Int) := ⟨by omega, by omega⟩
  refine ⟨hT 0 _ rfl, ?_⟩
  by_cases hlt : r < 5
  · rw [if_neg (by rw [h0, e5, jIeq rr ⟨by omega, by omega⟩]; omega)]
    have i1 : Int32.toNatClampNeg (jI r) = r := jInatN r (by omega)
    have i2 : Int32.toNatClampNeg (jI ((r : Int) + 1)) = r + 1 := by have := jInatN (r + 1) (by omega); simpa using this
    refine ⟨m + 1, hR 0 5 1 (by decide), by rw [h0]; exact m_okw_jI (hT 1 _ rfl) (by omega) (by omega) (by omega), m + 2, hR 0 6 2 (by decide), ?_⟩
    intro M13 h13
    have g13 : M13.1 m 0 = jI r := by rw [h13]; simp [m_u, h0]
    refine ⟨by rw [g13, e1, jI_add]; exact m_okw_jI (hT 2 _ rfl) (by omega) (by omega) (by omega), m + 3, hR 0 7 3 (by decide), ?_⟩
    intro M17 h17
    have g17 : M17.1 m 0 = jI r := by rw [h17]; simp [m_u, g13]
    refine ⟨by rw [g17, e1, jI_add]; exact m_okw_jI (hT 3 _ rfl) (by omega) (by omega) (by omega), ?_⟩
    intro M19 h19 M20 h20
    have g19 : M19.1 m 0 = jI r := by rw [h19]; simp [m_u, g17]
    rw [h0, i1] at h13
    rw [g13, e1, jI_add, i2] at h17
    rw [g17, e1, jI_add, i2] at h19
    rw [g19, e1, jI_add] at h20
    refine s11_clears (z := lz) hT (by rw [h20, h19, h17, h13]; simp [m_u, h6]) ?_
    have g21 : (m_ui (m_ui (m_ui M20 m 56 0) m 60 0) m 61 0).1 m 0 = jI ((r : Int) + 1) := by rw [h20]; simp [m_u]
    rw [g21, e1, jI_sub, show (r : Int) + 1 - 1 = r by omega, h20, h19, h17, h13]
    exact k1 ⟨⟨p1, p2⟩, ⟨p3, p4⟩, p5, p6⟩ hlt
  · rw [if_pos (by rw [h0, e5, jIeq rr ⟨by omega, by omega⟩]; omega)]
    exact k0 (fun h => hlt h.2)
