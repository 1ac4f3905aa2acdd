/-! ===== THE WALK ===== -/
def zabs (z : Int) : Int := if 0 ≤ z then z else -z
theorem zabs_nn (z : Int) : 0 ≤ zabs z := by unfold zabs; split <;> omega
theorem zabs_le {z b : Int} (h1 : -b ≤ z) (h2 : z ≤ b) : zabs z ≤ b := by unfold zabs; split <;> omega
def wC (far q : Int) : Int := if (far + q - 1) / q < 1 then 1 else if 6 < (far + q - 1) / q then 6 else (far + q - 1) / q
theorem wC_b (far q : Int) : 1 ≤ wC far q ∧ wC far q ≤ 6 := by
  unfold wC
  split
  · omega
  · split <;> omega
def wK (s : mS) (b r : Nat) : Int := wC (zabs (s 2 (r + 1) - s 2 r) + zabs (s 3 (r + 1) - s 3 r)) (s 5 b)
theorem wK_b (s : mS) (b r : Nat) : 1 ≤ wK s b r ∧ wK s b r ≤ 6 := wC_b _ _
theorem jI_abs {u : Int} (h : rI u) : (if 0 ≤ jI u then jI u else 0 - jI u) = jI (zabs u) := by
  simp only [i0, jIle rI0 h, jI_sub]
  unfold zabs
  split
  · rfl
  · rw [Int.zero_sub]
theorem jI_max1 {q : Int} (h : 1 ≤ q) (h2 : q ≤ 100000) : (if 1 < jI q then jI q else 1) = jI q := by
  simp only [i1, jIlt (rI_of (z := 1) (by omega) (by omega)) (rI_of (z := q) (by omega) h2)]
  split
  · rfl
  · rw [show q = 1 by omega]
theorem jI_clamp {C : Int} (h : rI C) : (if 1 < (if jI C < 6 then jI C else 6) then (if jI C < 6 then jI C else 6) else 1) = jI (if C < 1 then 1 else if 6 < C then 6 else C) := by
  have r1 : rI 1 := rI_of (by omega) (by omega)
  have r6 : rI 6 := rI_of (by omega) (by omega)
  simp only [i1, i6, jIlt h r6]
  by_cases c : C < 6
  · simp only [if_pos c, jIlt r1 h]
    by_cases c2 : 1 < C
    · rw [if_pos c2, if_neg (by omega), if_neg (by omega)]
    · rw [if_neg c2]
      by_cases c3 : C < 1
      · rw [if_pos c3]
      · rw [if_neg c3, if_neg (by omega), show C = 1 by omega]
  · simp only [if_neg c, jIlt r1 r6]
    rw [if_pos (by omega), if_neg (by omega)]
    by_cases c3 : 6 < C
    · rw [if_pos c3]
    · rw [if_neg c3, show C = 6 by omega]
section WK
variable {d : Nat} {Th : mT} {M : mM} {n m : Nat} {s : mS}
theorem s2_steps {Q : Int32 → mM → Prop} {b r : Nat} (hT : Ly Th n) (hR : Rf n M) (hH : cHill n s M) (hG : rG s) (hb : (b : Int) < s 0 1) (hr : (r : Int) < s 0 0) (k : Q (jI (wK s b r)) M) : P2_steps (d + 2) Th (n + 3) (jI b) (jI r) M Q := by
  obtain ⟨g0, g1, -, -, -, -, -, -, -, -, g2, g3, -, g5, gq, -, -⟩ := hG
  obtain ⟨c0, c1, -, -, -, c2, c3, -, c5, -⟩ := hH
  obtain ⟨R, hR0⟩ := Int.eq_ofNat_of_zero_le g0.1
  obtain ⟨B, hB0⟩ := Int.eq_ofNat_of_zero_le g1.1
  rw [hR0] at c0 hr g0
  rw [hB0] at c1 hb g1
  refine e2_steps ⟨hT 3 _ rfl, ?_⟩
  refine s2_hasBand hT c1 (by omega) (rI_nat (by omega)) (fun _ _ => ?_) (fun h => absurd (by omega) h)
  rw [if_neg (by decide)]
  refine s2_hasRiddle hT c0 (by omega) (rI_nat (by omega)) (fun _ _ => ?_) (fun h => absurd (by omega) h)
  rw [if_neg (by decide)]
  have e1 : jI (r : Int) + 1 = jI ((r + 1 : Nat) : Int) := by rw [i1, jI_add]; congr 1
  have t0 : Int32.toNatClampNeg (jI (r : Int)) = r := jInatN r (by omega)
  have t1 : Int32.toNatClampNeg (jI ((r + 1 : Nat) : Int)) = r + 1 := jInatN (r + 1) (by omega)
  have tb : Int32.toNatClampNeg (jI (b : Int)) = b := jInatN b (by omega)
  have x1 := g2 (r + 1)
  have x0 := g2 r
  have y1 := g3 (r + 1)
  have y0 := g3 r
  have q0 := gq b (by omega)
  simp only [e1, t0, t1, tb]
  refine ⟨n + 10, hR 3 8 10 (by decide), m_ok_jI (hT 10 _ rfl) (by omega) (by omega) (by omega), m_ok_jI (hT 10 _ rfl) (by omega) (by omega) (by omega), n + 11, hR 3 9 11 (by decide), m_ok_jI (hT 11 _ rfl) (by omega) (by omega) (by omega), m_ok_jI (hT 11 _ rfl) (by omega) (by omega) (by omega), ?_⟩
  intro far hfar
  refine ⟨n + 13, hR 3 11 13 (by decide), m_ok_jI (hT 13 _ rfl) (by omega) (by omega) (by omega), ?_⟩
  intro each heach
  have f1 := zabs_nn (s 2 (r + 1) - s 2 r)
  have f2 := zabs_nn (s 3 (r + 1) - s 3 r)
  have f3 : zabs (s 2 (r + 1) - s 2 r) ≤ 30 := zabs_le (by omega) (by omega)
  have f4 : zabs (s 3 (r + 1) - s 3 r) ≤ 30 := zabs_le (by omega) (by omega)
  have q9 := g5 b
  rw [c2, c2, c3, c3, jI_sub, jI_sub, jI_abs (rI_of (by omega) (by omega)), jI_abs (rI_of (by omega) (by omega)), jI_add] at hfar
  rw [c5, jI_max1 q0 (by omega)] at heach
  subst hfar heach
  refine ⟨by rw [i0, jIeq (rI_of (by omega) (by omega)) rI0]; omega, ?_⟩
  rw [jI_add, i1, jI_sub, jI_div (by omega) (by omega) (by omega) (by omega), ← i1]
  have hd := Int.ediv_le_self (b := s 5 b) (show 0 ≤ zabs (s 2 (r + 1) - s 2 r) + zabs (s 3 (r + 1) - s 3 r) + s 5 b - 1 by omega)
  have hd0 := Int.ediv_nonneg (a := zabs (s 2 (r + 1) - s 2 r) + zabs (s 3 (r + 1) - s 3 r) + s 5 b - 1) (b := s 5 b) (by omega) (by omega)
  rw [jI_clamp (rI_of (by omega) (by omega))]
  exact k
theorem jI_apart {u v : Int} (hu : rI u) (hv : rI v) : (if jI v ≤ jI u then jI u - jI v else jI v - jI u) = jI (zabs (v - u)) := by
  simp only [jIle hv hu, jI_sub]
  unfold zabs
  by_cases c : v ≤ u
  · rw [if_pos c]
    by_cases c2 : 0 ≤ v - u
    · rw [if_pos c2]; congr 1; omega
    · rw [if_neg c2]; congr 1; omega
  · rw [if_neg c, if_pos (by omega)]
theorem jI_clamp2 {C : Int} (h : rI C) : (if 1 ≤ jI C then (if jI C ≤ 6 then jI C else 6) else 1) = jI (if C < 1 then 1 else if 6 < C then 6 else C) := by
  have r1 : rI 1 := rI_of (by omega) (by omega)
  have r6 : rI 6 := rI_of (by omega) (by omega)
  simp only [i1, i6, jIle r1 h, jIle h r6]
  by_cases c : 1 ≤ C
  · rw [if_pos c]
    by_cases c2 : C ≤ 6
    · rw [if_pos c2, if_neg (show ¬ C < 1 by omega), if_neg (show ¬ 6 < C by omega)]
    · rw [if_neg c2, if_neg (show ¬ C < 1 by omega), if_pos (show 6 < C by omega)]
  · rw [if_neg c, if_pos (by omega)]
theorem s11_walkOf {Q : Int32 → mM → Prop} {b r : Nat} (hT : LyM Th m) (hR : RfM m M) (hH : mHill m s M) (hG : rG s) (hb : (b : Int) < s 0 1) (hr : (r : Int) < s 0 0) (k : Q (jI (wK s b r)) M) : P11_walkOf (d + 2) Th m (jI b) (jI r) M Q := by
  obtain ⟨g0, g1, -, -, -, -, -, -, -, -, g2, g3, -, g5, gq, -, -⟩ := hG
  obtain ⟨c0, c1, -, -, -, c2, c3, -, c5, -⟩ := hH
  have e1 : jI (r : Int) + 1 = jI ((r + 1 : Nat) : Int) := by rw [i1, jI_add]; congr 1
  have t0 : Int32.toNatClampNeg (jI (r : Int)) = r := jInatN r (by omega)
  have t1 : Int32.toNatClampNeg (jI ((r + 1 : Nat) : Int)) = r + 1 := jInatN (r + 1) (by omega)
  have tb : Int32.toNatClampNeg (jI (b : Int)) = b := jInatN b (by omega)
  have x1 := g2 (r + 1)
  have x0 := g2 r
  have y1 := g3 (r + 1)
  have y0 := g3 r
  have q0 := gq b hb
  have q9 := g5 b
  refine e11_walkOf ⟨hT 0 _ rfl, m + 2, hR 0 6 2 (by decide), m_ok_jI (hT 2 _ rfl) (by omega) (by omega) (by omega), ?_⟩
  simp only [e1, t0, t1, tb]
  refine ⟨m_ok_jI (hT 2 _ rfl) (by omega) (by omega) (by omega), ?_⟩
  refine e11_apart ?_
  refine ⟨m + 3, hR 0 7 3 (by decide), m_ok_jI (hT 3 _ rfl) (by omega) (by omega) (by omega), m_ok_jI (hT 3 _ rfl) (by omega) (by omega) (by omega), ?_⟩
  refine e11_apart ?_
  intro far hfar
  rw [c2, c2, c3, c3, jI_apart (rI_of (by omega) (by omega)) (rI_of (by omega) (by omega)), jI_apart (rI_of (by omega) (by omega)) (rI_of (by omega) (by omega)), jI_add] at hfar
  refine ⟨m + 5, hR 0 9 5 (by decide), m_ok_jI (hT 5 _ rfl) (by omega) (by omega) (by omega), by rw [c5, i0, jIeq (rI_of (by omega) (by omega)) rI0]; omega, ?_⟩
  intro v hv
  have f1 := zabs_nn (s 2 (r + 1) - s 2 r)
  have f2 := zabs_nn (s 3 (r + 1) - s 3 r)
  have f3 : zabs (s 2 (r + 1) - s 2 r) ≤ 30 := zabs_le (by omega) (by omega)
  have f4 : zabs (s 3 (r + 1) - s 3 r) ≤ 30 := zabs_le (by omega) (by omega)
  subst hfar
  rw [c5, jI_add, i1, jI_sub, jI_div (by omega) (by omega) (by omega) (by omega)] at hv
  have hd := Int.ediv_le_self (b := s 5 b) (show 0 ≤ zabs (s 2 (r + 1) - s 2 r) + zabs (s 3 (r + 1) - s 3 r) + s 5 b - 1 by omega)
  have hd0 := Int.ediv_nonneg (a := zabs (s 2 (r + 1) - s 2 r) + zabs (s 3 (r + 1) - s 3 r) + s 5 b - 1) (b := s 5 b) (by omega) (by omega)
  rw [hv, jI_clamp2 (rI_of (by omega) (by omega))]
  exact k
/-! walk -/
theorem s10_walk {Q : Int32 → mM → Prop} {z1 z2 : Int} (hT : Ly Th n) (hR : Rf n M) (hH : cHill n s M) (hG : rG s) (h1 : rI z1) (h2 : rI z2) (k0 : ¬ ((0 ≤ z1 ∧ z1 < s 0 1) ∧ (0 ≤ z2 ∧ z2 < s 0 0)) → Q (-1) M) (k1 : ∀ b r : Nat, z1 = b → z2 = r → (b : Int) < s 0 1 → (r : Int) < s 0 0 → Q (jI (wK s b r)) M) : P10_walk (d + 3) Th n (jI z1) (jI z2) M Q := by
  refine e10_walk ⟨hT 0 _ rfl, n + 3, hR 0 1 3 (by decide), hT 3 _ rfl, ?_⟩
  by_cases c : (0 ≤ z1 ∧ z1 < s 0 1) ∧ (0 ≤ z2 ∧ z2 < s 0 0)
  · obtain ⟨b, rfl⟩ := Int.eq_ofNat_of_zero_le c.1.1
    obtain ⟨r, rfl⟩ := Int.eq_ofNat_of_zero_le c.2.1
    exact s2_steps hT hR hH hG c.1.2 c.2.2 (k1 b r rfl rfl c.1.2 c.2.2)
  · have k := k0 c
    obtain ⟨c0, c1, -⟩ := hH
    obtain ⟨g0, g1, -⟩ := hG
    obtain ⟨R, hR0⟩ := Int.eq_ofNat_of_zero_le g0.1
    obtain ⟨B, hB0⟩ := Int.eq_ofNat_of_zero_le g1.1
    rw [hR0] at c0
    rw [hB0] at c1
    refine e2_steps ⟨hT 3 _ rfl, ?_⟩
    refine s2_hasBand hT c1 (by omega) h1 (fun p1 p2 => ?_) (fun _ => by rw [if_pos rfl]; exact k)
    rw [if_neg (by decide)]
    refine s2_hasRiddle hT c0 (by omega) h2 (fun p3 p4 => ?_) (fun _ => by rw [if_pos rfl]; exact k)
    exact absurd ⟨⟨p1, by omega⟩, p3, by omega⟩ c
theorem s11_walk {Q : Int32 → mM → Prop} {z1 z2 : Int} (hT : LyM Th m) (hR : RfM m M) (hH : mHill m s M) (hG : rG s) (h1 : rI z1) (h2 : rI z2) (k0 : ¬ ((0 ≤ z1 ∧ z1 < s 0 1) ∧ (0 ≤ z2 ∧ z2 < s 0 0)) → Q (-1) M) (k1 : ∀ b r : Nat, z1 = b → z2 = r → (b : Int) < s 0 1 → (r : Int) < s 0 0 → Q (jI (wK s b r)) M) : P11_walk (d + 3) Th m (jI z1) (jI z2) M Q := by
  have hH' := hH
  obtain ⟨c0, c1, -⟩ := hH'
  have g0 := hG.1
  have g1 := hG.2.1
  obtain ⟨R, hR0⟩ := Int.eq_ofNat_of_zero_le g0.1
  obtain ⟨B, hB0⟩ := Int.eq_ofNat_of_zero_le g1.1
  rw [hR0] at c0
  rw [hB0] at c1
  refine e11_walk ⟨hT 0 _ rfl, ?_⟩
  refine s11_isBand hT c1 (by omega) h1 (fun p1 p2 => ?_) (fun p => by rw [if_pos rfl]; exact k0 (fun h => p ⟨h.1.1, by omega⟩))
  rw [if_neg (by decide)]
  refine s11_isRiddle hT c0 (by omega) h2 (fun p3 p4 => ?_) (fun p => by rw [if_pos rfl]; exact k0 (fun h => p ⟨h.2.1, by omega⟩))
  rw [if_neg (by decide)]
  obtain ⟨b, rfl⟩ := Int.eq_ofNat_of_zero_le p1
  obtain ⟨r, rfl⟩ := Int.eq_ofNat_of_zero_le p3
  exact s11_walkOf hT hR hH hG (by omega) (by omega) (k1 b r rfl rfl (by omega) (by omega))
end WK
