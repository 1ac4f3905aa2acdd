/-! ===== the small ones ===== -/
theorem i0 : (0 : Int32) = jI 0 := rfl
theorem i1 : (1 : Int32) = jI 1 := rfl
theorem i2 : (2 : Int32) = jI 2 := rfl
theorem i3 : (3 : Int32) = jI 3 := rfl
theorem i4 : (4 : Int32) = jI 4 := rfl
theorem i5 : (5 : Int32) = jI 5 := rfl
theorem i6 : (6 : Int32) = jI 6 := rfl
theorem i7 : (7 : Int32) = jI 7 := rfl
theorem i8 : (8 : Int32) = jI 8 := rfl
theorem i9 : (9 : Int32) = jI 9 := rfl
theorem i10 : (10 : Int32) = jI 10 := rfl
theorem i11 : (11 : Int32) = jI 11 := rfl
theorem i12 : (12 : Int32) = jI 12 := rfl
theorem i16 : (16 : Int32) = jI 16 := rfl
theorem i20 : (20 : Int32) = jI 20 := rfl
theorem i21 : (21 : Int32) = jI 21 := rfl
theorem i40 : (40 : Int32) = jI 40 := rfl
theorem iN : (-1 : Int32) = jI (-1) := rfl
theorem rI0 : rI 0 := ⟨by omega, by omega⟩
theorem rI_of {z : Int} (h1 : -100000 ≤ z) (h2 : z ≤ 100000) : rI z := ⟨by omega, by omega⟩
theorem rI_nat {k : Nat} (h : k ≤ 100000) : rI (k : Int) := ⟨by omega, by omega⟩
section SM
variable {d : Nat} {Th : mT} {M : mM} {n m : Nat}
theorem s2_hasBand {Q : Int32 → mM → Prop} {z : Int} {b : Nat} (hT : Ly Th n) (h1 : M.1 (n + 3) 1 = jI b) (hb : b ≤ 5) (hz : rI z) (k1 : 0 ≤ z → z < b → Q 1 M) (k0 : ¬ (0 ≤ z ∧ z < b) → Q 0 M) : P2_hasBand (d + 1) Th (n + 3) (jI z) M Q := by
  refine e2_hasBand ?_
  simp only [i0, i5, h1, jIlt hz rI0, jIle (rI_nat (k := b) (by omega)) hz, jIle (rI_of (z := 5) (by omega) (by omega)) hz]
  by_cases c1 : z < 0
  · rw [if_pos c1]; exact k0 (by omega)
  · rw [if_neg c1]
    refine ⟨hT 3 _ rfl, ?_⟩
    by_cases c2 : (b : Int) ≤ z
    · simp only [if_pos c2]; exact ⟨mb0, k0 (by omega)⟩
    · simp only [if_neg c2, if_neg (show ¬ (5 : Int) ≤ z by omega)]; exact ⟨mb1, k1 (by omega) (by omega)⟩
theorem s2_hasRiddle {Q : Int32 → mM → Prop} {z : Int} {b : Nat} (hT : Ly Th n) (h1 : M.1 (n + 3) 0 = jI b) (hb : b ≤ 5) (hz : rI z) (k1 : 0 ≤ z → z < b → Q 1 M) (k0 : ¬ (0 ≤ z ∧ z < b) → Q 0 M) : P2_hasRiddle (d + 1) Th (n + 3) (jI z) M Q := by
  refine e2_hasRiddle ?_
  simp only [i0, i5, h1, jIlt hz rI0, jIle (rI_nat (k := b) (by omega)) hz, jIle (rI_of (z := 5) (by omega) (by omega)) hz]
  by_cases c1 : z < 0
  · rw [if_pos c1]; exact k0 (by omega)
  · rw [if_neg c1]
    refine ⟨hT 3 _ rfl, ?_⟩
    by_cases c2 : (b : Int) ≤ z
    · simp only [if_pos c2]; exact ⟨mb0, k0 (by omega)⟩
    · simp only [if_neg c2, if_neg (show ¬ (5 : Int) ≤ z by omega)]; exact ⟨mb1, k1 (by omega) (by omega)⟩
theorem s11_isBand {Q : Int32 → mM → Prop} {z : Int} {b : Nat} (hT : LyM Th m) (h1 : M.1 m 1 = jI b) (hb : b ≤ 5) (hz : rI z) (k1 : 0 ≤ z → z < b → Q 1 M) (k0 : ¬ (0 ≤ z ∧ z < b) → Q 0 M) : P11_isBand (d + 1) Th m (jI z) M Q := by
  refine e11_isBand ?_
  simp only [i0, h1, jIlt hz rI0, jIle (rI_nat (k := b) (by omega)) hz]
  by_cases c1 : z < 0
  · rw [if_pos c1]; exact k0 (by omega)
  · rw [if_neg c1]
    refine ⟨hT 0 _ rfl, ?_⟩
    by_cases c2 : (b : Int) ≤ z
    · simp only [if_pos c2]; exact ⟨mb0, k0 (by omega)⟩
    · simp only [if_neg c2]; exact ⟨mb1, k1 (by omega) (by omega)⟩
theorem s11_isRiddle {Q : Int32 → mM → Prop} {z : Int} {b : Nat} (hT : LyM Th m) (h1 : M.1 m 0 = jI b) (hb : b ≤ 5) (hz : rI z) (k1 : 0 ≤ z → z < b → Q 1 M) (k0 : ¬ (0 ≤ z ∧ z < b) → Q 0 M) : P11_isRiddle (d + 1) Th m (jI z) M Q := by
  refine e11_isRiddle ?_
  simp only [i0, h1, jIlt hz rI0, jIle (rI_nat (k := b) (by omega)) hz]
  by_cases c1 : z < 0
  · rw [if_pos c1]; exact k0 (by omega)
  · rw [if_neg c1]
    refine ⟨hT 0 _ rfl, ?_⟩
    by_cases c2 : (b : Int) ≤ z
    · simp only [if_pos c2]; exact ⟨mb0, k0 (by omega)⟩
    · simp only [if_neg c2]; exact ⟨mb1, k1 (by omega) (by omega)⟩
/-- two bands, and riddles -/
def vTwo (r b : Nat) (x y : Int) : Prop := (0 ≤ x ∧ x < b) ∧ (0 ≤ y ∧ y < b) ∧ x ≠ y ∧ 0 < r
theorem s10_canHunt {Q : Int32 → mM → Prop} {x y : Int} {r b : Nat} (hT : Ly Th n) (hR : Rf n M) (h0 : M.1 (n + 3) 0 = jI r) (h1 : M.1 (n + 3) 1 = jI b) (hr : r ≤ 5) (hb : b ≤ 5) (hx : rI x) (hy : rI y) (k1 : vTwo r b x y → Q 1 M) (k0 : ¬ vTwo r b x y → Q 0 M) : P10_canHunt (d + 2) Th n (jI x) (jI y) M Q := by
  refine e10_canHunt ⟨hT 0 _ rfl, n + 3, hR 0 1 3 (by decide), hT 3 _ rfl, ?_⟩
  refine s2_hasBand hT h1 hb hx (fun a1 a2 => ?_) (fun a => ?_)
  rotate_left
  · rw [if_pos rfl]; exact k0 (fun h => a h.1)
  rw [if_neg (by decide)]
  refine ⟨n + 3, hR 0 1 3 (by decide), hT 3 _ rfl, ?_⟩
  refine s2_hasBand hT h1 hb hy (fun a3 a4 => ?_) (fun a => ?_)
  rotate_left
  · rw [if_pos rfl]; exact k0 (fun h => a h.2.1)
  rw [if_neg (by decide)]
  simp only [jIeq hx hy]
  by_cases c : x = y
  · rw [if_pos c]; exact k0 (fun h => h.2.2.1 c)
  · rw [if_neg c]
    refine ⟨n + 3, hR 0 1 3 (by decide), hT 3 _ rfl, ?_⟩
    simp only [h0, i0, jIle (rI_nat (k := r) (by omega)) rI0]
    by_cases c2 : (r : Int) ≤ 0
    · simp only [if_pos c2]; exact ⟨mb0, k0 (fun h => by have := h.2.2.2; omega)⟩
    · simp only [if_neg c2]; exact ⟨mb1, k1 ⟨⟨a1, a2⟩, ⟨a3, a4⟩, c, by omega⟩⟩
theorem s11_areTwo {Q : Int32 → mM → Prop} {x y : Int} {r b : Nat} (hT : LyM Th m) (h0 : M.1 m 0 = jI r) (h1 : M.1 m 1 = jI b) (hr : r ≤ 5) (hb : b ≤ 5) (hx : rI x) (hy : rI y) (k1 : vTwo r b x y → Q 1 M) (k0 : ¬ vTwo r b x y → Q 0 M) : P11_areTwo (d + 2) Th m (jI x) (jI y) M Q := by
  refine e11_areTwo ⟨hT 0 _ rfl, ?_⟩
  refine s11_isBand hT h1 hb hx (fun a1 a2 => ?_) (fun a => ?_)
  rotate_left
  · rw [if_pos rfl]; exact k0 (fun h => a h.1)
  rw [if_neg (by decide)]
  refine s11_isBand hT h1 hb hy (fun a3 a4 => ?_) (fun a => ?_)
  rotate_left
  · rw [if_pos rfl]; exact k0 (fun h => a h.2.1)
  rw [if_neg (by decide)]
  simp only [jIeq hx hy]
  by_cases c : x = y
  · rw [if_pos c]; exact k0 (fun h => h.2.2.1 c)
  · rw [if_neg c]
    simp only [h0, i0, jIle (rI_nat (k := r) (by omega)) rI0]
    by_cases c2 : (r : Int) ≤ 0
    · simp only [if_pos c2]; exact ⟨mb0, k0 (fun h => by have := h.2.2.2; omega)⟩
    · simp only [if_neg c2]; exact ⟨mb1, k1 ⟨⟨a1, a2⟩, ⟨a3, a4⟩, c, by omega⟩⟩
/-! weather -/
def u10_weather (n : Nat) (M : mM) (x1 x2 c : Int32) : mM := m_ui (m_ui (m_ui M (n + 3) 2 x1) (n + 3) 3 x2) (n + 3) 4 (c + 1)
def vWeather (z1 z2 : Int) : Prop := (1 ≤ z1 ∧ z1 ≤ 4) ∧ (0 ≤ z2 ∧ z2 ≤ 1)
theorem s10_weather {Q : Int32 → mM → Prop} {z1 z2 : Int} {c : Int32} (hT : Ly Th n) (hR : Rf n M) (h4 : M.1 (n + 3) 4 = c) (hz1 : rI z1) (hz2 : rI z2) (k0 : ¬ vWeather z1 z2 → Q 0 M) (k1 : vWeather z1 z2 → Q 1 (u10_weather n M (jI z1) (jI z2) c)) : P10_weather (d + 2) Th n (jI z1) (jI z2) M Q := by
  refine e10_weather ?_
  refine s_within 1 4 rfl rfl rfl hz1 (rI_of (by omega) (by omega)) (rI_of (by omega) (by omega)) (fun p1 p2 => ?_) (fun p => ?_)
  rotate_left
  · rw [if_pos rfl]; exact k0 (fun h => p h.1)
  rw [if_neg (by decide)]
  refine s_within 0 1 rfl rfl rfl hz2 (rI_of (by omega) (by omega)) (rI_of (by omega) (by omega)) (fun p3 p4 => ?_) (fun p => ?_)
  rotate_left
  · rw [if_pos rfl]; exact k0 (fun h => p h.2)
  rw [if_neg (by decide)]
  refine ⟨hT 0 _ rfl, n + 3, hR 0 1 3 (by decide), hT 3 _ rfl, ?_⟩
  refine e2_setWeather ⟨hT 3 _ rfl, ?_⟩
  intro M2 h2 M3 h3
  rw [show M3.1 (n + 3) 4 = c by rw [h3, h2]; simp [m_u, h4], h3, h2]
  exact k1 ⟨⟨p1, p2⟩, p3, p4⟩
theorem s11_weather {Q : Int32 → mM → Prop} {z1 z2 : Int} (hT : LyM Th m) (hz1 : rI z1) (hz2 : rI z2) (k0 : ¬ vWeather z1 z2 → Q 0 M) (k1 : vWeather z1 z2 → Q 1 (m_ui (m_ui M m 2 (jI z1)) m 3 (jI z2))) : P11_weather (d + 2) Th m (jI z1) (jI z2) M Q := by
  refine e11_weather ?_
  refine s_in 1 4 rfl rfl rfl hz1 (rI_of (by omega) (by omega)) (rI_of (by omega) (by omega)) (fun p1 p2 => ?_) (fun p => ?_)
  rotate_left
  · rw [if_pos rfl]; exact k0 (fun h => p h.1)
  rw [if_neg (by decide)]
  refine s_in 0 1 rfl rfl rfl hz2 (rI_of (by omega) (by omega)) (rI_of (by omega) (by omega)) (fun p3 p4 => ?_) (fun p => ?_)
  rotate_left
  · rw [if_pos rfl]; exact k0 (fun h => p h.2)
  rw [if_neg (by decide)]
  refine ⟨hT 0 _ rfl, ?_⟩
  intro M6 h6
  rw [h6]
  exact k1 ⟨⟨p1, p2⟩, p3, p4⟩
/-! seed -/
theorem s10_seed {Q : Int32 → mM → Prop} {z : Int} (hT : Ly Th n) (hR : Rf n M) (hz : rI z) (k0 : ¬ (0 ≤ z ∧ z ≤ 65535) → Q 0 M) (k1 : 0 ≤ z → z ≤ 65535 → Q 1 (m_ui M (n + 107) 8 (jI z))) : P10_seed (d + 2) Th n (jI z) M Q := by
  refine e10_seed ?_
  refine s_within 0 65535 rfl rfl rfl hz (rI_of (by omega) (by omega)) (rI_of (by omega) (by omega)) (fun p1 p2 => ?_) (fun p => ?_)
  rotate_left
  · rw [if_pos rfl]; exact k0 p
  rw [if_neg (by decide)]
  exact ⟨hT 0 _ rfl, n + 107, hR 0 9 107 (by decide), hT 107 _ rfl, k1 p1 p2⟩
theorem s11_seed {Q : Int32 → mM → Prop} {z : Int} (hT : LyM Th m) (hz : rI z) (k0 : ¬ (0 ≤ z ∧ z ≤ 65535) → Q 0 M) (k1 : 0 ≤ z → z ≤ 65535 → Q 1 (m_ui M m 4 (jI z))) : P11_seed (d + 2) Th m (jI z) M Q := by
  refine e11_seed ?_
  refine s_in 0 65535 rfl rfl rfl hz (rI_of (by omega) (by omega)) (rI_of (by omega) (by omega)) (fun p1 p2 => ?_) (fun p => ?_)
  rotate_left
  · rw [if_pos rfl]; exact k0 p
  rw [if_neg (by decide)]
  exact ⟨hT 0 _ rfl, k1 p1 p2⟩
/-! clear -/
theorem s10_clear {Q : Int32 → mM → Prop} (hT : Ly Th n) (hR : Rf n M) (k : Q (M.1 (n + 105) 1) (m_ui (m_ui M (n + 105) 1 0) (n + 107) 9 0)) : P10_clear (d + 3) Th n M Q := by
  refine e10_clear ⟨hT 0 _ rfl, n + 105, hR 0 8 105 (by decide), hT 105 _ rfl, ?_⟩
  intro v hv
  subst hv
  exact s10_logFalls hT hR k
theorem s11_clear {Q : Int32 → mM → Prop} {z : Int} (hT : LyM Th m) (h6 : M.1 m 60 = jI z) (k : Q (jI z) (m_ui (m_ui M m 60 0) m 61 0)) : P11_clear (d + 2) Th m M Q :=
  e11_clear ⟨hT 0 _ rfl, s11_clears hT h6 k⟩
/-! had -/
theorem s10_had {Q : Int32 → mM → Prop} {z : Int} {b : Nat} (hT : Ly Th n) (hR : Rf n M) (h1 : M.1 (n + 3) 1 = jI b) (hb : b ≤ 5) (hz : rI z) (k0 : ¬ (0 ≤ z ∧ z < b) ∨ M.1 (n + 107) 9 = 0 → Q (-1) M) (k1 : 0 ≤ z → z < b → ¬ M.1 (n + 107) 9 = 0 → Q (M.1 (n + 112) z.toNat) M) : P10_had (d + 3) Th n (jI z) M Q := by
  refine e10_had ⟨hT 0 _ rfl, n + 3, hR 0 1 3 (by decide), hT 3 _ rfl, ?_⟩
  refine s2_hasBand hT h1 hb hz (fun a1 a2 => ?_) (fun a => ?_)
  rotate_left
  · rw [if_pos rfl]; exact k0 (Or.inl a)
  rw [if_neg (by decide)]
  refine ⟨n + 107, hR 0 9 107 (by decide), hT 107 _ rfl, ?_⟩
  by_cases c : M.1 (n + 107) 9 = 0
  · rw [if_pos c]; exact k0 (Or.inr c)
  · rw [if_neg c]
    refine e3_boxTick ?_
    simp only [i0, i5, jIlt hz rI0, jIle (rI_of (z := 5) (by omega) (by omega)) hz]
    rw [if_neg (by omega), if_neg (by omega)]
    refine ⟨hT 107 _ rfl, n + 112, hR 107 6 112 (by decide), m_ok_jI (hT 112 _ rfl) a1 (by omega) (by omega), ?_⟩
    rw [jInat hz]
    exact k1 a1 a2 c
theorem s11_had {Q : Int32 → mM → Prop} {z : Int} {b : Nat} (hT : LyM Th m) (hR : RfM m M) (h1 : M.1 m 1 = jI b) (hb : b ≤ 5) (hz : rI z) (k0 : ¬ (0 ≤ z ∧ z < b) ∨ M.1 m 61 = 0 → Q (-1) M) (k1 : 0 ≤ z → z < b → ¬ M.1 m 61 = 0 → Q (M.1 (m + 38) z.toNat) M) : P11_had (d + 2) Th m (jI z) M Q := by
  refine e11_had ⟨hT 0 _ rfl, ?_⟩
  refine s11_isBand hT h1 hb hz (fun a1 a2 => ?_) (fun a => ?_)
  rotate_left
  · rw [if_pos rfl]; exact k0 (Or.inl a)
  rw [if_neg (by decide)]
  by_cases c : M.1 m 61 = 0
  · rw [if_pos c]; exact k0 (Or.inr c)
  · rw [if_neg c]
    refine ⟨m + 38, hR 0 65 38 (by decide), m_ok_jI (hT 38 _ rfl) a1 (by omega) (by omega), ?_⟩
    rw [jInat hz]
    exact k1 a1 a2 c
end SM
