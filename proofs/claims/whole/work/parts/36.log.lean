/-! ===== THE LOG ===== -/
section LG
variable {d : Nat} {Th : mT} {M : mM} {n m : Nat}
/-- an entry of the log: what 0, 1, 2; -1 for others -/
def eLog (s : mS) (i w : Int) : Int := if (0 ≤ i ∧ i < s 0 6) ∧ (0 ≤ w ∧ w ≤ 2) then s 9 (3 * i + w).toNat else -1
theorem s5_has {Q : Int32 → mM → Prop} {s : mS} {z : Int} (hT : Ly Th n) (hH : cLog n s M) (hG : rG s) (hz : rI z) (k1 : 0 ≤ z → z < s 0 6 → Q 1 M) (k0 : ¬ (0 ≤ z ∧ z < s 0 6) → Q 0 M) : P5_has (d + 1) Th (n + 105) (jI z) M Q := by
  obtain ⟨-, -, -, -, -, -, g, -⟩ := hG
  refine e5_has ?_
  simp only [i0, i40, hH.1, jIlt hz rI0, jIle (rI_of (z := s 0 6) (by omega) (by omega)) hz, jIle (rI_of (z := 40) (by omega) (by omega)) hz]
  by_cases c1 : z < 0
  · rw [if_pos c1]; exact k0 (by omega)
  · rw [if_neg c1]
    refine ⟨hT 105 _ rfl, ?_⟩
    by_cases c2 : s 0 6 ≤ z
    · simp only [if_pos c2]; exact ⟨mb0, k0 (by omega)⟩
    · simp only [if_neg c2, if_neg (show ¬ (40 : Int) ≤ z by omega)]; exact ⟨mb1, k1 (by omega) (by omega)⟩
theorem s5_entry {Q : Int32 → mM → Prop} {s : mS} {z w : Int} (hT : Ly Th n) (hR : Rf n M) (hH : cLog n s M) (hG : rG s) (hz : rI z) (hw : rI w) (k : Q (jI (eLog s z w)) M) : P5_entry (d + 2) Th (n + 105) (jI z) (jI w) M Q := by
  refine e5_entry ⟨hT 105 _ rfl, ?_⟩
  unfold eLog at k
  have g := hG.2.2.2.2.2.2.1
  refine s5_has hT hH hG hz (fun a1 a2 => ?_) (fun a => ?_)
  rotate_left
  · rw [if_pos rfl]
    rw [if_neg (fun h => a h.1)] at k
    exact k
  rw [if_neg (by decide)]
  refine s_within 0 2 rfl rfl rfl hw rI0 (rI_of (by omega) (by omega)) (fun a3 a4 => ?_) (fun a => ?_)
  rotate_left
  · rw [if_pos rfl]
    rw [if_neg (fun h => a h.2)] at k
    exact k
  rw [if_neg (by decide)]
  rw [if_pos ⟨⟨a1, a2⟩, a3, a4⟩] at k
  refine ⟨n + 106, hR 105 0 106 (by decide), ?_⟩
  rw [i3, jI_mul, jI_add, jInat (rI_of (by omega) (by omega)), hH.2]
  exact ⟨m_ok_jI (hT 106 _ rfl) (by omega) (by omega) (by omega), k⟩
theorem s5_lastTick {Q : Int32 → mM → Prop} {s : mS} (hT : Ly Th n) (hR : Rf n M) (hH : cLog n s M) (hG : rG s) (k : Q (jI (if s 0 6 = 0 then 0 else eLog s (s 0 6 - 1) 2)) M) : P5_lastTick (d + 3) Th (n + 105) M Q := by
  have g := hG.2.2.2.2.2.2.1
  refine e5_lastTick ⟨hT 105 _ rfl, ?_⟩
  simp only [i0, hH.1, jIeq (rI_of (z := s 0 6) (by omega) (by omega)) rI0]
  by_cases c : s 0 6 = 0
  · rw [if_pos c] at k ⊢
    exact k
  · rw [if_neg c] at k ⊢
    rw [i1, i2, jI_sub]
    exact s5_entry hT hR hH hG (rI_of (by omega) (by omega)) (rI_of (by omega) (by omega)) k
def u5_add (n : Nat) (M : mM) (l : Nat) (x1 x2 x3 : Int32) : mM := m_ui (m_ui (m_ui (m_ui M (n + 106) (3 * l) x1) (n + 106) (3 * l + 1) x2) (n + 106) (3 * l + 2) x3) (n + 105) 1 (jI ((l : Int) + 1))
theorem s5_add {Q : mM → Prop} {l : Nat} {x1 x2 x3 : Int32} (hT : Ly Th n) (hR : Rf n M) (h1 : M.1 (n + 105) 1 = jI l) (hl : l < 40) (k : Q (u5_add n M l x1 x2 x3)) : P5_add (d + 1) Th (n + 105) x1 x2 x3 M Q := by
  have rl : rI (l : Int) := rI_nat (by omega)
  refine e5_add ⟨hT 105 _ rfl, ?_⟩
  rw [if_neg (by rw [h1, i0, jIlt rl rI0]; omega), if_pos (by rw [h1, i40, jIlt rl (rI_of (by omega) (by omega))]; omega)]
  have t0 : Int32.toNatClampNeg (jI (3 * (l : Int))) = 3 * l := by rw [jInat (rI_of (by omega) (by omega))]; omega
  have t1 : Int32.toNatClampNeg (jI (3 * (l : Int) + 1)) = 3 * l + 1 := by rw [jInat (rI_of (by omega) (by omega))]; omega
  have t2 : Int32.toNatClampNeg (jI (3 * (l : Int) + 2)) = 3 * l + 2 := by rw [jInat (rI_of (by omega) (by omega))]; omega
  refine ⟨n + 106, hR 105 0 106 (by decide), by rw [h1, i3, jI_mul]; exact m_okw_jI (hT 106 _ rfl) (by omega) (by omega) (by omega), ?_⟩
  intro M5 h5
  have g5 : M5.1 (n + 105) 1 = jI l := by rw [h5]; simp [m_u, h1]
  refine ⟨by rw [g5, i3, jI_mul, i1, jI_add]; exact m_okw_jI (hT 106 _ rfl) (by omega) (by omega) (by omega), ?_⟩
  intro M7 h7
  have g7 : M7.1 (n + 105) 1 = jI l := by rw [h7]; simp [m_u, g5]
  refine ⟨by rw [g7, i3, jI_mul, i2, jI_add]; exact m_okw_jI (hT 106 _ rfl) (by omega) (by omega) (by omega), ?_⟩
  intro M9 h9
  have g9 : M9.1 (n + 105) 1 = jI l := by rw [h9]; simp [m_u, g7]
  rw [h1, i3, jI_mul, t0] at h5
  rw [g5, i3, jI_mul, i1, jI_add, t1] at h7
  rw [g7, i3, jI_mul, i2, jI_add, t2] at h9
  rw [g9, i1, jI_add, h9, h7, h5]
  exact k
def u11_puts (m : Nat) (M : mM) (l : Nat) (x1 x2 x3 : Int32) : mM := m_ui (m_ui (m_ui (m_ui M (m + 35) l x1) (m + 36) l x2) (m + 37) l x3) m 60 (jI ((l : Int) + 1))
theorem s11_puts {Q : mM → Prop} {l : Nat} {x1 x2 x3 : Int32} (hT : LyM Th m) (hR : RfM m M) (h1 : M.1 m 60 = jI l) (hl : l < 40) (k : Q (u11_puts m M l x1 x2 x3)) : P11_puts (d + 1) Th m x1 x2 x3 M Q := by
  have t0 : Int32.toNatClampNeg (jI (l : Int)) = l := jInatN l (by omega)
  refine e11_puts ⟨hT 0 _ rfl, m + 35, hR 0 62 35 (by decide), by rw [h1]; exact m_okw_jI (hT 35 _ rfl) (by omega) (by omega) (by omega), m + 36, hR 0 63 36 (by decide), ?_⟩
  intro M7 h7
  have g7 : M7.1 m 60 = jI l := by rw [h7]; simp [m_u, h1]
  refine ⟨by rw [g7]; exact m_okw_jI (hT 36 _ rfl) (by omega) (by omega) (by omega), m + 37, hR 0 64 37 (by decide), ?_⟩
  intro M11 h11
  have g11 : M11.1 m 60 = jI l := by rw [h11]; simp [m_u, g7]
  refine ⟨by rw [g11]; exact m_okw_jI (hT 37 _ rfl) (by omega) (by omega) (by omega), ?_⟩
  intro M13 h13
  have g13 : M13.1 m 60 = jI l := by rw [h13]; simp [m_u, g11]
  rw [h1, t0] at h7
  rw [g7, t0] at h11
  rw [g11, t0] at h13
  rw [g13, i1, jI_add, h13, h11, h7]
  exact k
/-- the log's numbers -/
def rLg (s : mS) : Prop := ∀ k, 0 ≤ s 9 k ∧ s 9 k ≤ 10
theorem eLog_in {s : mS} {i w : Nat} (hi : (i : Int) < s 0 6) (hw : w ≤ 2) : eLog s i w = s 9 (3 * i + w) := by
  unfold eLog
  rw [if_pos ⟨⟨by omega, hi⟩, by omega, by omega⟩]
  congr 1
/-- it went from there -/
def vWent (s : mS) (zb zr : Int) : Prop := ∃ i : Nat, (i : Int) < s 0 6 ∧ s 9 (3 * i) = zb ∧ s 9 (3 * i + 1) = zr
theorem s5_tells {Q : Int32 → mM → Prop} {s : mS} {zb zr : Int} (hT : Ly Th n) (hR : Rf n M) (hH : cLog n s M) (hG : rG s) (hL : rLg s) (hb : rI zb) (hr : rI zr) (k1 : vWent s zb zr → Q 1 M) (k0 : ¬ vWent s zb zr → Q 0 M) : P5_tells (d + 3) Th (n + 105) (jI zb) (jI zr) M Q := by
  have g := hG.2.2.2.2.2.2.1
  have key : ∀ j i : Nat, (i : Int) + j = s 0 6 → (∀ a : Nat, a < i → ¬ (s 9 (3 * a) = zb ∧ s 9 (3 * a + 1) = zr)) → H5_tells_2 (d + 3) Th Q (n + 105) (jI zb) (jI zr) (jI i) M := by
    intro j
    induction j with
    | zero =>
      intro i hi hno
      refine h5_tells_2 ⟨hT 105 _ rfl, ?_⟩
      rw [if_pos (by rw [hH.1, jIle (rI_of (by omega) (by omega)) (rI_nat (by omega))]; omega)]
      refine k0 (fun ⟨a, h1, h2⟩ => hno a (by omega) h2)
    | succ j ih =>
      intro i hi hno
      refine h5_tells_2 ⟨hT 105 _ rfl, ?_⟩
      rw [if_neg (by rw [hH.1, jIle (rI_of (by omega) (by omega)) (rI_nat (by omega))]; omega)]
      have e := ih (i + 1) (by omega)
      rw [show ((i + 1 : Nat) : Int) = (i : Int) + 1 by omega, ← jI_add, ← i1] at e
      rw [i0]
      refine s5_entry hT hR hH hG (rI_nat (by omega)) rI0 ?_
      have v0 := hL (3 * i)
      have v1 := hL (3 * i + 1)
      simp only [show eLog s (i : Int) 0 = s 9 (3 * i) from eLog_in (w := 0) (by omega) (by omega)]
      have q1 := jIeq (a := s 9 (3 * i)) (rI_of (by omega) (by omega)) hb
      by_cases c : s 9 (3 * i) = zb
      · rw [if_pos (q1.mpr c), i1]
        refine s5_entry hT hR hH hG (rI_nat (by omega)) (rI_of (by omega) (by omega)) ?_
        simp only [show eLog s (i : Int) 1 = s 9 (3 * i + 1) from eLog_in (w := 1) (by omega) (by omega)]
        have q2 := jIeq (a := s 9 (3 * i + 1)) (rI_of (by omega) (by omega)) hr
        by_cases c2 : s 9 (3 * i + 1) = zr
        · rw [if_pos (q2.mpr c2)]
          exact k1 ⟨i, by omega, c, c2⟩
        · rw [if_neg (fun h => c2 (q2.mp h))]
          refine e (fun a ha => ?_)
          by_cases q : a = i
          · rw [q]; exact fun h => c2 h.2
          · exact hno a (by omega)
      · rw [if_neg (fun h => c (q1.mp h))]
        refine e (fun a ha => ?_)
        by_cases q : a = i
        · rw [q]; exact fun h => c h.1
        · exact hno a (by omega)
  refine e5_tells ?_
  rw [i0]
  exact key (s 0 6).toNat 0 (by omega) (fun a ha => absurd ha (by omega))
end LG
