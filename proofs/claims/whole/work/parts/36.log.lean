/-! ===== THE LOG ===== -/
section LG
variable {d : Nat} {Th : mT} {M : mM} {n m : Nat}
/-- an entry of the log: what 0, 1, 2; -1 for others -/
def eLog (s : mS) (i w : Int) : Int := if (0 ≤ i ∧ i < s 0 6) ∧ (0 ≤ w ∧ w ≤ 2) then s 9 (3 * i + w).toNat else -1
theorem s5_has {Q : Int32 → mM → Prop} {s : mS} {z : Int} (hT : Ly Th n) (hH : cLog n s M) (hG : rG s) (hz : rI z) (k1 : 0 ≤ z → z < s 0 6 → Q 1 M) (k0 : ¬ (0 ≤ z ∧ z < s 0 6) → Q 0 M) : P5_has (d + 1) Th (n + 105) (jI z) M Q := by
  obtain ⟨-, -, -, -, -, -, g, -⟩ := hG
  refine e5_has ?_
  simp only [i0, i40, hH.1, jIlt hz rI0, jIle (rI_of (z := s 0 6) (by omega) (by omega)) hz, jIle (rI_of (z := 40) (by omega) (by omega)) hz]
  by_cases c1 : z < 0
  · rw [if_pos c1]; exact k0 (by omega)
  · rw [if_neg c1]
    refine ⟨hT 105 _ rfl, ?_⟩
    by_cases c2 : s 0 6 ≤ z
    · simp only [if_pos c2]; exact ⟨mb0, k0 (by omega)⟩
    · simp only [if_neg c2, if_neg (show ¬ (40 : Int) ≤ z by omega)]; exact ⟨mb1, k1 (by omega) (by omega)⟩
theorem s5_entry {Q : Int32 → mM → Prop} {s : mS} {z w : Int} (hT : Ly Th n) (hR : Rf n M) (hH : cLog n s M) (hG : rG s) (hz : rI z) (hw : rI w) (k : Q (jI (eLog s z w)) M) : P5_entry (d + 2) Th (n + 105) (jI z) (jI w) M Q := by
  refine e5_entry ⟨hT 105 _ rfl, ?_⟩
  unfold eLog at k
  have g := hG.2.2.2.2.2.2.1
  refine s5_has hT hH hG hz (fun a1 a2 => ?_) (fun a => ?_)
  rotate_left
  · rw [if_pos rfl]
    rw [if_neg (fun h => a h.1)] at k
    exact k
  rw [if_neg (by decide)]
  refine s_within 0 2 rfl rfl rfl hw rI0 (rI_of (by omega) (by omega)) (fun a3 a4 => ?_) (fun a => ?_)
  rotate_left
  · rw [if_pos rfl]
    rw [if_neg (fun h => a h.2)] at k
    exact k
  rw [if_neg (by decide)]
  rw [if_pos ⟨⟨a1, a2⟩, a3, a4⟩] at k
  refine ⟨n + 106, hR 105 0 106 (by decide), ?_⟩
  rw [i3, jI_mul, jI_add, jInat (rI_of (by omega) (by omega)), hH.2]
  exact ⟨m_ok_jI (hT 106 _ rfl) (by omega) (by omega) (by omega), k⟩
theorem s5_lastTick {Q : Int32 → mM → Prop} {s : mS} (hT : Ly Th n) (hR : Rf n M) (hH : cLog n s M) (hG : rG s) (k : Q (jI (if s 0 6 = 0 then 0 else eLog s (s 0 6 - 1) 2)) M) : P5_lastTick (d + 3) Th (n + 105) M Q := by
  have g := hG.2.2.2.2.2.2.1
  refine e5_lastTick ⟨hT 105 _ rfl, ?_⟩
  simp only [i0, hH.1, jIeq (rI_of (z := s 0 6) (by omega) (by omega)) rI0]
  by_cases c : s 0 6 = 0
  · rw [if_pos c] at k ⊢
    exact k
  · rw [if_neg c] at k ⊢
    rw [i1, i2, jI_sub]
    exact s5_entry hT hR hH hG (rI_of (by omega) (by omega)) (rI_of (by omega) (by omega)) k
def u5_add (n : Nat) (M : mM) (l : Nat) (x1 x2 x3 : Int32) : mM := m_ui (m_ui (m_ui (m_ui M (n + 106) (3 * l) x1) (n + 106) (3 * l + 1) x2) (n + 106) (3 * l + 2) x3) (n + 105) 1 (jI ((l : Int) + 1))
theorem s5_add {Q : mM → Prop} {l : Nat} {x1 x2 x3 : Int32} (hT : Ly Th n) (hR : Rf n M) (h1 : M.1 (n + 105) 1 = jI l) (hl : l < 40) (k : Q (u5_add n M l x1 x2 x3)) : P5_add (d + 1) Th (n + 105) x1 x2 x3 M Q := by
  have rl : rI (l : Int) := rI_nat (by omega)
  refine e5_add ⟨hT 105 _ rfl, ?_⟩
  rw [if_neg (by rw [h1, i0, jIlt rl rI0]; omega), if_pos (by rw [h1, i40, jIlt rl (rI_of (by omega) (by omega))]; omega)]
  have t0 : Int32.toNatClampNeg (jI (3 * (l : Int))) = 3 * l := by rw [jInat (rI_of (by omega) (by omega))]; omega
  have t1 : Int32.toNatClampNeg (jI (3 * (l : Int) + 1)) = 3 * l + 1 := by rw [jInat (rI_of (by omega) (by omega))]; omega
  have t2 : Int32.toNatClampNeg (jI (3 * (l : Int) + 2)) = 3 * l + 2 := by rw [jInat (rI_of (by omega) (by omega))]; omega
  refine ⟨n + 106, hR 105 0 106 (by decide), by rw [h1, i3, jI_mul]; exact m_okw_jI (hT 106 _ rfl) (by omega) (by omega) (by omega), ?_⟩
  intro M5 h5
  have g5 : M5.1 (n + 105) 1 = jI l := by rw [h5]; simp [m_u, h1]
  refine ⟨by rw [g5, i3, jI_mul, i1, jI_add]; exact m_okw_jI (hT 106 _ rfl) (by omega) (by omega) (by omega), ?_⟩
  intro M7 h7
  have g7 : M7.1 (n + 105) 1 = jI l := by rw [h7]; simp [m_u, g5]
  refine ⟨by rw [g7, i3, jI_mul, i2, jI_add]; exact m_okw_jI (hT 106 _ rfl) (by omega) (by omega) (by omega), ?_⟩
  intro M9 h9
  have g9 : M9.1 (n + 105) 1 = jI l := by rw [h9]; simp [m_u, g7]
  rw [h1, i3, jI_mul, t0] at h5
  rw [g5, i3, jI_mul, i1, jI_add, t1] at h7
  rw [g7, i3, jI_mul, i2, jI_add, t2] at h9
  rw [g9, i1, jI_add, h9, h7, h5]
  exact k
def u11_puts (m : Nat) (M : mM) (l : Nat) (x1 x2 x3 : Int32) : mM := m_ui (m_ui (m_ui (m_ui M (m + 35) l x1) (m + 36) l x2) (m + 37) l x3) m 60 (jI ((l : Int) + 1))
theorem s11_puts {Q : mM → Prop} {l : Nat} {x1 x2 x3 : Int32} (hT : LyM Th m) (hR : RfM m M) (h1 : M.1 m 60 = jI l) (hl : l < 40) (k : Q (u11_puts m M l x1 x2 x3)) : P11_puts (d + 1) Th m x1 x2 x3 M Q := by
  have t0 : Int32.toNatClampNeg (jI (l : Int)) = l := jInatN l (by omega)
  refine e11_puts ⟨hT 0 _ rfl, m + 35, hR 0 62 35 (by decide), by rw [h1]; exact m_okw_jI (hT 35 _ rfl) (by omega) (by omega) (by omega), m + 36, hR 0 63 36 (by decide), ?_⟩
  intro M7 h7
  have g7 : M7.1 m 60 = jI l := by rw [h7]; simp [m_u, h1]
  refine ⟨by rw [g7]; exact m_okw_jI (hT 36 _ rfl) (by omega) (by omega) (by omega), m + 37, hR 0 64 37 (by decide), ?_⟩
  intro M11 h11
  have g11 : M11.1 m 60 = jI l := by rw [h11]; simp [m_u, g7]
  refine ⟨by rw [g11]; exact m_okw_jI (hT 37 _ rfl) (by omega) (by omega) (by omega), ?_⟩
  intro M13 h13
  have g13 : M13.1 m 60 = jI l := by rw [h13]; simp [m_u, g11]
  rw [h1, t0] at h7
  rw [g7, t0] at h11
  rw [g11, t0] at h13
  rw [g13, i1, jI_add, h13, h11, h7]
  exact k
/-- the log's numbers -/
def rLg (s : mS) : Prop := ∀ k, 0 ≤ s 9 k ∧ s 9 k ≤ 10
theorem eLog_in {s : mS} {i w : Nat} (hi : (i : Int) < s 0 6) (hw : w ≤ 2) : eLog s i w = s 9 (3 * i + w) := by
  unfold eLog
  rw [if_pos ⟨⟨by omega, hi⟩, by omega, by omega⟩]
  congr 1
/-- it went from there -/
def vWent (s : mS) (zb zr : Int) : Prop := ∃ i : Nat, (i : Int) < s 0 6 ∧ s 9 (3 * i) = zb ∧ s 9 (3 * i + 1) = zr
theorem s5_tells {Q : Int32 → mM → Prop} {s : mS} {zb zr : Int} (hT : Ly Th n) (hR : Rf n M) (hH : cLog n s M) (hG : rG s) (hL : rLg s) (hb : rI zb) (hr : rI zr) (k1 : vWent s zb zr → Q 1 M) (k0 : ¬ vWent s zb zr → Q 0 M) : P5_tells (d + 3) Th (n + 105) (jI zb) (jI zr) M Q := by
  have g := hG.2.2.2.2.2.2.1
  have key : ∀ j i : Nat, (i : Int) + j = s 0 6 → (∀ a : Nat, a < i → ¬ (s 9 (3 * a) = zb ∧ s 9 (3 * a + 1) = zr)) → H5_tells_2 (d + 3) Th Q (n + 105) (jI zb) (jI zr) (jI i) M := by
    intro j
    induction j with
    | zero =>
      intro i hi hno
      refine h5_tells_2 ⟨hT 105 _ rfl, ?_⟩
      rw [if_pos (by rw [hH.1, jIle (rI_of (by omega) (by omega)) (rI_nat (by omega))]; omega)]
      refine k0 (fun ⟨a, h1, h2⟩ => hno a (by omega) h2)
    | succ j ih =>
      intro i hi hno
      refine h5_tells_2 ⟨hT 105 _ rfl, ?_⟩
      rw [if_neg (by rw [hH.1, jIle (rI_of (by omega) (by omega)) (rI_nat (by omega))]; omega)]
      have e := ih (i + 1) (by omega)
      rw [show ((i + 1 : Nat) : Int) = (i : Int) + 1 by omega, ← jI_add, ← i1] at e
      rw [i0]
      refine s5_entry hT hR hH hG (rI_nat (by omega)) rI0 ?_
      have v0 := hL (3 * i)
      have v1 := hL (3 * i + 1)
      simp only [show eLog s (i : Int) 0 = s 9 (3 * i) from eLog_in (w := 0) (by omega) (by omega)]
      have q1 := jIeq (a := s 9 (3 * i)) (rI_of (by omega) (by omega)) hb
      by_cases c : s 9 (3 * i) = zb
      · rw [if_pos (q1.mpr c), i1]
        refine s5_entry hT hR hH hG (rI_nat (by omega)) (rI_of (by omega) (by omega)) ?_
        simp only [show eLog s (i : Int) 1 = s 9 (3 * i + 1) from eLog_in (w := 1) (by omega) (by omega)]
        have q2 := jIeq (a := s 9 (3 * i + 1)) (rI_of (by omega) (by omega)) hr
        by_cases c2 : s 9 (3 * i + 1) = zr
        · rw [if_pos (q2.mpr c2)]
          exact k1 ⟨i, by omega, c, c2⟩
        · rw [if_neg (fun h => c2 (q2.mp h))]
          refine e (fun a ha => ?_)
          by_cases q : a = i
          · rw [q]; exact fun h => c2 h.2
          · exact hno a (by omega)
      · rw [if_neg (fun h => c (q1.mp h))]
        refine e (fun a ha => ?_)
        by_cases q : a = i
        · rw [q]; exact fun h => c h.1
        · exact hno a (by omega)
  refine e5_tells ?_
  rw [i0]
  exact key (s 0 6).toNat 0 (by omega) (fun a ha => absurd ha (by omega))
/-- ticks begin at 1 -/
def rLt (s : mS) : Prop := ∀ i : Nat, (i : Int) < s 0 6 → 1 ≤ s 9 (3 * i + 2)
/-- the log takes it -/
def vGo (s : mS) (zb zr zt : Int) : Prop := (0 ≤ zb ∧ zb < s 0 1) ∧ (0 ≤ zr ∧ zr < s 0 0) ∧ (1 ≤ zt ∧ zt ≤ 10) ∧ s 0 6 < 40 ∧ (if s 0 6 = 0 then 0 else eLog s (s 0 6 - 1) 2) ≤ zt ∧ ¬ vWent s zb zr
theorem s10_went {Q : Int32 → mM → Prop} {s : mS} {zb zr zt : Int} (hT : Ly Th n) (hR : Rf n M) (hI : cHill n s M) (hH : cLog n s M) (hG : rG s) (hL : rLg s) (hb : rI zb) (hr : rI zr) (ht : rI zt)
    (k0 : ¬ vGo s zb zr zt → Q (-1) M) (k1 : vGo s zb zr zt → Q (jI (s 0 6 + 1)) (u5_add n M (s 0 6).toNat (jI zb) (jI zr) (jI zt))) : P10_went (d + 5) Th n (jI zb) (jI zr) (jI zt) M Q := by
  have g0 := hG.1
  have g1 := hG.2.1
  have g6 := hG.2.2.2.2.2.2.1
  refine e10_went ⟨hT 0 _ rfl, n + 3, hR 0 1 3 (by decide), hT 3 _ rfl, ?_⟩
  refine s2_hasBand (b := (s 0 1).toNat) hT (by rw [hI.2.1]; congr 1; omega) (by omega) hb (fun a1 a2 => ?_) (fun a => ?_)
  rotate_left
  · rw [if_pos rfl]; exact k0 (fun h => a (by have := h.1; omega))
  rw [if_neg (by decide)]
  refine ⟨n + 3, hR 0 1 3 (by decide), hT 3 _ rfl, ?_⟩
  refine s2_hasRiddle (b := (s 0 0).toNat) hT (by rw [hI.1]; congr 1; omega) (by omega) hr (fun a3 a4 => ?_) (fun a => ?_)
  rotate_left
  · rw [if_pos rfl]; exact k0 (fun h => a (by have := h.2.1; omega))
  rw [if_neg (by decide)]
  refine s_within 1 10 rfl rfl rfl ht (rI_of (by omega) (by omega)) (rI_of (by omega) (by omega)) (fun a5 a6 => ?_) (fun a => ?_)
  rotate_left
  · rw [if_pos rfl]; exact k0 (fun h => a h.2.2.1)
  rw [if_neg (by decide)]
  refine ⟨n + 105, hR 0 8 105 (by decide), hT 105 _ rfl, ?_⟩
  by_cases c1 : (40 : Int) ≤ s 0 6
  · rw [if_pos (by rw [hH.1, i40, jIle (rI_of (by omega) (by omega)) (rI_of (by omega) (by omega))]; exact c1)]
    exact k0 (fun h => absurd h.2.2.2.1 (by omega))
  rw [if_neg (by rw [hH.1, i40, jIle (rI_of (by omega) (by omega)) (rI_of (by omega) (by omega))]; exact c1)]
  refine s5_lastTick hT hR hH hG ?_
  have le : 0 ≤ (if s 0 6 = 0 then 0 else eLog s (s 0 6 - 1) 2) ∧ (if s 0 6 = 0 then 0 else eLog s (s 0 6 - 1) 2) ≤ 10 := by
    by_cases c : s 0 6 = 0
    · rw [if_pos c]; omega
    · rw [if_neg c]
      have e := eLog_in (s := s) (i := (s 0 6 - 1).toNat) (w := 2) (by omega) (by omega)
      rw [show (((s 0 6 - 1).toNat : Nat) : Int) = s 0 6 - 1 by omega] at e
      have := hL (3 * (s 0 6 - 1).toNat + 2)
      rw [show ((2 : Nat) : Int) = 2 by rfl] at e
      rw [e]; exact this
  generalize hle : (if s 0 6 = 0 then 0 else eLog s (s 0 6 - 1) 2) = z at le
  by_cases c2 : zt < z
  · rw [if_pos (by rw [jIlt ht (rI_of (by omega) (by omega))]; exact c2)]
    exact k0 (fun h => absurd h.2.2.2.2.1 (by rw [hle]; omega))
  rw [if_neg (by rw [jIlt ht (rI_of (by omega) (by omega))]; exact c2)]
  refine ⟨n + 105, hR 0 8 105 (by decide), hT 105 _ rfl, ?_⟩
  refine s5_tells hT hR hH hG hL hb hr (fun w => ?_) (fun w => ?_)
  · rw [if_neg (by decide)]
    exact k0 (fun h => h.2.2.2.2.2 w)
  rw [if_pos rfl]
  refine ⟨n + 105, hR 0 8 105 (by decide), hT 105 _ rfl, ?_⟩
  refine s5_add (l := (s 0 6).toNat) hT hR (by rw [hH.1]; congr 1; omega) (by omega) ?_
  refine ⟨n + 105, by simp only [u5_add]; exact hR 0 8 105 (by decide), hT 105 _ rfl, ?_⟩
  rw [show (u5_add n M (s 0 6).toNat (jI zb) (jI zr) (jI zt)).1 (n + 105) 1 = jI (s 0 6 + 1) by simp only [u5_add]; simp [m_u]; congr 1; omega]
  exact k1 ⟨⟨a1, by omega⟩, ⟨a3, by omega⟩, ⟨a5, a6⟩, by omega, by rw [hle]; omega, w⟩
theorem s11_went {Q : Int32 → mM → Prop} {s : mS} {zb zr zt : Int} (hT : LyM Th m) (hR : RfM m M) (hI : mHill m s M) (hH : mLog m s M) (hG : rG s) (hL : rLg s) (hL2 : rLt s) (hb : rI zb) (hr : rI zr) (ht : rI zt)
    (k0 : ¬ vGo s zb zr zt → Q (-1) M) (k1 : vGo s zb zr zt → Q (jI (s 0 6 + 1)) (u11_puts m M (s 0 6).toNat (jI zb) (jI zr) (jI zt))) : P11_went (d + 2) Th m (jI zb) (jI zr) (jI zt) M Q := by
  have g0 := hG.1
  have g1 := hG.2.1
  have g6 := hG.2.2.2.2.2.2.1
  have loop : vGo s zb zr zt ∨ vWent s zb zr → ∀ j i : Nat, (i : Int) + j = s 0 6 → (∀ a : Nat, a < i → ¬ (s 9 (3 * a) = zb ∧ s 9 (3 * a + 1) = zr)) → H11_went_61 (d + 2) Th Q m (jI zb) (jI zr) (jI zt) (jI i) M := by
    intro hv j
    induction j with
    | zero =>
      intro i hi hno
      refine h11_went_61 ⟨hT 0 _ rfl, ?_⟩
      rw [if_pos (by rw [hH.1, jIle (rI_of (by omega) (by omega)) (rI_nat (by omega))]; omega)]
      have v : vGo s zb zr zt := hv.resolve_right (fun ⟨a, h1, h2⟩ => hno a (by omega) h2)
      have v40 := v.2.2.2.1
      refine s11_puts (l := (s 0 6).toNat) hT hR (by rw [hH.1]; congr 1; omega) (by omega) ?_
      rw [show (u11_puts m M (s 0 6).toNat (jI zb) (jI zr) (jI zt)).1 m 60 = jI (s 0 6 + 1) by simp only [u11_puts]; simp [m_u]; congr 1; omega]
      exact k1 v
    | succ j ih =>
      intro i hi hno
      refine h11_went_61 ⟨hT 0 _ rfl, ?_⟩
      rw [if_neg (by rw [hH.1, jIle (rI_of (by omega) (by omega)) (rI_nat (by omega))]; omega)]
      have e := ih (i + 1) (by omega)
      rw [show ((i + 1 : Nat) : Int) = (i : Int) + 1 by omega, ← jI_add, ← i1] at e
      refine ⟨m + 35, hR 0 62 35 (by decide), m_ok_jI (hT 35 _ rfl) (by omega) (by omega) (by omega), ?_⟩
      have v0 := hL (3 * i)
      have v1 := hL (3 * i + 1)
      rw [jInatN i (by omega), hH.2.1]
      have q1 := jIeq (a := s 9 (3 * i)) (rI_of (by omega) (by omega)) hb
      by_cases c : s 9 (3 * i) = zb
      · rw [if_pos (q1.mpr c)]
        refine ⟨m + 36, hR 0 63 36 (by decide), m_ok_jI (hT 36 _ rfl) (by omega) (by omega) (by omega), ?_⟩
        rw [hH.2.2.1]
        have q2 := jIeq (a := s 9 (3 * i + 1)) (rI_of (by omega) (by omega)) hr
        by_cases c2 : s 9 (3 * i + 1) = zr
        · rw [if_pos (q2.mpr c2)]
          exact k0 (fun h => h.2.2.2.2.2 ⟨i, by omega, c, c2⟩)
        · rw [if_neg (fun h => c2 (q2.mp h))]
          refine e (fun a ha => ?_)
          by_cases q : a = i
          · rw [q]; exact fun h => c2 h.2
          · exact hno a (by omega)
      · rw [if_neg (fun h => c (q1.mp h))]
        refine e (fun a ha => ?_)
        by_cases q : a = i
        · rw [q]; exact fun h => c h.1
        · exact hno a (by omega)
  have mid : ∀ z : Int, (1 ≤ z ∧ z ≤ 10) → (0 ≤ zb ∧ zb < s 0 1) → (0 ≤ zr ∧ zr < s 0 0) → (vGo s zb zr zt → z ≤ zt) → (z ≤ zt → (if s 0 6 = 0 then 0 else eLog s (s 0 6 - 1) 2) ≤ zt) → H11_went_39 (d + 2) Th Q m (jI zb) (jI zr) (jI zt) (jI z) (jI zt) M := by
    intro z hz p1 p2 p3 p4
    refine h11_went_39 ?_
    refine s_in z 10 rfl rfl rfl ht (rI_of (by omega) (by omega)) (rI_of (by omega) (by omega)) (fun a5 a6 => ?_) (fun a => ?_)
    rotate_left
    · rw [if_pos rfl]; exact k0 (fun h => a ⟨p3 h, h.2.2.1.2⟩)
    rw [if_neg (by decide)]
    refine ⟨hT 0 _ rfl, ?_⟩
    by_cases c1 : s 0 6 = 40
    · rw [if_pos (by rw [hH.1, i40, jIeq (rI_of (by omega) (by omega)) (rI_of (by omega) (by omega))]; exact c1)]
      exact k0 (fun h => absurd h.2.2.2.1 (by omega))
    rw [if_neg (by rw [hH.1, i40, jIeq (rI_of (by omega) (by omega)) (rI_of (by omega) (by omega))]; exact c1)]
    have l := loop (by
      by_cases w : vWent s zb zr
      · exact Or.inr w
      · exact Or.inl ⟨p1, p2, ⟨by omega, a6⟩, by omega, p4 a5, w⟩) (s 0 6).toNat 0 (by omega) (fun a ha => absurd ha (by omega))
    exact l
  refine e11_went ⟨hT 0 _ rfl, ?_⟩
  refine s11_isBand (b := (s 0 1).toNat) hT (by rw [hI.2.1]; congr 1; omega) (by omega) hb (fun a1 a2 => ?_) (fun a => ?_)
  rotate_left
  · rw [if_pos rfl]; exact k0 (fun h => a (by have := h.1; omega))
  rw [if_neg (by decide)]
  refine s11_isRiddle (b := (s 0 0).toNat) hT (by rw [hI.1]; congr 1; omega) (by omega) hr (fun a3 a4 => ?_) (fun a => ?_)
  rotate_left
  · rw [if_pos rfl]; exact k0 (fun h => a (by have := h.2.1; omega))
  rw [if_neg (by decide)]
  by_cases c : s 0 6 = 0
  · rw [if_pos (by rw [hH.1, i0, jIeq (rI_of (by omega) (by omega)) rI0]; exact c)]
    exact mid 1 (by omega) ⟨a1, by omega⟩ ⟨a3, by omega⟩ (fun h => h.2.2.1.1) (fun h => by rw [if_pos c]; omega)
  · rw [if_neg (by rw [hH.1, i0, jIeq (rI_of (by omega) (by omega)) rI0]; exact c)]
    have e := eLog_in (s := s) (i := (s 0 6 - 1).toNat) (w := 2) (by omega) (by omega)
    rw [show (((s 0 6 - 1).toNat : Nat) : Int) = s 0 6 - 1 by omega, show ((2 : Nat) : Int) = 2 by rfl] at e
    have b1 := hL (3 * (s 0 6 - 1).toNat + 2)
    have b2 := hL2 (s 0 6 - 1).toNat (by omega)
    refine ⟨m + 37, hR 0 64 37 (by decide), by rw [hH.1, i1, jI_sub]; exact m_ok_jI (hT 37 _ rfl) (by omega) (by omega) (by omega), ?_⟩
    rw [hH.1, i1, jI_sub, jInat (rI_of (by omega) (by omega)), hH.2.2.2]
    refine mid _ ⟨b2, b1.2⟩ ⟨a1, by omega⟩ ⟨a3, by omega⟩ (fun h => ?_) (fun h => ?_)
    · have h5 := h.2.2.2.2.1
      rw [if_neg c, e] at h5
      exact h5
    · rw [if_neg c, e]; exact h
end LG
