/-! ===== one ALONE, in the model ===== -/
def oV (N : Int) (D : Nat) (g e : Nat → Nat → Int) (st : Nat → Nat) (F : Nat → Int) (k : Nat) : Int :=
  if k % 16 ≤ 5 then g (k / 16) (k % 16) * F (16 * (k / 16) + 5 + st (k / 16)) + e (k / 16) (k % 16) * F (16 * (k / 16) + 11 + D) + (N - g (k / 16) (k % 16) - e (k / 16) (k % 16)) * F (16 * (k / 16) + kmo (k % 16))
  else if k % 16 = 6 then N * F (16 * (k / 16 + 1)) else if k % 16 = 12 then N * F (16 * (k / 16)) else N * F (k - 1)
theorem hV_o {N : Int} {D : Nat} {g e : Nat → Nat → Int} {st : Nat → Nat} {p n k : Nat} (hk : k < 16 * p) : hV N D g e st p (n + 1) k = oV N D g e st (hV N D g e st p n) k := by
  rw [hV, if_neg (by omega)]; rfl
/-- the functions of the state: a band's eighths, its walks -/
def gB (s : mS) (cl : Int) (b : Nat) : Nat → Nat → Int := fun r t => gK s cl b r t
def eB (s : mS) (cl : Int) (b : Nat) : Nat → Nat → Int := fun r t => eK s cl b r t
def wN (s : mS) (b : Nat) : Nat → Nat := fun r => (wK s b r).toNat
theorem wN_b (s : mS) (b r : Nat) : 1 ≤ wN s b r ∧ wN s b r ≤ 6 := by have := wK_b s b r; unfold wN; omega
theorem wN_e (s : mS) (b r : Nat) : wK s b r = (wN s b r : Int) := by have := wK_b s b r; unfold wN; omega
def dN (s : mS) : Nat := (s 0 2).toNat
/-- what a step of the chain writes -/
def sSt (m : Nat) : Nat → Nat → Prop := fun q k => sTh m q k ∨ q = m + 21 ∨ q = m + 22
theorem sSt_k {m : Nat} : ∀ q k, sSt m q k → ¬ ((q = m ∧ (k ≤ 3 ∨ (5 ≤ k ∧ k ≤ 11) ∨ (21 ≤ k ∧ k ≤ 34) ∨ (37 ≤ k ∧ k ≤ 39) ∨ k = 41 ∨ (46 ≤ k ∧ k ≤ 52) ∨ (57 ≤ k ∧ k ≤ 59) ∨ 62 ≤ k)) ∨ (m + 1 ≤ q ∧ q ≤ m + 6) ∨ (m + 14 ≤ q ∧ q ≤ m + 18)) := by
  intro q k h
  unfold sSt sTh at h
  omega
section ST
variable {d : Nat} {Th : mT} {M : mM} {m : Nat} {s : mS}
theorem s11_more {Q : Int32 → mM → Prop} {t : Nat} (ht : t ≤ 5) (k : Q (jI (kmo t : Int)) M) : P11_more (d + 1) Th (jI t) M Q := by
  refine e11_more ?_
  have e : (if 5 ≤ jI (t : Int) then (5 : Int32) else jI (t : Int) + 1) = jI (kmo t : Int) := by
    unfold kmo
    by_cases c : t < 5
    · rw [if_pos c, if_neg (by rw [jh5 (rI_nat (by omega))]; omega), jI_s]
    · rw [if_neg c, if_pos (by rw [jh5 (rI_nat (by omega))]; omega)]; rfl
  rw [e]
  exact k
theorem jI_div16 {k : Nat} (hk : k ≤ 100000) : jI (k : Int) / 16 = jI ((k / 16 : Nat) : Int) := by
  rw [show (16 : Int32) = jI 16 from rfl, jI_div (by omega) (by omega) (by omega) (by omega)]; congr 1
theorem jI_mod16 {k : Nat} (hk : k ≤ 100000) : jI (k : Int) - jI (k : Int) / 16 * 16 = jI ((k % 16 : Nat) : Int) := by
  rw [show (16 : Int32) = jI 16 from rfl, jI_rem (by omega) (by omega) (by omega) (by omega)]; congr 1
/-- where one goes on foot, or astray -/
def kgo (k : Nat) : Nat := if k % 16 = 6 then 16 * (k / 16 + 1) else if k % 16 = 12 then 16 * (k / 16) else k - 1
theorem s11_goesOn {Q : Int32 → mM → Prop} {k A : Nat} (hk : k < 16 * A) (hA : A ≤ 5) (h6 : 6 ≤ k % 16) (kk : Q (jI (kgo k : Int)) M) : P11_goesOn (d + 1) Th (jI k) (jI A) M Q := by
  refine e11_goesOn ?_
  intro xv1 h1 xv2 h2
  rw [jI_div16 (by omega)] at h1
  rw [jI_mod16 (by omega)] at h2
  subst h1 h2
  have rm : rI ((k % 16 : Nat) : Int) := rI_nat (by omega)
  unfold kgo at kk
  by_cases c6 : k % 16 = 6
  · rw [if_pos c6] at kk
    rw [if_pos (by rw [jq6 rm]; omega), jI_s]
    have e : (if jI ((k / 16 + 1 : Nat) : Int) = jI (A : Int) then 16 * jI (A : Int) else 16 * jI ((k / 16 + 1 : Nat) : Int)) = jI ((16 * (k / 16 + 1) : Nat) : Int) := by
      by_cases c : k / 16 + 1 = A
      · rw [if_pos (by rw [c]), ← c, show (16 : Int32) = jI 16 from rfl, jI_mul]; congr 1
      · rw [if_neg (by rw [jIeq (rI_nat (by omega)) (rI_nat (by omega))]; omega), show (16 : Int32) = jI 16 from rfl, jI_mul]; congr 1
    rw [e]
    exact kk
  rw [if_neg c6] at kk
  rw [if_neg (by rw [jq6 rm]; omega)]
  by_cases c12 : k % 16 = 12
  · rw [if_pos c12] at kk
    rw [if_pos (by rw [jq12 rm]; omega), show (16 : Int32) = jI 16 from rfl, jI_mul]
    rw [show (16 : Int) * ((k / 16 : Nat) : Int) = ((16 * (k / 16) : Nat) : Int) by omega]
    exact kk
  · rw [if_neg c12] at kk
    rw [if_neg (by rw [jq12 rm]; omega)]
    rw [show jI (k : Int) - 1 = jI ((k - 1 : Nat) : Int) by rw [kI1, jI_sub]; congr 1; omega]
    exact kk
theorem oV_go {N : Int} {D : Nat} {g e : Nat → Nat → Int} {st : Nat → Nat} {F : Nat → Int} {k : Nat} (h6 : 6 ≤ k % 16) : oV N D g e st F k = N * F (kgo k) := by
  unfold oV kgo
  rw [if_neg (by omega)]
  split
  · rfl
  · split <;> rfl
theorem kgo_lt {k A : Nat} (hk : k < 16 * A) (h6 : 6 ≤ k % 16) : kgo k ≤ 16 * A := by
  unfold kgo
  split
  · omega
  · split <;> omega
set_option maxHeartbeats 2000000 in
theorem s11_steps {Q : Int64 → mM → Prop} {b A : Nat} {cl : Int} (hT : LyM Th m) (hK : KT m s M) (hG : rG s) (hO : rLw s) (hb : (b : Int) < s 0 1) (hA : (A : Int) ≤ s 0 0)
    (K : ∀ M', KT m s M' → (∀ F : Nat → Int, sL (16 * A + 1) (fun k => M'.2.1 (m + 22) k * jL (F k)) = sL (16 * A) (fun k => M.2.1 (m + 21) k * jL (oV 8 (dN s) (gB s cl b) (eB s cl b) (wN s b) F k))) → (∀ k, k < 16 * A → M'.2.1 (m + 21) k = M'.2.1 (m + 22) k) → Eo (sSt m) M M' → Q (M'.2.1 (m + 22) (16 * A)) M') : P11_steps (d + 5) Th m (jI b) (jI cl) (jI A) M Q := by
  have g0 := hG.1
  have g1 := hG.2.1
  have gd := hG.2.2.1
  have hA5 : A ≤ 5 := by omega
  have hT21 := hT 21 _ rfl
  have hT22 := hT 22 _ rfl
  have e16 : (16 : Int32) * jI (A : Int) = jI ((16 * A : Nat) : Int) := by rw [show (16 : Int32) = jI 16 from rfl, jI_mul]; congr 1
  have hdD : 1 ≤ dN s ∧ dN s ≤ 4 := by unfold dN; omega
  have hde : s 0 2 = (dN s : Int) := by unfold dN; omega
  let O : (Nat → Int) → Nat → Int := fun F k => oV 8 (dN s) (gB s cl b) (eB s cl b) (wN s b) F k
  -- it is copied
  have copy : ∀ (u j : Nat) (M1 : mM), u + j = 16 * A → KT m s M1 → Eo (sSt m) M M1 → (∀ F : Nat → Int, sL (16 * A + 1) (fun k => M1.2.1 (m + 22) k * jL (F k)) = sL (16 * A) (fun k => M.2.1 (m + 21) k * jL (O F k))) → (∀ k, k < j → M1.2.1 (m + 21) k = M1.2.1 (m + 22) k) → H11_steps_266 (d + 5) Th Q m (jI A) (jI j) M1 := by
    intro u
    induction u with
    | zero =>
      intro j M1 hu hK1 he hI hc
      refine h11_steps_266 ?_
      rw [e16, if_pos (by rw [jIle (rI_nat (by omega)) (rI_nat (by omega))]; omega)]
      refine ⟨hT 0 _ rfl, m + 22, hK1.1 0 38 22 (by decide), m_ok_jI hT22 (by omega) (by omega) (by omega), ?_⟩
      rw [jInatN _ (by omega)]
      exact K M1 hK1 hI (fun k hk => hc k (by omega)) he
    | succ u ih =>
      intro j M1 hu hK1 he hI hc
      refine h11_steps_266 ?_
      rw [e16, if_neg (by rw [jIle (rI_nat (by omega)) (rI_nat (by omega))]; omega)]
      refine ⟨hT 0 _ rfl, m + 21, hK1.1 0 37 21 (by decide), m + 22, hK1.1 0 38 22 (by decide), m_ok_jI hT22 (by omega) (by omega) (by omega), m_okw_jI hT21 (by omega) (by omega) (by omega), ?_⟩
      rw [jInatN j (by omega), jI_s]
      have e1 : Eo (sSt m) M1 (m_ul M1 (m + 21) j (M1.2.1 (m + 22) j)) := Eo.rf.ul (Or.inr (Or.inl rfl))
      refine ih (j + 1) _ (by omega) (hK1.mv e1 sSt_k) (he.trans e1) (fun F => ?_) (fun k hk => ?_)
      · rw [← hI F]
        exact sL_ext (fun k _ => by rw [m_ul_far (show m + 22 ≠ m + 21 by omega)])
      · rw [m_ul_far (show m + 22 ≠ m + 21 by omega), m_ul_row]
        by_cases c : k = j
        · rw [if_pos c, c]
        · rw [if_neg c]; exact hc k (by omega)
  -- the step
  have push : ∀ (u j : Nat) (M1 : mM), u + j = 16 * A → KT m s M1 → Eo (sSt m) M M1 → (∀ k, M1.2.1 (m + 21) k = M.2.1 (m + 21) k) → (∀ F : Nat → Int, sL (16 * A + 1) (fun k => M1.2.1 (m + 22) k * jL (F k)) = sL j (fun k => M.2.1 (m + 21) k * jL (O F k))) → H11_steps_29 (d + 5) Th Q m (jI b) (jI cl) (jI A) (jI j) M1 := by
    intro u
    induction u with
    | zero =>
      intro j M1 hu hK1 he hn hI
      refine h11_steps_29 ?_
      rw [e16, if_pos (by rw [jIle (rI_nat (by omega)) (rI_nat (by omega))]; omega), i0]
      exact copy (16 * A) 0 M1 (by omega) hK1 he (fun F => by rw [hI F, show j = 16 * A by omega]) (fun k h => absurd h (by omega))
    | succ u ih =>
      intro j M1 hu hK1 he hn hI
      refine h11_steps_29 ?_
      rw [e16, if_neg (by rw [jIle (rI_nat (by omega)) (rI_nat (by omega))]; omega)]
      refine ⟨hT 0 _ rfl, m + 21, hK1.1 0 37 21 (by decide), m_ok_jI hT21 (by omega) (by omega) (by omega), ?_⟩
      rw [jInatN j (by omega), hn]
      by_cases hz : M.2.1 (m + 21) j = 0
      · rw [if_pos (by rw [lc_eq]; exact hz), jI_s]
        refine ih (j + 1) M1 (by omega) hK1 he hn (fun F => ?_)
        rw [hI F, sL_succ, hz]
        grind
      rw [if_neg (by rw [lc_eq]; exact hz)]
      intro xv5 h5 xv6 h6
      rw [jI_div16 (by omega)] at h5
      rw [jI_mod16 (by omega)] at h6
      subst h5 h6
      simp only [je5 (z := ((j % 16 : Nat) : Int)) (rI_nat (by omega))]
      by_cases c5 : j % 16 ≤ 5
      · rw [if_pos (by omega)]
        refine s11_thinks (d := d) (b := b) (r := j / 16) (t := j % 16) (cl := cl) hT hK1 hG hO hb (by omega) c5 ?_
        intro M7 k7 g35 g36 e7
        refine s11_walkOf (d := d + 2) (b := b) (r := j / 16) hT k7.1 k7.2.1 hG hb (by omega) ?_
        intro xv11 h11 xv12 h12
        have hw := wN_b s b (j / 16)
        rw [wN_e, show (16 : Int32) = jI 16 from rfl, kI5, jI_mul, jI_add, jI_add] at h11
        have hdl : M7.1 m 2 = jI (s 0 2) := k7.2.1.2.2.1
        rw [hdl, hde, show (16 : Int32) = jI 16 from rfl, kI11, jI_mul, jI_add, jI_add] at h12
        have e11 : xv11 = jI ((16 * (j / 16) + 5 + wN s b (j / 16) : Nat) : Int) := by rw [h11]; congr 1
        have e12 : xv12 = jI ((16 * (j / 16) + 11 + dN s : Nat) : Int) := by rw [h12]; congr 1
        subst e11 e12
        refine s11_more (d := d + 3) c5 ?_
        intro xv15 h15
        rw [show (16 : Int32) = jI 16 from rfl, jI_mul, jI_add] at h15
        have e15 : xv15 = jI ((16 * (j / 16) + kmo (j % 16) : Nat) : Int) := by rw [h15]; congr 1
        subst e15
        have hkm : kmo (j % 16) ≤ 5 := by unfold kmo; split <;> omega
        have hn7 : ∀ q k, q = m + 21 ∨ q = m + 22 → M7.2.1 q k = M1.2.1 q k := fun q k hq => (e7 _ _ (by unfold sTh; omega)).2.1
        have o1 : m_ok Th (m + 22) .long (jI ((16 * (j / 16) + 5 + wN s b (j / 16) : Nat) : Int)) := m_ok_jI hT22 (by omega) (by omega) (by omega)
        have o1w : m_okw Th (m + 22) .long (jI ((16 * (j / 16) + 5 + wN s b (j / 16) : Nat) : Int)) := m_okw_jI hT22 (by omega) (by omega) (by omega)
        have o2 : m_ok Th (m + 22) .long (jI ((16 * (j / 16) + 11 + dN s : Nat) : Int)) := m_ok_jI hT22 (by omega) (by omega) (by omega)
        have o2w : m_okw Th (m + 22) .long (jI ((16 * (j / 16) + 11 + dN s : Nat) : Int)) := m_okw_jI hT22 (by omega) (by omega) (by omega)
        have o3 : m_ok Th (m + 22) .long (jI ((16 * (j / 16) + kmo (j % 16) : Nat) : Int)) := m_ok_jI hT22 (by omega) (by omega) (by omega)
        have o3w : m_okw Th (m + 22) .long (jI ((16 * (j / 16) + kmo (j % 16) : Nat) : Int)) := m_okw_jI hT22 (by omega) (by omega) (by omega)
        have oj : m_ok Th (m + 21) .long (jI (j : Int)) := m_ok_jI hT21 (by omega) (by omega) (by omega)
        refine ⟨m + 22, k7.1 0 38 22 (by decide), o1, m + 21, k7.1 0 37 21 (by decide), oj, o1w, o2, ?_⟩
        rw [jInatN _ (by omega), g35, jInatN _ (by omega), jInatN _ (by omega)]
        intro M24 h24
        refine ⟨o2w, o3, ?_⟩
        intro M27 h27
        refine ⟨o3w, ?_⟩
        have gb := gK_b s cl b (j / 16) (j % 16)
        have eb := eK_b s cl b (j / 16) (j % 16)
        have n12 : m + 21 ≠ m + 22 := by omega
        have x36 : M24.1 m 36 = jI (eK s cl b (j / 16) (j % 16)) := by rw [h24]; exact g36
        have y35 : M27.1 m 35 = jI (gK s cl b (j / 16) (j % 16)) := by rw [h27, h24]; exact g35
        have y36 : M27.1 m 36 = jI (eK s cl b (j / 16) (j % 16)) := by rw [h27, h24]; exact g36
        rw [y35, y36, i8, jI_sub, jI_sub, jI_long (by omega) (by omega)]
        rw [x36, jI_long (by omega) (by omega)] at h27
        rw [jI_long (by omega) (by omega)] at h24
        have v7 : M7.2.1 (m + 21) j = M.2.1 (m + 21) j := (hn7 _ _ (Or.inl rfl)).trans (hn j)
        have v24 : M24.2.1 (m + 21) j = M.2.1 (m + 21) j := by rw [h24, m_ul_far n12]; exact v7
        have v27 : M27.2.1 (m + 21) j = M.2.1 (m + 21) j := by rw [h27, m_ul_far n12]; exact v24
        rw [v27, jI_s]
        rw [v24] at h27
        rw [v7] at h24
        have e29 : Eo (sSt m) M1 (m_ul M27 (m + 22) (16 * (j / 16) + kmo (j % 16)) (M27.2.1 (m + 22) (16 * (j / 16) + kmo (j % 16)) + jL (8 - gK s cl b (j / 16) (j % 16) - eK s cl b (j / 16) (j % 16)) * M.2.1 (m + 21) j)) := by
          rw [h27, h24]
          exact (((Eo.mono (S' := sSt m) e7 (fun q k z => Or.inl z)).trans (Eo.rf.ul (Or.inr (Or.inr rfl)))).trans (Eo.rf.ul (Or.inr (Or.inr rfl)))).trans (Eo.rf.ul (Or.inr (Or.inr rfl)))
        refine ih (j + 1) _ (by omega) (hK1.mv e29 sSt_k) (he.trans e29) (fun k => ?_) (fun F => ?_)
        · rw [m_ul_far n12, h27, m_ul_far n12, h24, m_ul_far n12]
          exact (hn7 _ _ (Or.inl rfl)).trans (hn k)
        · have s3 : sL (16 * A + 1) (fun k => (m_ul M27 (m + 22) (16 * (j / 16) + kmo (j % 16)) (M27.2.1 (m + 22) (16 * (j / 16) + kmo (j % 16)) + jL (8 - gK s cl b (j / 16) (j % 16) - eK s cl b (j / 16) (j % 16)) * M.2.1 (m + 21) j)).2.1 (m + 22) k * jL (F k)) = sL (16 * A + 1) (fun k => M27.2.1 (m + 22) k * jL (F k)) + jL (8 - gK s cl b (j / 16) (j % 16) - eK s cl b (j / 16) (j % 16)) * M.2.1 (m + 21) j * jL (F (16 * (j / 16) + kmo (j % 16))) := by
            rw [← sL_upd (f := fun k => M27.2.1 (m + 22) k) (by omega)]
            exact sL_ext (fun k _ => by rw [m_ul_row])
          have s2 : sL (16 * A + 1) (fun k => M27.2.1 (m + 22) k * jL (F k)) = sL (16 * A + 1) (fun k => M24.2.1 (m + 22) k * jL (F k)) + jL (eK s cl b (j / 16) (j % 16)) * M.2.1 (m + 21) j * jL (F (16 * (j / 16) + 11 + dN s)) := by
            rw [← sL_upd (f := fun k => M24.2.1 (m + 22) k) (by omega), h27]
            exact sL_ext (fun k _ => by rw [m_ul_row])
          have s1 : sL (16 * A + 1) (fun k => M24.2.1 (m + 22) k * jL (F k)) = sL (16 * A + 1) (fun k => M7.2.1 (m + 22) k * jL (F k)) + jL (gK s cl b (j / 16) (j % 16)) * M.2.1 (m + 21) j * jL (F (16 * (j / 16) + 5 + wN s b (j / 16))) := by
            rw [← sL_upd (f := fun k => M7.2.1 (m + 22) k) (by omega), h24]
            exact sL_ext (fun k _ => by rw [m_ul_row])
          have s0 : sL (16 * A + 1) (fun k => M7.2.1 (m + 22) k * jL (F k)) = sL (16 * A + 1) (fun k => M1.2.1 (m + 22) k * jL (F k)) := sL_ext (fun k _ => by rw [hn7 _ _ (Or.inr rfl)])
          rw [s3, s2, s1, s0, hI F, sL_succ]
          have eO : O F j = gK s cl b (j / 16) (j % 16) * F (16 * (j / 16) + 5 + wN s b (j / 16)) + eK s cl b (j / 16) (j % 16) * F (16 * (j / 16) + 11 + dN s) + (8 - gK s cl b (j / 16) (j % 16) - eK s cl b (j / 16) (j % 16)) * F (16 * (j / 16) + kmo (j % 16)) := by
            show oV 8 (dN s) (gB s cl b) (eB s cl b) (wN s b) F j = _
            unfold oV
            rw [if_pos c5]
            rfl
          rw [eO, jLa, jLa, jLm, jLm, jLm]
          grind
      · rw [if_neg (by omega)]
        refine s11_goesOn (d := d + 3) (k := j) (A := A) (by omega) hA5 (by omega) ?_
        have hgl := kgo_lt (k := j) (A := A) (by omega) (by omega)
        refine ⟨m + 22, hK1.1 0 38 22 (by decide), m_ok_jI hT22 (by omega) (by omega) (by omega), m + 21, hK1.1 0 37 21 (by decide), m_ok_jI hT21 (by omega) (by omega) (by omega), m_okw_jI hT22 (by omega) (by omega) (by omega), ?_⟩
        rw [jInatN (kgo j) (by omega), hn, jI_s]
        have n12 : m + 21 ≠ m + 22 := by omega
        have e1 : Eo (sSt m) M1 (m_ul M1 (m + 22) (kgo j) (M1.2.1 (m + 22) (kgo j) + 8 * M.2.1 (m + 21) j)) := Eo.rf.ul (Or.inr (Or.inr rfl))
        refine ih (j + 1) _ (by omega) (hK1.mv e1 sSt_k) (he.trans e1) (fun k => by rw [m_ul_far n12]; exact hn k) (fun F => ?_)
        have s1 : sL (16 * A + 1) (fun k => (m_ul M1 (m + 22) (kgo j) (M1.2.1 (m + 22) (kgo j) + 8 * M.2.1 (m + 21) j)).2.1 (m + 22) k * jL (F k)) = sL (16 * A + 1) (fun k => M1.2.1 (m + 22) k * jL (F k)) + 8 * M.2.1 (m + 21) j * jL (F (kgo j)) := by
          rw [← sL_upd (f := fun k => M1.2.1 (m + 22) k) (by omega)]
          exact sL_ext (fun k _ => by rw [m_ul_row])
        rw [s1, hI F, sL_succ]
        have eO : O F j = 8 * F (kgo j) := oV_go (by omega)
        rw [eO, jLm, show jL 8 = 8 from rfl]
        grind
  -- nothing at first
  have wipe : ∀ (u j : Nat) (M1 : mM), u + j = 16 * A + 1 → KT m s M1 → Eo (sSt m) M M1 → (∀ k, M1.2.1 (m + 21) k = M.2.1 (m + 21) k) → (∀ k, k < j → M1.2.1 (m + 22) k = 0) → H11_steps_3 (d + 5) Th Q m (jI b) (jI cl) (jI A) (jI j) M1 := by
    intro u
    induction u with
    | zero =>
      intro j M1 hu hK1 he hn hz
      refine h11_steps_3 ?_
      rw [e16, if_pos (by rw [jIlt (rI_nat (by omega)) (rI_nat (by omega))]; omega), i0]
      refine push (16 * A) 0 M1 (by omega) hK1 he hn (fun F => ?_)
      rw [show sL 0 (fun k => M.2.1 (m + 21) k * jL (O F k)) = 0 from rfl]
      exact sL_zero (fun k hk => by rw [hz k (by omega)]; grind)
    | succ u ih =>
      intro j M1 hu hK1 he hn hz
      refine h11_steps_3 ?_
      rw [e16, if_neg (by rw [jIlt (rI_nat (by omega)) (rI_nat (by omega))]; omega)]
      refine ⟨hT 0 _ rfl, m + 22, hK1.1 0 38 22 (by decide), m_okw_jI hT22 (by omega) (by omega) (by omega), ?_⟩
      rw [jInatN j (by omega), jI_s]
      have e1 : Eo (sSt m) M1 (m_ul M1 (m + 22) j 0) := Eo.rf.ul (Or.inr (Or.inr rfl))
      refine ih (j + 1) _ (by omega) (hK1.mv e1 sSt_k) (he.trans e1) (fun k => by rw [m_ul_far (show m + 21 ≠ m + 22 by omega)]; exact hn k) (fun k hk => ?_)
      rw [m_ul_row]
      by_cases c : k = j
      · rw [if_pos c]
      · rw [if_neg c]; exact hz k (by omega)
  refine e11_steps ?_
  rw [i0]
  exact wipe (16 * A + 1) 0 M (by omega) hK Eo.rf (fun _ => rfl) (fun k h => absurd h (by omega))
end ST
