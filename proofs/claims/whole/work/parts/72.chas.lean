section CG
variable {d : Nat} {Th : mT} {M : mM} {n P L : Nat}
def sL2 (m : Nat) (A : Nat → Nat → Int64) (f : Nat → Nat → Int64) : Int64 := sL m (fun t => sL m (fun h => A t h * f t h))
theorem sL2_upd {m t0 h0 : Nat} {A f : Nat → Nat → Int64} {v : Int64} (ht : t0 < m) (hh : h0 < m) : sL2 m (fun t h => if t = t0 ∧ h = h0 then A t0 h0 + v else A t h) f = sL2 m A f + v * f t0 h0 := by
  unfold sL2
  have e1 : sL m (fun t => sL m (fun h => (if t = t0 ∧ h = h0 then A t0 h0 + v else A t h) * f t h)) = sL m (fun t => sL m (fun h => A t h * f t h) + (if t = t0 then v * f t0 h0 else 0)) := sL_ext (fun t _ => by
    by_cases c : t = t0
    · subst c
      rw [if_pos rfl]
      have : sL m (fun h => (if t = t ∧ h = h0 then A t h0 + v else A t h) * f t h) = sL m (fun h => (if h = h0 then A t h0 + v else A t h) * f t h) := sL_ext (fun h _ => by simp)
      rw [this, sL_upd hh]
    · rw [if_neg c]
      have : sL m (fun h => (if t = t0 ∧ h = h0 then A t0 h0 + v else A t h) * f t h) = sL m (fun h => A t h * f t h) := sL_ext (fun h _ => by rw [if_neg (fun z => c z.1)])
      rw [this]
      grind)
  rw [e1, sL_add, sL_one (f := fun t => if t = t0 then v * f t0 h0 else 0) ht (fun k _ hk => if_neg hk)]
  rw [if_pos rfl]
theorem lyPa.mvS {p : Nat} {S : Nat → Nat → Prop} {M' : mM} (h : lyPa Th p M) (he : Eo S M M') (hS : ∀ q k, S q k → ¬ (p ≤ q ∧ q ≤ p + 14)) : lyPa Th p M' := by
  obtain ⟨h0, h1, h2, h3, h4, h5⟩ := h
  exact ⟨h0, ((he _ _ (fun z => hS _ _ z (by omega))).2.2).trans h1, ((he _ _ (fun z => hS _ _ z (by omega))).2.2).trans h2, ((he _ _ (fun z => hS _ _ z (by omega))).2.2).trans h3, fun r hr => ((he _ _ (fun z => hS _ _ z (by omega))).2.2).trans (h4 r hr), fun r hr => ((he _ _ (fun z => hS _ _ z (by omega))).2.2).trans (h5 r hr)⟩
theorem lySk.mvS {q : Nat} {S : Nat → Nat → Prop} {M' : mM} (h : lySk Th q M) (he : Eo S M M') (hS : ∀ q' k, S q' k → ¬ (q ≤ q' ∧ q' ≤ q + 3)) : lySk Th q M' := ⟨h.1, ((he _ _ (fun z => hS _ _ z (by omega))).2.2).trans h.2.1, ((he _ _ (fun z => hS _ _ z (by omega))).2.2).trans h.2.2.1, ((he _ _ (fun z => hS _ _ z (by omega))).2.2).trans h.2.2.2⟩
theorem vSk.mvS {q : Nat} {S : Nat → Nat → Prop} {R : Int} {g e : Nat → Nat → Int} {st : Nat → Int} {M' : mM} (h : vSk q R g e st M) (he : Eo S M M') (hS : ∀ q' k, S q' k → ¬ (q ≤ q' ∧ q' ≤ q + 3)) : vSk q R g e st M' := h.mv (fun q' k a1 a2 => (he _ _ (fun z => hS _ _ z (by omega))).1)
/-- the term of a pair -/
def tGo (Pr : Nat → Nat → Int64) (So : Nat → Int64) (wy wx last : Nat) (f : Nat → Nat → Int64) (i k h : Nat) : Int64 := Pr i h * (So k * jL (8 ^ wy) * (if max (i + k) h + wx ≤ last then f (i + k + wy) (max (i + k) h + wx) else 0))
def uGo (Pr : Nat → Nat → Int64) (So : Nat → Int64) (wy wx last : Nat) (f : Nat → Nat → Int64) (i k : Nat) : Int64 := if 1 ≤ k ∧ i + k + wy ≤ last then sL (last + 1) (tGo Pr So wy wx last f i k) else 0
set_option maxHeartbeats 1000000 in
theorem s0_goOn {Q : mM → Prop} {r p qx qy last wy wx : Nat} {R : Int} {gx ex gy ey : Nat → Nat → Int} {sx sy : Nat → Int} (hc : lyCh Th n P L M) (hp : lyPa Th p M) (hqx : lySk Th qx M) (hqy : lySk Th qy M) (hvx : vSk qx R gx ex sx M) (hvy : vSk qy R gy ey sy M) (hr5 : r < 5) (hr : (r : Int) < R) (hl : last ≤ 10) (hsx : sx r = (wx : Int)) (hsy : sy r = (wy : Int)) (hwx : 1 ≤ wx ∧ wx ≤ 6) (hwy : 1 ≤ wy ∧ wy ≤ 6) (hpp : p + 14 < n + 69) (hqq : qx + 3 < n + 69 ∧ qy + 3 < n + 69)
    (K : ∀ M', lyCh Th n L P M' → (∀ f, sL2 (last + 1) (fun t h => M'.2.1 (L + 1 + t) h) f = sL (last + 1) (fun i => sL 11 (uGo (fun t h => M.2.1 (P + 1 + t) h) (fun k => M.2.1 (p + 3 + r) k) wy wx last f i))) → Eo (sCh n) M M' → Q M') : P0_goOn (d + 3) Th (n + 69) (jI r) qx qy p (jI last) M Q := by
  let Pr : Nat → Nat → Int64 := fun t h => M.2.1 (P + 1 + t) h
  let So : Nat → Int64 := fun k => M.2.1 (p + 3 + r) k
  have hPL : (P = n + 70 ∧ L = n + 82) ∨ (P = n + 82 ∧ L = n + 70) := hc.2.1
  have hSr : ∀ q k, rwS L q k → sRw n q k := fun q k z => by unfold rwS at z; unfold sRw; omega
  have hSp : ∀ q k, rwS L q k → ¬ (p ≤ q ∧ q ≤ p + 14) := fun q k z => by unfold rwS at z; omega
  have hSx : ∀ q k, rwS L q k → ¬ (qx ≤ q ∧ q ≤ qx + 3) := fun q k z => by unfold rwS at z; omega
  have hSy : ∀ q k, rwS L q k → ¬ (qy ≤ q ∧ q ≤ qy + 3) := fun q k z => by unfold rwS at z; omega
  have Lp : ∀ M1, Eo (rwS L) M M1 → (∀ t h, t < 11 → M1.2.1 (P + 1 + t) h = Pr t h) ∧ (∀ k, M1.2.1 (p + 3 + r) k = So k) := by
    intro M1 h
    exact ⟨fun t k ht => (h _ _ (by unfold rwS; omega)).2.1, fun k => (h _ _ (by unfold rwS; omega)).2.1⟩
  -- over here
  have inner : ∀ (u h k i : Nat) (M1 : mM), u + h = last + 1 → i ≤ last → 1 ≤ k → i + k + wy ≤ last → Eo (rwS L) M M1 → (∀ f, sL2 (last + 1) (fun t h => M1.2.1 (L + 1 + t) h) f = sL i (fun i => sL 11 (uGo Pr So wy wx last f i)) + sL k (uGo Pr So wy wx last f i) + sL h (tGo Pr So wy wx last f i k)) →
      (∀ M2, Eo (rwS L) M M2 → (∀ f, sL2 (last + 1) (fun t h => M2.2.1 (L + 1 + t) h) f = sL i (fun i => sL 11 (uGo Pr So wy wx last f i)) + sL (k + 1) (uGo Pr So wy wx last f i)) → H0_goOn_30 (d + 3) Th Q (n + 69) (jI r) qx p (jI last) (jI wy) (jI i) (jI ((i + k + 1 : Nat) : Int)) M2) → H0_goOn_61 (d + 3) Th Q (n + 69) (jI r) qx p (jI last) (jI wy) (jI i) (jI ((i + k : Nat) : Int)) (So k * jL (8 ^ wy)) (jI h) M1 := by
    intro u
    induction u with
    | zero =>
      intro h k i M1 hu hi hk hf hL hI kk
      refine h0_goOn_61 ?_
      rw [if_pos (by rw [jIlt (rI_nat (by omega)) (rI_nat (by omega))]; omega), jI_s]
      refine kk M1 hL (fun f => ?_)
      have eu : uGo Pr So wy wx last f i k = sL (last + 1) (tGo Pr So wy wx last f i k) := if_pos ⟨hk, hf⟩
      rw [hI f, sL_succ, eu, show h = last + 1 by omega]
      grind
    | succ u ih =>
      intro h k i M1 hu hi hk hf hL hI kk
      refine h0_goOn_61 ?_
      rw [if_neg (by rw [jIlt (rI_nat (by omega)) (rI_nat (by omega))]; omega)]
      by_cases hz : So k * jL (8 ^ wy) = 0
      · rw [if_pos (by rw [lc_eq]; exact hz), jI_s]
        refine kk M1 hL (fun f => ?_)
        have eu : uGo Pr So wy wx last f i k = sL (last + 1) (tGo Pr So wy wx last f i k) := if_pos ⟨hk, hf⟩
        have z : ∀ m, sL m (tGo Pr So wy wx last f i k) = 0 := fun m => sL_zero (fun j _ => by unfold tGo; rw [hz]; grind)
        rw [hI f, sL_succ, eu, z, z]
        grind
      rw [if_neg (by rw [lc_eq]; exact hz)]
      refine ⟨hqx.1.1, ?_⟩
      refine s8_stepsFrom (d := d + 1) (r := r) (hqx.mvS hL hSx) (hvx.mvS hL hSx) hr5 hr (by omega) ?_
      intro xv4 h4
      have hx4 : xv4 = jI ((max (i + k) h + wx : Nat) : Int) := by
        rw [h4, hsx]
        simp only [jIlt (rI_nat (k := h) (by omega)) (rI_nat (k := i + k) (by omega))]
        by_cases c : (h : Int) < ((i + k : Nat) : Int)
        · rw [if_pos c, jI_add, show max (i + k) h = i + k by omega]; rfl
        · rw [if_neg c, jI_add, show max (i + k) h = h by omega]; rfl
      subst hx4
      by_cases ct : last < max (i + k) h + wx
      · rw [if_pos (by rw [jIlt (rI_nat (by omega)) (rI_nat (by omega))]; omega), jI_s]
        refine ih (h + 1) k i M1 (by omega) hi hk hf hL (fun f => ?_) kk
        rw [hI f, sL_succ]
        have : tGo Pr So wy wx last f i k h = 0 := by unfold tGo; rw [if_neg (by omega)]; grind
        rw [this]
        grind
      rw [if_neg (by rw [jIlt (rI_nat (by omega)) (rI_nat (by omega))]; omega)]
      have hc1 := hc.mv (hL.mono hSr)
      have ra := hc1.row (i := i + k + wy) (by omega)
      have rb := hc1.row (i := i) (by omega)
      have eiw : jI ((i + k : Nat) : Int) + jI (wy : Int) = jI ((i + k + wy : Nat) : Int) := by rw [jI_add]; rfl
      rw [eiw]
      refine ⟨hc.1.1, L, hc1.2.2.2.1, m_okO_jI hc1.arr.2 (by omega) (by omega) (by omega), L + 1 + (i + k + wy), by rw [jInatN _ (by omega)]; exact ra.2.2, m_ok_jI ra.2.1 (by omega) (by omega) (by omega), P, hc1.2.2.1, m_okO_jI hc1.arr.1 (by omega) (by omega) (by omega), P + 1 + i, by rw [jInatN _ (by omega)]; exact rb.1.2, m_ok_jI rb.1.1 (by omega) (by omega) (by omega), m_okw_jI ra.2.1 (by omega) (by omega) (by omega), ?_⟩
      rw [jInatN _ (by omega), jInatN h (by omega), (Lp M1 hL).1 i h (by omega), jI_s]
      refine ih (h + 1) k i _ (by omega) hi hk hf (hL.trans (Eo.rf.ul ⟨by omega, by omega⟩)) (fun f => ?_) kk
      have kf : (fun t h' => (m_ul M1 (L + 1 + (i + k + wy)) (max (i + k) h + wx) (M1.2.1 (L + 1 + (i + k + wy)) (max (i + k) h + wx) + Pr i h * (So k * jL (8 ^ wy)))).2.1 (L + 1 + t) h') = (fun t h' => if t = i + k + wy ∧ h' = max (i + k) h + wx then M1.2.1 (L + 1 + (i + k + wy)) (max (i + k) h + wx) + Pr i h * (So k * jL (8 ^ wy)) else M1.2.1 (L + 1 + t) h') := by
        funext t h'
        by_cases c1 : t = i + k + wy
        · subst c1
          rw [m_ul_row]
          by_cases c2 : h' = max (i + k) h + wx
          · rw [if_pos c2, if_pos ⟨rfl, c2⟩]
          · rw [if_neg c2, if_neg (fun z => c2 z.2)]
        · rw [m_ul_far (by omega), if_neg (fun z => c1 z.1)]
      rw [kf, sL2_upd (A := fun t h => M1.2.1 (L + 1 + t) h) (by omega) (by omega), hI f, sL_succ]
      have : tGo Pr So wy wx last f i k h = Pr i h * (So k * jL (8 ^ wy) * f (i + k + wy) (max (i + k) h + wx)) := by unfold tGo; rw [if_pos (by omega)]
      rw [this]
      grind
  -- over solved
  have mid : ∀ (u k i : Nat) (M1 : mM), u + k = 11 → i ≤ last → 1 ≤ k → Eo (rwS L) M M1 → (∀ f, sL2 (last + 1) (fun t h => M1.2.1 (L + 1 + t) h) f = sL i (fun i => sL 11 (uGo Pr So wy wx last f i)) + sL k (uGo Pr So wy wx last f i)) →
      (∀ M2, Eo (rwS L) M M2 → (∀ f, sL2 (last + 1) (fun t h => M2.2.1 (L + 1 + t) h) f = sL (i + 1) (fun i => sL 11 (uGo Pr So wy wx last f i))) → H0_goOn_17 (d + 3) Th Q (n + 69) (jI r) qx p (jI last) (jI wy) (jI ((i + 1 : Nat) : Int)) M2) → H0_goOn_30 (d + 3) Th Q (n + 69) (jI r) qx p (jI last) (jI wy) (jI i) (jI ((i + k : Nat) : Int)) M1 := by
    intro u
    induction u with
    | zero =>
      intro k i M1 hu hi hk hL hI kk
      have eiw : jI ((i + k : Nat) : Int) + jI (wy : Int) = jI ((i + k + wy : Nat) : Int) := by rw [jI_add]; rfl
      refine h0_goOn_30 ?_
      rw [eiw, if_pos (by rw [jIlt (rI_nat (by omega)) (rI_nat (by omega))]; omega), jI_s]
      refine kk M1 hL (fun f => ?_)
      rw [hI f, sL_succ, show k = 11 by omega]
    | succ u ih =>
      intro k i M1 hu hi hk hL hI kk
      have eiw : jI ((i + k : Nat) : Int) + jI (wy : Int) = jI ((i + k + wy : Nat) : Int) := by rw [jI_add]; rfl
      refine h0_goOn_30 ?_
      rw [eiw]
      by_cases cx : last < i + k + wy
      · rw [if_pos (by rw [jIlt (rI_nat (by omega)) (rI_nat (by omega))]; omega), jI_s]
        refine kk M1 hL (fun f => ?_)
        rw [hI f, sL_succ]
        congr 1
        exact (sL_split (by omega) (fun j h1 h2 => if_neg (by omega))).symm
      rw [if_neg (by rw [jIlt (rI_nat (by omega)) (rI_nat (by omega))]; omega)]
      refine ⟨hp.1.1, ?_⟩
      rw [jI_sub, show ((i + k : Nat) : Int) - (i : Int) = (k : Int) by omega]
      refine s7_solvedIn (d := d + 1) (hp.mvS hL hSp) hr5 (by omega) ?_
      intro lv4 h4
      rw [kI3, sh8 (by omega), (Lp M1 hL).2 k] at h4
      rw [h4, i0]
      refine inner (last + 1) 0 k i M1 (by omega) hi hk (by omega) hL (fun f => ?_) (fun M2 a1 a2 => ?_)
      · rw [hI f, show sL 0 (tGo Pr So wy wx last f i k) = 0 from rfl]
        grind
      · exact ih (k + 1) i M2 (by omega) hi (by omega) a1 a2 kk
  -- over came
  have outer : ∀ (u i : Nat) (M1 : mM), u + i = last + 1 → Eo (rwS L) M M1 → (∀ f, sL2 (last + 1) (fun t h => M1.2.1 (L + 1 + t) h) f = sL i (fun i => sL 11 (uGo Pr So wy wx last f i))) → H0_goOn_17 (d + 3) Th Q (n + 69) (jI r) qx p (jI last) (jI wy) (jI i) M1 := by
    intro u
    induction u with
    | zero =>
      intro i M1 hu hL hI
      have hc1 := hc.mv (hL.mono hSr)
      refine h0_goOn_17 ?_
      rw [if_pos (by rw [jIlt (rI_nat (by omega)) (rI_nat (by omega))]; omega)]
      refine ⟨hc.1.1, P, hc1.2.2.1, L, hc1.2.2.2.1, ?_⟩
      intro M6 h6
      have e7 : Eo (sCh n) M (m_ur M6 (n + 69) 1 (some P)) := by
        rw [h6]
        exact Eo.ur (Eo.ur (hL.mono (fun q k z => by unfold rwS at z; unfold sCh; omega)) (Or.inl ⟨rfl, by omega⟩)) (Or.inl ⟨rfl, by omega⟩)
      refine K _ ?_ (fun f => ?_) e7
      · obtain ⟨h0, h4, h5, h6', h7⟩ := hc1
        rw [h6]
        refine ⟨h0, h4.symm.imp (fun z => ⟨z.2, z.1⟩) (fun z => ⟨z.2, z.1⟩), by simp [m_u], by simp [m_u], fun i hi => ⟨?_, ?_⟩⟩
        · simp only [m_u_ne (show n + 70 ≠ n + 69 by omega)]; exact (h7 i hi).1
        · simp only [m_u_ne (show n + 82 ≠ n + 69 by omega)]; exact (h7 i hi).2
      · rw [h6]
        have := hI f
        rw [show i = last + 1 by omega] at this
        exact this
    | succ u ih =>
      intro i M1 hu hL hI
      refine h0_goOn_17 ?_
      rw [if_neg (by rw [jIlt (rI_nat (by omega)) (rI_nat (by omega))]; omega)]
      intro xv7 h7
      rw [h7, jI_s]
      refine mid 10 1 i M1 (by omega) (by omega) (by omega) hL (fun f => ?_) (fun M2 a1 a2 => ih (i + 1) M2 (by omega) a1 a2)
      rw [hI f]
      have : sL 1 (uGo Pr So wy wx last f i) = 0 := sL_zero (fun k hk => if_neg (by omega))
      rw [this]
      grind
  refine e0_goOn ⟨hc.1.1, L, hc.2.2.2.1, ?_⟩
  refine s0_wipe (d := d + 1) hc.arr.2 (fun i hi => (hc.row hi).2) ?_
  intro M4 z4 e4
  have hq4 := hqy.mvS e4 hSy
  refine ⟨hq4.1.1, ?_⟩
  refine s8_stepsFrom (d := d + 1) (r := r) hq4 (hvy.mvS e4 hSy) hr5 hr (by omega) ?_
  rw [hsy, i0]
  refine outer (last + 1) 0 M4 (by omega) e4 (fun f => ?_)
  rw [show sL 0 (fun i => sL 11 (uGo Pr So wy wx last f i)) = 0 from rfl]
  unfold sL2
  exact sL_zero (fun t ht => sL_zero (fun h hh => by
    show M4.2.1 (L + 1 + t) h * f t h = 0
    rw [z4 t h (by omega) (by omega)]
    grind))
end CG
