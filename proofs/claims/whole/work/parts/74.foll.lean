section FL
variable {d : Nat} {Th : mT} {M : mM} {n P L : Nat} {s : mS} {c : Int}
theorem sCh_p {p : Nat} (hp : p + 14 < n + 69) : ∀ q k, sCh n q k → ¬ (p ≤ q ∧ q ≤ p + 14) := by
  intro q k h
  unfold sCh at h
  omega
theorem sCh_q {q0 : Nat} (hp : q0 + 3 < n + 69) : ∀ q k, sCh n q k → ¬ (q0 ≤ q ∧ q ≤ q0 + 3) := by
  intro q k h
  unfold sCh at h
  omega
theorem s0_reckon {Q : Int64 → mM → Prop} {p qx qy last D R : Nat} {w : Bool} {gx ex gy ey : Nat → Nat → Int} {wx wy : Nat → Nat} (hc : lyCh Th n P L M) (hp : lyPa Th p M) (hv : vPa p 3 8 D gy ey wy R M) (hqx : lySk Th qx M) (hqy : lySk Th qy M) (hvx : vSk qx R gx ex (fun r => (wx r : Int)) M) (hvy : vSk qy R gy ey (fun r => (wy r : Int)) M) (hR : 1 ≤ R ∧ R ≤ 5) (hD : 1 ≤ D ∧ D ≤ 4) (hl : last ≤ 10) (hwx : ∀ r, 1 ≤ wx r ∧ wx r ≤ 6) (hwy : ∀ r, 1 ≤ wy r ∧ wy r ≤ 6) (hpp : p + 14 < n + 69) (hqq : qx + 3 < n + 69 ∧ qy + 3 < n + 69)
    (K : ∀ M' P' L', lyCh Th n P' L' M' → Eo (sCh n) M M' → Q (jL (aV D gy ey wy wx R last w last 0 0)) M') : P0_reckon (d + 4) Th (n + 69) qx qy p (jI last) (jB w) M Q := by
  let V : Nat → Nat → Nat → Int := fun j k h => aV D gy ey wy wx R last w j k h
  have loop : ∀ (u r P L : Nat) (M1 : mM), u + r + 1 = R → lyCh Th n P L M1 → Eo (sCh n) M M1 → sL2 (last + 1) (fun t h => M1.2.1 (P + 1 + t) h) (fun t h => jL (V (last - t) (16 * r) h)) = jL (V last 0 0) → H0_reckon_32 (d + 4) Th Q (n + 69) qx qy p (jB w) (jI last) (jI r) M1 := by
    intro u
    induction u with
    | zero =>
      intro r P L M1 hu hc1 he hI
      have hp1 := hp.mvS he (sCh_p hpp)
      have hv1 := hv.mv he hR.2 (sCh_p hpp)
      refine h0_reckon_32 ⟨hp.1.1, ?_⟩
      rw [hv1.2.1, jI_s, if_pos (by rw [jIle (rI_nat (by omega)) (rI_nat (by omega))]; omega)]
      refine ⟨hc.1.1, ?_⟩
      refine s0_toBox (d := d) (r := r) (wy := wy r) (wx := wx r) hc1 hp1 (by rw [hv1.2.1]; congr 2; omega) (hqx.mvS he (sCh_q hqq.1)) (hqy.mvS he (sCh_q hqq.2)) (hvx.mvS he (sCh_q hqq.1)) (hvy.mvS he (sCh_q hqq.2)) (by omega) (by omega) hl rfl rfl (hwx r) (hwy r) ?_
      have e1 : sL (last + 1) (fun i => sL 11 (uBo (fun t h => M1.2.1 (P + 1 + t) h) (fun k => M1.2.1 (p + 3 + r) k) (wy r) (wx r) last w i)) = sL2 (last + 1) (fun t h => M1.2.1 (P + 1 + t) h) (fun t h => jL (V (last - t) (16 * r) h)) := by
        unfold sL2
        exact sL_ext (fun i hi => pairs_box (D := D) (g := gy) (e := ey) (R := R) (by omega) hD hl (hv1.2.2.2 r (by omega)) (by omega))
      rw [e1, hI]
      exact K M1 P L hc1 he
    | succ u ih =>
      intro r P L M1 hu hc1 he hI
      have hp1 := hp.mvS he (sCh_p hpp)
      have hv1 := hv.mv he hR.2 (sCh_p hpp)
      refine h0_reckon_32 ⟨hp.1.1, ?_⟩
      rw [hv1.2.1, jI_s, if_neg (by rw [jIle (rI_nat (by omega)) (rI_nat (by omega))]; omega)]
      refine ⟨hc.1.1, ?_⟩
      refine s0_goOn (d := d) (r := r) (wy := wy r) (wx := wx r) hc1 hp1 (hqx.mvS he (sCh_q hqq.1)) (hqy.mvS he (sCh_q hqq.2)) (hvx.mvS he (sCh_q hqq.1)) (hvy.mvS he (sCh_q hqq.2)) (by omega) (by omega) hl rfl rfl (hwx r) (hwy r) hpp hqq ?_
      intro M5 hc5 hf he5
      refine ih (r + 1) L P M5 (by omega) hc5 (he.trans he5) ?_
      rw [hf, ← hI]
      unfold sL2
      exact sL_ext (fun i hi => pairs_next (D := D) (g := gy) (e := ey) (R := R) (by omega) hD hl hwy hwx (hv1.2.2.2 r (by omega)) (by omega))
  refine e0_reckon ?_
  intro xv1 h1
  have hx1 : xv1 = jI (last : Int) := by
    rw [h1]
    simp only [jl10 (z := (last : Int)) (rI_nat (by omega))]
    by_cases a : (last : Int) < 10
    · simp only [if_pos a, jg0 (z := (last : Int)) (rI_nat (by omega))]
      by_cases b : (0 : Int) < last
      · rw [if_pos b]
      · rw [if_neg b, show (last : Int) = 0 by omega]; rfl
    · simp only [if_neg a]
      rw [if_pos (by decide), show (last : Int) = 10 by omega]; rfl
  subst hx1
  refine ⟨hc.1.1, P, hc.2.2.1, ?_⟩
  have hPL := hc.2.1
  refine s0_wipe (d := d + 2) hc.arr.1 (fun i hi => (hc.row hi).1) ?_
  intro M5 z5 e5
  have e5' : Eo (sRw n) M M5 := e5.mono (fun q k z => by unfold rwS at z; unfold sRw; omega)
  have e5c : Eo (sCh n) M M5 := e5.mono (fun q k z => by unfold rwS at z; unfold sCh; omega)
  have hc5 := hc.mv e5'
  have r0 := (hc5.row (i := 0) (by omega)).1
  refine ⟨P, hc5.2.2.1, by rw [i0]; exact m_okO_jI hc5.arr.1 (by omega) (by omega) (by omega), P + 1 + 0, by rw [show Int32.toNatClampNeg 0 = 0 from rfl]; exact r0.2, by rw [i0]; exact m_okw_jI r0.1 (by omega) (by omega) (by omega), ?_⟩
  rw [show Int32.toNatClampNeg 0 = 0 from rfl, i0]
  have e6 : Eo (sRw n) M5 (m_ul M5 (P + 1 + 0) 0 1) := Eo.rf.ul (by unfold sRw; omega)
  have e6c : Eo (sCh n) M5 (m_ul M5 (P + 1 + 0) 0 1) := Eo.rf.ul (by unfold sCh; omega)
  refine loop (R - 1) 0 P L _ (by omega) (hc5.mv e6) (e5c.trans e6c) ?_
  have row : ∀ t h, t < 11 → h < 11 → (m_ul M5 (P + 1 + 0) 0 1).2.1 (P + 1 + t) h = if t = 0 ∧ h = 0 then 1 else 0 := by
    intro t h ht hh
    by_cases c1 : t = 0
    · subst c1
      rw [m_ul_row]
      by_cases c2 : h = 0
      · rw [if_pos c2, if_pos ⟨rfl, c2⟩]
      · rw [if_neg c2, if_neg (fun z => c2 z.2)]; exact z5 0 h ht hh
    · rw [m_ul_far (by omega), if_neg (fun z => c1 z.1)]
      exact z5 t h ht hh
  unfold sL2
  rw [sL_one (a := 0) (by omega) (fun t ht ht0 => sL_zero (fun h hh => by
    show (m_ul M5 (P + 1 + 0) 0 1).2.1 (P + 1 + t) h * _ = 0
    rw [row t h (by omega) (by omega), if_neg (fun z => ht0 z.1)]
    grind))]
  rw [sL_one (a := 0) (by omega) (fun h hh hh0 => by
    show (m_ul M5 (P + 1 + 0) 0 1).2.1 (P + 1 + 0) h * _ = 0
    rw [row 0 h (by omega) (by omega), if_neg (fun z => hh0 z.2)]
    grind)]
  show (m_ul M5 (P + 1 + 0) 0 1).2.1 (P + 1 + 0) 0 * jL (V (last - 0) (16 * 0) 0) = _
  rw [row 0 0 (by omega) (by omega), if_pos ⟨rfl, rfl⟩]
  show 1 * jL (V last 0 0) = _
  grind
/-- the class's pairs stand somewhere -/
def cCh (n : Nat) (M : mM) : Prop := (M.2.2 (n + 69) 0 = some (n + 70) ∧ M.2.2 (n + 69) 1 = some (n + 82)) ∨ (M.2.2 (n + 69) 0 = some (n + 82) ∧ M.2.2 (n + 69) 1 = some (n + 70))
theorem lyCh_of (hT : Ly Th n) (hR : Rf n M) (h : cCh n M) : ∃ P L, lyCh Th n P L M := by
  have rows : (∀ i, i < 11 → Th.2.2 (n + 71 + i) = some (.inr (.long, false, 11)) ∧ Th.2.2 (n + 83 + i) = some (.inr (.long, false, 11))) ∧ ∀ i, i < 11 → M.2.2 (n + 70) i = some (n + 71 + i) ∧ M.2.2 (n + 82) i = some (n + 83 + i) := by
    refine ⟨fun i hi => ?_, fun i hi => ?_⟩
    · have : i = 0 ∨ i = 1 ∨ i = 2 ∨ i = 3 ∨ i = 4 ∨ i = 5 ∨ i = 6 ∨ i = 7 ∨ i = 8 ∨ i = 9 ∨ i = 10 := by omega
      rcases this with z | z | z | z | z | z | z | z | z | z | z <;> subst z
      · exact ⟨hT 71 _ rfl, hT 83 _ rfl⟩
      · exact ⟨hT 72 _ rfl, hT 84 _ rfl⟩
      · exact ⟨hT 73 _ rfl, hT 85 _ rfl⟩
      · exact ⟨hT 74 _ rfl, hT 86 _ rfl⟩
      · exact ⟨hT 75 _ rfl, hT 87 _ rfl⟩
      · exact ⟨hT 76 _ rfl, hT 88 _ rfl⟩
      · exact ⟨hT 77 _ rfl, hT 89 _ rfl⟩
      · exact ⟨hT 78 _ rfl, hT 90 _ rfl⟩
      · exact ⟨hT 79 _ rfl, hT 91 _ rfl⟩
      · exact ⟨hT 80 _ rfl, hT 92 _ rfl⟩
      · exact ⟨hT 81 _ rfl, hT 93 _ rfl⟩
    · have : i = 0 ∨ i = 1 ∨ i = 2 ∨ i = 3 ∨ i = 4 ∨ i = 5 ∨ i = 6 ∨ i = 7 ∨ i = 8 ∨ i = 9 ∨ i = 10 := by omega
      rcases this with z | z | z | z | z | z | z | z | z | z | z <;> subst z
      · exact ⟨hR 70 0 71 (by decide), hR 82 0 83 (by decide)⟩
      · exact ⟨hR 70 1 72 (by decide), hR 82 1 84 (by decide)⟩
      · exact ⟨hR 70 2 73 (by decide), hR 82 2 85 (by decide)⟩
      · exact ⟨hR 70 3 74 (by decide), hR 82 3 86 (by decide)⟩
      · exact ⟨hR 70 4 75 (by decide), hR 82 4 87 (by decide)⟩
      · exact ⟨hR 70 5 76 (by decide), hR 82 5 88 (by decide)⟩
      · exact ⟨hR 70 6 77 (by decide), hR 82 6 89 (by decide)⟩
      · exact ⟨hR 70 7 78 (by decide), hR 82 7 90 (by decide)⟩
      · exact ⟨hR 70 8 79 (by decide), hR 82 8 91 (by decide)⟩
      · exact ⟨hR 70 9 80 (by decide), hR 82 9 92 (by decide)⟩
      · exact ⟨hR 70 10 81 (by decide), hR 82 10 93 (by decide)⟩
  rcases h with ⟨z1, z2⟩ | ⟨z1, z2⟩
  · exact ⟨n + 70, n + 82, ⟨hT 69 _ rfl, rows.1, hT 70 _ rfl, hT 82 _ rfl⟩, Or.inl ⟨rfl, rfl⟩, z1, z2, rows.2⟩
  · exact ⟨n + 82, n + 70, ⟨hT 69 _ rfl, rows.1, hT 70 _ rfl, hT 82 _ rfl⟩, Or.inr ⟨rfl, rfl⟩, z1, z2, rows.2⟩
theorem lyCh.cc (h : lyCh Th n P L M) : cCh n M := by
  rcases h.2.1 with ⟨z1, z2⟩ | ⟨z1, z2⟩
  · left; rw [h.2.2.1, h.2.2.2.1, z1, z2]; exact ⟨rfl, rfl⟩
  · right; rw [h.2.2.1, h.2.2.2.1, z1, z2]; exact ⟨rfl, rfl⟩
theorem sCh_rf (n : Nat) : ∀ o k v, (o, k, v) ∈ rsA → ¬ sCh n (n + o) k := by
  intro o k v hv h
  unfold sCh at h
  simp [rsA] at hv
  omega
theorem sCh_h : ∀ q k, sCh n q k → n ≤ q ∧ ¬ (q = n + 3 ∧ k ≤ 4) ∧ ¬ (n + 9 ≤ q ∧ q ≤ n + 34) ∧ ¬ (q = n + 4 ∧ 1 ≤ k ∧ k ≤ 4) ∧ q ≠ n + 6 ∧ q ≠ n + 7 := by
  intro q k h
  unfold sCh at h
  omega
/-- what going after writes -/
def sFo (n : Nat) : Nat → Nat → Prop := fun q k => sWy n q k ∨ sCh n q k
/-- ways of x after y, by the state -/
def aftS (s : mS) (x y last : Nat) (w : Bool) : Int := aV (dN s) (gB s (s 4 y) y) (eB s (s 4 y) y) (wN s y) (wN s x) (s 0 0).toNat last w last 0 0
theorem s10_followed {Q : Int64 → mM → Prop} {x y last : Nat} {w : Bool} (hT : gTh Th n) (hM : KM Th n s c M) (hC : cCh n M) (hG : rG s) (hO : rLw s) (hx : (x : Int) < s 0 1) (hy : (y : Int) < s 0 1) (hr0 : 0 < s 0 0) (hl : last ≤ 10)
    (K : ∀ M', KM Th n s c M' → cCh n M' → Eo (sFo n) M M' → Q (jL (aftS s x y last w)) M') : P10_followed (d + 40) Th n (jI x) (jI y) (jI last) (jB w) M Q := by
  have g0 := hG.1
  have g1 := hG.2.1
  have gd := hG.2.2.1
  refine e10_followed ⟨hT.1 0 _ rfl, n + 54, hM.1.1 0 4 54 (by decide), n + 3, hM.1.1 0 1 3 (by decide), hT.1 3 _ rfl, ?_⟩
  refine s2_skill (d := d + 38) (b := y) hT hM hG hO hy (by omega) ?_
  intro M6 m6 b6 e6
  refine s10_goAlone (d := d + 34) (p := n + 54) hT m6.1 hG (Or.inr rfl) (lySk_of hT.1 m6.1.1 (aSk_q (by omega))) (vB_n b6) (by unfold aSk; omega) (gB_b s _ y) (wN_b s y) ?_
  intro M9 p9 e9
  have e9' : Eo (sPp n) M6 M9 := e9.mono (fun q k z => Or.inr z)
  have m9 := m6.mvS hT e9' (sPp_rf n) sPp_h
  refine ⟨n + 69, m9.1.1 0 5 69 (by decide), n + 3, m9.1.1 0 1 3 (by decide), hT.1 3 _ rfl, ?_⟩
  refine s2_skill (d := d + 38) (b := x) hT m9 hG hO hx (by omega) ?_
  intro M15 m15 b15 e15
  refine ⟨n + 3, m15.1.1 0 1 3 (by decide), hT.1 3 _ rfl, ?_⟩
  refine s2_skill2 (d := d + 38) (b := y) hT m15 hG hO hy (by omega) ?_
  intro M20 m20 b20 e20 o20
  have p20 := (p9.mv e15 (by omega) (sSk_pa (by omega))).mv e20 (by omega) (sSk_pa (by omega))
  -- x's skill stays: the class asks it again
  have bx : vB n s x M20 := by
    by_cases exy : x = y
    · rw [exy]; exact b20
    · exact o20 x (by omega) exy b15
  have ec : Eo (sFo n) M M20 := (((e6.mono (fun q k z => Or.inl (Or.inl z))).trans (e9'.mono (fun q k z => Or.inl (Or.inr z)))).trans (e15.mono (fun q k z => Or.inl (Or.inl z)))).trans (e20.mono (fun q k z => Or.inl (Or.inl z)))
  have hC20 : cCh n M20 := by
    have g : ∀ k, k ≤ 1 → M20.2.2 (n + 69) k = M.2.2 (n + 69) k := by
      intro k hk
      rw [(e20 _ _ (by unfold sSk sLaw; omega)).2.2, (e15 _ _ (by unfold sSk sLaw; omega)).2.2, (e9 _ _ (by unfold sPa; omega)).2.2, (e6 _ _ (by unfold sSk sLaw; omega)).2.2]
    unfold cCh
    rw [g 0 (by omega), g 1 (by omega)]
    exact hC
  obtain ⟨P, L, hch⟩ := lyCh_of hT.1 m20.1.1 hC20
  have hR : (s 0 0) = ((s 0 0).toNat : Int) := by omega
  have vx := vB_n bx
  have vy := vB_n b20
  rw [hR] at vx vy
  refine ⟨n + 54, m20.1.1 0 4 54 (by decide), hT.1 69 _ rfl, ?_⟩
  refine s0_reckon (d := d + 35) (R := (s 0 0).toNat) (D := dN s) (wx := wN s x) (wy := wN s y) hch (lyPa54 hT.1 m20.1.1) p20 (lySk_of hT.1 m20.1.1 (aSk_q (by omega))) (lySk_of hT.1 m20.1.1 (aSk_q (by omega))) (by simpa using vx) (by simpa using vy) (by omega) (by unfold dN; omega) hl (wN_b s x) (wN_b s y) (by omega) (by unfold aSk; omega) ?_
  intro M' P' L' hc' he'
  exact K M' (m20.mvS hT he' (sCh_rf n) sCh_h) hc'.cc (ec.trans (he'.mono (fun q k z => Or.inr z)))
end FL
