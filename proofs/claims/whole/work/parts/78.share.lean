/-! ===== SHARE: two as one ===== -/
def gJ (g1 g2 : Nat → Nat → Int) : Nat → Nat → Int := fun r t => 64 - (8 - g1 r t) * (8 - g2 r t)
def eJ (g1 e1 g2 e2 : Nat → Nat → Int) : Nat → Nat → Int := fun r t => (8 - g1 r t) * (8 - g2 r t) - (8 - g1 r t - e1 r t) * (8 - g2 r t - e2 r t)
def wJ (w1 w2 : Nat → Nat) : Nat → Nat := fun r => max (w1 r) (w2 r)
theorem j_b {g1 e1 g2 e2 : Nat → Nat → Int} (h1 : ∀ r t, 0 ≤ g1 r t ∧ 0 ≤ e1 r t ∧ g1 r t + e1 r t ≤ 8) (h2 : ∀ r t, 0 ≤ g2 r t ∧ 0 ≤ e2 r t ∧ g2 r t + e2 r t ≤ 8) (r t : Nat) : 0 ≤ gJ g1 g2 r t ∧ 0 ≤ eJ g1 e1 g2 e2 r t ∧ gJ g1 g2 r t + eJ g1 e1 g2 e2 r t ≤ 64 ∧ 0 ≤ (8 - g1 r t) * (8 - g2 r t) ∧ 0 ≤ (8 - g1 r t - e1 r t) * (8 - g2 r t - e2 r t) := by
  have a := h1 r t
  have b := h2 r t
  have m1 : (8 - g1 r t) * (8 - g2 r t) ≤ 8 * 8 := Int.mul_le_mul (by omega) (by omega) (by omega) (by omega)
  have m2 : (8 - g1 r t - e1 r t) * (8 - g2 r t - e2 r t) ≤ (8 - g1 r t) * (8 - g2 r t) := Int.mul_le_mul (by omega) (by omega) (by omega) (by omega)
  have m3 : 0 ≤ (8 - g1 r t - e1 r t) * (8 - g2 r t - e2 r t) := Int.mul_nonneg (by omega) (by omega)
  unfold gJ eJ
  omega
section SH
variable {d : Nat} {Th : mT} {M : mM} {m n : Nat} {s : mS} {c : Int}
def sJo (q : Nat) : Nat → Nat → Prop := fun q' _ => q' = q + 1 ∨ q' = q + 2 ∨ q' = q + 3
theorem s8_join {Q : mM → Prop} {q qx qy : Nat} {R : Int} {g1 e1 g2 e2 : Nat → Nat → Int} {w1 w2 : Nat → Nat} (hq : lySk Th q M) (hqx : lySk Th qx M) (hqy : lySk Th qy M) (hvx : vSk qx R g1 e1 (fun r => (w1 r : Int)) M) (hvy : vSk qy R g2 e2 (fun r => (w2 r : Int)) M) (hfx : qx + 3 < q) (hfy : qy + 3 < q) (hR : R ≤ 5) (hw : ∀ r, w1 r ≤ 6 ∧ w2 r ≤ 6)
    (K : ∀ M', vSk q R (gJ g1 g2) (eJ g1 e1 g2 e2) (fun r => (wJ w1 w2 r : Int)) M' → Eo (sJo q) M M' → Q M') : P8_join (d + 1) Th q qx qy M Q := by
  have far : ∀ M1, Eo (sJo q) M M1 → lySk Th q M1 ∧ lySk Th qx M1 ∧ lySk Th qy M1 ∧ vSk qx R g1 e1 (fun r => (w1 r : Int)) M1 ∧ vSk qy R g2 e2 (fun r => (w2 r : Int)) M1 := by
    intro M1 he
    have hx : ∀ q' k, sJo q q' k → ¬ (qx ≤ q' ∧ q' ≤ qx + 3) := fun q' k z => by unfold sJo at z; omega
    have hy : ∀ q' k, sJo q q' k → ¬ (qy ≤ q' ∧ q' ≤ qy + 3) := fun q' k z => by unfold sJo at z; omega
    exact ⟨⟨hq.1, ((he _ _ (by unfold sJo; omega)).2.2).trans hq.2.1, ((he _ _ (by unfold sJo; omega)).2.2).trans hq.2.2.1, ((he _ _ (by unfold sJo; omega)).2.2).trans hq.2.2.2⟩, hqx.mvS he hx, hqy.mvS he hy, hvx.mvS he hx, hvy.mvS he hy⟩
  let F : Nat → mM → Prop := fun i M1 => ∀ r t : Nat, (r : Int) < R → t < 6 → 6 * r + t < i → M1.1 (q + 1) (6 * r + t) = jI (gJ g1 g2 r t) ∧ M1.1 (q + 2) (6 * r + t) = jI (eJ g1 e1 g2 e2 r t)
  have steps : ∀ (u i : Nat) (M1 : mM), u + i = 5 → Eo (sJo q) M M1 → F 30 M1 → (∀ r : Nat, (r : Int) < R → r < i → M1.1 (q + 3) r = jI (wJ w1 w2 r : Int)) → H8_join_93 (d + 1) Th Q q qx qy (jI i) M1 := by
    intro u
    induction u with
    | zero =>
      intro i M1 hu he hF hS
      refine h8_join_93 ?_
      rw [if_pos (by rw [jh5 (rI_nat (by omega))]; omega)]
      exact K M1 (fun r hr => ⟨hS r hr (by omega), fun t ht => hF r t hr ht (by omega)⟩) he
    | succ u ih =>
      intro i M1 hu he hF hS
      obtain ⟨a1, a2, a3, a4, a5⟩ := far M1 he
      refine h8_join_93 ?_
      rw [if_neg (by rw [jh5 (rI_nat (by omega))]; omega)]
      refine ⟨hq.1.1, q + 3, a1.2.2.2, hqx.1.1, qx + 3, a2.2.2.2, m_ok_jI hqx.1.2.2.2 (by omega) (by omega) (by omega), hqy.1.1, qy + 3, a3.2.2.2, m_ok_jI hqy.1.2.2.2 (by omega) (by omega) (by omega), m_okw_jI hq.1.2.2.2 (by omega) (by omega) (by omega), ?_⟩
      rw [jInatN i (by omega), jI_s]
      refine ih (i + 1) _ (by omega) (he.trans (Eo.rf.ui (Or.inr (Or.inr rfl)))) ?_ ?_
      · intro r t hr ht hi
        have := hF r t hr ht hi
        exact ⟨by simp only [m_u_ne (show q + 1 ≠ q + 3 by omega)]; exact this.1, by simp only [m_u_ne (show q + 2 ≠ q + 3 by omega)]; exact this.2⟩
      · intro r hr hri
        by_cases e : r = i
        · subst e
          simp only [m_u_eq]
          rw [(a4 r hr).1, (a5 r hr).1]
          have hw' := hw r
          simp only [jIlt (rI_nat (k := w1 r) (by omega)) (rI_nat (k := w2 r) (by omega))]
          unfold wJ
          by_cases cw : (w1 r : Int) < w2 r
          · rw [if_pos cw, show max (w1 r) (w2 r) = w2 r by omega]
          · rw [if_neg cw, show max (w1 r) (w2 r) = w1 r by omega]
        · simp only [m_u_nk e]
          exact hS r hr (by omega)
  have eights : ∀ (u i : Nat) (M1 : mM), u + i = 30 → Eo (sJo q) M M1 → F i M1 → H8_join_2 (d + 1) Th Q q qx qy (jI i) M1 := by
    intro u
    induction u with
    | zero =>
      intro i M1 hu he hF
      obtain ⟨a1, a2, a3, a4, a5⟩ := far M1 he
      refine h8_join_2 ⟨hq.1.1, q + 1, a1.2.1, _, _, _, hq.1.2.1, ?_⟩
      rw [jI_nI, if_pos (by rw [jIle (rI_nat (by omega)) (rI_nat (by omega))]; omega), i0]
      rw [show i = 30 by omega] at hF
      exact steps 5 0 M1 (by omega) he hF (fun r _ h => absurd h (by omega))
    | succ u ih =>
      intro i M1 hu he hF
      obtain ⟨a1, a2, a3, a4, a5⟩ := far M1 he
      refine h8_join_2 ⟨hq.1.1, q + 1, a1.2.1, _, _, _, hq.1.2.1, ?_⟩
      rw [jI_nI, if_neg (by rw [jIle (rI_nat (by omega)) (rI_nat (by omega))]; omega)]
      have ok : ∀ {q' : Nat}, Th.2.2 q' = some (.inr (.int, false, 30)) → m_ok Th q' .int (jI (i : Int)) := fun h => m_ok_jI h (by omega) (by omega) (by omega)
      have okw : ∀ {q' : Nat}, Th.2.2 q' = some (.inr (.int, false, 30)) → m_okw Th q' .int (jI (i : Int)) := fun h => m_okw_jI h (by omega) (by omega) (by omega)
      refine ⟨hqx.1.1, qx + 1, a2.2.1, ok hqx.1.2.1, hqy.1.1, qy + 1, a3.2.1, ok hqy.1.2.1, ?_⟩
      rw [jInatN i (by omega)]
      intro xv14 h14
      refine ⟨okw hq.1.2.1, q + 2, a1.2.2.1, ?_⟩
      intro M18 h18
      refine ⟨qx + 2, a2.2.2.1, ok hqx.1.2.2.1, qy + 2, a3.2.2.1, ok hqy.1.2.2.1, okw hq.1.2.2.1, ?_⟩
      have e18 : Eo (sJo q) M1 M18 := by rw [h18]; exact Eo.rf.ui (Or.inl rfl)
      obtain ⟨b1, b2, b3, b4, b5⟩ := far M18 (he.trans e18)
      rw [jI_s]
      refine ih (i + 1) _ (by omega) ((he.trans e18).trans (Eo.rf.ui (Or.inr (Or.inl rfl)))) ?_
      intro r t hr ht hri
      by_cases e : 6 * r + t = i
      · have x1 := ((a4 r hr).2 t ht)
        have y1 := ((a5 r hr).2 t ht)
        have x2 := ((b4 r hr).2 t ht)
        have y2 := ((b5 r hr).2 t ht)
        rw [e] at x1 y1 x2 y2
        refine ⟨?_, ?_⟩
        · rw [e]
          simp only [m_u_ne (show q + 1 ≠ q + 2 by omega)]
          rw [h18]
          simp only [m_u_eq]
          rw [h14, x1.1, y1.1, show (8 : Int32) = jI 8 from rfl, show (64 : Int32) = jI 64 from rfl, jI_sub, jI_sub, jI_mul, jI_sub]
          rfl
        · rw [e]
          simp only [m_u_eq]
          rw [h14, x1.1, y1.1, x2.1, x2.2, y2.1, y2.2, show (8 : Int32) = jI 8 from rfl, jI_sub, jI_sub, jI_mul, jI_sub, jI_sub, jI_mul, jI_sub]
          rfl
      · have := hF r t hr ht (by omega)
        refine ⟨?_, ?_⟩
        · simp only [m_u_ne (show q + 1 ≠ q + 2 by omega)]
          rw [h18]
          simp only [m_u_nk e]
          exact this.1
        · simp only [m_u_nk e]
          rw [h18]
          simp only [m_u_ne (show q + 2 ≠ q + 1 by omega)]
          exact this.2
  refine e8_join ?_
  rw [i0]
  exact eights 30 0 M (by omega) Eo.rf (fun r t _ _ h => absurd h (by omega))
/-- ways of two as one, by the state -/
def hJ (s : mS) (x y p n : Nat) : Int := hV 64 (dN s) (gJ (gB s (s 4 x) x) (gB s (s 4 y) y)) (eJ (gB s (s 4 x) x) (eB s (s 4 x) x) (gB s (s 4 y) y) (eB s (s 4 y) y)) (wJ (wN s x) (wN s y)) p n 0
def aShare (s : mS) (x y t : Nat) : Int := bS 64 (hJ s x y (s 0 0).toNat) t
theorem wJ_b (s : mS) (x y r : Nat) : 1 ≤ wJ (wN s x) (wN s y) r ∧ wJ (wN s x) (wN s y) r ≤ 6 := by
  have a := wN_b s x r
  have b := wN_b s y r
  unfold wJ
  omega
/-- what sharing writes -/
def sSh (n : Nat) : Nat → Nat → Prop := fun q k => sWy n q k ∨ sJo (n + 35) q k
theorem s10_share {Q : Int64 → mM → Prop} {zx zy zt : Int} (hT : gTh Th n) (hM : KM Th n s c M) (hG : rG s) (hO : rLw s) (hzx : rI zx) (hzy : rI zy) (hzt : rI zt)
    (k0 : ¬ (vHunt s zx zy ∧ 1 ≤ zt ∧ zt ≤ 10) → Q (-1) M) (k1 : vHunt s zx zy ∧ 1 ≤ zt ∧ zt ≤ 10 → ∀ M', KM Th n s c M' → Eo (sSh n) M M' → Q (jL (aShare s zx.toNat zy.toNat zt.toNat)) M') : P10_share (d + 41) Th n (jI zx) (jI zy) (jI zt) M Q := by
  have g0 := hG.1
  have g1 := hG.2.1
  have gd := hG.2.2.1
  have hH := hM.1
  have hHh := hH.2.2.1
  have hR0 : M.1 (n + 3) 0 = jI ((s 0 0).toNat : Int) := by rw [hHh.1]; congr 1; omega
  have hR1 : M.1 (n + 3) 1 = jI ((s 0 1).toNat : Int) := by rw [hHh.2.1]; congr 1; omega
  refine e10_share ⟨hT.1 0 _ rfl, ?_⟩
  refine s10_canHunt (d := d + 38) hT.1 hH.1 hR0 hR1 (by omega) (by omega) hzx hzy (fun hv => ?_) (fun hv => ?_)
  rotate_left
  · rw [if_pos rfl]; exact k0 (fun h => hv h.1)
  rw [if_neg (by decide)]
  refine s_within 1 10 rfl rfl rfl hzt (rI_of (by omega) (by omega)) (rI_of (by omega) (by omega)) (fun a3 a4 => ?_) (fun a => ?_)
  rotate_left
  · rw [if_pos rfl]; exact k0 (fun h => a h.2)
  rw [if_neg (by decide)]
  have kk := k1 ⟨hv, a3, a4⟩
  obtain ⟨⟨v1, v2⟩, ⟨v3, v4⟩, v5, v6⟩ := hv
  obtain ⟨x, rfl⟩ : ∃ b : Nat, zx = b := ⟨zx.toNat, by omega⟩
  obtain ⟨y, rfl⟩ : ∃ b : Nat, zy = b := ⟨zy.toNat, by omega⟩
  obtain ⟨t, rfl⟩ : ∃ b : Nat, zt = b := ⟨zt.toNat, by omega⟩
  simp only [Int.toNat_natCast] at kk
  have q35 : qSk n (n + 35) := by unfold qSk; omega
  refine ⟨n + 35, hH.1 0 2 35 (by decide), n + 3, hH.1 0 1 3 (by decide), hT.1 3 _ rfl, ?_⟩
  refine s2_skill (d := d + 39) (b := x) hT hM hG hO (by omega) (by omega) ?_
  intro M10 m10 b10 e10
  refine ⟨n + 3, m10.1.1 0 1 3 (by decide), hT.1 3 _ rfl, ?_⟩
  refine s2_skill2 (d := d + 39) (b := y) hT m10 hG hO (by omega) (by omega) ?_
  intro M15 m15 b15 e15 o15
  have bx : vB n s x M15 := o15 x (by omega) (by omega) b10
  refine ⟨hT.1 35 _ rfl, ?_⟩
  refine s8_join (d := d + 39) (R := s 0 0) (lySk_of hT.1 m15.1.1 q35) (lySk_of hT.1 m15.1.1 (aSk_q (by omega))) (lySk_of hT.1 m15.1.1 (aSk_q (by omega))) (vB_n bx) (vB_n b15) (by unfold aSk; omega) (by unfold aSk; omega) (by omega) (fun r => ⟨(wN_b s x r).2, (wN_b s y r).2⟩) ?_
  intro M18 v18 e18
  have m18 := m15.mvS hT e18 (fun o k v hv h => by unfold sJo at h; simp [rsA] at hv; omega) (fun q k z => by unfold sJo at z; omega)
  have hR : (s 0 0) = ((s 0 0).toNat : Int) := by omega
  have hD : s 0 2 = (dN s : Int) := by unfold dN; omega
  have jb := fun r t => j_b (gB_b s (s 4 x) x) (gB_b s (s 4 y) y) r t
  refine ⟨n + 39, m18.1.1 0 3 39 (by decide), n + 35, m18.1.1 0 2 35 (by decide), n + 3, m18.1.1 0 1 3 (by decide), hT.1 3 _ rfl, hT.1 39 _ rfl, ?_⟩
  rw [m18.1.2.2.1.1, m18.1.2.2.1.2.2.1, hD, hR, show (6 : Int32) = jI ((6 : Nat) : Int) from rfl]
  refine s7_reckon (d := d + 36) (sh := 6) (N := 64) (R := (s 0 0).toNat) (D := dN s) (lyPa39 hT.1 m18.1.1) (lySk_of hT.1 m18.1.1 q35) (by rw [← hR]; exact v18) (by omega) (Or.inr ⟨rfl, rfl⟩) (by omega) (by unfold dN; omega) (fun r t => ⟨(jb r t).1, (jb r t).2.1, (jb r t).2.2.1⟩) (wJ_b s x y) ?_
  intro M28 p28 e28
  have e28' : Eo (sPp n) M18 M28 := e28.mono (fun q k z => Or.inl z)
  have m28 := m18.mvS hT e28' (sPp_rf n) sPp_h
  have hh : M28.1 (n + 3) 0 = jI ((s 0 0).toNat : Int) := by rw [m28.1.2.2.1.1]; congr 1
  refine ⟨n + 39, m28.1.1 0 3 39 (by decide), n + 3, m28.1.1 0 1 3 (by decide), hT.1 3 _ rfl, hT.1 39 _ rfl, ?_⟩
  rw [hh]
  refine s7_comeBy (d := d + 38) (t := t) (sh := 6) (N := 64) (Z := hJ s x y (s 0 0).toNat) (lyPa39 hT.1 m28.1.1) p28.1 (Or.inr ⟨rfl, rfl⟩) (by omega) (by omega) (fun j hj => p28.2.2.1 _ (Nat.le_refl _) j hj) ?_
  exact kk M28 m28 ((((e10.mono (fun q k z => Or.inl (Or.inl z))).trans (e15.mono (fun q k z => Or.inl (Or.inl z)))).trans (e18.mono (fun q k z => Or.inr z))).trans (e28'.mono (fun q k z => Or.inl (Or.inr z))))
end SH
