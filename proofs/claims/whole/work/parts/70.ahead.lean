section AH
variable {d : Nat} {Th : mT} {M : mM} {n : Nat} {s : mS} {c : Int}
theorem vPa.mv {p sh R D : Nat} {N : Int} {g e : Nat → Nat → Int} {st : Nat → Nat} {S : Nat → Nat → Prop} {M' : mM} (h : vPa p sh N D g e st R M) (he : Eo S M M') (hR : R ≤ 5) (hS : ∀ q k, S q k → ¬ (p ≤ q ∧ q ≤ p + 14)) : vPa p sh N D g e st R M' := by
  obtain ⟨h1, h2, h3, h4⟩ := h
  refine ⟨((he _ _ (fun z => hS _ _ z (by omega))).1).trans h1, ((he _ _ (fun z => hS _ _ z (by omega))).1).trans h2, fun r hr t ht => ((he _ _ (fun z => hS _ _ z (by omega))).2.1).trans (h3 r hr t ht), fun r hr => (h4 r hr).mv (fun k => (he _ _ (fun z => hS _ _ z (by omega))).2.1)⟩
theorem sSk_pa {p : Nat} (hp : n + 39 ≤ p) : ∀ q k, sSk n q k → ¬ (p ≤ q ∧ q ≤ p + 14) := by
  intro q k h
  unfold sSk sLaw at h
  omega
/-- both go alone, each in its pace -/
theorem s10_two {Q : mM → Prop} {x y : Nat} (hT : gTh Th n) (hM : KM Th n s c M) (hG : rG s) (hO : rLw s) (hx : (x : Int) < s 0 1) (hy : (y : Int) < s 0 1)
    (K : ∀ M', KM Th n s c M' → vPa (n + 39) 3 8 (dN s) (gB s (s 4 x) x) (eB s (s 4 x) x) (wN s x) (s 0 0).toNat M' → vPa (n + 54) 3 8 (dN s) (gB s (s 4 y) y) (eB s (s 4 y) y) (wN s y) (s 0 0).toNat M' → Eo (sWy n) M M' → Q M') :
    ∃ r6 : Nat, M.2.2 n 3 = some r6 ∧ (∃ r8 : Nat, M.2.2 n 1 = some r8 ∧ (Th.2.2 r8 = some (.inl 2) ∧ (P2_skill (d + 39) Th r8 (jI x) M (fun (v11 : Nat) (M10 : mM) => P10_goAlone (d + 39) Th n r6 v11 M10 (fun M13 : mM => ∃ r15 : Nat, M13.2.2 n 4 = some r15 ∧ (∃ r17 : Nat, M13.2.2 n 1 = some r17 ∧ (Th.2.2 r17 = some (.inl 2) ∧ (P2_skill (d + 39) Th r17 (jI y) M13 (fun (v20 : Nat) (M19 : mM) => P10_goAlone (d + 39) Th n r15 v20 M19 (fun M22 : mM => Q M22)))))))))) := by
  have g0 := hG.1
  have g1 := hG.2.1
  refine ⟨n + 39, hM.1.1 0 3 39 (by decide), n + 3, hM.1.1 0 1 3 (by decide), hT.1 3 _ rfl, ?_⟩
  refine s2_skill (d := d + 38) (b := x) hT hM hG hO hx (by omega) ?_
  intro M6 m6 b6 e6
  refine s10_goAlone (d := d + 34) (p := n + 39) hT m6.1 hG (Or.inl rfl) (lySk_of hT.1 m6.1.1 (aSk_q (by omega))) (vB_n b6) (by unfold aSk; omega) (gB_b s _ x) (wN_b s x) ?_
  intro M9 p9 e9
  have e9' : Eo (sPp n) M6 M9 := e9.mono (fun q k z => Or.inl z)
  have m9 := m6.mvS hT e9' (sPp_rf n) sPp_h
  refine ⟨n + 54, m9.1.1 0 4 54 (by decide), n + 3, m9.1.1 0 1 3 (by decide), hT.1 3 _ rfl, ?_⟩
  refine s2_skill (d := d + 38) (b := y) hT m9 hG hO hy (by omega) ?_
  intro M19 m19 b19 e19
  have p19 := p9.mv e19 (by omega) (sSk_pa (by omega))
  refine s10_goAlone (d := d + 34) (p := n + 54) hT m19.1 hG (Or.inr rfl) (lySk_of hT.1 m19.1.1 (aSk_q (by omega))) (vB_n b19) (by unfold aSk; omega) (gB_b s _ y) (wN_b s y) ?_
  intro M22 p22 e22
  have e22' : Eo (sPp n) M19 M22 := e22.mono (fun q k z => Or.inr z)
  have m22 := m19.mvS hT e22' (sPp_rf n) sPp_h
  refine K M22 m22 (p19.mv e22 (by omega) (fun q k z => by unfold sPa at z; omega)) p22 ?_
  exact (((e6.mono (fun q k z => Or.inl z)).trans (e9'.mono (fun q k z => Or.inr z))).trans (e19.mono (fun q k z => Or.inl z))).trans (e22'.mono (fun q k z => Or.inr z))
def vHunt (s : mS) (zx zy : Int) : Prop := vTwo (s 0 0).toNat (s 0 1).toNat zx zy
def fAhead (s : mS) (x y w : Nat) : Int := if w < 2 then aheadS s x y (s 0 0).toNat else likeS s x y (s 0 0).toNat
def aAhead (s : mS) (x y w : Nat) : Int := if w % 2 = 0 then fracA (fAhead s x y w).toNat 1152921504606846976 else fracB (fAhead s x y w).toNat 1152921504606846976
theorem fAhead_b {s : mS} (hG : rG s) (x y w : Nat) : 0 ≤ fAhead s x y w ∧ fAhead s x y w ≤ 1152921504606846976 := by
  have := ahead_b hG x y (s 0 0).toNat
  unfold fAhead
  split <;> omega
theorem jI_m2 {w : Nat} (hw : w ≤ 100) : jI (w : Int) - jI (w : Int) / 2 * 2 = jI ((w % 2 : Nat) : Int) := by
  rw [kI2, jI_rem (by omega) (by omega) (by omega) (by omega)]; congr 1
theorem s10_ahead {Q : Int64 → mM → Prop} {zx zy zw : Int} (hT : gTh Th n) (hM : KM Th n s c M) (hG : rG s) (hO : rLw s) (hzx : rI zx) (hzy : rI zy) (hzw : rI zw)
    (k0 : ¬ (vHunt s zx zy ∧ 0 ≤ zw ∧ zw ≤ 3) → Q (-1) M) (k1 : vHunt s zx zy ∧ 0 ≤ zw ∧ zw ≤ 3 → ∀ M', KM Th n s c M' → Eo (sWy n) M M' → Q (jL (aAhead s zx.toNat zy.toNat zw.toNat)) M') : P10_ahead (d + 40) Th n (jI zx) (jI zy) (jI zw) M Q := by
  have g0 := hG.1
  have g1 := hG.2.1
  obtain ⟨hH, hc, hcb, hS⟩ := id hM
  have hHh := hH.2.2.1
  have hR0 : M.1 (n + 3) 0 = jI ((s 0 0).toNat : Int) := by rw [hHh.1]; congr 1; omega
  have hR1 : M.1 (n + 3) 1 = jI ((s 0 1).toNat : Int) := by rw [hHh.2.1]; congr 1; omega
  refine e10_ahead ⟨hT.1 0 _ rfl, ?_⟩
  refine s10_canHunt (d := d + 37) hT.1 hH.1 hR0 hR1 (by omega) (by omega) hzx hzy (fun hv => ?_) (fun hv => ?_)
  rotate_left
  · rw [if_pos rfl]; exact k0 (fun h => hv h.1)
  rw [if_neg (by decide)]
  refine s_within 0 3 rfl rfl rfl hzw (rI_of (by omega) (by omega)) (rI_of (by omega) (by omega)) (fun a3 a4 => ?_) (fun a => ?_)
  rotate_left
  · rw [if_pos rfl]; exact k0 (fun h => a h.2)
  rw [if_neg (by decide)]
  have kk := k1 ⟨hv, a3, a4⟩
  obtain ⟨⟨v1, v2⟩, ⟨v3, v4⟩, v5, v6⟩ := hv
  obtain ⟨x, rfl⟩ : ∃ b : Nat, zx = b := ⟨zx.toNat, by omega⟩
  obtain ⟨y, rfl⟩ : ∃ b : Nat, zy = b := ⟨zy.toNat, by omega⟩
  obtain ⟨w, rfl⟩ : ∃ b : Nat, zw = b := ⟨zw.toNat, by omega⟩
  simp only [Int.toNat_natCast] at kk
  refine s10_two (d := d) (x := x) (y := y) hT hM hG hO (by omega) (by omega) ?_
  intro M22 m22 p39 p54 e22
  have kf := kk M22 m22 e22
  have l39 := lyPa39 hT.1 m22.1.1
  have l54 := lyPa54 hT.1 m22.1.1
  have hh : M22.1 (n + 3) 0 = jI ((s 0 0).toNat : Int) := by rw [m22.1.2.2.1.1]; congr 1; omega
  have fb := fAhead_b hG x y w
  have h98 : H10_ahead_98 (d + 40) Th Q (jI (w : Int)) (jL (fAhead s x y w)) M22 := by
    refine h10_ahead_98 ?_
    have e1 : jL (fAhead s x y w) = jL ((fAhead s x y w).toNat : Int) := by congr 1; omega
    rw [e1, show (1152921504606846976 : Int64) = jL ((1152921504606846976 : Nat) : Int) from rfl, jI_m2 (by omega)]
    refine s10_ofFraction (by omega) (by omega) (by omega) (euE_60 (by omega)) ?_
    unfold aAhead at kf
    by_cases c2 : w % 2 = 0
    · rw [if_pos c2] at kf
      rw [if_pos (by rw [c2]; rfl)]; exact kf
    · rw [if_neg c2] at kf
      rw [if_neg (by rw [jq0 (rI_nat (by omega))]; omega)]; exact kf
  simp only [jh2 (z := (w : Int)) (rI_nat (by omega))]
  by_cases cw : (2 : Int) ≤ w
  · rw [if_pos cw]
    refine ⟨n + 39, m22.1.1 0 3 39 (by decide), n + 54, m22.1.1 0 4 54 (by decide), n + 3, m22.1.1 0 1 3 (by decide), hT.1 3 _ rfl, hT.1 39 _ rfl, ?_⟩
    rw [hh]
    refine s7_likeAs (d := d + 36) (Zx := hB s (s 4 x) x (s 0 0).toNat) (Zy := hB s (s 4 y) y (s 0 0).toNat) l39 l54 p39.1 (by omega) (fun k hk => p39.2.2.1 _ (Nat.le_refl _) k hk) (fun k hk => p54.2.2.1 _ (Nat.le_refl _) k hk) ?_
    have e2 : fAhead s x y w = likeS s x y (s 0 0).toNat := by unfold fAhead; rw [if_neg (by omega)]
    rw [e2] at h98
    exact h98
  · rw [if_neg cw]
    refine ⟨n + 39, m22.1.1 0 3 39 (by decide), n + 54, m22.1.1 0 4 54 (by decide), n + 3, m22.1.1 0 1 3 (by decide), hT.1 3 _ rfl, hT.1 39 _ rfl, ?_⟩
    rw [hh]
    refine s7_aheadOf (d := d + 36) (Zx := hB s (s 4 x) x (s 0 0).toNat) (Zy := hB s (s 4 y) y (s 0 0).toNat) l39 l54 p39.1 p54.1 (by omega) (fun k hk => p39.2.2.1 _ (Nat.le_refl _) k hk) (fun k hk => p54.2.2.1 _ (Nat.le_refl _) k hk) ?_
    have e2 : fAhead s x y w = aheadS s x y (s 0 0).toNat := by unfold fAhead; rw [if_pos (by omega)]
    rw [e2] at h98
    exact h98
/-- the cleverest, up to so many riddles -/
def cB (s : mS) (x y : Nat) : Nat → Nat × Int
  | 0 => (1, aheadS s x y 1)
  | k + 1 => if (cB s x y k).2 < aheadS s x y (k + 2) then (k + 2, aheadS s x y (k + 2)) else cB s x y k
theorem cB_b {s : mS} (hG : rG s) (x y k : Nat) : (1 ≤ (cB s x y k).1 ∧ (cB s x y k).1 ≤ k + 1) ∧ 0 ≤ (cB s x y k).2 ∧ (cB s x y k).2 ≤ 1152921504606846976 := by
  induction k with
  | zero => have := ahead_b hG x y 1; unfold cB; exact ⟨⟨by show 1 ≤ 1; omega, by show 1 ≤ 1; omega⟩, this.1⟩
  | succ k ih =>
    have := ahead_b hG x y (k + 2)
    unfold cB
    split
    · exact ⟨⟨by show 1 ≤ k + 2; omega, by show k + 2 ≤ k + 2; omega⟩, this.1⟩
    · omega
def aClev (s : mS) (x y w : Nat) : Int := if w = 0 then ((cB s x y ((s 0 0).toNat - 1)).1 : Int) else if w = 1 then fracA (cB s x y ((s 0 0).toNat - 1)).2.toNat 1152921504606846976 else fracB (cB s x y ((s 0 0).toNat - 1)).2.toNat 1152921504606846976
theorem s10_cleverest {Q : Int64 → mM → Prop} {zx zy zw : Int} (hT : gTh Th n) (hM : KM Th n s c M) (hG : rG s) (hO : rLw s) (hzx : rI zx) (hzy : rI zy) (hzw : rI zw)
    (k0 : ¬ (vHunt s zx zy ∧ 0 ≤ zw ∧ zw ≤ 2) → Q (-1) M) (k1 : vHunt s zx zy ∧ 0 ≤ zw ∧ zw ≤ 2 → ∀ M', KM Th n s c M' → Eo (sWy n) M M' → Q (jL (aClev s zx.toNat zy.toNat zw.toNat)) M') : P10_cleverest (d + 40) Th n (jI zx) (jI zy) (jI zw) M Q := by
  have g0 := hG.1
  have g1 := hG.2.1
  obtain ⟨hH, hc, hcb, hS⟩ := id hM
  have hHh := hH.2.2.1
  have hR0 : M.1 (n + 3) 0 = jI ((s 0 0).toNat : Int) := by rw [hHh.1]; congr 1; omega
  have hR1 : M.1 (n + 3) 1 = jI ((s 0 1).toNat : Int) := by rw [hHh.2.1]; congr 1; omega
  refine e10_cleverest ⟨hT.1 0 _ rfl, ?_⟩
  refine s10_canHunt (d := d + 37) hT.1 hH.1 hR0 hR1 (by omega) (by omega) hzx hzy (fun hv => ?_) (fun hv => ?_)
  rotate_left
  · rw [if_pos rfl]; exact k0 (fun h => hv h.1)
  rw [if_neg (by decide)]
  refine s_within 0 2 rfl rfl rfl hzw (rI_of (by omega) (by omega)) (rI_of (by omega) (by omega)) (fun a3 a4 => ?_) (fun a => ?_)
  rotate_left
  · rw [if_pos rfl]; exact k0 (fun h => a h.2)
  rw [if_neg (by decide)]
  have kk := k1 ⟨hv, a3, a4⟩
  obtain ⟨⟨v1, v2⟩, ⟨v3, v4⟩, v5, v6⟩ := hv
  obtain ⟨x, rfl⟩ : ∃ b : Nat, zx = b := ⟨zx.toNat, by omega⟩
  obtain ⟨y, rfl⟩ : ∃ b : Nat, zy = b := ⟨zy.toNat, by omega⟩
  obtain ⟨w, rfl⟩ : ∃ b : Nat, zw = b := ⟨zw.toNat, by omega⟩
  simp only [Int.toNat_natCast] at kk
  refine s10_two (d := d) (x := x) (y := y) hT hM hG hO (by omega) (by omega) ?_
  intro M22 m22 p39 p54 e22
  have kf := kk M22 m22 e22
  have l39 := lyPa39 hT.1 m22.1.1
  have l54 := lyPa54 hT.1 m22.1.1
  have hh : M22.1 (n + 3) 0 = jI ((s 0 0).toNat : Int) := by rw [m22.1.2.2.1.1]; congr 1; omega
  have loop : ∀ (u k : Nat), u + (k + 1) = (s 0 0).toNat → H10_cleverest_74 (d + 40) Th Q n (jI (w : Int)) (jI ((cB s x y k).1 : Int)) (jL (cB s x y k).2) (jI ((k + 2 : Nat) : Int)) M22 := by
    intro u
    induction u with
    | zero =>
      intro k hu
      have cb := cB_b hG x y k
      refine h10_cleverest_74 ⟨hT.1 0 _ rfl, n + 3, m22.1.1 0 1 3 (by decide), hT.1 3 _ rfl, ?_⟩
      rw [hh, if_pos (by rw [jIlt (rI_nat (by omega)) (rI_nat (by omega))]; omega)]
      unfold aClev at kf
      rw [show (s 0 0).toNat - 1 = k by omega] at kf
      simp only [jq0 (z := (w : Int)) (rI_nat (by omega))]
      by_cases c0 : w = 0
      · rw [if_pos c0] at kf
        rw [if_pos (by omega), jI_long (by omega) (by omega)]
        exact kf
      · rw [if_neg c0] at kf
        rw [if_neg (by omega)]
        have e1 : jL (cB s x y k).2 = jL ((cB s x y k).2.toNat : Int) := by congr 1; omega
        rw [e1, show (1152921504606846976 : Int64) = jL ((1152921504606846976 : Nat) : Int) from rfl]
        refine s10_ofFraction (by omega) (by omega) (by omega) (euE_60 (by omega)) ?_
        by_cases c1 : w = 1
        · rw [if_pos c1] at kf
          rw [if_pos (by rw [c1]; rfl)]; exact kf
        · rw [if_neg c1] at kf
          rw [if_neg (by rw [kI1, jI_sub, jq0 (rI_of (by omega) (by omega))]; omega)]; exact kf
    | succ u ih =>
      intro k hu
      have cb := cB_b hG x y k
      have ab := ahead_b hG x y (k + 2)
      refine h10_cleverest_74 ⟨hT.1 0 _ rfl, n + 3, m22.1.1 0 1 3 (by decide), hT.1 3 _ rfl, ?_⟩
      rw [hh, if_neg (by rw [jIlt (rI_nat (by omega)) (rI_nat (by omega))]; omega)]
      refine ⟨n + 39, m22.1.1 0 3 39 (by decide), n + 54, m22.1.1 0 4 54 (by decide), hT.1 39 _ rfl, ?_⟩
      refine s7_aheadOf (d := d + 36) (r := k + 2) (Zx := hB s (s 4 x) x (k + 2)) (Zy := hB s (s 4 y) y (k + 2)) l39 l54 p39.1 p54.1 (by omega) (fun j hj => p39.2.2.1 _ (by omega) j hj) (fun j hj => p54.2.2.1 _ (by omega) j hj) ?_
      have q := ih (k + 1) (by omega)
      have e1 : aS (hB s (s 4 x) x (k + 2)) (hB s (s 4 y) y (k + 2)) 10 = aheadS s x y (k + 2) := rfl
      rw [e1]
      rw [cB] at q
      by_cases cc : (cB s x y k).2 < aheadS s x y (k + 2)
      · rw [if_pos cc] at q
        rw [if_neg (by rw [lc_le, jL_le (by omega) (by omega) (by omega) (by omega)]; omega), jI_s]
        exact q
      · rw [if_neg cc] at q
        rw [if_pos (by rw [lc_le, jL_le (by omega) (by omega) (by omega) (by omega)]; omega), jI_s]
        exact q
  refine ⟨n + 39, m22.1.1 0 3 39 (by decide), n + 54, m22.1.1 0 4 54 (by decide), hT.1 39 _ rfl, ?_⟩
  refine s7_aheadOf (d := d + 36) (r := 1) (Zx := hB s (s 4 x) x 1) (Zy := hB s (s 4 y) y 1) l39 l54 p39.1 p54.1 (by omega) (fun j hj => p39.2.2.1 _ (by omega) j hj) (fun j hj => p54.2.2.1 _ (by omega) j hj) ?_
  exact loop ((s 0 0).toNat - 1) 0 (by omega)
end AH
section AM
variable {d : Nat} {Th : mT} {M : mM} {m : Nat} {s : mS}
theorem sixty : (8 : Int) ^ 20 = ((1152921504606846976 : Nat) : Int) := by decide
theorem s11_frac {Q : Int64 → mM → Prop} {a : Nat} (ha : a ≤ 1152921504606846976) (k : Q (jL (fracA a 1152921504606846976)) M) : P11_gcd (d + 1) Th (jL (a : Int)) (jL (8 ^ 20)) M (fun (v4 : Int64) (M3 : mM) => ¬ (v4 = 0) ∧ (Q ((jL (a : Int) / v4)) M3)) := by
  rw [sixty]
  refine s11_gcd (by omega) (by omega) ?_
  have hg0 : 0 < Nat.gcd a 1152921504606846976 := Nat.gcd_pos_of_pos_right _ (by omega)
  have hgb : Nat.gcd a 1152921504606846976 ≤ 1152921504606846976 := Nat.gcd_le_right _ (by omega)
  generalize hg : Nat.gcd a 1152921504606846976 = g at *
  refine ⟨by rw [jL_z (by omega)]; omega, ?_⟩
  rw [jL_divN (by omega) hg0 (by omega)]
  unfold fracA at k
  rw [hg] at k
  exact k
theorem s11_fracB {Q : Int64 → mM → Prop} {a : Nat} (ha : a ≤ 1152921504606846976) (k : Q (jL (fracB a 1152921504606846976)) M) : P11_gcd (d + 1) Th (jL (a : Int)) (jL (8 ^ 20)) M (fun (v4 : Int64) (M3 : mM) => ¬ (v4 = 0) ∧ (Q ((jL (8 ^ 20) / v4)) M3)) := by
  rw [sixty]
  refine s11_gcd (by omega) (by omega) ?_
  have hg0 : 0 < Nat.gcd a 1152921504606846976 := Nat.gcd_pos_of_pos_right _ (by omega)
  have hgb : Nat.gcd a 1152921504606846976 ≤ 1152921504606846976 := Nat.gcd_le_right _ (by omega)
  generalize hg : Nat.gcd a 1152921504606846976 = g at *
  refine ⟨by rw [jL_z (by omega)]; omega, ?_⟩
  rw [jL_divN (by omega) hg0 (by omega)]
  unfold fracB at k
  rw [hg] at k
  exact k
theorem s11_ahead {Q : Int64 → mM → Prop} {zx zy zw : Int} (hT : LyM Th m) (hK : KT m s M) (hG : rG s) (hO : rLw s) (hzx : rI zx) (hzy : rI zy) (hzw : rI zw)
    (k0 : ¬ (vHunt s zx zy ∧ 0 ≤ zw ∧ zw ≤ 3) → Q (-1) M) (k1 : vHunt s zx zy ∧ 0 ≤ zw ∧ zw ≤ 3 → ∀ M', KT m s M' → Eo (sRa m) M M' → Q (jL (aAhead s zx.toNat zy.toNat zw.toNat)) M') : P11_ahead (d + 40) Th m (jI zx) (jI zy) (jI zw) M Q := by
  have g0 := hG.1
  have g1 := hG.2.1
  obtain ⟨hR, hH, hL⟩ := id hK
  have hR0 : M.1 m 0 = jI ((s 0 0).toNat : Int) := by rw [hH.1]; congr 1; omega
  have hR1 : M.1 m 1 = jI ((s 0 1).toNat : Int) := by rw [hH.2.1]; congr 1; omega
  refine e11_ahead ⟨hT 0 _ rfl, ?_⟩
  refine s11_areTwo (d := d + 37) hT hR0 hR1 (by omega) (by omega) hzx hzy (fun hv => ?_) (fun hv => ?_)
  rotate_left
  · rw [if_pos rfl]; exact k0 (fun h => hv h.1)
  rw [if_neg (by decide)]
  refine s_in 0 3 rfl rfl rfl hzw (rI_of (by omega) (by omega)) (rI_of (by omega) (by omega)) (fun a3 a4 => ?_) (fun a => ?_)
  rotate_left
  · rw [if_pos rfl]; exact k0 (fun h => a h.2)
  rw [if_neg (by decide)]
  have kk := k1 ⟨hv, a3, a4⟩
  obtain ⟨⟨v1, v2⟩, ⟨v3, v4⟩, v5, v6⟩ := hv
  obtain ⟨x, rfl⟩ : ∃ b : Nat, zx = b := ⟨zx.toNat, by omega⟩
  obtain ⟨y, rfl⟩ : ∃ b : Nat, zy = b := ⟨zy.toNat, by omega⟩
  obtain ⟨w, rfl⟩ : ∃ b : Nat, zw = b := ⟨zw.toNat, by omega⟩
  simp only [Int.toNat_natCast] at kk
  rw [hR0]
  refine s11_races (d := d + 32) (x := x) (y := y) (A := (s 0 0).toNat) hT hK hG hO (by omega) (by omega) (by omega) (by omega) ?_
  intro M6 k6 r42 r43 e6
  have kf := kk M6 k6 e6
  have fb := fAhead_b hG x y w
  have h48 : H11_ahead_48 (d + 40) Th Q (jI (w : Int)) (jL (fAhead s x y w)) M6 := by
    refine h11_ahead_48 ?_
    refine s11_eights (k := 20) (by omega) ?_
    rw [jI_m2 (by omega)]
    have e1 : jL (fAhead s x y w) = jL ((fAhead s x y w).toNat : Int) := by congr 1; omega
    rw [e1]
    unfold aAhead at kf
    simp only [jq0 (z := ((w % 2 : Nat) : Int)) (rI_nat (by omega))]
    by_cases c2 : w % 2 = 0
    · rw [if_pos c2] at kf
      rw [if_pos (by omega)]
      exact s11_frac (by omega) kf
    · rw [if_neg c2] at kf
      rw [if_neg (by omega)]
      exact s11_fracB (by omega) kf
  simp only [jh2 (z := (w : Int)) (rI_nat (by omega))]
  by_cases cw : (2 : Int) ≤ w
  · rw [if_pos cw, r43]
    have e2 : fAhead s x y w = likeS s x y (s 0 0).toNat := by unfold fAhead; rw [if_neg (by omega)]
    rw [e2] at h48
    exact h48
  · rw [if_neg cw, r42]
    have e2 : fAhead s x y w = aheadS s x y (s 0 0).toNat := by unfold fAhead; rw [if_pos (by omega)]
    rw [e2] at h48
    exact h48
theorem s11_cleverest {Q : Int64 → mM → Prop} {zx zy zw : Int} (hT : LyM Th m) (hK : KT m s M) (hG : rG s) (hO : rLw s) (hzx : rI zx) (hzy : rI zy) (hzw : rI zw)
    (k0 : ¬ (vHunt s zx zy ∧ 0 ≤ zw ∧ zw ≤ 2) → Q (-1) M) (k1 : vHunt s zx zy ∧ 0 ≤ zw ∧ zw ≤ 2 → ∀ M', KT m s M' → Eo (sRa m) M M' → Q (jL (aClev s zx.toNat zy.toNat zw.toNat)) M') : P11_cleverest (d + 40) Th m (jI zx) (jI zy) (jI zw) M Q := by
  have g0 := hG.1
  have g1 := hG.2.1
  obtain ⟨hR, hH, hL⟩ := id hK
  have hR0 : M.1 m 0 = jI ((s 0 0).toNat : Int) := by rw [hH.1]; congr 1; omega
  have hR1 : M.1 m 1 = jI ((s 0 1).toNat : Int) := by rw [hH.2.1]; congr 1; omega
  refine e11_cleverest ⟨hT 0 _ rfl, ?_⟩
  refine s11_areTwo (d := d + 37) hT hR0 hR1 (by omega) (by omega) hzx hzy (fun hv => ?_) (fun hv => ?_)
  rotate_left
  · rw [if_pos rfl]; exact k0 (fun h => hv h.1)
  rw [if_neg (by decide)]
  refine s_in 0 2 rfl rfl rfl hzw (rI_of (by omega) (by omega)) (rI_of (by omega) (by omega)) (fun a3 a4 => ?_) (fun a => ?_)
  rotate_left
  · rw [if_pos rfl]; exact k0 (fun h => a h.2)
  rw [if_neg (by decide)]
  have kk := k1 ⟨hv, a3, a4⟩
  obtain ⟨⟨v1, v2⟩, ⟨v3, v4⟩, v5, v6⟩ := hv
  obtain ⟨x, rfl⟩ : ∃ b : Nat, zx = b := ⟨zx.toNat, by omega⟩
  obtain ⟨y, rfl⟩ : ∃ b : Nat, zy = b := ⟨zy.toNat, by omega⟩
  obtain ⟨w, rfl⟩ : ∃ b : Nat, zw = b := ⟨zw.toNat, by omega⟩
  simp only [Int.toNat_natCast] at kk
  have loop : ∀ (u k : Nat) (M1 : mM), u + (k + 1) = (s 0 0).toNat → KT m s M1 → Eo (sRa m) M M1 → H11_cleverest_31 (d + 40) Th Q m (jI (x : Int)) (jI (y : Int)) (jI (w : Int)) (jI ((cB s x y k).1 : Int)) (jL (cB s x y k).2) (jI ((k + 2 : Nat) : Int)) M1 := by
    intro u
    induction u with
    | zero =>
      intro k M1 hu hK1 he
      have cb := cB_b hG x y k
      have kf := kk M1 hK1 he
      have hh : M1.1 m 0 = jI ((s 0 0).toNat : Int) := by rw [hK1.2.1.1]; congr 1; omega
      refine h11_cleverest_31 ⟨hT 0 _ rfl, ?_⟩
      rw [hh, if_pos (by rw [jIlt (rI_nat (by omega)) (rI_nat (by omega))]; omega)]
      refine s11_eights (k := 20) (by omega) ?_
      unfold aClev at kf
      rw [show (s 0 0).toNat - 1 = k by omega] at kf
      simp only [jq0 (z := (w : Int)) (rI_nat (by omega)), jq1 (z := (w : Int)) (rI_nat (by omega))]
      have e1 : jL (cB s x y k).2 = jL ((cB s x y k).2.toNat : Int) := by congr 1; omega
      by_cases c0 : w = 0
      · rw [if_pos c0] at kf
        rw [if_pos (by omega), jI_long (by omega) (by omega)]
        exact kf
      · rw [if_neg c0] at kf
        rw [if_neg (by omega), e1]
        by_cases c1 : w = 1
        · rw [if_pos c1] at kf
          rw [if_pos (by omega)]; exact s11_frac (by omega) kf
        · rw [if_neg c1] at kf
          rw [if_neg (by omega)]; exact s11_fracB (by omega) kf
    | succ u ih =>
      intro k M1 hu hK1 he
      have cb := cB_b hG x y k
      have ab := ahead_b hG x y (k + 2)
      have hh : M1.1 m 0 = jI ((s 0 0).toNat : Int) := by rw [hK1.2.1.1]; congr 1; omega
      refine h11_cleverest_31 ⟨hT 0 _ rfl, ?_⟩
      rw [hh, if_neg (by rw [jIlt (rI_nat (by omega)) (rI_nat (by omega))]; omega)]
      refine s11_races (d := d + 32) (x := x) (y := y) (A := k + 2) hT hK1 hG hO (by omega) (by omega) (by omega) (by omega) ?_
      intro M6 k6 r42 r43 e6
      have q := ih (k + 1) M6 (by omega) k6 (he.trans e6)
      rw [cB] at q
      rw [if_neg (by rw [je0 (rI_nat (by omega))]; omega), r42]
      by_cases cc : (cB s x y k).2 < aheadS s x y (k + 2)
      · rw [if_pos cc] at q
        rw [if_pos (by rw [lc_gt, jL_lt (by omega) (by omega) (by omega) (by omega)]; omega)]
        refine h11_cleverest_66 ⟨hT 0 _ rfl, ?_⟩
        intro lv2 h2
        rw [h2, r42, jI_s]
        exact q
      · rw [if_neg cc] at q
        rw [if_neg (by rw [lc_gt, jL_lt (by omega) (by omega) (by omega) (by omega)]; omega), jI_s]
        exact q
  refine h11_cleverest_31 ⟨hT 0 _ rfl, ?_⟩
  rw [hR0, if_neg (by rw [kI1, jIlt (rI_nat (by omega)) (rI_of (by omega) (by omega))]; omega)]
  refine s11_races (d := d + 32) (x := x) (y := y) (A := 1) hT hK hG hO (by omega) (by omega) (by omega) (by omega) ?_
  intro M6 k6 r42 r43 e6
  rw [if_pos (by decide)]
  refine h11_cleverest_66 ⟨hT 0 _ rfl, ?_⟩
  intro lv2 h2
  rw [h2, r42]
  exact loop ((s 0 0).toNat - 1) 0 M6 (by omega) k6 e6
end AM
