/-! ===== CHANCE, LOGGED, COUNT: both sides ===== -/
section CN
variable {d : Nat} {Th : mT} {M : mM} {n m : Nat} {s : mS} {c : Int}
def vChan (s : mS) (zb zr zt zw : Int) : Prop := (0 ≤ zb ∧ zb < s 0 1) ∧ (0 ≤ zr ∧ zr < s 0 0) ∧ (0 ≤ zt ∧ zt ≤ 5) ∧ 0 ≤ zw ∧ zw ≤ 1
def aChan (s : mS) (zb zr zt zw : Int) : Int := if zw = 0 then gK s (s 4 zb.toNat) zb.toNat zr.toNat zt.toNat else eK s (s 4 zb.toNat) zb.toNat zr.toNat zt.toNat
theorem s10_chance {Q : Int32 → mM → Prop} {zb zr zt zw : Int} (hT : gTh Th n) (hM : KM Th n s c M) (hG : rG s) (hO : rLw s) (hb : rI zb) (hr : rI zr) (ht : rI zt) (hw : rI zw)
    (k0 : ¬ vChan s zb zr zt zw → Q (-1) M) (k1 : vChan s zb zr zt zw → ∀ M', KM Th n s c M' → Eo (sSk n) M M' → Q (jI (aChan s zb zr zt zw)) M') : P10_chance (d + 40) Th n (jI zb) (jI zr) (jI zt) (jI zw) M Q := by
  have g0 := hG.1
  have g1 := hG.2.1
  obtain ⟨hH, hc, hcb, hS⟩ := id hM
  have hHh := hH.2.2.1
  have hR0 : M.1 (n + 3) 0 = jI ((s 0 0).toNat : Int) := by rw [hHh.1]; congr 1; omega
  have hR1 : M.1 (n + 3) 1 = jI ((s 0 1).toNat : Int) := by rw [hHh.2.1]; congr 1; omega
  refine e10_chance ⟨hT.1 0 _ rfl, n + 3, hH.1 0 1 3 (by decide), hT.1 3 _ rfl, ?_⟩
  refine s2_hasBand hT.1 hR1 (by omega) hb (fun a1 a2 => ?_) (fun a => ?_)
  rotate_left
  · rw [if_pos rfl]; exact k0 (fun h => a ⟨h.1.1, by have := h.1.2; omega⟩)
  rw [if_neg (by decide)]
  refine ⟨n + 3, hH.1 0 1 3 (by decide), hT.1 3 _ rfl, ?_⟩
  refine s2_hasRiddle hT.1 hR0 (by omega) hr (fun a3 a4 => ?_) (fun a => ?_)
  rotate_left
  · rw [if_pos rfl]; exact k0 (fun h => a ⟨h.2.1.1, by have := h.2.1.2; omega⟩)
  rw [if_neg (by decide)]
  refine s_within 0 5 rfl rfl rfl ht (rI_of (by omega) (by omega)) (rI_of (by omega) (by omega)) (fun a5 a6 => ?_) (fun a => ?_)
  rotate_left
  · rw [if_pos rfl]; exact k0 (fun h => a h.2.2.1)
  rw [if_neg (by decide)]
  refine s_within 0 1 rfl rfl rfl hw (rI_of (by omega) (by omega)) (rI_of (by omega) (by omega)) (fun a7 a8 => ?_) (fun a => ?_)
  rotate_left
  · rw [if_pos rfl]; exact k0 (fun h => a h.2.2.2)
  rw [if_neg (by decide)]
  refine ⟨n + 3, hH.1 0 1 3 (by decide), hT.1 3 _ rfl, ?_⟩
  have v : vChan s zb zr zt zw := ⟨⟨a1, by omega⟩, ⟨a3, by omega⟩, ⟨a5, a6⟩, a7, a8⟩
  obtain ⟨b, rfl⟩ : ∃ b : Nat, zb = b := ⟨zb.toNat, by omega⟩
  obtain ⟨r, rfl⟩ : ∃ r : Nat, zr = r := ⟨zr.toNat, by omega⟩
  obtain ⟨t, rfl⟩ : ∃ t : Nat, zt = t := ⟨zt.toNat, by omega⟩
  have kk := k1 v
  unfold aChan at kk
  simp only [Int.toNat_natCast] at kk
  refine s2_skill (d := d + 38) hT hM hG hO (by omega) (by omega) (fun M1 m1 v1 e1 => ?_)
  have L1 : lySk Th (aSk n b) M1 := lySk_of hT.1 m1.1.1 (aSk_q (by omega))
  have kk := kk M1 m1 e1
  by_cases c0 : zw = 0
  · rw [if_pos (show jI zw = 0 from by rw [c0]; rfl)]
    rw [if_pos c0] at kk
    exact ⟨L1.1.1, s8_goodAt (d := d + 37) L1 v1 (by omega) (by omega) (by omega) kk⟩
  · rw [if_neg (show ¬ jI zw = 0 from by rw [jq0 hw]; exact c0)]
    rw [if_neg c0] at kk
    exact ⟨L1.1.1, s8_badAt (d := d + 37) L1 v1 (by omega) (by omega) (by omega) kk⟩
theorem s11_chance {Q : Int32 → mM → Prop} {zb zr zt zw : Int} (hT : LyM Th m) (hK : KT m s M) (hG : rG s) (hO : rLw s) (hb : rI zb) (hr : rI zr) (ht : rI zt) (hw : rI zw)
    (k0 : ¬ vChan s zb zr zt zw → Q (-1) M) (k1 : vChan s zb zr zt zw → ∀ M', KT m s M' → Eo (sTh m) M M' → Q (jI (aChan s zb zr zt zw)) M') : P11_chance (d + 40) Th m (jI zb) (jI zr) (jI zt) (jI zw) M Q := by
  have g0 := hG.1
  have g1 := hG.2.1
  have hHh := hK.2.1
  have hR0 : M.1 m 0 = jI ((s 0 0).toNat : Int) := by rw [hHh.1]; congr 1; omega
  have hR1 : M.1 m 1 = jI ((s 0 1).toNat : Int) := by rw [hHh.2.1]; congr 1; omega
  refine e11_chance ⟨hT 0 _ rfl, ?_⟩
  refine s11_isBand hT hR1 (by omega) hb (fun a1 a2 => ?_) (fun a => ?_)
  rotate_left
  · rw [if_pos rfl]; exact k0 (fun h => a ⟨h.1.1, by have := h.1.2; omega⟩)
  rw [if_neg (by decide)]
  refine s11_isRiddle hT hR0 (by omega) hr (fun a3 a4 => ?_) (fun a => ?_)
  rotate_left
  · rw [if_pos rfl]; exact k0 (fun h => a ⟨h.2.1.1, by have := h.2.1.2; omega⟩)
  rw [if_neg (by decide)]
  refine s_in 0 5 rfl rfl rfl ht (rI_of (by omega) (by omega)) (rI_of (by omega) (by omega)) (fun a5 a6 => ?_) (fun a => ?_)
  rotate_left
  · rw [if_pos rfl]; exact k0 (fun h => a h.2.2.1)
  rw [if_neg (by decide)]
  refine s_in 0 1 rfl rfl rfl hw (rI_of (by omega) (by omega)) (rI_of (by omega) (by omega)) (fun a7 a8 => ?_) (fun a => ?_)
  rotate_left
  · rw [if_pos rfl]; exact k0 (fun h => a h.2.2.2)
  rw [if_neg (by decide)]
  have v : vChan s zb zr zt zw := ⟨⟨a1, by omega⟩, ⟨a3, by omega⟩, ⟨a5, a6⟩, a7, a8⟩
  obtain ⟨b, rfl⟩ : ∃ b : Nat, zb = b := ⟨zb.toNat, by omega⟩
  obtain ⟨r, rfl⟩ : ∃ r : Nat, zr = r := ⟨zr.toNat, by omega⟩
  obtain ⟨t, rfl⟩ : ∃ t : Nat, zt = t := ⟨zt.toNat, by omega⟩
  have kk := k1 v
  unfold aChan at kk
  simp only [Int.toNat_natCast] at kk
  refine ⟨m + 4, hK.1 0 8 4 (by decide), m_ok_jI (hT 4 _ rfl) (by omega) (by omega) (by omega), ?_⟩
  rw [jInatN b (by omega), hK.2.1.2.2.2.2.2.2.2.1]
  refine s11_thinks (d := d + 35) hT hK hG hO (by omega) (by omega) (by omega) (fun M1 m1 h1 h2 e1 => ?_)
  have kk := kk M1 m1 e1
  by_cases c0 : zw = 0
  · rw [if_pos (show jI zw = 0 from by rw [c0]; rfl), h1]
    rw [if_pos c0] at kk
    exact kk
  · rw [if_neg (show ¬ jI zw = 0 from by rw [jq0 hw]; exact c0), h2]
    rw [if_neg c0] at kk
    exact kk
theorem s10_logged {Q : Int32 → mM → Prop} {zi zw : Int} (hT : Ly Th n) (hR : Rf n M) (hL : cLog n s M) (hG : rG s) (hi : rI zi) (hw : rI zw) (k : Q (jI (eLog s zi zw)) M) : P10_logged (d + 40) Th n (jI zi) (jI zw) M Q :=
  e10_logged ⟨hT 0 _ rfl, n + 105, hR 0 8 105 (by decide), hT 105 _ rfl, s5_entry (d := d + 37) hT hR hL hG hi hw k⟩
theorem s11_logged {Q : Int32 → mM → Prop} {zi zw : Int} (hT : LyM Th m) (hR : RfM m M) (hL : mLog m s M) (hG : rG s) (hi : rI zi) (hw : rI zw) (k : Q (jI (eLog s zi zw)) M) : P11_logged (d + 40) Th m (jI zi) (jI zw) M Q := by
  have g := hG.2.2.2.2.2.2.1
  unfold eLog at k
  refine e11_logged ?_
  by_cases c1 : zi < 0
  · rw [if_pos (by rw [jl0 hi]; exact c1)]
    rw [if_neg (by omega)] at k
    exact k
  rw [if_neg (by rw [jl0 hi]; exact c1)]
  refine ⟨hT 0 _ rfl, ?_⟩
  rw [hL.1]
  by_cases c2 : zi < s 0 6
  · rw [if_pos (by rw [jIlt hi (rI_of (by omega) (by omega))]; exact c2)]
    obtain ⟨i, rfl⟩ : ∃ i : Nat, zi = i := ⟨zi.toNat, by omega⟩
    have ok : ∀ j : Nat, j < 3 → m_ok Th (m + 35 + j) .int (jI (i : Int)) := fun j hj => by
      have h := hT (35 + j) (.inr (.int, false, 40)) (by
        match j, hj with
        | 0, _ => rfl
        | 1, _ => rfl
        | 2, _ => rfl)
      rw [show m + 35 + j = m + (35 + j) by omega]
      exact m_ok_jI h (by omega) (by omega) (by omega)
    by_cases w0 : zw = 0
    · rw [if_pos (by rw [w0]; rfl)]
      refine ⟨m + 35, hR 0 62 35 (by decide), ok 0 (by omega), ?_⟩
      rw [jInatN i (by omega), hL.2.1]
      rw [if_pos (by omega), show (3 * (i : Int) + zw).toNat = 3 * i by omega] at k
      exact k
    rw [if_neg (by rw [jq0 hw]; exact w0)]
    by_cases w1 : zw = 1
    · rw [if_pos (by rw [w1]; rfl)]
      refine ⟨m + 36, hR 0 63 36 (by decide), ok 1 (by omega), ?_⟩
      rw [jInatN i (by omega), hL.2.2.1]
      rw [if_pos (by omega), show (3 * (i : Int) + zw).toNat = 3 * i + 1 by omega] at k
      exact k
    rw [if_neg (by rw [jq1 hw]; exact w1)]
    by_cases w2 : zw = 2
    · rw [if_pos (by rw [w2]; rfl)]
      refine ⟨m + 37, hR 0 64 37 (by decide), ok 2 (by omega), ?_⟩
      rw [jInatN i (by omega), hL.2.2.2]
      rw [if_pos (by omega), show (3 * (i : Int) + zw).toNat = 3 * i + 2 by omega] at k
      exact k
    rw [if_neg (by rw [jq2 hw]; exact w2)]
    rw [if_neg (by omega)] at k
    exact k
  · rw [if_neg (by rw [jIlt hi (rI_of (by omega) (by omega))]; exact c2)]
    rw [if_neg (by omega)] at k
    exact k
/-- what COUNT tells -/
def aCnt (s : mS) (z : Int) : Int := if z = 0 then s 0 0 else if z = 1 then s 0 1 else if z = 2 then s 0 9 else if z = 3 then s 0 4 else if z = 4 then s 0 5 else if z = 5 then s 0 6 else if z = 6 then s 0 7 else if z = 7 then s 0 2 else if z = 8 then s 0 3 else -1
theorem s10_count {Q : Int32 → mM → Prop} {z : Int} (hT : Ly Th n) (hR : Rf n M) (hI : cHill n s M) (hW : cLaw n s M) (h1 : cTape n s M) (h2 : cOrd n s M) (h3 : cLog n s M) (h4 : cHunt n s M) (hz : rI z) (k : Q (jI (aCnt s z)) M) : P10_count (d + 1) Th n (jI z) M Q := by
  obtain ⟨ta, da, -, -, -, -, w9, -⟩ := hW
  unfold aCnt at k
  refine e10_count ?_
  simp only [jq0 hz, jq1 hz, jq2 hz, jq3 hz, jq4 hz, jq5 hz, jq6 hz, jq7 hz, jq8 hz]
  by_cases c0 : z = 0
  · rw [if_pos c0] at k ⊢; exact ⟨hT 0 _ rfl, n + 3, hR 0 1 3 (by decide), hT 3 _ rfl, by rw [hI.1]; exact k⟩
  rw [if_neg c0] at k ⊢
  by_cases c1 : z = 1
  · rw [if_pos c1] at k ⊢; exact ⟨hT 0 _ rfl, n + 3, hR 0 1 3 (by decide), hT 3 _ rfl, by rw [hI.2.1]; exact k⟩
  rw [if_neg c1] at k ⊢
  by_cases c2 : z = 2
  · rw [if_pos c2] at k ⊢; exact ⟨hT 0 _ rfl, n + 3, hR 0 1 3 (by decide), hT 3 _ rfl, n + 4, hR 3 5 4 (by decide), hT 4 _ rfl, by rw [w9]; exact k⟩
  rw [if_neg c2] at k ⊢
  by_cases c3 : z = 3
  · rw [if_pos c3] at k ⊢; exact ⟨hT 0 _ rfl, n + 1, hR 0 0 1 (by decide), hT 1 _ rfl, by rw [h1.1]; exact k⟩
  rw [if_neg c3] at k ⊢
  by_cases c4 : z = 4
  · rw [if_pos c4] at k ⊢; exact ⟨hT 0 _ rfl, n + 100, hR 0 7 100 (by decide), hT 100 _ rfl, by rw [h2.1]; exact k⟩
  rw [if_neg c4] at k ⊢
  by_cases c5 : z = 5
  · rw [if_pos c5] at k ⊢; exact ⟨hT 0 _ rfl, n + 105, hR 0 8 105 (by decide), hT 105 _ rfl, by rw [h3.1]; exact k⟩
  rw [if_neg c5] at k ⊢
  by_cases c6 : z = 6
  · rw [if_pos c6] at k ⊢; exact ⟨hT 0 _ rfl, n + 107, hR 0 9 107 (by decide), hT 107 _ rfl, by rw [h4.1]; exact k⟩
  rw [if_neg c6] at k ⊢
  by_cases c7 : z = 7
  · rw [if_pos c7] at k ⊢; exact ⟨hT 0 _ rfl, n + 3, hR 0 1 3 (by decide), hT 3 _ rfl, by rw [hI.2.2.1]; exact k⟩
  rw [if_neg c7] at k ⊢
  by_cases c8 : z = 8
  · rw [if_pos c8] at k ⊢; exact ⟨hT 0 _ rfl, n + 3, hR 0 1 3 (by decide), hT 3 _ rfl, by rw [hI.2.2.2.1]; exact k⟩
  rw [if_neg c8] at k ⊢
  exact k
theorem s11_count {Q : Int32 → mM → Prop} {z : Int} (hT : LyM Th m) (hI : mHill m s M) (hW : M.1 m 21 = jI (s 0 9)) (h1 : mTape m s M) (h2 : mOrd m s M) (h3 : mLog m s M) (h4 : mHunt m s M) (hz : rI z) (k : Q (jI (aCnt s z)) M) : P11_count (d + 1) Th m (jI z) M Q := by
  unfold aCnt at k
  refine e11_count ?_
  simp only [jq0 hz, jq1 hz, jq2 hz, jq3 hz, jq4 hz, jq5 hz, jq6 hz, jq7 hz, jq8 hz]
  by_cases c0 : z = 0
  · rw [if_pos c0] at k ⊢; exact ⟨hT 0 _ rfl, by rw [hI.1]; exact k⟩
  rw [if_neg c0] at k ⊢
  by_cases c1 : z = 1
  · rw [if_pos c1] at k ⊢; exact ⟨hT 0 _ rfl, by rw [hI.2.1]; exact k⟩
  rw [if_neg c1] at k ⊢
  by_cases c2 : z = 2
  · rw [if_pos c2] at k ⊢; exact ⟨hT 0 _ rfl, by rw [hW]; exact k⟩
  rw [if_neg c2] at k ⊢
  by_cases c3 : z = 3
  · rw [if_pos c3] at k ⊢; exact ⟨hT 0 _ rfl, by rw [h1.1]; exact k⟩
  rw [if_neg c3] at k ⊢
  by_cases c4 : z = 4
  · rw [if_pos c4] at k ⊢; exact ⟨hT 0 _ rfl, by rw [h2.1]; exact k⟩
  rw [if_neg c4] at k ⊢
  by_cases c5 : z = 5
  · rw [if_pos c5] at k ⊢; exact ⟨hT 0 _ rfl, by rw [h3.1]; exact k⟩
  rw [if_neg c5] at k ⊢
  by_cases c6 : z = 6
  · rw [if_pos c6] at k ⊢; exact ⟨hT 0 _ rfl, by rw [h4.1]; exact k⟩
  rw [if_neg c6] at k ⊢
  by_cases c7 : z = 7
  · rw [if_pos c7] at k ⊢; exact ⟨hT 0 _ rfl, by rw [hI.2.2.1]; exact k⟩
  rw [if_neg c7] at k ⊢
  by_cases c8 : z = 8
  · rw [if_pos c8] at k ⊢; exact ⟨hT 0 _ rfl, by rw [hI.2.2.2.1]; exact k⟩
  rw [if_neg c8] at k ⊢
  exact k
end CN
