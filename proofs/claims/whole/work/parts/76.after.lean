section AT
variable {d : Nat} {Th : mT} {M : mM} {m n : Nat} {s : mS} {c : Int}
theorem s11_goesAfter {Q : mM → Prop} {x y last : Nat} (hT : LyM Th m) (hK : KT m s M) (hG : rG s) (hO : rLw s) (hx : (x : Int) < s 0 1) (hy : (y : Int) < s 0 1) (hr0 : 0 < s 0 0) (hl : last ≤ 10)
    (K : ∀ M', KT m s M' → M'.2.1 m 44 = jL (aftS s x y last false) → M'.2.1 m 45 = jL (aftS s x y last true) → Eo (sAf m) M M' → Q M') : P11_goesAfter (d + 7) Th m (jI x) (jI y) (jI last) M Q := by
  have hT21 := hT 21 _ rfl
  have loop : ∀ (u t : Nat) (M1 : mM), u + t = last → KT m s M1 → Eo (sAf m) M M1 → (∀ w, accM m w M1 + sL 1040 (fun j => M1.2.1 (m + 21) j * jL (aW s x y last w (last - t) (j / 13) (j % 13))) = jL (aftS s x y last w)) → H11_goesAfter_45 (d + 7) Th Q m (jI x) (jI y) (jI last) (jI ((t + 1 : Nat) : Int)) M1 := by
    intro u
    induction u with
    | zero =>
      intro t M1 hu hK1 he hI
      refine h11_goesAfter_45 ?_
      rw [if_pos (by rw [jIlt (rI_nat (by omega)) (rI_nat (by omega))]; omega)]
      have z : ∀ w, sL 1040 (fun j => M1.2.1 (m + 21) j * jL (aW s x y last w (last - t) (j / 13) (j % 13))) = 0 := fun w => sL_zero (fun j _ => by
        rw [show last - t = 0 by omega]
        show M1.2.1 (m + 21) j * jL 0 = 0
        rw [jL_0]
        grind)
      have h0 := hI false
      have h1 := hI true
      rw [z] at h0 h1
      refine K M1 hK1 ?_ ?_ he
      · rw [← h0]
        show M1.2.1 m 44 = M1.2.1 m 44 + 0
        grind
      · rw [← h1]
        show M1.2.1 m 45 = M1.2.1 m 45 + 0
        grind
    | succ u ih =>
      intro t M1 hu hK1 he hI
      refine h11_goesAfter_45 ?_
      rw [if_neg (by rw [jIlt (rI_nat (by omega)) (rI_nat (by omega))]; omega)]
      refine ⟨hT 0 _ rfl, ?_⟩
      refine s11_afterTick (d := d) (x := x) (y := y) (tick := t + 1) (last := last) hT hK1 hG hO hx hy (by omega) hl ?_
      intro M2 k2 p2 e2
      rw [jI_s]
      refine ih (t + 1) M2 (by omega) k2 (he.trans e2) (fun w => ?_)
      rw [p2 w, show last - (t + 1) + 1 = last - t by omega]
      exact hI w
  have wipe : ∀ (u j : Nat) (M1 : mM), u + j = 1040 → KT m s M1 → Eo (sAf m) M M1 → (∀ k, k < j → M1.2.1 (m + 21) k = 0) → H11_goesAfter_3 (d + 7) Th Q m (jI x) (jI y) (jI last) (jI j) M1 := by
    intro u
    induction u with
    | zero =>
      intro j M1 hu hK1 he hz
      refine h11_goesAfter_3 ?_
      rw [if_pos (by rw [jh1040 (rI_nat (by omega))]; omega)]
      refine ⟨hT 0 _ rfl, m + 21, hK1.1 0 37 21 (by decide), by rw [i0]; exact m_okw_jI hT21 (by omega) (by omega) (by omega), ?_⟩
      rw [show Int32.toNatClampNeg 0 = 0 from rfl]
      intro M5 h5 M6 h6
      have n21 : m + 21 ≠ m := by omega
      have e8 : Eo (sAf m) M1 (m_ul M6 m 45 0) := by
        rw [h6, h5]
        exact ((Eo.rf.ul (Or.inr (Or.inl rfl))).ul (Or.inr (Or.inr (Or.inr ⟨rfl, Or.inl rfl⟩)))).ul (Or.inr (Or.inr (Or.inr ⟨rfl, Or.inr rfl⟩)))
      have row : ∀ k, k < 1040 → (m_ul M6 m 45 0).2.1 (m + 21) k = if k = 0 then 1 else 0 := fun k hk => by
        rw [m_ul_far n21, h6, m_ul_far n21, h5, m_ul_row]
        by_cases c : k = 0
        · rw [if_pos c, if_pos c]
        · rw [if_neg c, if_neg c]; exact hz k (by omega)
      have a44 : (m_ul M6 m 45 0).2.1 m 44 = 0 := by rw [m_ul_row, if_neg (by omega), h6, m_ul_row, if_pos rfl]
      have a45 : (m_ul M6 m 45 0).2.1 m 45 = 0 := by rw [m_ul_row, if_pos rfl]
      have q := loop last 0 (m_ul M6 m 45 0) (by omega) (hK1.mv e8 sAf_k) (he.trans e8) (fun w => by
        have ea : accM m w (m_ul M6 m 45 0) = 0 := by
          cases w with
          | false => exact a44
          | true => exact a45
        rw [ea, sL_one (a := 0) (by omega) (fun k hk hk0 => by
          show (m_ul M6 m 45 0).2.1 (m + 21) k * _ = 0
          rw [row k hk, if_neg hk0]
          grind)]
        show 0 + (m_ul M6 m 45 0).2.1 (m + 21) 0 * jL (aftS s x y last w) = _
        rw [row 0 (by omega), if_pos rfl]
        grind)
      exact q
    | succ u ih =>
      intro j M1 hu hK1 he hz
      refine h11_goesAfter_3 ?_
      rw [if_neg (by rw [jh1040 (rI_nat (by omega))]; omega)]
      refine ⟨hT 0 _ rfl, m + 21, hK1.1 0 37 21 (by decide), m_okw_jI hT21 (by omega) (by omega) (by omega), ?_⟩
      rw [jInatN j (by omega), jI_s]
      have e1 : Eo (sAf m) M1 (m_ul M1 (m + 21) j 0) := Eo.rf.ul (Or.inr (Or.inl rfl))
      refine ih (j + 1) _ (by omega) (hK1.mv e1 sAf_k) (he.trans e1) (fun k hk => ?_)
      rw [m_ul_row]
      by_cases c : k = j
      · rw [if_pos c]
      · rw [if_neg c]; exact hz k (by omega)
  refine e11_goesAfter ?_
  rw [i0]
  exact wipe 1040 0 M (by omega) hK Eo.rf (fun k h => absurd h (by omega))
def vAfter (s : mS) (zx zy zt zw : Int) : Prop := vHunt s zx zy ∧ (1 ≤ zt ∧ zt ≤ 10) ∧ (0 ≤ zw ∧ zw ≤ 1)
theorem s10_after {Q : Int64 → mM → Prop} {zx zy zt zw : Int} (hT : gTh Th n) (hM : KM Th n s c M) (hC : cCh n M) (hG : rG s) (hO : rLw s) (hzx : rI zx) (hzy : rI zy) (hzt : rI zt) (hzw : rI zw)
    (k0 : ¬ vAfter s zx zy zt zw → Q (-1) M) (k1 : vAfter s zx zy zt zw → ∀ M', KM Th n s c M' → cCh n M' → Eo (sFo n) M M' → Q (jL (aftS s zx.toNat zy.toNat zt.toNat (decide (zw = 1)))) M') : P10_after (d + 41) Th n (jI zx) (jI zy) (jI zt) (jI zw) M Q := by
  have g0 := hG.1
  have g1 := hG.2.1
  have hH := hM.1
  have hHh := hH.2.2.1
  have hR0 : M.1 (n + 3) 0 = jI ((s 0 0).toNat : Int) := by rw [hHh.1]; congr 1; omega
  have hR1 : M.1 (n + 3) 1 = jI ((s 0 1).toNat : Int) := by rw [hHh.2.1]; congr 1; omega
  refine e10_after ⟨hT.1 0 _ rfl, ?_⟩
  refine s10_canHunt (d := d + 38) hT.1 hH.1 hR0 hR1 (by omega) (by omega) hzx hzy (fun hv => ?_) (fun hv => ?_)
  rotate_left
  · rw [if_pos rfl]; exact k0 (fun h => hv h.1)
  rw [if_neg (by decide)]
  refine s_within 1 10 rfl rfl rfl hzt (rI_of (by omega) (by omega)) (rI_of (by omega) (by omega)) (fun a3 a4 => ?_) (fun a => ?_)
  rotate_left
  · rw [if_pos rfl]; exact k0 (fun h => a h.2.1)
  rw [if_neg (by decide)]
  refine s_within 0 1 rfl rfl rfl hzw (rI_of (by omega) (by omega)) (rI_of (by omega) (by omega)) (fun a5 a6 => ?_) (fun a => ?_)
  rotate_left
  · rw [if_pos rfl]; exact k0 (fun h => a h.2.2)
  rw [if_neg (by decide)]
  have kk := k1 ⟨hv, ⟨a3, a4⟩, a5, a6⟩
  obtain ⟨⟨v1, v2⟩, ⟨v3, v4⟩, v5, v6⟩ := hv
  obtain ⟨x, rfl⟩ : ∃ b : Nat, zx = b := ⟨zx.toNat, by omega⟩
  obtain ⟨y, rfl⟩ : ∃ b : Nat, zy = b := ⟨zy.toNat, by omega⟩
  obtain ⟨t, rfl⟩ : ∃ b : Nat, zt = b := ⟨zt.toNat, by omega⟩
  simp only [Int.toNat_natCast] at kk
  have ew : (if jI zw = 1 then (1 : Int32) else 0) = jB (decide (zw = 1)) := by
    simp only [jq1 hzw]
    by_cases cw : zw = 1
    · rw [if_pos cw, decide_eq_true cw]; rfl
    · rw [if_neg cw, decide_eq_false cw]; rfl
  rw [ew]
  refine s10_followed (d := d) (x := x) (y := y) (last := t) hT hM hC hG hO (by omega) (by omega) (by omega) (by omega) ?_
  exact kk
theorem s11_after {Q : Int64 → mM → Prop} {zx zy zt zw : Int} (hT : LyM Th m) (hK : KT m s M) (hG : rG s) (hO : rLw s) (hzx : rI zx) (hzy : rI zy) (hzt : rI zt) (hzw : rI zw)
    (k0 : ¬ vAfter s zx zy zt zw → Q (-1) M) (k1 : vAfter s zx zy zt zw → ∀ M', KT m s M' → Eo (sAf m) M M' → Q (jL (aftS s zx.toNat zy.toNat zt.toNat (decide (zw = 1)))) M') : P11_after (d + 41) Th m (jI zx) (jI zy) (jI zt) (jI zw) M Q := by
  have g0 := hG.1
  have g1 := hG.2.1
  obtain ⟨hR, hH, hL⟩ := id hK
  have hR0 : M.1 m 0 = jI ((s 0 0).toNat : Int) := by rw [hH.1]; congr 1; omega
  have hR1 : M.1 m 1 = jI ((s 0 1).toNat : Int) := by rw [hH.2.1]; congr 1; omega
  refine e11_after ⟨hT 0 _ rfl, ?_⟩
  refine s11_areTwo (d := d + 38) hT hR0 hR1 (by omega) (by omega) hzx hzy (fun hv => ?_) (fun hv => ?_)
  rotate_left
  · rw [if_pos rfl]; exact k0 (fun h => hv h.1)
  rw [if_neg (by decide)]
  refine s_in 1 10 rfl rfl rfl hzt (rI_of (by omega) (by omega)) (rI_of (by omega) (by omega)) (fun a3 a4 => ?_) (fun a => ?_)
  rotate_left
  · rw [if_pos rfl]; exact k0 (fun h => a h.2.1)
  rw [if_neg (by decide)]
  refine s_in 0 1 rfl rfl rfl hzw (rI_of (by omega) (by omega)) (rI_of (by omega) (by omega)) (fun a5 a6 => ?_) (fun a => ?_)
  rotate_left
  · rw [if_pos rfl]; exact k0 (fun h => a h.2.2)
  rw [if_neg (by decide)]
  have kk := k1 ⟨hv, ⟨a3, a4⟩, a5, a6⟩
  obtain ⟨⟨v1, v2⟩, ⟨v3, v4⟩, v5, v6⟩ := hv
  obtain ⟨x, rfl⟩ : ∃ b : Nat, zx = b := ⟨zx.toNat, by omega⟩
  obtain ⟨y, rfl⟩ : ∃ b : Nat, zy = b := ⟨zy.toNat, by omega⟩
  obtain ⟨t, rfl⟩ : ∃ b : Nat, zt = b := ⟨zt.toNat, by omega⟩
  simp only [Int.toNat_natCast] at kk
  refine s11_goesAfter (d := d + 33) (x := x) (y := y) (last := t) hT hK hG hO (by omega) (by omega) (by omega) (by omega) ?_
  intro M8 k8 r44 r45 e8
  have kf := kk M8 k8 e8
  simp only [jq0 hzw]
  by_cases cw : zw = 1
  · rw [decide_eq_true cw] at kf
    rw [if_neg (by omega), r45]
    exact kf
  · rw [decide_eq_false cw] at kf
    rw [if_pos (by omega), r44]
    exact kf
end AT
