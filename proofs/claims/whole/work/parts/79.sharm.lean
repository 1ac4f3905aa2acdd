section SM
variable {d : Nat} {Th : mT} {M : mM} {m : Nat} {s : mS}
theorem jI_max {a b : Nat} (ha : a ≤ 1000) (hb : b ≤ 1000) (P : Int32 → Prop) (h : P (jI (max a b : Nat))) : (jI (a : Int) ≤ jI (b : Int) → P (jI (b : Int))) ∧ (¬ jI (a : Int) ≤ jI (b : Int) → P (jI (a : Int))) := by
  rw [jIle (rI_nat (by omega)) (rI_nat (by omega))]
  refine ⟨fun c => ?_, fun c => ?_⟩
  · rw [show max a b = b by omega] at h; exact h
  · rw [show max a b = a by omega] at h; exact h
set_option maxHeartbeats 2000000 in
theorem s11_sharesTick {Q : mM → Prop} {x y : Nat} (hT : LyM Th m) (hK : KT m s M) (hG : rG s) (hO : rLw s) (hx : (x : Int) < s 0 1) (hy : (y : Int) < s 0 1)
    (K : ∀ M', KT m s M' → (∀ F : Nat → Int, sL (16 * (s 0 0).toNat + 1) (fun k => M'.2.1 (m + 22) k * jL (F k)) = sL (16 * (s 0 0).toNat) (fun k => M.2.1 (m + 21) k * jL (oV 64 (dN s) (gJ (gB s (s 4 x) x) (gB s (s 4 y) y)) (eJ (gB s (s 4 x) x) (eB s (s 4 x) x) (gB s (s 4 y) y) (eB s (s 4 y) y)) (wJ (wN s x) (wN s y)) F k))) → (∀ k, k < 16 * (s 0 0).toNat → M'.2.1 (m + 21) k = M'.2.1 (m + 22) k) → Eo (sSt m) M M' → Q M') : P11_sharesTick (d + 5) Th m (jI x) (jI y) M Q := by
  have g0 := hG.1
  have g1 := hG.2.1
  have gd := hG.2.2.1
  obtain ⟨A, hA⟩ : ∃ A : Nat, s 0 0 = A := ⟨(s 0 0).toNat, by omega⟩
  rw [hA, Int.toNat_natCast] at K
  have hA5 : A ≤ 5 := by omega
  have hT21 := hT 21 _ rfl
  have hT22 := hT 22 _ rfl
  have e16 : (16 : Int32) * jI (s 0 0) = jI ((16 * A : Nat) : Int) := by rw [show (16 : Int32) = jI 16 from rfl, jI_mul, hA]; congr 1
  have hdD : 1 ≤ dN s ∧ dN s ≤ 4 := by unfold dN; omega
  have hde : s 0 2 = (dN s : Int) := by unfold dN; omega
  let gj : Nat → Nat → Int := gJ (gB s (s 4 x) x) (gB s (s 4 y) y)
  let ej : Nat → Nat → Int := eJ (gB s (s 4 x) x) (eB s (s 4 x) x) (gB s (s 4 y) y) (eB s (s 4 y) y)
  let wj : Nat → Nat := wJ (wN s x) (wN s y)
  let O : (Nat → Int) → Nat → Int := fun F k => oV 64 (dN s) gj ej wj F k
  have copy : ∀ (u j : Nat) (M1 : mM), u + j = 16 * A → KT m s M1 → Eo (sSt m) M M1 → (∀ F : Nat → Int, sL (16 * A + 1) (fun k => M1.2.1 (m + 22) k * jL (F k)) = sL (16 * A) (fun k => M.2.1 (m + 21) k * jL (O F k))) → (∀ k, k < j → M1.2.1 (m + 21) k = M1.2.1 (m + 22) k) → H11_sharesTick_356 (d + 5) Th Q m (jI j) M1 := by
    intro u
    induction u with
    | zero =>
      intro j M1 hu hK1 he hI hc
      refine h11_sharesTick_356 ⟨hT 0 _ rfl, ?_⟩
      rw [hK1.2.1.1, e16, if_pos (by rw [jIle (rI_nat (by omega)) (rI_nat (by omega))]; omega)]
      exact K M1 hK1 hI (fun k hk => hc k (by omega)) he
    | succ u ih =>
      intro j M1 hu hK1 he hI hc
      refine h11_sharesTick_356 ⟨hT 0 _ rfl, ?_⟩
      rw [hK1.2.1.1, e16, if_neg (by rw [jIle (rI_nat (by omega)) (rI_nat (by omega))]; omega)]
      refine ⟨m + 21, hK1.1 0 37 21 (by decide), m + 22, hK1.1 0 38 22 (by decide), m_ok_jI hT22 (by omega) (by omega) (by omega), m_okw_jI hT21 (by omega) (by omega) (by omega), ?_⟩
      rw [jInatN j (by omega), jI_s]
      have e1 : Eo (sSt m) M1 (m_ul M1 (m + 21) j (M1.2.1 (m + 22) j)) := Eo.rf.ul (Or.inr (Or.inl rfl))
      refine ih (j + 1) _ (by omega) (hK1.mv e1 sSt_k) (he.trans e1) (fun F => ?_) (fun k hk => ?_)
      · rw [← hI F]
        exact sL_ext (fun k _ => by rw [m_ul_far (show m + 22 ≠ m + 21 by omega)])
      · rw [m_ul_far (show m + 22 ≠ m + 21 by omega), m_ul_row]
        by_cases c : k = j
        · rw [if_pos c, c]
        · rw [if_neg c]; exact hc k (by omega)
  have push : ∀ (u j : Nat) (M1 : mM), u + j = 16 * A → KT m s M1 → Eo (sSt m) M M1 → (∀ k, M1.2.1 (m + 21) k = M.2.1 (m + 21) k) → (∀ F : Nat → Int, sL (16 * A + 1) (fun k => M1.2.1 (m + 22) k * jL (F k)) = sL j (fun k => M.2.1 (m + 21) k * jL (O F k))) → H11_sharesTick_28 (d + 5) Th Q m (jI x) (jI y) (jI j) M1 := by
    intro u
    induction u with
    | zero =>
      intro j M1 hu hK1 he hn hI
      refine h11_sharesTick_28 ⟨hT 0 _ rfl, ?_⟩
      rw [hK1.2.1.1, e16, if_pos (by rw [jIle (rI_nat (by omega)) (rI_nat (by omega))]; omega), i0]
      exact copy (16 * A) 0 M1 (by omega) hK1 he (fun F => by rw [hI F, show j = 16 * A by omega]) (fun k h => absurd h (by omega))
    | succ u ih =>
      intro j M1 hu hK1 he hn hI
      refine h11_sharesTick_28 ⟨hT 0 _ rfl, ?_⟩
      rw [hK1.2.1.1, e16, if_neg (by rw [jIle (rI_nat (by omega)) (rI_nat (by omega))]; omega)]
      refine ⟨m + 21, hK1.1 0 37 21 (by decide), m_ok_jI hT21 (by omega) (by omega) (by omega), ?_⟩
      rw [jInatN j (by omega), hn]
      by_cases hz : M.2.1 (m + 21) j = 0
      · rw [if_pos (by rw [lc_eq]; exact hz), jI_s]
        refine ih (j + 1) M1 (by omega) hK1 he hn (fun F => ?_)
        rw [hI F, sL_succ, hz]
        grind
      rw [if_neg (by rw [lc_eq]; exact hz)]
      intro xv5 h5 xv6 h6
      rw [jI_div16 (by omega)] at h5
      rw [jI_mod16 (by omega)] at h6
      subst h5 h6
      simp only [je5 (z := ((j % 16 : Nat) : Int)) (rI_nat (by omega))]
      by_cases c5 : j % 16 ≤ 5
      · rw [if_pos (by omega)]
        refine ⟨m + 4, hK1.1 0 8 4 (by decide), m_ok_jI (hT 4 _ rfl) (by omega) (by omega) (by omega), ?_⟩
        rw [jInatN x (by omega), hK1.2.1.2.2.2.2.2.2.2.1]
        refine s11_thinks (d := d) (b := x) (r := j / 16) (t := j % 16) (cl := s 4 x) hT hK1 hG hO hx (by omega) c5 ?_
        intro M10 k10 g35 g36 e10 xv12 h12 xv13 h13
        rw [g35, i8, jI_sub] at h12
        rw [g35, g36, i8, jI_sub, jI_sub] at h13
        refine ⟨m + 4, k10.1 0 8 4 (by decide), m_ok_jI (hT 4 _ rfl) (by omega) (by omega) (by omega), ?_⟩
        rw [jInatN y (by omega), k10.2.1.2.2.2.2.2.2.2.1]
        refine s11_thinks (d := d) (b := y) (r := j / 16) (t := j % 16) (cl := s 4 y) hT k10 hG hO hy (by omega) c5 ?_
        intro M17 k17 y35 y36 e17 xv19 h19 xv20 h20
        rw [y35, h12, i8, jI_sub, jI_mul] at h19
        rw [y35, y36, h13, i8, jI_sub, jI_sub, jI_mul] at h20
        have hwx := wN_b s x (j / 16)
        have hwy := wN_b s y (j / 16)
        have hwj := wJ_b s x y (j / 16)
        have jb := j_b (gB_b s (s 4 x) x) (gB_b s (s 4 y) y) (j / 16) (j % 16)
        have not_e : xv19 = jI (64 - gj (j / 16) (j % 16)) := by
          rw [h19]; congr 1
          show _ = 64 - (64 - (8 - gB s (s 4 x) x (j / 16) (j % 16)) * (8 - gB s (s 4 y) y (j / 16) (j % 16)))
          unfold gB; omega
        have none_e : xv20 = jI (64 - gj (j / 16) (j % 16) - ej (j / 16) (j % 16)) := by
          rw [h20]; congr 1
          show _ = 64 - (64 - (8 - gB s (s 4 x) x (j / 16) (j % 16)) * (8 - gB s (s 4 y) y (j / 16) (j % 16))) - ((8 - gB s (s 4 x) x (j / 16) (j % 16)) * (8 - gB s (s 4 y) y (j / 16) (j % 16)) - (8 - gB s (s 4 x) x (j / 16) (j % 16) - eB s (s 4 x) x (j / 16) (j % 16)) * (8 - gB s (s 4 y) y (j / 16) (j % 16) - eB s (s 4 y) y (j / 16) (j % 16)))
          unfold gB eB; omega
        have jb1 : 0 ≤ gj (j / 16) (j % 16) := jb.1
        have jb2 : 0 ≤ ej (j / 16) (j % 16) := jb.2.1
        have jb3 : gj (j / 16) (j % 16) + ej (j / 16) (j % 16) ≤ 64 := jb.2.2.1
        subst not_e none_e
        have k225 : H11_sharesTick_225 (d + 5) Th Q m (jI x) (jI y) (jI j) (jI ((j / 16 : Nat) : Int)) (jI ((j % 16 : Nat) : Int)) (jI (64 - gj (j / 16) (j % 16))) (jI (64 - gj (j / 16) (j % 16) - ej (j / 16) (j % 16))) (jI (wj (j / 16) : Int)) M17 := by
          refine h11_sharesTick_225 ?_
          intro xv1 h1
          rw [show (16 : Int32) = jI 16 from rfl, kI5, jI_mul, jI_add, jI_add] at h1
          have ex1 : xv1 = jI ((16 * (j / 16) + 5 + wj (j / 16) : Nat) : Int) := by rw [h1]; congr 1
          subst ex1
          refine ⟨hT 0 _ rfl, ?_⟩
          intro xv3 h3
          have hdl : M17.1 m 2 = jI (s 0 2) := k17.2.1.2.2.1
          rw [hdl, hde, show (16 : Int32) = jI 16 from rfl, kI11, jI_mul, jI_add, jI_add] at h3
          have ex3 : xv3 = jI ((16 * (j / 16) + 11 + dN s : Nat) : Int) := by rw [h3]; congr 1
          subst ex3
          refine s11_more (d := d + 3) c5 ?_
          intro xv15 h15
          rw [show (16 : Int32) = jI 16 from rfl, jI_mul, jI_add] at h15
          have e15 : xv15 = jI ((16 * (j / 16) + kmo (j % 16) : Nat) : Int) := by rw [h15]; congr 1
          subst e15
          have hkm : kmo (j % 16) ≤ 5 := by unfold kmo; split <;> omega
          have hwj' : 1 ≤ wj (j / 16) ∧ wj (j / 16) ≤ 6 := hwj
          have e7 := e10.trans e17
          have hn7 : ∀ q k, q = m + 21 ∨ q = m + 22 → M17.2.1 q k = M1.2.1 q k := fun q k hq => (e7 _ _ (by unfold sTh; omega)).2.1
          have o1 : m_ok Th (m + 22) .long (jI ((16 * (j / 16) + 5 + wj (j / 16) : Nat) : Int)) := m_ok_jI hT22 (by omega) (by omega) (by omega)
          have o1w : m_okw Th (m + 22) .long (jI ((16 * (j / 16) + 5 + wj (j / 16) : Nat) : Int)) := m_okw_jI hT22 (by omega) (by omega) (by omega)
          have o2 : m_ok Th (m + 22) .long (jI ((16 * (j / 16) + 11 + dN s : Nat) : Int)) := m_ok_jI hT22 (by omega) (by omega) (by omega)
          have o2w : m_okw Th (m + 22) .long (jI ((16 * (j / 16) + 11 + dN s : Nat) : Int)) := m_okw_jI hT22 (by omega) (by omega) (by omega)
          have o3 : m_ok Th (m + 22) .long (jI ((16 * (j / 16) + kmo (j % 16) : Nat) : Int)) := m_ok_jI hT22 (by omega) (by omega) (by omega)
          have o3w : m_okw Th (m + 22) .long (jI ((16 * (j / 16) + kmo (j % 16) : Nat) : Int)) := m_okw_jI hT22 (by omega) (by omega) (by omega)
          have oj : m_ok Th (m + 21) .long (jI (j : Int)) := m_ok_jI hT21 (by omega) (by omega) (by omega)
          refine ⟨m + 22, k17.1 0 38 22 (by decide), o1, m + 21, k17.1 0 37 21 (by decide), oj, o1w, o2, ?_⟩
          rw [jInatN j (by omega), jInatN _ (by omega), jInatN _ (by omega), jInatN _ (by omega), show (64 : Int32) = jI 64 from rfl, jI_sub, jI_sub, show 64 - (64 - gj (j / 16) (j % 16)) = gj (j / 16) (j % 16) by omega, show 64 - gj (j / 16) (j % 16) - (64 - gj (j / 16) (j % 16) - ej (j / 16) (j % 16)) = ej (j / 16) (j % 16) by omega]
          rw [jI_long (by omega) (by omega), jI_long (by omega) (by omega), jI_long (by omega) (by omega)]
          have n12 : m + 21 ≠ m + 22 := by omega
          have v7 : M17.2.1 (m + 21) j = M.2.1 (m + 21) j := (hn7 _ _ (Or.inl rfl)).trans (hn j)
          intro M24 h24
          refine ⟨o2w, o3, ?_⟩
          intro M27 h27
          refine ⟨o3w, ?_⟩
          have v24 : M24.2.1 (m + 21) j = M.2.1 (m + 21) j := by rw [h24, m_ul_far n12]; exact v7
          have v27 : M27.2.1 (m + 21) j = M.2.1 (m + 21) j := by rw [h27, m_ul_far n12]; exact v24
          rw [v27, jI_s]
          rw [v24] at h27
          rw [v7] at h24
          have e29 : Eo (sSt m) M1 (m_ul M27 (m + 22) (16 * (j / 16) + kmo (j % 16)) (M27.2.1 (m + 22) (16 * (j / 16) + kmo (j % 16)) + jL (64 - gj (j / 16) (j % 16) - ej (j / 16) (j % 16)) * M.2.1 (m + 21) j)) := by
            rw [h27, h24]
            exact (((Eo.mono (S' := sSt m) e7 (fun q k z => Or.inl z)).trans (Eo.rf.ul (Or.inr (Or.inr rfl)))).trans (Eo.rf.ul (Or.inr (Or.inr rfl)))).trans (Eo.rf.ul (Or.inr (Or.inr rfl)))
          refine ih (j + 1) _ (by omega) (hK1.mv e29 sSt_k) (he.trans e29) (fun k => ?_) (fun F => ?_)
          · rw [m_ul_far n12, h27, m_ul_far n12, h24, m_ul_far n12]
            exact (hn7 _ _ (Or.inl rfl)).trans (hn k)
          · have s3 : sL (16 * A + 1) (fun k => (m_ul M27 (m + 22) (16 * (j / 16) + kmo (j % 16)) (M27.2.1 (m + 22) (16 * (j / 16) + kmo (j % 16)) + jL (64 - gj (j / 16) (j % 16) - ej (j / 16) (j % 16)) * M.2.1 (m + 21) j)).2.1 (m + 22) k * jL (F k)) = sL (16 * A + 1) (fun k => M27.2.1 (m + 22) k * jL (F k)) + jL (64 - gj (j / 16) (j % 16) - ej (j / 16) (j % 16)) * M.2.1 (m + 21) j * jL (F (16 * (j / 16) + kmo (j % 16))) := by
              rw [← sL_upd (f := fun k => M27.2.1 (m + 22) k) (by omega)]
              exact sL_ext (fun k _ => by rw [m_ul_row])
            have s2 : sL (16 * A + 1) (fun k => M27.2.1 (m + 22) k * jL (F k)) = sL (16 * A + 1) (fun k => M24.2.1 (m + 22) k * jL (F k)) + jL (ej (j / 16) (j % 16)) * M.2.1 (m + 21) j * jL (F (16 * (j / 16) + 11 + dN s)) := by
              rw [← sL_upd (f := fun k => M24.2.1 (m + 22) k) (by omega), h27]
              exact sL_ext (fun k _ => by rw [m_ul_row])
            have s1 : sL (16 * A + 1) (fun k => M24.2.1 (m + 22) k * jL (F k)) = sL (16 * A + 1) (fun k => M17.2.1 (m + 22) k * jL (F k)) + jL (gj (j / 16) (j % 16)) * M.2.1 (m + 21) j * jL (F (16 * (j / 16) + 5 + wj (j / 16))) := by
              rw [← sL_upd (f := fun k => M17.2.1 (m + 22) k) (by omega), h24]
              exact sL_ext (fun k _ => by rw [m_ul_row])
            have s0 : sL (16 * A + 1) (fun k => M17.2.1 (m + 22) k * jL (F k)) = sL (16 * A + 1) (fun k => M1.2.1 (m + 22) k * jL (F k)) := sL_ext (fun k _ => by rw [hn7 _ _ (Or.inr rfl)])
            rw [s3, s2, s1, s0, hI F, sL_succ]
            have eO : O F j = gj (j / 16) (j % 16) * F (16 * (j / 16) + 5 + wj (j / 16)) + ej (j / 16) (j % 16) * F (16 * (j / 16) + 11 + dN s) + (64 - gj (j / 16) (j % 16) - ej (j / 16) (j % 16)) * F (16 * (j / 16) + kmo (j % 16)) := by
              show oV 64 (dN s) gj ej wj F j = _
              unfold oV
              rw [if_pos c5]
            rw [eO, jLa, jLa, jLm, jLm, jLm]
            grind
        refine s11_walkOf (d := d + 2) (b := x) (r := j / 16) hT k17.1 k17.2.1 hG hx (by omega) ?_
        refine s11_walkOf (d := d + 2) (b := y) (r := j / 16) hT k17.1 k17.2.1 hG hy (by omega) ?_
        rw [wN_e, wN_e]
        have km := jI_max (a := wN s x (j / 16)) (b := wN s y (j / 16)) (by omega) (by omega) (fun v => H11_sharesTick_225 (d + 5) Th Q m (jI x) (jI y) (jI j) (jI ((j / 16 : Nat) : Int)) (jI ((j % 16 : Nat) : Int)) (jI (64 - gj (j / 16) (j % 16))) (jI (64 - gj (j / 16) (j % 16) - ej (j / 16) (j % 16))) v M17) k225
        by_cases cw : jI (wN s x (j / 16) : Int) ≤ jI (wN s y (j / 16) : Int)
        · rw [if_pos cw]
          refine s11_walkOf (d := d + 2) (b := y) (r := j / 16) hT k17.1 k17.2.1 hG hy (by omega) ?_
          rw [wN_e]
          exact km.1 cw
        · rw [if_neg cw]
          refine s11_walkOf (d := d + 2) (b := x) (r := j / 16) hT k17.1 k17.2.1 hG hx (by omega) ?_
          rw [wN_e]
          exact km.2 cw
      · rw [if_neg (by omega)]
        have hrR : jI (s 0 0) = jI (A : Int) := by rw [hA]
        rw [hrR]
        refine s11_goesOn (d := d + 3) (k := j) (A := A) (by omega) hA5 (by omega) ?_
        have hgl := kgo_lt (k := j) (A := A) (by omega) (by omega)
        refine ⟨m + 22, hK1.1 0 38 22 (by decide), m_ok_jI hT22 (by omega) (by omega) (by omega), m + 21, hK1.1 0 37 21 (by decide), m_ok_jI hT21 (by omega) (by omega) (by omega), m_okw_jI hT22 (by omega) (by omega) (by omega), ?_⟩
        rw [jInatN (kgo j) (by omega), hn, jI_s]
        have n12 : m + 21 ≠ m + 22 := by omega
        have e1 : Eo (sSt m) M1 (m_ul M1 (m + 22) (kgo j) (M1.2.1 (m + 22) (kgo j) + 64 * M.2.1 (m + 21) j)) := Eo.rf.ul (Or.inr (Or.inr rfl))
        refine ih (j + 1) _ (by omega) (hK1.mv e1 sSt_k) (he.trans e1) (fun k => by rw [m_ul_far n12]; exact hn k) (fun F => ?_)
        have s1 : sL (16 * A + 1) (fun k => (m_ul M1 (m + 22) (kgo j) (M1.2.1 (m + 22) (kgo j) + 64 * M.2.1 (m + 21) j)).2.1 (m + 22) k * jL (F k)) = sL (16 * A + 1) (fun k => M1.2.1 (m + 22) k * jL (F k)) + 64 * M.2.1 (m + 21) j * jL (F (kgo j)) := by
          rw [← sL_upd (f := fun k => M1.2.1 (m + 22) k) (by omega)]
          exact sL_ext (fun k _ => by rw [m_ul_row])
        rw [s1, hI F, sL_succ]
        have eO : O F j = 64 * F (kgo j) := oV_go (by omega)
        rw [eO, jLm, show jL 64 = 64 from rfl]
        grind
  have wipe : ∀ (u j : Nat) (M1 : mM), u + j = 16 * A + 1 → KT m s M1 → Eo (sSt m) M M1 → (∀ k, M1.2.1 (m + 21) k = M.2.1 (m + 21) k) → (∀ k, k < j → M1.2.1 (m + 22) k = 0) → H11_sharesTick_2 (d + 5) Th Q m (jI x) (jI y) (jI j) M1 := by
    intro u
    induction u with
    | zero =>
      intro j M1 hu hK1 he hn hz
      refine h11_sharesTick_2 ⟨hT 0 _ rfl, ?_⟩
      rw [hK1.2.1.1, e16, if_pos (by rw [jIlt (rI_nat (by omega)) (rI_nat (by omega))]; omega), i0]
      refine push (16 * A) 0 M1 (by omega) hK1 he hn (fun F => ?_)
      rw [show sL 0 (fun k => M.2.1 (m + 21) k * jL (O F k)) = 0 from rfl]
      exact sL_zero (fun k hk => by rw [hz k (by omega)]; grind)
    | succ u ih =>
      intro j M1 hu hK1 he hn hz
      refine h11_sharesTick_2 ⟨hT 0 _ rfl, ?_⟩
      rw [hK1.2.1.1, e16, if_neg (by rw [jIlt (rI_nat (by omega)) (rI_nat (by omega))]; omega)]
      refine ⟨m + 22, hK1.1 0 38 22 (by decide), m_okw_jI hT22 (by omega) (by omega) (by omega), ?_⟩
      rw [jInatN j (by omega), jI_s]
      have e1 : Eo (sSt m) M1 (m_ul M1 (m + 22) j 0) := Eo.rf.ul (Or.inr (Or.inr rfl))
      refine ih (j + 1) _ (by omega) (hK1.mv e1 sSt_k) (he.trans e1) (fun k => by rw [m_ul_far (show m + 21 ≠ m + 22 by omega)]; exact hn k) (fun k hk => ?_)
      rw [m_ul_row]
      by_cases c : k = j
      · rw [if_pos c]
      · rw [if_neg c]; exact hz k (by omega)
  refine e11_sharesTick ?_
  rw [i0]
  exact wipe (16 * A + 1) 0 M (by omega) hK Eo.rf (fun _ => rfl) (fun k h => absurd h (by omega))
theorem s11_share {Q : Int64 → mM → Prop} {zx zy zt : Int} (hT : LyM Th m) (hK : KT m s M) (hG : rG s) (hO : rLw s) (hzx : rI zx) (hzy : rI zy) (hzt : rI zt)
    (k0 : ¬ (vHunt s zx zy ∧ 1 ≤ zt ∧ zt ≤ 10) → Q (-1) M) (k1 : vHunt s zx zy ∧ 1 ≤ zt ∧ zt ≤ 10 → ∀ M', KT m s M' → Eo (sSt m) M M' → Q (jL (aShare s zx.toNat zy.toNat zt.toNat)) M') : P11_share (d + 40) Th m (jI zx) (jI zy) (jI zt) M Q := by
  have g0 := hG.1
  have g1 := hG.2.1
  have hT21 := hT 21 _ rfl
  have hT22 := hT 22 _ rfl
  obtain ⟨hR, hH, hL⟩ := id hK
  have hR0 : M.1 m 0 = jI ((s 0 0).toNat : Int) := by rw [hH.1]; congr 1; omega
  have hR1 : M.1 m 1 = jI ((s 0 1).toNat : Int) := by rw [hH.2.1]; congr 1; omega
  refine e11_share ⟨hT 0 _ rfl, ?_⟩
  refine s11_areTwo (d := d + 37) hT hR0 hR1 (by omega) (by omega) hzx hzy (fun hv => ?_) (fun hv => ?_)
  rotate_left
  · rw [if_pos rfl]; exact k0 (fun h => hv h.1)
  rw [if_neg (by decide)]
  refine s_in 1 10 rfl rfl rfl hzt (rI_of (by omega) (by omega)) (rI_of (by omega) (by omega)) (fun a3 a4 => ?_) (fun a => ?_)
  rotate_left
  · rw [if_pos rfl]; exact k0 (fun h => a h.2)
  rw [if_neg (by decide)]
  have kk := k1 ⟨hv, a3, a4⟩
  obtain ⟨⟨v1, v2⟩, ⟨v3, v4⟩, v5, v6⟩ := hv
  obtain ⟨x, rfl⟩ : ∃ b : Nat, zx = b := ⟨zx.toNat, by omega⟩
  obtain ⟨y, rfl⟩ : ∃ b : Nat, zy = b := ⟨zy.toNat, by omega⟩
  obtain ⟨T, rfl⟩ : ∃ b : Nat, zt = b := ⟨zt.toNat, by omega⟩
  simp only [Int.toNat_natCast] at kk
  obtain ⟨A, hA⟩ : ∃ A : Nat, s 0 0 = A := ⟨(s 0 0).toNat, by omega⟩
  have hA' : (s 0 0).toNat = A := by omega
  have e16 : (16 : Int32) * jI (s 0 0) = jI ((16 * A : Nat) : Int) := by rw [show (16 : Int32) = jI 16 from rfl, jI_mul, hA]; congr 1
  let h : Nat → Nat → Int := fun n k => hV 64 (dN s) (gJ (gB s (s 4 x) x) (gB s (s 4 y) y)) (eJ (gB s (s 4 x) x) (eB s (s 4 x) x) (gB s (s 4 y) y) (eB s (s 4 y) y)) (wJ (wN s x) (wN s y)) A n k
  have loop : ∀ (u t : Nat) (M1 : mM), u + t = T → KT m s M1 → Eo (sSt m) M M1 → (∀ n, 1 ≤ n → sL (16 * A) (fun k => M1.2.1 (m + 21) k * jL (h n k)) = jL (h (t + n) 0)) → H11_share_65 (d + 40) Th Q m (jI x) (jI y) (jI T) (jL (bS 64 (fun n => h n 0) t)) (jI ((t + 1 : Nat) : Int)) M1 := by
    intro u
    induction u with
    | zero =>
      intro t M1 hu hK1 he hI
      refine h11_share_65 ?_
      rw [if_pos (by rw [jIlt (rI_nat (by omega)) (rI_nat (by omega))]; omega), show t = T by omega]
      have := kk M1 hK1 he
      unfold aShare hJ at this
      rw [hA'] at this
      exact this
    | succ u ih =>
      intro t M1 hu hK1 he hI
      refine h11_share_65 ?_
      rw [if_neg (by rw [jIlt (rI_nat (by omega)) (rI_nat (by omega))]; omega)]
      refine ⟨hT 0 _ rfl, ?_⟩
      refine s11_sharesTick (d := d + 34) (x := x) (y := y) hT hK1 hG hO (by omega) (by omega) ?_
      intro M4 k4 p4 c4 e4
      rw [hA'] at p4 c4
      rw [k4.2.1.1, e16]
      refine ⟨m + 22, k4.1 0 38 22 (by decide), m_ok_jI hT22 (by omega) (by omega) (by omega), ?_⟩
      intro lv7 h7
      rw [jInatN _ (by omega)] at h7
      have box : M4.2.1 (m + 22) (16 * A) = jL (h (t + 1) 0) := by
        have q := p4 (h 0)
        have e1 : sL (16 * A) (fun k => M1.2.1 (m + 21) k * jL (oV 64 (dN s) (gJ (gB s (s 4 x) x) (gB s (s 4 y) y)) (eJ (gB s (s 4 x) x) (eB s (s 4 x) x) (gB s (s 4 y) y) (eB s (s 4 y) y)) (wJ (wN s x) (wN s y)) (h 0) k)) = jL (h (t + 1) 0) := by
          rw [← hI 1 (by omega)]
          exact sL_ext (fun k hk => by rw [← hV_o hk])
        rw [e1, sL_succ, sL_zero (fun k hk => by
          show M4.2.1 (m + 22) k * jL (hV 64 (dN s) (gJ (gB s (s 4 x) x) (gB s (s 4 y) y)) (eJ (gB s (s 4 x) x) (eB s (s 4 x) x) (gB s (s 4 y) y) (eB s (s 4 y) y)) (wJ (wN s x) (wN s y)) A 0 k) = 0
          rw [hV, if_neg (by omega), jL_0]
          grind)] at q
        rw [← q]
        show _ = 0 + M4.2.1 (m + 22) (16 * A) * jL (hV 64 (dN s) (gJ (gB s (s 4 x) x) (gB s (s 4 y) y)) (eJ (gB s (s 4 x) x) (eB s (s 4 x) x) (gB s (s 4 y) y) (eB s (s 4 y) y)) (wJ (wN s x) (wN s y)) A 0 (16 * A))
        rw [hV_at, if_pos rfl, jL_1]
        grind
      have nb : lv7 = jL (bS 64 (fun n => h n 0) (t + 1)) := by
        rw [h7, box]
        show _ = jL (64 * bS 64 (fun n => h n 0) t + h (t + 1) 0)
        rw [jLa, jLm]
        rfl
      rw [nb, jI_s]
      refine ih (t + 1) M4 (by omega) k4 (he.trans e4) ?_
      intro n hn
      have q := p4 (h n)
      rw [sL_succ] at q
      have z : jL (h n (16 * A)) = 0 := by
        show jL (hV 64 (dN s) (gJ (gB s (s 4 x) x) (gB s (s 4 y) y)) (eJ (gB s (s 4 x) x) (eB s (s 4 x) x) (gB s (s 4 y) y) (eB s (s 4 y) y)) (wJ (wN s x) (wN s y)) A n (16 * A)) = 0
        rw [hV_at, if_neg (by omega), jL_0]
      rw [z] at q
      have e1 : sL (16 * A) (fun k => M1.2.1 (m + 21) k * jL (oV 64 (dN s) (gJ (gB s (s 4 x) x) (gB s (s 4 y) y)) (eJ (gB s (s 4 x) x) (eB s (s 4 x) x) (gB s (s 4 y) y) (eB s (s 4 y) y)) (wJ (wN s x) (wN s y)) (h n) k)) = jL (h (t + 1 + n) 0) := by
        rw [show t + 1 + n = t + (n + 1) by omega, ← hI (n + 1) (by omega)]
        exact sL_ext (fun k hk => by rw [← hV_o hk])
      rw [e1] at q
      rw [← q]
      have e2 : sL (16 * A) (fun k => M4.2.1 (m + 21) k * jL (h n k)) = sL (16 * A) (fun k => M4.2.1 (m + 22) k * jL (h n k)) := sL_ext (fun k hk => by rw [c4 k hk])
      rw [e2]
      grind
  have wipe : ∀ (u j : Nat) (M1 : mM), u + j = 16 * A → KT m s M1 → Eo (sSt m) M M1 → (∀ k, k < j → M1.2.1 (m + 21) k = 0) → H11_share_26 (d + 40) Th Q m (jI x) (jI y) (jI T) (jI j) M1 := by
    intro u
    induction u with
    | zero =>
      intro j M1 hu hK1 he hz
      refine h11_share_26 ⟨hT 0 _ rfl, ?_⟩
      rw [hK1.2.1.1, e16, if_pos (by rw [jIle (rI_nat (by omega)) (rI_nat (by omega))]; omega)]
      refine ⟨m + 21, hK1.1 0 37 21 (by decide), by rw [i0]; exact m_okw_jI hT21 (by omega) (by omega) (by omega), ?_⟩
      rw [show Int32.toNatClampNeg 0 = 0 from rfl]
      have e8 : Eo (sSt m) M1 (m_ul M1 (m + 21) 0 1) := Eo.rf.ul (Or.inr (Or.inl rfl))
      have row : ∀ k, k < 16 * A → (m_ul M1 (m + 21) 0 1).2.1 (m + 21) k = if k = 0 then 1 else 0 := fun k hk => by
        rw [m_ul_row]
        by_cases c : k = 0
        · rw [if_pos c, if_pos c]
        · rw [if_neg c, if_neg c]; exact hz k (by omega)
      have q := loop T 0 (m_ul M1 (m + 21) 0 1) (by omega) (hK1.mv e8 sSt_k) (he.trans e8) (fun n hn => by
        rw [sL_one (a := 0) (by omega) (fun k hk hk0 => by
          show (m_ul M1 (m + 21) 0 1).2.1 (m + 21) k * jL (h n k) = 0
          rw [row k hk, if_neg hk0]
          grind)]
        show (m_ul M1 (m + 21) 0 1).2.1 (m + 21) 0 * jL (h n 0) = _
        rw [row 0 (by omega), if_pos rfl, Nat.zero_add]
        grind)
      have z0 : jL (bS 64 (fun n => h n 0) 0) = 0 := by
        show jL (hV 64 (dN s) (gJ (gB s (s 4 x) x) (gB s (s 4 y) y)) (eJ (gB s (s 4 x) x) (eB s (s 4 x) x) (gB s (s 4 y) y) (eB s (s 4 y) y)) (wJ (wN s x) (wN s y)) A 0 0) = 0
        rw [hV, if_neg (by omega), jL_0]
      rw [z0] at q
      exact q
    | succ u ih =>
      intro j M1 hu hK1 he hz
      refine h11_share_26 ⟨hT 0 _ rfl, ?_⟩
      rw [hK1.2.1.1, e16, if_neg (by rw [jIle (rI_nat (by omega)) (rI_nat (by omega))]; omega)]
      refine ⟨m + 21, hK1.1 0 37 21 (by decide), m_okw_jI hT21 (by omega) (by omega) (by omega), ?_⟩
      rw [jInatN j (by omega), jI_s]
      have e1 : Eo (sSt m) M1 (m_ul M1 (m + 21) j 0) := Eo.rf.ul (Or.inr (Or.inl rfl))
      refine ih (j + 1) _ (by omega) (hK1.mv e1 sSt_k) (he.trans e1) (fun k hk => ?_)
      rw [m_ul_row]
      by_cases c : k = j
      · rw [if_pos c]
      · rw [if_neg c]; exact hz k (by omega)
  rw [i0]
  exact wipe (16 * A) 0 M (by omega) hK Eo.rf (fun k h => absurd h (by omega))
end SM
