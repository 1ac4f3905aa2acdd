/-! ===== DRAW: the class, whole ===== -/
def sPl (n : Nat) : Nat → Nat → Prop := fun q k => sSk n q k ∨ sHn n q k ∨ q = n + 108 ∨ (q = n + 107 ∧ k = 9)
def sP2 (n : Nat) : Nat → Nat → Prop := fun q k => sHn n q k ∨ q = n + 108 ∨ (q = n + 107 ∧ k = 9)
section PL
variable {d : Nat} {Th : mT} {M : mM} {n m : Nat} {s : mS} {c : Int}
theorem sP2_rf (n : Nat) : ∀ o k v, (o, k, v) ∈ rsA → ¬ sP2 n (n + o) k := by
  intro o k v hv
  unfold sP2 sHn
  simp [rsA] at hv
  omega
theorem sP2_k {n : Nat} : ∀ q k, sP2 n q k → n ≤ q ∧ ¬ (q = n + 3 ∧ k ≤ 4) ∧ ¬ (n + 9 ≤ q ∧ q ≤ n + 34) ∧ ¬ (q = n + 4 ∧ 1 ≤ k ∧ k ≤ 4) ∧ q ≠ n + 6 ∧ q ≠ n + 7 := by
  intro q k h
  unfold sP2 sHn at h
  omega
/-- the rows laid for the first b bands -/
def cPl (Th : mT) (n : Nat) (s : mS) (c : Int) (b : Nat) (M : mM) : Prop := KM Th n s c M ∧ M.1 (n + 105) 1 = 0 ∧ (∀ k, M.1 (n + 106) k = jI (s 9 k)) ∧ M.1 (n + 107) 7 = 0 ∧ M.1 (n + 107) 8 = jI (s 0 7) ∧ M.1 (n + 107) 9 = 1 ∧ (∀ k, M.1 (n + 112) k = jI (if k < b then 0 else s 10 k)) ∧ (∀ j, j < b → M.1 (n + 109) j = 0 ∧ M.1 (n + 110) j = 0 ∧ M.1 (n + 111) j = 0) ∧ ∀ j, j < b → (j : Int) < s 0 1 → M.2.2 (n + 108) j = some (aSk n j) ∧ vB n s j M
theorem s3_lay {Q : Int32 → mM → Prop} (hT : gTh Th n) (hG : rG s) (hO : rLw s) (hB : 0 < s 0 1) (hd : 33 ≤ d)
    (k : ∀ M', cPl Th n s c 5 M' → Eo (sPl n) M M' → H3_play_74 (d + 1) Th Q (n + 107) 1 M') : ∀ u b (M1 : mM), b + u = 5 → cPl Th n s c b M1 → Eo (sPl n) M M1 → H3_play_19 (d + 1) Th Q (n + 107) (jI b) M1 := by
  have g1 := hG.2.1
  intro u
  induction u with
  | zero =>
    intro b M1 hb h e
    refine h3_play_19 ?_
    rw [if_pos (by rw [jh5 (rI_nat (by omega))]; omega)]
    rw [show b = 5 by omega] at h
    exact k M1 h e
  | succ u ih =>
    intro b M1 hb h e
    obtain ⟨a1, a2, a3, a4, a5, a6, a7, a8, a9⟩ := h
    have hR := a1.1.1
    have tb : Int32.toNatClampNeg (jI (b : Int)) = b := jInatN b (by omega)
    refine h3_play_19 ?_
    rw [if_neg (by rw [jh5 (rI_nat (by omega))]; omega)]
    refine ⟨hT.1 107 _ rfl, n + 108, hR 107 2 108 (by decide), n + 3, hR 107 0 3 (by decide), hT.1 3 _ rfl, ?_⟩
    have nx : ∀ (v : Nat) (M6 : mM), KM Th n s c M6 → Eo (sSk n) M1 M6 → (∀ j, j < b → (j : Int) < s 0 1 → vB n s j M6) → Th.2.2 v = some (.inl 8) → ((b : Int) < s 0 1 → v = aSk n b ∧ vB n s b M6) →
        m_okw Th (n + 108) (.object RX8) (jI b) ∧ (Th.2.2 v = some (.inl 8) ∧ (∃ r11, (m_ur M6 (n + 108) b (some v)).2.2 (n + 107) 3 = some r11 ∧ (m_okw Th r11 .int (jI b) ∧ (∀ M14, M14 = m_ur M6 (n + 108) b (some v) → ∃ r15, M14.2.2 (n + 107) 4 = some r15 ∧ (m_okw Th r15 .int (jI b) ∧ (∀ M18, M18 = m_ui M14 r11 b 0 → ∃ r19, M14.2.2 (n + 107) 5 = some r19 ∧ (m_okw Th r19 .int (jI b) ∧ (∀ M22, M22 = m_ui M18 r15 b 0 → ∃ r23, M14.2.2 (n + 107) 6 = some r23 ∧ (m_okw Th r23 .int (jI b) ∧ (∀ M26, M26 = m_ui M22 r19 b 0 → H3_play_19 (d + 1) Th Q (n + 107) (jI (b : Int) + 1) (m_ui M26 r23 b 0)))))))))))  := by
      intro v M6 k6 e6 hv6 hv8 hvb
      have okw : ∀ o, o = 109 ∨ o = 110 ∨ o = 111 ∨ o = 112 → m_okw Th (n + o) .int (jI (b : Int)) := fun o ho => by
        rcases ho with q | q | q | q
        · rw [q]; exact m_okw_jI (hT.1 109 _ rfl) (by omega) (by omega) (by omega)
        · rw [q]; exact m_okw_jI (hT.1 110 _ rfl) (by omega) (by omega) (by omega)
        · rw [q]; exact m_okw_jI (hT.1 111 _ rfl) (by omega) (by omega) (by omega)
        · rw [q]; exact m_okw_jI (hT.1 112 _ rfl) (by omega) (by omega) (by omega)
      have R6 := k6.1.1
      have rf : ∀ j v', (107, j, v') ∈ rsA → (m_ur M6 (n + 108) b (some v)).2.2 (n + 107) j = some (n + v') := fun j v' h => by
        show (if n + 107 = n + 108 ∧ j = b then some v else M6.2.2 (n + 107) j) = _
        rw [if_neg (by omega)]; exact R6 107 j v' h
      refine ⟨m_okw_jI (hT.1 108 _ rfl) (by omega) (by omega) (by omega), hv8, n + 109, rf 3 109 (by decide), okw 109 (by omega), ?_⟩
      intro M14 h14
      refine ⟨n + 110, by rw [h14]; exact rf 4 110 (by decide), okw 110 (by omega), ?_⟩
      intro M18 h18
      refine ⟨n + 111, by rw [h14]; exact rf 5 111 (by decide), okw 111 (by omega), ?_⟩
      intro M22 h22
      refine ⟨n + 112, by rw [h14]; exact rf 6 112 (by decide), okw 112 (by omega), ?_⟩
      intro M26 h26
      rw [jI_s]
      have eF : Eo (sP2 n) M6 (m_ui M26 (n + 112) b 0) := by
        rw [h26, h22, h18, h14]
        exact Eo.ui (Eo.ui (Eo.ui (Eo.ui (Eo.ur Eo.rf (by unfold sP2; omega)) (by unfold sP2 sHn; omega)) (by unfold sP2 sHn; omega)) (by unfold sP2 sHn; omega)) (by unfold sP2 sHn; omega)
      have val : ∀ q j, (m_ui M26 (n + 112) b 0).1 q j = if (n + 109 ≤ q ∧ q ≤ n + 112) ∧ j = b then 0 else M6.1 q j := fun q j => by
        rw [h26, h22, h18, h14]
        show (if q = n + 112 ∧ j = b then (0 : Int32) else if q = n + 111 ∧ j = b then 0 else if q = n + 110 ∧ j = b then 0 else if q = n + 109 ∧ j = b then 0 else M6.1 q j) = _
        by_cases c : (n + 109 ≤ q ∧ q ≤ n + 112) ∧ j = b
        · rw [if_pos c]
          split
          · rfl
          · split
            · rfl
            · split
              · rfl
              · split
                · rfl
                · omega
        · rw [if_neg c, if_neg (by omega), if_neg (by omega), if_neg (by omega), if_neg (by omega)]
      have old : ∀ q j, n + 105 ≤ q → M6.1 q j = M1.1 q j := fun q j hq => (e6 q j (fun z => sSk_log n q j z hq)).1
      refine ih (b + 1) _ (by omega) ⟨k6.mvS hT eF (sP2_rf n) sP2_k, ?_, fun j => ?_, ?_, ?_, ?_, fun j => ?_, fun j hj => ?_, fun j hj hjb => ?_⟩ (e.trans ((e6.mono (fun q j h => Or.inl h)).trans (eF.mono (fun q j h => Or.inr h))))
      · rw [val, if_neg (by omega), old _ _ (by omega)]; exact a2
      · rw [val, if_neg (by omega), old _ _ (by omega)]; exact a3 j
      · rw [val, if_neg (by omega), old _ _ (by omega)]; exact a4
      · rw [val, if_neg (by omega), old _ _ (by omega)]; exact a5
      · rw [val, if_neg (by omega), old _ _ (by omega)]; exact a6
      · rw [val]
        by_cases c : j = b
        · rw [if_pos ⟨by omega, c⟩, if_pos (by omega)]; rfl
        · rw [if_neg (fun z => c z.2), old _ _ (by omega), a7 j]
          by_cases c2 : j < b
          · rw [if_pos c2, if_pos (by omega)]
          · rw [if_neg c2, if_neg (by omega)]
      · rw [val, val, val]
        by_cases c : j = b
        · rw [if_pos ⟨by omega, c⟩, if_pos ⟨by omega, c⟩, if_pos ⟨by omega, c⟩]; exact ⟨rfl, rfl, rfl⟩
        · rw [if_neg (fun z => c z.2), if_neg (fun z => c z.2), if_neg (fun z => c z.2), old _ _ (by omega), old _ _ (by omega), old _ _ (by omega)]
          exact a8 j (by omega)
      · have r108 : (m_ui M26 (n + 112) b 0).2.2 (n + 108) j = if j = b then some v else M6.2.2 (n + 108) j := by
          rw [h26, h22, h18, h14]
          show (if n + 108 = n + 108 ∧ j = b then some v else M6.2.2 (n + 108) j) = _
          by_cases c : j = b
          · rw [if_pos ⟨rfl, c⟩, if_pos c]
          · rw [if_neg (fun z => c z.2), if_neg c]
        have far : ∀ q' k, aSk n j + 1 ≤ q' → q' ≤ aSk n j + 3 → (m_ui M26 (n + 112) b 0).1 q' k = M6.1 q' k := fun q' k h1 h2 => by
          rw [val, if_neg (by unfold aSk at h1 h2; omega)]
        by_cases c : j = b
        · obtain ⟨y1, y2⟩ := hvb (by omega)
          rw [c] at far ⊢
          refine ⟨by rw [← c, r108, if_pos c, y1, c], vSk.mv y2 far⟩
        · refine ⟨?_, vSk.mv (hv6 j (by omega) hjb) far⟩
          rw [r108, if_neg c, (e6 (n + 108) j (fun z => sSk_log n _ _ z (by omega))).2.2]
          exact (a9 j (by omega) hjb).1
    obtain ⟨d, rfl⟩ : ∃ d', d = d' + 1 := ⟨d - 1, by omega⟩
    by_cases cb : (b : Int) < s 0 1
    · refine s2_skill2 (d := d) hT a1 hG hO cb (by omega) (fun M6 k6 v6 e6 oth => ?_)
      rw [tb]
      exact nx (aSk n b) M6 k6 e6 (fun j hj hjb => oth j (by omega) (by omega) (a9 j hj hjb).2) (lySk_of hT.1 k6.1.1 (aSk_q (by omega))).1.1 (fun _ => ⟨rfl, v6⟩)
    · refine s2_skill0 (d := d) (b := 0) rfl cb (by omega) hT a1 hG hO (by omega) (by omega) (fun M6 k6 v6 e6 oth => ?_)
      rw [tb]
      refine nx (aSk n 0) M6 k6 e6 (fun j hj hjb => ?_) (lySk_of hT.1 k6.1.1 (aSk_q (by omega))).1.1 (fun q => absurd q cb)
      by_cases c0 : j = 0
      · rw [c0]; exact v6
      · exact oth j (by omega) c0 (a9 j hj hjb).2
end PL
