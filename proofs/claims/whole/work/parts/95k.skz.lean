/-! ===== the skill asked for a band that is not there: the first one's ===== -/
section SZ
variable {d : Nat} {Th : mT} {M : mM} {n : Nat} {s : mS}
theorem s2_skill0 {Q : Nat → mM → Prop} {b z : Nat} {c : Int} (hb0 : b = 0) (hz : ¬ (z : Int) < s 0 1) (hz5 : z < 5) (hT : gTh Th n) (hM : KM Th n s c M) (hG : rG s) (hO : rLw s) (hb : (b : Int) < s 0 1) (hd : 32 ≤ d)
    (K : ∀ M', KM Th n s c M' → vB n s b M' → Eo (sSk n) M M' → (∀ b', b' < 5 → b' ≠ b → vB n s b' M → vB n s b' M') → Q (aSk n b) M') : P2_skill (d + 1) Th (n + 3) (jI z) M Q := by
  have g0 := hG.1
  have g1 := hG.2.1
  have hM' := hM
  obtain ⟨hH, hc, hcb, hS⟩ := hM
  have hb5 : b < 5 := by omega
  obtain ⟨cb, s1, s2, s3, s4, s5⟩ := hS b hb5
  have hl := lySk_of hT.1 hH.1 (aSk_q hb5)
  obtain ⟨d, rfl⟩ : ∃ d', d = d' + 1 := ⟨d - 1, by omega⟩
  refine e2_skill ⟨hT.1 3 _ rfl, ?_⟩
  refine s2_hasBand (d := d) (b := (s 0 1).toNat) hT.1 (by rw [hH.2.2.1.2.1]; congr 1; omega) (by omega) (rI_nat (by omega)) (fun _ q => absurd q (by omega)) (fun _ => ?_)
  intro xv4 h4
  rw [if_pos rfl, show (0 : Int32) = jI (b : Int) by rw [hb0]; rfl] at h4
  subst h4
  refine ⟨n + 8, hH.1 3 6 8 (by decide), m_okO_jI (hT.1 8 _ rfl) (by omega) (by omega) (by omega), aSk n b, ?_, hl.1.1, ?_⟩
  · rw [jInatN b (by omega)]
    exact refs_skill hH.1 hb5
  rw [s1, hc]
  by_cases e : cb = c
  · rw [if_pos (by rw [e])]
    exact K M hM' (s4 e hb) Eo.rf (fun _ _ _ h => h)
  rw [if_neg (by rw [jIeq (rI_of (by omega) (by omega)) (rI_of (by omega) (by omega))]; exact e)]
  refine ⟨n + 12, hH.1 3 10 12 (by decide), m_ok_jI (hT.1 12 _ rfl) (by omega) (by omega) (by omega), ?_⟩
  rw [jInatN b (by omega), hH.2.2.1.2.2.2.2.2.2.2.1]
  refine s2_load (d := d) hT hH hG hO (aSk_q hb5) hb (by omega) ?_
  intro M14 e14 v14
  have c14 : M14.1 (n + 3) 4 = jI c := ((e14 _ _ (by unfold sLd sLaw aSk; omega)).1).trans hc
  rw [c14]
  have e15 : Eo (sSk n) M (m_ui M14 (aSk n b) 3 (jI c)) := (e14.mono (sLd_sk hb5)).trans (Eo.rf.ui (by right; unfold aSk; omega))
  have v15 : vB n s b (m_ui M14 (aSk n b) 3 (jI c)) := vSk.mv v14 (fun q' k h1 h2 => by simp only [m_u_ne (show q' ≠ aSk n b by omega)])
  have far : ∀ b', b' ≠ b → ∀ q' k, aSk n b' ≤ q' → q' ≤ aSk n b' + 3 → (m_ui M14 (aSk n b) 3 (jI c)).1 q' k = M.1 q' k := by
    intro b' eb q' k h1 h2
    have : q' ≠ aSk n b := by unfold aSk at *; omega
    simp only [m_u_ne this]
    exact (e14 _ _ (by unfold sLd sLaw; unfold aSk at *; omega)).1
  refine K _ ⟨hH.mvS hT e15 (sSk_rf n) sSk_h, ?_, hcb, ?_⟩ v15 e15 (fun b' hb' eb hv => vSk.mv hv (fun q' k a1 a2 => far b' eb q' k (by omega) (by omega)))
  · simp only [m_u_ne (show n + 3 ≠ aSk n b by unfold aSk; omega)]; exact c14
  · intro b' hb'
    by_cases eb : b' = b
    · subst eb
      exact ⟨c, by simp [m_u], by omega, by omega, fun _ _ => v15, fun _ => rfl⟩
    · obtain ⟨cb', t1, t2, t3, t4, t5⟩ := hS b' hb'
      exact ⟨cb', (far b' eb _ _ (by omega) (by omega)).trans t1, t2, t3, fun h1 h2 => vSk.mv (t4 h1 h2) (fun q' k a1 a2 => far b' eb q' k (by omega) (by omega)), t5⟩
end SZ
