/-! ===== DRAW: the class's own call ===== -/
section DC
variable {d : Nat} {Th : mT} {M : mM} {n m : Nat} {s : mS} {c : Int}
theorem fnd_0 (s : mS) : fnd s (fun _ => 0) = 0 := by
  unfold fnd
  have z : ∀ k, sumN (fun _ => if (0 : Nat) = 80 then 1 else 0) k = 0 := by
    intro k
    induction k with
    | zero => rfl
    | succ k ih =>
      show sumN _ k + _ = 0
      rw [ih]
      rfl
  exact z _
theorem s10_draw {Q : Int32 → mM → Prop} (hT : gTh Th n) (hM : KM Th n s c M) (hLg : cLog n s M) (hH : cHunt n s M) (hG : rG s) (hO : rLw s) (hL : rLg s) (hB : rB s)
    (kb : s 0 1 = 0 ∨ s 0 0 = 0 → Q (-1) M) (k : s 0 1 ≠ 0 → s 0 0 ≠ 0 → ∀ M', KM Th n (sDrw s) c M' → cLog n (sDrw s) M' → cHunt n (sDrw s) M' → Eo (sPl n) M M' → Q (jI (aDrw s : Nat)) M') : P10_draw (d + 51) Th n M Q := by
  have g0 := hG.1
  have g1 := hG.2.1
  have hR := hM.1.1
  have hI := hM.1.2.2.1
  refine e10_draw ⟨hT.1 0 _ rfl, n + 3, hR 0 1 3 (by decide), hT.1 3 _ rfl, ?_⟩
  rw [hI.2.1, hI.1]
  by_cases c1 : s 0 1 = 0
  · rw [if_pos (by rw [c1]; rfl)]; exact kb (Or.inl c1)
  rw [if_neg (by rw [jq0 (rI_of (by omega) (by omega))]; exact c1)]
  by_cases c0 : s 0 0 = 0
  · rw [if_pos (by rw [c0]; rfl)]; exact kb (Or.inr c0)
  rw [if_neg (by rw [jq0 (rI_of (by omega) (by omega))]; exact c0)]
  have kk := k c1 c0
  refine ⟨n + 107, hR 0 9 107 (by decide), hT.1 107 _ rfl, ?_⟩
  refine e3_play ⟨hT.1 107 _ rfl, n + 105, hR 107 1 105 (by decide), hT.1 105 _ rfl, ?_⟩
  refine e5_fall ⟨hT.1 105 _ rfl, ?_⟩
  intro M7 h7
  have e0 : Eo (sP2 n) M (m_ui M7 (n + 107) 9 1) := by
    rw [h7]
    exact Eo.ui (Eo.ui (Eo.ui Eo.rf (by unfold sP2 sHn; omega)) (by unfold sP2 sHn; omega)) (by unfold sP2; omega)
  have e0' : Eo (sPl n) M (m_ui M7 (n + 107) 9 1) := e0.mono (fun q j h => Or.inr h)
  have all := hOkk_all hG hO hL (by omega)
  refine s3_lay (d := d + 49) hT hG hO (by omega) (by omega) (fun M1 h1 e1 => ?_) 5 0 _ rfl ⟨hM.mvS hT e0 (sP2_rf n) sP2_k, ?_, fun j => ?_, ?_, ?_, ?_, fun j => ?_, fun j hj => absurd hj (by omega), fun j hj => absurd hj (by omega)⟩ Eo.rf
  · obtain ⟨a1, a2, a3, a4, a5, a6, a7, a8, a9⟩ := h1
    have kh : cHu Th n (s8 (hAll s 0).1 1) (hAll s 0).2 c M1 := by
      refine ⟨a1, ⟨a2, a3⟩, ⟨a5, a6, fun j => ?_⟩, fun b hb => ?_, fun b hb => ?_, ?_⟩
      · rw [a7 j]
        show _ = jI 0
        by_cases q : j < 5
        · rw [if_pos q]
        · rw [if_neg q, hB j (by omega)]
      · have hb' : (b : Int) < s 0 1 := hb
        exact a9 b (by omega) hb'
      · have hb' : (b : Int) < s 0 1 := hb
        obtain ⟨y1, y2, y3⟩ := a8 b (by omega)
        show cHb n 0 b M1
        exact ⟨0, 0, 0, y1, y2, y3, Or.inr ⟨by decide, by decide, Or.inl ⟨rfl, by decide, by omega⟩⟩⟩
      · rw [a4, show fnd (s8 (hAll s 0).1 1) (hAll s 0).2 = 0 from fnd_0 _]; rfl
    refine s3_ticks (M := M1) (d := d + 40) hT hG hO hL (by omega) (fun M2 k2 e2 => ?_) 10 0 M1 rfl kh Eo.rf
    exact kk M2 k2.1 k2.2.1 k2.2.2.1 (e0'.trans (e1.trans (e2.mono (fun q j h => Or.inr (Or.inl h)))))
  · rw [h7]; simp [m_u]
  · rw [h7]; have := hLg.2 j; simp [m_u]; exact this
  · rw [h7]; simp [m_u]
  · rw [h7]; have := hH.1; simp [m_u]; exact this
  · rw [h7]; simp [m_u]
  · rw [if_neg (by omega), h7]; have := hH.2.2 j; simp [m_u]; exact this
end DC
