/-! ===== THE LOG ===== -/
section LG
variable {d : Nat} {Th : mT} {M : mM} {n m : Nat}
/-- an entry of the log: what 0, 1, 2; -1 for others -/
def eLog (s : mS) (i w : Int) : Int := if (0 ≤ i ∧ i < s 0 6) ∧ (0 ≤ w ∧ w ≤ 2) then s 9 (3 * i + w).toNat else -1
theorem s5_has {Q : Int32 → mM → Prop} {s : mS} {z : Int} (hT : Ly Th n) (hH : cLog n s M) (hG : rG s) (hz : rI z) (k1 : 0 ≤ z → z < s 0 6 → Q 1 M) (k0 : ¬ (0 ≤ z ∧ z < s 0 6) → Q 0 M) : P5_has (d + 1) Th (n + 105) (jI z) M Q := by
  obtain ⟨-, -, -, -, -, -, g, -⟩ := hG
  refine e5_has ?_
  simp only [i0, i40, hH.1, jIlt hz rI0, jIle (rI_of (z := s 0 6) (by omega) (by omega)) hz, jIle (rI_of (z := 40) (by omega) (by omega)) hz]
  by_cases c1 : z < 0
  · rw [if_pos c1]; exact k0 (by omega)
  · rw [if_neg c1]
    refine ⟨hT 105 _ rfl, ?_⟩
    by_cases c2 : s 0 6 ≤ z
    · simp only [if_pos c2]; exact ⟨mb0, k0 (by omega)⟩
    · simp only [if_neg c2, if_neg (show ¬ (40 : Int) ≤ z by omega)]; exact ⟨mb1, k1 (by omega) (by omega)⟩
theorem s5_entry {Q : Int32 → mM → Prop} {s : mS} {z w : Int} (hT : Ly Th n) (hR : Rf n M) (hH : cLog n s M) (hG : rG s) (hz : rI z) (hw : rI w) (k : Q (jI (eLog s z w)) M) : P5_entry (d + 2) Th (n + 105) (jI z) (jI w) M Q := by
  refine e5_entry ⟨hT 105 _ rfl, ?_⟩
  unfold eLog at k
  have g := hG.2.2.2.2.2.2.1
  refine s5_has hT hH hG hz (fun a1 a2 => ?_) (fun a => ?_)
  rotate_left
  · rw [if_pos rfl]
    rw [if_neg (fun h => a h.1)] at k
    exact k
  rw [if_neg (by decide)]
  refine s_within 0 2 rfl rfl rfl hw rI0 (rI_of (by omega) (by omega)) (fun a3 a4 => ?_) (fun a => ?_)
  rotate_left
  · rw [if_pos rfl]
    rw [if_neg (fun h => a h.2)] at k
    exact k
  rw [if_neg (by decide)]
  rw [if_pos ⟨⟨a1, a2⟩, a3, a4⟩] at k
  refine ⟨n + 106, hR 105 0 106 (by decide), ?_⟩
  rw [i3, jI_mul, jI_add, jInat (rI_of (by omega) (by omega)), hH.2]
  exact ⟨m_ok_jI (hT 106 _ rfl) (by omega) (by omega) (by omega), k⟩
end LG
