/-! ===== ORDER: model ===== -/
section OM
variable {d : Nat} {Th : mT} {M : mM} {n m : Nat} {s : mS}
theorem s11_order {Q : Int32 → mM → Prop} (hT : LyM Th m) (hR : RfM m M) (hI : mHill m s M) (hH : mTape m s M) (hO : mOrd m s M) (hG : rG s)
    (kb : ¬ vOrd s → Q (-1) M) (k0 : vOrd s → obad s (s 0 0).toNat = true → ∀ M', mOrd m s M' → M'.1 m 12 = 0 → Eo (sOm m) M M' → Q (-2) M')
    (k1 : vOrd s → obad s (s 0 0).toNat = false → ∀ M', mOrd m (sOrd s) M' → M'.1 m 12 = 0 → Eo (sOm m) M M' → Q (jI (s 0 5)) M') : P11_order (d + 40) Th m M Q := by
  have g0 := hG.1
  have g4 := hG.2.2.2.2.1
  have g5 := hG.2.2.2.2.2.1
  have g7 := hG.2.2.2.2.2.2.2.2.2.2.2.2.2.2.2.2
  refine e11_order ⟨hT 0 _ rfl, ?_⟩
  rw [hI.1, hO.1, hH.1]
  by_cases c0 : s 0 0 = 0
  · rw [if_pos (by rw [c0]; rfl)]; exact kb (fun h => h.1 c0)
  rw [if_neg (by rw [jq0 (rI_of (by omega) (by omega))]; exact c0)]
  by_cases c5 : s 0 5 = 5
  · rw [if_pos (by rw [jq5 (rI_of (by omega) (by omega))]; exact c5)]; exact kb (fun h => by have := h.2.1; omega)
  rw [if_neg (by rw [jq5 (rI_of (by omega) (by omega))]; exact c5)]
  by_cases c4 : s 0 0 ≤ s 0 4
  rotate_left
  · rw [if_neg (by rw [jIle (rI_of (by omega) (by omega)) (rI_of (by omega) (by omega))]; exact c4)]; exact kb (fun h => c4 h.2.2)
  rw [if_pos (by rw [jIle (rI_of (by omega) (by omega)) (rI_of (by omega) (by omega))]; exact c4)]
  have v : vOrd s := ⟨c0, by omega, c4⟩
  obtain ⟨R, hRr⟩ : ∃ R : Nat, s 0 0 = R := ⟨(s 0 0).toNat, by omega⟩
  obtain ⟨S, hS⟩ : ∃ S : Nat, s 0 5 = S := ⟨(s 0 5).toNat, by omega⟩
  generalize hM1 : m_ui M m 12 0 = M1
  have e1 : Eo (sOm m) M M1 := by rw [← hM1]; exact Eo.rf.ui (Or.inl ⟨rfl, Or.inl rfl⟩)
  have f0 : M1.1 m 0 = jI (R : Int) := by rw [← hM1]; simp [m_u, hI.1, hRr]
  have f12 : M1.1 m 12 = 0 := by rw [← hM1]; simp [m_u]
  have f56 : M1.1 m 56 = jI (S : Int) := by rw [← hM1]; simp [m_u, hO.1, hS]
  have f8 : ∀ k, M1.1 (m + 32) k = jI (s 8 k) := fun k => by rw [← hM1]; simp [m_u, hO.2]
  have f7 : ∀ k, M1.1 (m + 7) k = jI (sB (s 7 k)) := fun k => by rw [← hM1]; simp [m_u, hH.2]
  have R1 : RfM m M1 := fun o k v h => by rw [← hM1]; exact hR o k v h
  have write : obad s R = false → ∀ u j (M2 : mM), j + u = R → Eo (sOm m) M M2 → RfM m M2 → (∀ k, M2.1 (m + 7) k = jI (sB (s 7 k))) → M2.1 m 0 = jI (R : Int) → M2.1 m 12 = 0 → M2.1 m 56 = jI (S : Int) → (∀ k, M2.1 (m + 32) k = jI (if 5 * S ≤ k ∧ k < 5 * S + j then s 7 (k - 5 * S) else s 8 k)) →
      H11_order_101 (d + 40) Th Q m (jI j) M2 := by
    intro hb u
    induction u with
    | zero =>
      intro j M2 hj e2 R2 t7 q0 q12 q56 q8
      refine h11_order_101 ⟨hT 0 _ rfl, ?_⟩
      rw [q0, if_pos (by rw [jIle (rI_nat (by omega)) (rI_nat (by omega))]; omega)]
      intro M3 h3
      rw [q56, i1, jI_add] at h3
      rw [show M3.1 m 56 - 1 = jI (s 0 5) by rw [h3]; rw [show (m_ui M2 m 56 (jI ((S : Int) + 1))).1 m 56 = jI ((S : Int) + 1) by simp [m_u], i1, jI_sub]; congr 1; omega]
      refine k1 v (by rw [hRr]; exact hb) _ ?_ (by rw [h3]; simp [m_u, q12]) (by rw [h3]; exact Eo.ui (S := sOm m) e2 (Or.inl ⟨rfl, Or.inr rfl⟩))
      refine ⟨?_, ?_⟩
      · rw [show sOrd s 0 5 = s 0 5 + 1 from rfl, h3, hS]; simp [m_u]
      · intro k
        rw [h3]
        have : (m_ui M2 m 56 (jI ((S : Int) + 1))).1 (m + 32) k = M2.1 (m + 32) k := by simp [m_u]
        rw [this, q8 k]
        show _ = jI (if 5 * (s 0 5).toNat ≤ k ∧ k < 5 * (s 0 5).toNat + (s 0 0).toNat then s 7 (k - 5 * (s 0 5).toNat) else s 8 k)
        rw [hS, hRr, Int.toNat_natCast, Int.toNat_natCast, show j = R by omega]
    | succ u ih =>
      intro j M2 hj e2 R2 t7 q0 q12 q56 q8
      refine h11_order_101 ⟨hT 0 _ rfl, ?_⟩
      rw [q0, if_neg (by rw [jIle (rI_nat (by omega)) (rI_nat (by omega))]; omega)]
      rw [q56, show (5 : Int32) * jI (S : Int) + jI (j : Int) = jI ((5 * S + j : Nat) : Int) by rw [i5, jI_mul, jI_add]; congr 1]
      refine ⟨m + 32, R2 0 57 32 (by decide), m + 7, R2 0 11 7 (by decide), m_ok_jI (hT 7 _ rfl) (by omega) (by omega) (by omega), m_okw_jI (hT 32 _ rfl) (by omega) (by omega) (by omega), ?_⟩
      have lt := obad_in hb j (by omega)
      have b7 := g7 j
      rw [jInatN _ (by omega), jInatN _ (by omega), t7 j, show sB (s 7 j) = s 7 j by unfold sB; rw [if_pos (by omega)], jI_s]
      refine ih (j + 1) _ (by omega) (Eo.ui (S := sOm m) e2 (Or.inr rfl)) (fun o k v h => R2 o k v h) (fun k => by simp [m_u, t7]) (by simp [m_u, q0]) (by simp [m_u, q12]) (by simp [m_u, q56]) (fun k => ?_)
      show (if m + 32 = m + 32 ∧ k = 5 * S + j then _ else M2.1 (m + 32) k) = _
      by_cases c : k = 5 * S + j
      · rw [if_pos ⟨rfl, c⟩, if_pos (by omega), c]; congr 2; omega
      · rw [if_neg (fun h => c h.2), q8 k]
        by_cases c2 : 5 * S ≤ k ∧ k < 5 * S + j
        · rw [if_pos c2, if_pos (by omega)]
        · rw [if_neg c2, if_neg (by omega)]
  have loop : ∀ u j, j + u = R → H11_order_37 (d + 40) Th Q m (jI ((omk s j : Nat) : Int)) (jI j) M1 := by
    intro u
    induction u with
    | zero =>
      intro j hj
      have hjR : j = R := by omega
      refine h11_order_37 ⟨hT 0 _ rfl, ?_⟩
      rw [f0, if_pos (by rw [jIle (rI_nat (by omega)) (rI_nat (by omega))]; omega)]
      have eg := pc_g ⟨R, by omega⟩
      simp only at eg
      rw [eg]
      have fl := omk_full hG
      rw [hRr, Int.toNat_natCast] at fl
      have m32 := omk_32 hG j
      have p32 : 2 ^ R ≤ 32 := Nat.pow_le_pow_right (n := 2) (by omega) (show R ≤ 5 by omega)
      subst hjR
      by_cases q : omk s j = 2 ^ j - 1
      · rw [if_pos (by rw [q]), i0]
        exact write (fl.mp q) j 0 M1 (by omega) e1 R1 f7 f0 f12 f56 (fun k => by rw [f8 k, if_neg (by omega)])
      · rw [if_neg (by rw [jIeq (rI_nat (by omega)) (rI_nat (by omega))]; omega)]
        refine k0 v (by rw [hRr, Int.toNat_natCast]; cases hb : obad s j; exact absurd (fl.mpr hb) q; rfl) M1 ⟨by rw [f56, hS], f8⟩ f12 e1
    | succ u ih =>
      intro j hj
      refine h11_order_37 ⟨hT 0 _ rfl, ?_⟩
      rw [f0, if_neg (by rw [jIle (rI_nat (by omega)) (rI_nat (by omega))]; omega)]
      have b7 := g7 j
      have m32 := omk_32 hG j
      refine ⟨m + 7, R1 0 11 7 (by decide), m_ok_jI (hT 7 _ rfl) (by omega) (by omega) (by omega), ?_⟩
      rw [jInatN _ (by omega), f7 j, jI_s]
      have nx := ih (j + 1) (by omega)
      rw [show omk s (j + 1) = (if s 7 j < s 0 0 then omk s j ||| 1 <<< (s 7 j).toNat else omk s j) from rfl] at nx
      by_cases q : s 7 j < s 0 0
      · rw [if_pos q] at nx
        rw [show sB (s 7 j) = s 7 j by unfold sB; rw [if_pos (by omega)]]
        rw [if_neg (by rw [jl0 (rI_of (by omega) (by omega))]; omega), if_neg (by rw [jIle (rI_nat (by omega)) (rI_of (by omega) (by omega))]; omega)]
        intro x hx
        have ef := pc_f ⟨omk s j, m32⟩ ⟨(s 7 j).toNat, by omega⟩
        simp only [show (((s 7 j).toNat : Nat) : Int) = s 7 j by omega] at ef
        rw [ef] at hx
        rw [hx]
        exact nx
      · rw [if_neg q] at nx
        by_cases c : s 7 j < 128
        · rw [show sB (s 7 j) = s 7 j by unfold sB; rw [if_pos c]]
          rw [if_neg (by rw [jl0 (rI_of (by omega) (by omega))]; omega), if_pos (by rw [jIle (rI_nat (by omega)) (rI_of (by omega) (by omega))]; omega)]
          exact nx
        · rw [show sB (s 7 j) = s 7 j - 256 by unfold sB; rw [if_neg c]]
          rw [if_pos (by rw [jl0 (rI_of (by omega) (by omega))]; omega)]
          exact nx
  exact loop R 0 (by omega)
end OM
