/-! ===== DRAW: the class's steps ===== -/
section HC
variable {d : Nat} {Th : mT} {M : mM} {n m : Nat} {s : mS}
theorem cLog_add {b r t : Nat} (h : cLog n s M) (h0 : 0 ≤ s 0 6) : cLog n (sAdd s b r t) (u5_add n M (s 0 6).toNat (jI b) (jI r) (jI t)) := by
  refine ⟨?_, fun k => ?_⟩
  · show _ = jI (s 0 6 + 1)
    unfold u5_add
    simp [m_u]
    congr 1
    omega
  · rw [sAdd_9]
    unfold u5_add
    by_cases c0 : k = 3 * (s 0 6).toNat
    · rw [if_pos c0, c0]; simp [m_u]
    · rw [if_neg c0]
      by_cases c1 : k = 3 * (s 0 6).toNat + 1
      · rw [if_pos c1, c1]; simp [m_u]
      · rw [if_neg c1]
        by_cases c2 : k = 3 * (s 0 6).toNat + 2
        · rw [if_pos c2, c2]; simp [m_u]
        · rw [if_neg c2]; simp [m_u, c0, c1, c2, h.2]
theorem s3_begin {Q : mM → Prop} {b r t : Nat} (hT : Ly Th n) (hR : Rf n M) (hI : cHill n s M) (hH : cLog n s M) (hG : rG s) (hl : s 0 6 < 40) (hb : (b : Int) < s 0 1) (hr : (r : Int) < s 0 0) (h9 : M.1 (n + 109) b = jI r)
    (k : ∀ M', cLog n (sAdd s b r t) M' → M'.1 (n + 110) b = 1 → M'.1 (n + 111) b = jI (wK s b r) → Eo (fun q j => (q = n + 105 ∧ j = 1) ∨ q = n + 106 ∨ (q = n + 110 ∧ j = b) ∨ (q = n + 111 ∧ j = b)) M M' → Q M') : P3_begin (d + 3) Th (n + 107) (jI b) (jI t) M Q := by
  have g0 := hG.1
  have g1 := hG.2.1
  have g6 := hG.2.2.2.2.2.2.1
  have tb : Int32.toNatClampNeg (jI (b : Int)) = b := jInatN b (by omega)
  refine e3_begin ⟨hT 107 _ rfl, n + 105, hR 107 1 105 (by decide), n + 109, hR 107 3 109 (by decide), m_ok_jI (hT 109 _ rfl) (by omega) (by omega) (by omega), hT 105 _ rfl, ?_⟩
  rw [tb, h9]
  refine s5_add (d := d + 1) (l := (s 0 6).toNat) hT hR (by rw [hH.1]; congr 1; omega) (by omega) ?_
  have kA := cLog_add (b := b) (r := r) (t := t) hH g6.1
  have eA : Eo (fun q j => (q = n + 105 ∧ j = 1) ∨ q = n + 106 ∨ (q = n + 110 ∧ j = b) ∨ (q = n + 111 ∧ j = b)) M (u5_add n M (s 0 6).toNat (jI b) (jI r) (jI t)) := by
    unfold u5_add
    exact Eo.ui (Eo.ui (Eo.ui (Eo.ui Eo.rf (Or.inr (Or.inl rfl))) (Or.inr (Or.inl rfl))) (Or.inr (Or.inl rfl))) (Or.inl ⟨rfl, rfl⟩)
  generalize u5_add n M (s 0 6).toNat (jI (b : Int)) (jI (r : Int)) (jI (t : Int)) = M7 at kA eA ⊢
  have x : ∀ j, M7.2.2 (n + 107) j = M.2.2 (n + 107) j := fun j => (eA _ _ (by omega)).2.2
  refine ⟨n + 110, (x 4).trans (hR 107 4 110 (by decide)), m_okw_jI (hT 110 _ rfl) (by omega) (by omega) (by omega), n + 111, (x 5).trans (hR 107 5 111 (by decide)), n + 3, (x 0).trans (hR 107 0 3 (by decide)), n + 109, (x 3).trans (hR 107 3 109 (by decide)), m_ok_jI (hT 109 _ rfl) (by omega) (by omega) (by omega), ?_⟩
  intro M20 h20
  have e20 : Eo (fun q j => (q = n + 105 ∧ j = 1) ∨ q = n + 106 ∨ (q = n + 110 ∧ j = b) ∨ (q = n + 111 ∧ j = b)) M M20 := by rw [h20]; exact Eo.ui eA (Or.inr (Or.inr (Or.inl ⟨rfl, rfl⟩)))
  refine ⟨hT 3 _ rfl, ?_⟩
  rw [(e20 (n + 109) b (by omega)).1, h9]
  refine s2_steps (d := d) (s := s) hT (fun o j v hv => by rw [(e20 _ _ (by simp [rsA] at hv; omega)).2.2]; exact hR o j v hv) (hI.mv (fun q j h => (e20 _ _ (by omega)).1)) hG hb hr ?_
  refine ⟨m_okw_jI (hT 111 _ rfl) (by omega) (by omega) (by omega), ?_⟩
  refine k _ ?_ ?_ ?_ (Eo.ui e20 (Or.inr (Or.inr (Or.inr ⟨rfl, rfl⟩))))
  · rw [h20]
    exact ⟨by have := kA.1; simp [m_u]; exact this, fun j => by have := kA.2 j; simp [m_u]; exact this⟩
  · rw [h20]; simp [m_u]
  · simp [m_u]
/-- a step of a walk: it goes on, is there, or has the box -/
theorem s3_step {Q : mM → Prop} {b r k t : Nat} {f : Int} (hT : Ly Th n) (hR : Rf n M) (h0 : M.1 (n + 3) 0 = jI (s 0 0)) (hG : rG s) (hb : b < 5) (hr : (r : Int) < s 0 0) (hk : 1 ≤ k ∧ k ≤ 6) (h9 : M.1 (n + 109) b = jI r) (h11 : M.1 (n + 111) b = jI k) (h7 : M.1 (n + 107) 7 = jI f)
    (kA : 1 < k → Q (m_ui M (n + 111) b (jI ((k - 1 : Nat) : Int))))
    (kB : k = 1 → ((r + 1 : Nat) : Int) < s 0 0 → Q (m_ui (m_ui (m_ui (m_ui M (n + 111) b 0) (n + 109) b (jI ((r + 1 : Nat) : Int))) (n + 111) b 0) (n + 110) b 0))
    (kC : k = 1 → ((r + 1 : Nat) : Int) = s 0 0 → Q (m_ui (m_ui (m_ui (m_ui (m_ui (m_ui (m_ui M (n + 111) b 0) (n + 109) b (jI ((r + 1 : Nat) : Int))) (n + 111) b 0) (n + 110) b 0) (n + 110) b 3) (n + 112) b (jI t)) (n + 107) 7 (jI (f + 1)))) : P3_step (d + 1) Th (n + 107) (jI b) (jI t) M Q := by
  have g0 := hG.1
  have tb : Int32.toNatClampNeg (jI (b : Int)) = b := jInatN b (by omega)
  refine e3_step ⟨hT 107 _ rfl, n + 111, hR 107 5 111 (by decide), m_ok_jI (hT 111 _ rfl) (by omega) (by omega) (by omega), m_okw_jI (hT 111 _ rfl) (by omega) (by omega) (by omega), ?_⟩
  intro M6 h6
  rw [tb, h11, show jI (k : Int) - 1 = jI ((k - 1 : Nat) : Int) by rw [i1, jI_sub]; congr 1; omega] at h6
  rw [tb, show M6.1 (n + 111) b = jI ((k - 1 : Nat) : Int) by rw [h6]; simp [m_u]]
  by_cases c : 1 < k
  · rw [if_neg (by rw [je0 (rI_nat (by omega))]; omega), h6]
    exact kA c
  have k1 : k = 1 := by omega
  subst k1
  rw [if_pos (by decide)]
  refine ⟨n + 109, hR 107 3 109 (by decide), m_ok_jI (hT 109 _ rfl) (by omega) (by omega) (by omega), m_okw_jI (hT 109 _ rfl) (by omega) (by omega) (by omega), ?_⟩
  intro M11 h11'
  rw [show M6.1 (n + 109) b = jI (r : Int) by rw [h6]; simp [m_u, h9], jI_s] at h11'
  refine ⟨n + 110, hR 107 4 110 (by decide), m_okw_jI (hT 110 _ rfl) (by omega) (by omega) (by omega), ?_⟩
  intro M15 h15 M16 h16
  refine ⟨n + 3, hR 107 0 3 (by decide), hT 3 _ rfl, ?_⟩
  rw [show M16.1 (n + 109) b = jI ((r + 1 : Nat) : Int) by rw [h16, h15, h11']; simp [m_u], show M16.1 (n + 3) 0 = jI (s 0 0) by rw [h16, h15, h11', h6]; simp [m_u, h0]]
  have e6 : M6 = m_ui M (n + 111) b 0 := by rw [h6]; rfl
  by_cases q : ((r + 1 : Nat) : Int) < s 0 0
  · rw [if_pos (by rw [jIlt (rI_nat (by omega)) (rI_of (by omega) (by omega))]; exact q), h16, h15, h11', e6]
    exact kB rfl q
  · rw [if_neg (by rw [jIlt (rI_nat (by omega)) (rI_of (by omega) (by omega))]; exact q)]
    refine ⟨n + 112, hR 107 6 112 (by decide), m_okw_jI (hT 112 _ rfl) (by omega) (by omega) (by omega), ?_⟩
    intro M23 h23 M24 h24
    rw [show M24.1 (n + 107) 7 = jI f by rw [h24, h23, h16, h15, h11', h6]; simp [m_u, h7], show jI f + 1 = jI (f + 1) by rw [i1, jI_add], h24, h23, h16, h15, h11', e6]
    exact kC rfl (by omega)
end HC
