/-! ===== GIVEN: the class ===== -/
theorem gBst_ne (s : mS) (S n k : Nat) : (gBst s S n (k + 1)).1 ≠ -1 := by
  unfold gBst
  split
  · show ((mtR s n (drw S n k) : Nat) : Int) ≠ -1
    omega
  · intro h
    rename_i q
    exact q (Or.inl h)
theorem drw_lt {S n code i : Nat} (h : 0 < S) : drw S n code i < S := dgt_lt h
theorem drw_zero (S n i : Nat) : drw S n 0 i = 0 := by unfold drw dgt; rw [Nat.zero_div, Nat.zero_mod]
section GO
variable {d : Nat} {Th : mT} {M : mM} {n m : Nat} {s : mS}
theorem s6_meetingsOfRow {Q : Int32 → mM → Prop} {R S N : Nat} {f : Nat → Nat} (hT : Ly Th n) (hC : cGv n s R S M) (hG : rG s) (hS5 : S ≤ 5) (hN : N ≤ 5) (hf : ∀ i, f i < S)
    (hm : ∀ a b, a < S → b < S → M.1 (n + 102) (5 * a + b) = jI (mt s a b : Nat)) (hr : ∀ i, i < N → M.1 (n + 103) i = jI (f i : Nat)) (k : Q (jI (mtR s N f : Nat)) M) : P6_meetingsOfRow (d + 1) Th (n + 100) (jI N) M Q := by
  have g0 := hG.1
  have h1 : ∀ i k, mt s (f i) (f (i + 1 + k)) ≤ 4 := fun i k => Nat.le_trans (mtN_b _ _ _ _) (by omega)
  have inner : ∀ u j i, i + 1 + j + u = max N (i + 1) → i < N → (H6_meetingsOfRow_4 (d + 1) Th Q (n + 100) (jI N) (jI (sumN (fun i => sumN (fun k => mt s (f i) (f (i + 1 + k))) (N - (i + 1))) (i + 1) : Nat)) (jI ((i + 1 : Nat) : Int)) M) →
      H6_meetingsOfRow_14 (d + 1) Th Q (n + 100) (jI N) (jI (sumN (fun i => sumN (fun k => mt s (f i) (f (i + 1 + k))) (N - (i + 1))) i + sumN (fun k => mt s (f i) (f (i + 1 + k))) j : Nat)) (jI i) (jI ((i + 1 + j : Nat) : Int)) M := by
    intro u
    induction u with
    | zero =>
      intro j i hj hi kk
      refine h6_meetingsOfRow_14 ?_
      rw [if_pos (by rw [jIle (rI_nat (by omega)) (rI_nat (by omega))]; omega), jI_s]
      rw [show j = N - (i + 1) by omega]
      exact kk
    | succ u ih =>
      intro j i hj hi kk
      refine h6_meetingsOfRow_14 ?_
      have fi := hf i
      have fj := hf (i + 1 + j)
      rw [if_neg (by rw [jIle (rI_nat (by omega)) (rI_nat (by omega))]; omega)]
      refine ⟨hT 100 _ rfl, n + 102, hC.1 100 1 102 (by decide), n + 103, hC.1 100 2 103 (by decide), m_ok_jI (hT 103 _ rfl) (by omega) (by omega) (by omega), m_ok_jI (hT 103 _ rfl) (by omega) (by omega) (by omega), ?_⟩
      rw [jInatN _ (by omega), jInatN _ (by omega), hr i hi, hr (i + 1 + j) (by omega), show jI (f i : Nat) * 5 + jI (f (i + 1 + j) : Nat) = jI ((5 * f i + f (i + 1 + j) : Nat) : Int) by rw [i5, jI_mul, jI_add]; congr 1; omega]
      refine ⟨m_ok_jI (hT 102 _ rfl) (by omega) (by omega) (by omega), ?_⟩
      intro x hx
      rw [jInatN _ (by omega), hm _ _ fi fj, jI_add] at hx
      rw [hx, jI_s]
      have h := ih (j + 1) i (by omega) hi kk
      rw [show sumN (fun k => mt s (f i) (f (i + 1 + k))) (j + 1) = sumN (fun k => mt s (f i) (f (i + 1 + k))) j + mt s (f i) (f (i + 1 + j)) from rfl, ← Nat.add_assoc] at h
      exact h
  have outer : ∀ u i, i + u = N → H6_meetingsOfRow_4 (d + 1) Th Q (n + 100) (jI N) (jI (sumN (fun i => sumN (fun k => mt s (f i) (f (i + 1 + k))) (N - (i + 1))) i : Nat)) (jI i) M := by
    intro u
    induction u with
    | zero =>
      intro i hi
      refine h6_meetingsOfRow_4 ?_
      rw [if_pos (by rw [jIle (rI_nat (by omega)) (rI_nat (by omega))]; omega)]
      rw [show i = N by omega]
      exact k
    | succ u ih =>
      intro i hi
      refine h6_meetingsOfRow_4 ?_
      rw [if_neg (by rw [jIle (rI_nat (by omega)) (rI_nat (by omega))]; omega)]
      intro x hx
      rw [hx, jI_s]
      have h := inner (N - (i + 1)) 0 i (by omega) (by omega) (ih (i + 1) (by omega))
      exact h
  exact e6_meetingsOfRow (outer N 0 (by omega))
theorem s6_keepRow {Q : mM → Prop} {N : Nat} (hT : Ly Th n) (hR : Rf n M) (hN : N ≤ 5) (k : ∀ M', Eo (fun q _ => q = n + 104) M M' → (∀ i, i < N → M'.1 (n + 104) i = M.1 (n + 103) i) → Q M') : P6_keepRow (d + 1) Th (n + 100) (jI N) M Q := by
  have loop : ∀ u i (M1 : mM), i + u = N → Eo (fun q _ => q = n + 104) M M1 → (∀ j, j < i → M1.1 (n + 104) j = M.1 (n + 103) j) → H6_keepRow_2 (d + 1) Th Q (n + 100) (jI N) (jI i) M1 := by
    intro u
    induction u with
    | zero =>
      intro i M1 hi e1 h1
      refine h6_keepRow_2 ?_
      rw [if_pos (by rw [jIle (rI_nat (by omega)) (rI_nat (by omega))]; omega)]
      exact k M1 e1 (fun j hj => h1 j (by omega))
    | succ u ih =>
      intro i M1 hi e1 h1
      refine h6_keepRow_2 ?_
      rw [if_neg (by rw [jIle (rI_nat (by omega)) (rI_nat (by omega))]; omega)]
      refine ⟨hT 100 _ rfl, n + 104, ((e1 _ _ (by omega)).2.2).trans (hR 100 3 104 (by decide)), n + 103, ((e1 _ _ (by omega)).2.2).trans (hR 100 2 103 (by decide)), m_ok_jI (hT 103 _ rfl) (by omega) (by omega) (by omega), m_okw_jI (hT 104 _ rfl) (by omega) (by omega) (by omega), ?_⟩
      rw [jInatN _ (by omega), jI_s]
      refine ih (i + 1) _ (by omega) (e1.ui rfl) (fun j hj => ?_)
      show (if n + 104 = n + 104 ∧ j = i then _ else M1.1 (n + 104) j) = _
      by_cases c : j = i
      · rw [if_pos ⟨rfl, c⟩, c]; exact (e1 _ _ (by omega)).1
      · rw [if_neg (fun h => c h.2)]; exact h1 j (by omega)
  exact e6_keepRow (loop N 0 M (by omega) Eo.rf (fun j h => absurd h (by omega)))
theorem s6_nextRow {Q : mM → Prop} {R S N code : Nat} (hT : Ly Th n) (hC : cGv n s R S M) (hS : 0 < S) (hS5 : S ≤ 5) (hN : N ≤ 5) (hr : ∀ i, i < N → M.1 (n + 103) i = jI (drw S N code i : Nat))
    (k : ∀ M', Eo (fun q _ => q = n + 103) M M' → (∀ i, i < N → M'.1 (n + 103) i = jI (drw S N (code + 1) i : Nat)) → Q M') : P6_nextRow (d + 1) Th (n + 100) (jI N) M Q := by
  have loop : ∀ u (M1 : mM), u ≤ N → Eo (fun q _ => q = n + 103) M M1 → S ^ (N - u) ∣ code + 1 → (∀ i, i < u → M1.1 (n + 103) i = jI (drw S N code i : Nat)) → (∀ i, u ≤ i → i < N → M1.1 (n + 103) i = jI (drw S N (code + 1) i : Nat)) → H6_nextRow_4 (d + 1) Th Q (n + 100) (jI ((u : Int) - 1)) M1 := by
    intro u
    induction u with
    | zero =>
      intro M1 hu e1 hd h1 h2
      refine h6_nextRow_4 ?_
      rw [if_pos (by rw [jl0 (rI_of (by omega) (by omega))]; omega)]
      exact k M1 e1 (fun i hi => h2 i (by omega) hi)
    | succ u ih =>
      intro M1 hu e1 hd h1 h2
      rw [show ((u + 1 : Nat) : Int) - 1 = (u : Int) by omega]
      have hd' : S ^ (N - 1 - u) ∣ code + 1 := by rw [show N - 1 - u = N - (u + 1) by omega]; exact hd
      refine h6_nextRow_4 ?_
      rw [if_neg (by rw [jl0 (rI_nat (by omega))]; omega)]
      refine ⟨hT 100 _ rfl, n + 103, ((e1 _ _ (by omega)).2.2).trans (hC.1 100 2 103 (by decide)), m_ok_jI (hT 103 _ rfl) (by omega) (by omega) (by omega), m_okw_jI (hT 103 _ rfl) (by omega) (by omega) (by omega), ?_⟩
      intro M6 h6
      have lt : drw S N code u < S := drw_lt hS
      rw [jInatN _ (by omega), h1 u (by omega), jI_s] at h6
      rw [jInatN _ (by omega), show M6.1 (n + 100) 5 = jI (S : Int) by rw [h6]; simp [m_u]; exact ((e1 _ _ (by omega)).1).trans hC.2.1, show M6.1 (n + 103) u = jI ((drw S N code u + 1 : Nat) : Int) by rw [h6]; simp [m_u]]
      have e6 : Eo (fun q _ => q = n + 103) M M6 := by rw [h6]; exact e1.ui rfl
      have far : ∀ j, j ≠ u → M6.1 (n + 103) j = M1.1 (n + 103) j := fun j hj => by
        rw [h6]
        show (if n + 103 = n + 103 ∧ j = u then _ else M1.1 (n + 103) j) = _
        rw [if_neg (fun h => hj h.2)]
      by_cases c : drw S N code u + 1 < S
      · rw [if_neg (by rw [jIle (rI_nat (by omega)) (rI_nat (by omega))]; omega)]
        obtain ⟨q1, q2⟩ := dgt_up hS hd' c
        refine k M6 e6 (fun i hi => ?_)
        by_cases ci : i = u
        · rw [ci, h6]
          show (if n + 103 = n + 103 ∧ u = u then _ else _) = _
          rw [if_pos ⟨rfl, rfl⟩]
          unfold drw
          rw [q1]
        · rw [far i ci]
          by_cases cl : i < u
          · rw [h1 i (by omega)]
            unfold drw
            rw [q2 (N - 1 - i) (by omega)]
          · exact h2 i (by omega) hi
      · rw [if_pos (by rw [jIle (rI_nat (by omega)) (rI_nat (by omega))]; omega)]
        obtain ⟨q1, q2⟩ := dgt_wrap hS hd' c
        rw [show jI (u : Int) + (-1) = jI ((u : Int) - 1) by rw [iN, jI_add]; congr 1]
        refine ih _ (by omega) (e6.ui rfl) (by rw [show N - u = N - 1 - u + 1 by omega]; exact q2) (fun i hi => ?_) (fun i hi1 hi2 => ?_)
        · show (if n + 103 = n + 103 ∧ i = u then _ else M6.1 (n + 103) i) = _
          rw [if_neg (by omega), far i (by omega)]
          exact h1 i (by omega)
        · show (if n + 103 = n + 103 ∧ i = u then _ else M6.1 (n + 103) i) = _
          by_cases ci : i = u
          · rw [if_pos ⟨rfl, ci⟩, ci]
            unfold drw
            rw [q1]
            rfl
          · rw [if_neg (fun h => ci h.2), far i ci]
            exact h2 i (by omega) hi2
  refine e6_nextRow ?_
  intro x hx
  rw [hx, i1, jI_sub]
  exact loop N M (Nat.le_refl _) Eo.rf (by rw [Nat.sub_self, Nat.pow_zero]; exact Nat.one_dvd _) hr (fun i h1 h2 => by omega)
theorem s6_giveTo {Q : mM → Prop} {R S N : Nat} (hT : Ly Th n) (hC : cGv n s R S M) (hG : rG s) (hR : (s 0 0).toNat = R) (hR5 : R ≤ 5) (hS : 0 < S) (hS5 : S ≤ 5) (hN1 : 1 ≤ N) (hN : N ≤ 5)
    (k : ∀ M', Eo (sGv n) M M' → M'.1 (n + 100) 6 = jI (gBst s S N (S ^ N)).1 → (∀ i, i < N → M'.1 (n + 104) i = jI (drw S N (gBst s S N (S ^ N)).2 i : Nat)) → Q M') : P6_giveTo (d + 2) Th (n + 100) (jI N) M Q := by
  have hp : 1 ≤ S ^ N := Nat.pow_pos hS
  have p5 : S ^ N ≤ 3125 := Nat.le_trans (Nat.pow_le_pow_left hS5 N) (Nat.pow_le_pow_right (n := 5) (by omega) hN)
  have body : ∀ u code (M1 : mM), code + u = S ^ N → Eo (sGv n) M M1 → (∀ a b, a < S → b < S → M1.1 (n + 102) (5 * a + b) = jI (mt s a b : Nat)) → (∀ i, i < N → M1.1 (n + 103) i = jI (drw S N code i : Nat)) → M1.1 (n + 100) 6 = jI (gBst s S N code).1 → ((gBst s S N code).1 ≠ -1 → ∀ i, i < N → M1.1 (n + 104) i = jI (drw S N (gBst s S N code).2 i : Nat)) → H6_giveTo_54 (d + 2) Th Q (n + 100) (jI N) (jI ((S ^ N : Nat) : Int)) (jI code) M1 := by
    intro u
    induction u with
    | zero =>
      intro code M1 hcd e1 hm hr h6 hb
      refine h6_giveTo_54 ?_
      have hcd' : code = S ^ N := by omega
      rw [if_pos (by rw [jIle (rI_nat (by omega)) (rI_nat (by omega))]; omega)]
      rw [hcd'] at h6 hb
      refine k M1 e1 h6 (hb ?_)
      rw [show S ^ N = (S ^ N - 1) + 1 by omega]
      exact gBst_ne _ _ _ _
    | succ u ih =>
      intro code M1 hcd e1 hm hr h6 hb
      have C1 := hC.mv e1
      have mb := mtR_b hG hN (drw S N code)
      have bb := gBst_b hG (S := S) hN code
      refine h6_giveTo_54 ?_
      rw [if_neg (by rw [jIle (rI_nat (by omega)) (rI_nat (by omega))]; omega)]
      refine ⟨hT 100 _ rfl, ?_⟩
      refine s6_meetingsOfRow (f := drw S N code) (d := d) hT C1 hG hS5 hN (fun i => drw_lt hS) hm hr ?_
      have h95 : ∀ M2, Eo (sGv n) M M2 → (∀ q k, q = n + 102 ∨ q = n + 103 → M2.1 q k = M1.1 q k) → M2.1 (n + 100) 6 = jI (gBst s S N (code + 1)).1 → ((gBst s S N (code + 1)).1 ≠ -1 → ∀ i, i < N → M2.1 (n + 104) i = jI (drw S N (gBst s S N (code + 1)).2 i : Nat)) → H6_giveTo_95 (d + 2) Th Q (n + 100) (jI N) (jI ((S ^ N : Nat) : Int)) (jI code) M2 := by
        intro M2 e2 f2 z6 zb
        refine h6_giveTo_95 ⟨hT 100 _ rfl, ?_⟩
        refine s6_nextRow (d := d) (R := R) (S := S) (code := code) hT (hC.mv e2) hS hS5 hN (fun i hi => (f2 _ _ (Or.inr rfl)).trans (hr i hi)) (fun M3 e3 h3 => ?_)
        rw [jI_s]
        refine ih (code + 1) M3 (by omega) (e2.trans (e3.mono (fun q k h => by unfold sGv; omega))) (fun a b ha hb' => ?_) h3 ?_ (fun hne i hi => ?_)
        · rw [(e3 _ _ (by omega)).1, f2 _ _ (Or.inl rfl)]; exact hm a b ha hb'
        · rw [(e3 _ _ (by omega)).1]; exact z6
        · rw [(e3 _ _ (by omega)).1]; exact zb hne i hi
      have eB : gBst s S N (code + 1) = (if (gBst s S N code).1 = -1 ∨ (mtR s N (drw S N code) : Int) < (gBst s S N code).1 then ((mtR s N (drw S N code) : Int), code) else gBst s S N code) := rfl
      have take : ((gBst s S N code).1 = -1 ∨ (mtR s N (drw S N code) : Int) < (gBst s S N code).1) → H6_giveTo_84 (d + 2) Th Q (n + 100) (jI N) (jI ((S ^ N : Nat) : Int)) (jI code) (jI (mtR s N (drw S N code) : Nat)) M1 := by
        intro hc
        rw [if_pos hc] at eB
        refine h6_giveTo_84 ⟨hT 100 _ rfl, ?_⟩
        have e2 : Eo (sGv n) M (m_ui M1 (n + 100) 6 (jI (mtR s N (drw S N code) : Nat))) := e1.ui (Or.inl ⟨rfl, rfl⟩)
        refine s6_keepRow (d := d) hT (hC.mv e2).1 hN (fun M3 e3 h3 => ?_)
        refine h95 M3 (e2.trans (e3.mono (fun q k h => by unfold sGv; omega))) (fun q k h => ?_) ?_ (fun _ i hi => ?_)
        · rw [(e3 _ _ (by omega)).1]
          show (if q = n + 100 ∧ k = 6 then _ else M1.1 q k) = _
          rw [if_neg (by omega)]
        · rw [(e3 _ _ (by omega)).1, eB]
          show (if n + 100 = n + 100 ∧ 6 = 6 then _ else _) = _
          rw [if_pos ⟨rfl, rfl⟩]
        · rw [h3 i hi, eB]
          show (if n + 103 = n + 100 ∧ i = 6 then _ else M1.1 (n + 103) i) = _
          rw [if_neg (by omega)]
          exact hr i hi
      rw [h6]
      by_cases c1 : (gBst s S N code).1 = -1
      · rw [if_pos (by rw [c1]; rfl)]
        exact take (Or.inl c1)
      · rw [if_neg (by rw [jqN (rI_of (by omega) (by omega))]; exact c1)]
        by_cases c2 : (gBst s S N code).1 ≤ (mtR s N (drw S N code) : Int)
        · rw [if_pos (by rw [jIle (rI_of (by omega) (by omega)) (rI_nat (by omega))]; exact c2)]
          rw [if_neg (by omega)] at eB
          refine h95 M1 e1 (fun _ _ _ => rfl) (by rw [eB]; exact h6) (fun hne => ?_)
          rw [eB] at hne ⊢
          exact hb hne
        · rw [if_neg (by rw [jIle (rI_of (by omega) (by omega)) (rI_nat (by omega))]; exact c2)]
          exact take (Or.inr (by omega))
  have init : ∀ u i (M1 : mM), i + u = N → Eo (sGv n) M M1 → (∀ a b, a < S → b < S → M1.1 (n + 102) (5 * a + b) = jI (mt s a b : Nat)) → (∀ j, j < i → M1.1 (n + 103) j = 0) → H6_giveTo_19 (d + 2) Th Q (n + 100) (jI N) (jI ((S ^ i : Nat) : Int)) (jI i) M1 := by
    intro u
    induction u with
    | zero =>
      intro i M1 hi e1 hm hz
      have hiN : i = N := by omega
      subst hiN
      refine h6_giveTo_19 ?_
      rw [if_pos (by rw [jIle (rI_nat (by omega)) (rI_nat (by omega))]; omega)]
      refine ⟨hT 100 _ rfl, ?_⟩
      rw [i0]
      refine body (S ^ i) 0 _ (by omega) (e1.ui (Or.inl ⟨rfl, rfl⟩)) (fun a b ha hb => ?_) (fun j hj => ?_) ?_ (fun h => absurd rfl h)
      · show (if n + 102 = n + 100 ∧ _ then _ else M1.1 (n + 102) (5 * a + b)) = _
        rw [if_neg (by omega)]; exact hm a b ha hb
      · show (if n + 103 = n + 100 ∧ _ then _ else M1.1 (n + 103) j) = _
        rw [if_neg (by omega), hz j hj, drw_zero]; rfl
      · show (if n + 100 = n + 100 ∧ 6 = 6 then _ else _) = _
        rw [if_pos ⟨rfl, rfl⟩]; rfl
    | succ u ih =>
      intro i M1 hi e1 hm hz
      have C1 := hC.mv e1
      refine h6_giveTo_19 ?_
      rw [if_neg (by rw [jIle (rI_nat (by omega)) (rI_nat (by omega))]; omega)]
      refine ⟨hT 100 _ rfl, n + 103, C1.1 100 2 103 (by decide), m_okw_jI (hT 103 _ rfl) (by omega) (by omega) (by omega), ?_⟩
      intro M6 h6 x hx
      rw [jInatN _ (by omega)] at h6
      have e6 : Eo (sGv n) M M6 := by rw [h6]; exact e1.ui (Or.inr (by omega))
      rw [(hC.mv e6).2.1, jI_mul] at hx
      rw [hx, jI_s, show ((S ^ i : Nat) : Int) * (S : Int) = ((S ^ (i + 1) : Nat) : Int) by rw [Nat.pow_succ]; push_cast; rfl]
      refine ih (i + 1) M6 (by omega) e6 (fun a b ha hb => ?_) (fun j hj => ?_)
      · rw [h6]
        show (if n + 102 = n + 103 ∧ _ then _ else M1.1 (n + 102) (5 * a + b)) = _
        rw [if_neg (by omega)]; exact hm a b ha hb
      · rw [h6]
        show (if n + 103 = n + 103 ∧ j = i then _ else M1.1 (n + 103) j) = _
        by_cases c : j = i
        · rw [if_pos ⟨rfl, c⟩]
        · rw [if_neg (fun h => c h.2)]; exact hz j (by omega)
  refine e6_giveTo ⟨hT 100 _ rfl, ?_⟩
  refine s6_meetAll (d := d) hT hC hR hR5 hS5 (fun M1 e1 hm => ?_)
  intro x hx
  have ex : x = jI (N : Int) := by
    rw [hx]
    simp only [jl5 (rI_nat (k := N) (by omega))]
    by_cases q : (N : Int) < 5
    · simp only [if_pos q, jg0 (rI_nat (k := N) (by omega)), if_pos (show 0 < (N : Int) by omega)]
    · simp only [if_neg q]
      rw [if_pos (by decide), show N = 5 by omega]; rfl
  rw [ex, i0, i1]
  exact init N 0 M1 (by omega) (e1.mono (fun q k h => by unfold sGv; omega)) hm (fun j h => absurd h (by omega))
theorem s10_given {Q : Int32 → mM → Prop} {zn zw : Int} (hT : Ly Th n) (hR : Rf n M) (hO : cOrd n s M) (hG : rG s) (hn : rI zn) (hw : rI zw)
    (k0 : ¬ vGiv s zn zw → Q (-1) M) (k1 : vGiv s zn zw → ∀ M', Eo (sGv n) M M' → Q (jI (aGiv s zn.toNat zw)) M') : P10_given (d + 40) Th n (jI zn) (jI zw) M Q := by
  have g0 := hG.1
  have g5 := hG.2.2.2.2.2.1
  refine e10_given ?_
  refine s_within 2 5 rfl rfl rfl hn (rI_of (by omega) (by omega)) (rI_of (by omega) (by omega)) (fun a1 a2 => ?_) (fun a => ?_)
  rotate_left
  · rw [if_pos rfl]; exact k0 (fun h => a h.1)
  rw [if_neg (by decide)]
  refine s_within (-1) (zn - 1) rfl rfl (by rw [i1, jI_sub]) hw (rI_of (by omega) (by omega)) (rI_of (by omega) (by omega)) (fun a3 a4 => ?_) (fun a => ?_)
  rotate_left
  · rw [if_pos rfl]; exact k0 (fun h => a h.2.1)
  rw [if_neg (by decide)]
  refine ⟨hT 0 _ rfl, n + 100, hR 0 7 100 (by decide), hT 100 _ rfl, ?_⟩
  rw [hO.1]
  by_cases c : s 0 5 = 0
  · rw [if_pos (by rw [c]; rfl)]; exact k0 (fun h => h.2.2 c)
  rw [if_neg (by rw [jq0 (rI_of (by omega) (by omega))]; exact c)]
  have kk := k1 ⟨⟨a1, a2⟩, ⟨a3, a4⟩, c⟩
  obtain ⟨N, rfl⟩ : ∃ N : Nat, zn = N := ⟨zn.toNat, by omega⟩
  obtain ⟨S, hS⟩ : ∃ S : Nat, s 0 5 = S := ⟨(s 0 5).toNat, by omega⟩
  obtain ⟨R, hRr⟩ : ∃ R : Nat, s 0 0 = R := ⟨(s 0 0).toNat, by omega⟩
  have C : cGv n s R S M := ⟨hR, by rw [hO.1, hS], by rw [hO.2.1 (by omega), hRr], hO.2.2⟩
  refine s6_giveTo (d := d + 37) hT C hG (by omega) (by omega) (by omega) (by omega) (by omega) (by omega) (fun M1 e1 h6 h4 => ?_)
  have kk := kk M1 e1
  unfold aGiv at kk
  rw [Int.toNat_natCast, show (s 0 5).toNat = S by omega] at kk
  have C1 := C.mv e1
  by_cases w : zw = -1
  · rw [if_pos (by rw [w]; rfl)]
    rw [if_pos w] at kk
    refine ⟨n + 100, C1.1 0 7 100 (by decide), hT 100 _ rfl, ?_⟩
    rw [h6]
    exact kk
  · rw [if_neg (by rw [jqN hw]; exact w)]
    rw [if_neg w] at kk
    refine ⟨n + 100, C1.1 0 7 100 (by decide), hT 100 _ rfl, ?_⟩
    refine e6_rowOf ?_
    rw [if_neg (by rw [jl0 hw]; omega), if_neg (by rw [jh5 hw]; omega)]
    refine ⟨hT 100 _ rfl, n + 104, C1.1 100 3 104 (by decide), m_ok_jI (hT 104 _ rfl) (by omega) (by omega) (by omega), ?_⟩
    rw [jInat hw, h4 zw.toNat (by omega)]
    exact kk
end GO
