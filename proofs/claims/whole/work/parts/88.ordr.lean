/-! ===== ORDER: both sides ===== -/
def pc5 (m : Nat) : Nat := (if m.testBit 0 then 1 else 0) + (if m.testBit 1 then 1 else 0) + (if m.testBit 2 then 1 else 0) + (if m.testBit 3 then 1 else 0) + (if m.testBit 4 then 1 else 0)
theorem pc_a : ∀ (m : Fin 32) (b : Fin 5), m.val.testBit b.val = false → pc5 (m.val ||| 1 <<< b.val) = pc5 m.val + 1 := by decide +kernel
theorem pc_b : ∀ (m : Fin 32) (b : Fin 5), m.val.testBit b.val = true → (m.val ||| 1 <<< b.val) = m.val := by decide +kernel
theorem pc_c : ∀ (r : Fin 6) (m : Fin 32) (b : Fin 5), m.val < 2 ^ r.val → b.val < r.val → (m.val ||| 1 <<< b.val) < 2 ^ r.val := by decide +kernel
theorem pc_d : ∀ (r : Fin 6) (m : Fin 32), m.val < 2 ^ r.val → (pc5 m.val = r.val ↔ m.val = 2 ^ r.val - 1) := by decide +kernel
theorem pc_e : ∀ (m : Fin 32) (b : Fin 5), ((jI (m.val : Int) >>> (jI (b.val : Int) &&& 31)) &&& 1 = 1) = (m.val.testBit b.val = true) := by decide +kernel
theorem pc_f : ∀ (m : Fin 32) (b : Fin 5), (jI (m.val : Int) ||| (1 <<< (jI (b.val : Int) &&& 31))) = jI ((m.val ||| 1 <<< b.val : Nat) : Int) := by decide +kernel
theorem pc_g : ∀ r : Fin 6, (1 <<< (jI (r.val : Int) &&& 31)) - 1 = jI ((2 ^ r.val - 1 : Nat) : Int) := by decide +kernel
/-- what was told of the riddles -/
def omk (s : mS) : Nat → Nat
  | 0 => 0
  | k + 1 => if s 7 k < s 0 0 then omk s k ||| 1 <<< (s 7 k).toNat else omk s k
def obad (s : mS) : Nat → Bool
  | 0 => false
  | k + 1 => obad s k || !decide (s 7 k < s 0 0) || (omk s k).testBit (s 7 k).toNat
theorem omk_b {s : mS} (hG : rG s) (k : Nat) : omk s k < 2 ^ (s 0 0).toNat := by
  have g0 := hG.1
  have g7 := hG.2.2.2.2.2.2.2.2.2.2.2.2.2.2.2.2
  have le : 2 ^ (s 0 0).toNat ≤ 32 := Nat.pow_le_pow_right (n := 2) (by omega) (show (s 0 0).toNat ≤ 5 by omega)
  induction k with
  | zero => exact Nat.pos_of_ne_zero (by have : 2 ^ (s 0 0).toNat ≠ 0 := by simp
                                         exact this)
  | succ k ih =>
    unfold omk
    by_cases c : s 7 k < s 0 0
    · rw [if_pos c]
      have := (g7 k).1
      exact pc_c ⟨(s 0 0).toNat, by omega⟩ ⟨omk s k, by omega⟩ ⟨(s 7 k).toNat, by omega⟩ ih (by show (s 7 k).toNat < (s 0 0).toNat; omega)
    · rw [if_neg c]; exact ih
theorem omk_32 {s : mS} (hG : rG s) (k : Nat) : omk s k < 32 := by
  have g0 := hG.1
  have le : 2 ^ (s 0 0).toNat ≤ 32 := Nat.pow_le_pow_right (n := 2) (by omega) (show (s 0 0).toNat ≤ 5 by omega)
  have := omk_b hG k
  omega
theorem omk_pc {s : mS} (hG : rG s) (k : Nat) : (obad s k = false → pc5 (omk s k) = k) ∧ (obad s k = true → pc5 (omk s k) < k) := by
  have g0 := hG.1
  have g7 := hG.2.2.2.2.2.2.2.2.2.2.2.2.2.2.2.2
  induction k with
  | zero => exact ⟨fun _ => (by show pc5 0 = 0; decide), fun h => absurd h (show ¬ (false = true) by decide)⟩
  | succ k ih =>
    have m32 := omk_32 hG k
    have b7 := (g7 k).1
    rw [show obad s (k + 1) = (obad s k || !decide (s 7 k < s 0 0) || (omk s k).testBit (s 7 k).toNat) from rfl, show omk s (k + 1) = (if s 7 k < s 0 0 then omk s k ||| 1 <<< (s 7 k).toNat else omk s k) from rfl]
    by_cases c : s 7 k < s 0 0
    · rw [if_pos c]
      have ea := pc_a ⟨omk s k, m32⟩ ⟨(s 7 k).toNat, by omega⟩
      have eb := pc_b ⟨omk s k, m32⟩ ⟨(s 7 k).toNat, by omega⟩
      simp only at ea eb
      simp only [decide_eq_true c, Bool.not_true, Bool.or_false]
      cases hb : obad s k
      · cases ht : (omk s k).testBit (s 7 k).toNat
        · rw [ea ht, ih.1 hb]
          exact ⟨fun _ => rfl, fun h => absurd h (by decide)⟩
        · rw [eb ht, ih.1 hb]
          exact ⟨fun h => absurd h (by decide), fun _ => by omega⟩
      · refine ⟨fun h => absurd h (by simp), fun _ => ?_⟩
        have := ih.2 hb
        cases ht : (omk s k).testBit (s 7 k).toNat
        · rw [ea ht]; omega
        · rw [eb ht]; omega
    · rw [if_neg c]
      simp only [decide_eq_false c, Bool.not_false, Bool.or_true, Bool.true_or]
      refine ⟨fun h => absurd h (by decide), fun _ => ?_⟩
      cases hb : obad s k
      · rw [ih.1 hb]; omega
      · have := ih.2 hb; omega
theorem omk_full {s : mS} (hG : rG s) : omk s (s 0 0).toNat = 2 ^ (s 0 0).toNat - 1 ↔ obad s (s 0 0).toNat = false := by
  have g0 := hG.1
  have h := omk_pc hG (s 0 0).toNat
  have e := pc_d ⟨(s 0 0).toNat, by omega⟩ ⟨omk s (s 0 0).toNat, omk_32 hG _⟩ (omk_b hG _)
  simp only at e
  rw [← e]
  cases hb : obad s (s 0 0).toNat
  · exact ⟨fun _ => rfl, fun _ => h.1 hb⟩
  · have := h.2 hb
    exact ⟨fun q => by omega, fun q => absurd q (by decide)⟩
theorem obad_up {s : mS} {k : Nat} (h : obad s k = true) (j : Nat) : obad s (k + j) = true := by
  induction j with
  | zero => exact h
  | succ j ih =>
    show (obad s (k + j) || _ || _) = true
    rw [ih]
    rfl
theorem obad_in {s : mS} {k : Nat} (h : obad s k = false) (j : Nat) (hj : j < k) : s 7 j < s 0 0 := by
  induction k with
  | zero => omega
  | succ k ih =>
    unfold obad at h
    rw [Bool.or_eq_false_iff, Bool.or_eq_false_iff] at h
    by_cases c : j = k
    · subst c
      have := h.1.2
      by_cases q : s 7 j < s 0 0
      · exact q
      · rw [decide_eq_false q] at this
        exact absurd this (by decide)
    · exact ih h.1.1 (by omega)
def vOrd (s : mS) : Prop := s 0 0 ≠ 0 ∧ s 0 5 < 5 ∧ s 0 0 ≤ s 0 4
def sOrd (s : mS) : mS := fun i k => if i = 8 then (if 5 * (s 0 5).toNat ≤ k ∧ k < 5 * (s 0 5).toNat + (s 0 0).toNat then s 7 (k - 5 * (s 0 5).toNat) else s 8 k) else if i = 0 ∧ k = 5 then s 0 5 + 1 else s i k
def sOr (n : Nat) : Nat → Nat → Prop := fun q k => (q = n + 100 ∧ (k = 4 ∨ k = 5)) ∨ q = n + 101 ∨ (q = n + 1 ∧ k = 1)
def sOm (m : Nat) : Nat → Nat → Prop := fun q k => (q = m ∧ (k = 12 ∨ k = 56)) ∨ q = m + 32
section OR
variable {d : Nat} {Th : mT} {M : mM} {n m : Nat} {s : mS}
theorem s10_order {Q : Int32 → mM → Prop} (hT : Ly Th n) (hR : Rf n M) (hI : cHill n s M) (hH : cTape n s M) (hO : cOrd n s M) (hG : rG s)
    (kb : ¬ vOrd s → Q (-1) M) (k0 : vOrd s → obad s (s 0 0).toNat = true → ∀ M', cOrd n s M' → M'.1 (n + 1) 1 = 0 → Eo (sOr n) M M' → Q (-2) M')
    (k1 : vOrd s → obad s (s 0 0).toNat = false → ∀ M', cOrd n (sOrd s) M' → M'.1 (n + 1) 1 = 0 → Eo (sOr n) M M' → Q (jI (s 0 5)) M') : P10_order (d + 40) Th n M Q := by
  have g0 := hG.1
  have g4 := hG.2.2.2.2.1
  have g5 := hG.2.2.2.2.2.1
  have g7 := hG.2.2.2.2.2.2.2.2.2.2.2.2.2.2.2.2
  refine e10_order ⟨hT 0 _ rfl, n + 3, hR 0 1 3 (by decide), hT 3 _ rfl, ?_⟩
  rw [hI.1]
  by_cases c0 : s 0 0 = 0
  · rw [if_pos (by rw [c0]; rfl)]; exact kb (fun h => h.1 c0)
  rw [if_neg (by rw [jq0 (rI_of (by omega) (by omega))]; exact c0)]
  refine ⟨n + 100, hR 0 7 100 (by decide), hT 100 _ rfl, ?_⟩
  rw [hO.1]
  by_cases c5 : 5 ≤ s 0 5
  · rw [if_pos (by rw [jh5 (rI_of (by omega) (by omega))]; exact c5)]; exact kb (fun h => by have := h.2.1; omega)
  rw [if_neg (by rw [jh5 (rI_of (by omega) (by omega))]; exact c5)]
  refine ⟨n + 1, hR 0 0 1 (by decide), hT 1 _ rfl, ?_⟩
  rw [hH.1]
  by_cases c4 : s 0 0 ≤ s 0 4
  rotate_left
  · rw [if_neg (by rw [jIle (rI_of (by omega) (by omega)) (rI_of (by omega) (by omega))]; exact c4)]; exact kb (fun h => c4 h.2.2)
  rw [if_pos (by rw [jIle (rI_of (by omega) (by omega)) (rI_of (by omega) (by omega))]; exact c4)]
  have v : vOrd s := ⟨c0, by omega, c4⟩
  obtain ⟨R, hRr⟩ : ∃ R : Nat, s 0 0 = R := ⟨(s 0 0).toNat, by omega⟩
  obtain ⟨S, hS⟩ : ∃ S : Nat, s 0 5 = S := ⟨(s 0 5).toNat, by omega⟩
  have tail : ∀ (w : Int32) (M1 : mM), M1.2.2 n 0 = some (n + 1) → Q w (m_ui M1 (n + 1) 1 0) → ∃ r13, M1.2.2 n 0 = some r13 ∧ (Th.2.2 r13 = some (.inl 9) ∧ P9_drop (d + 39) Th r13 M1 (fun M15 => Q w M15)) := fun w M1 h1 kq => ⟨n + 1, h1, hT 1 _ rfl, e9_drop ⟨hT 1 _ rfl, kq⟩⟩
  refine e6_add ⟨hT 100 _ rfl, ?_⟩
  have er : (if 0 < (if jI (s 0 0) < 5 then jI (s 0 0) else 5) then (if jI (s 0 0) < 5 then jI (s 0 0) else 5) else 0) = jI (s 0 0) := by
    simp only [jl5 (rI_of (z := s 0 0) (by omega) (by omega))]
    by_cases q : s 0 0 < 5
    · simp only [if_pos q, jg0 (rI_of (z := s 0 0) (by omega) (by omega)), if_pos (show 0 < s 0 0 by omega)]
    · simp only [if_neg q]
      rw [if_pos (by decide), show s 0 0 = 5 by omega]; rfl
  rw [er]
  generalize hM1 : m_ui M (n + 100) 4 (jI (s 0 0)) = M1
  have e1 : Eo (sOr n) M M1 := by rw [← hM1]; exact Eo.rf.ui (Or.inl ⟨rfl, Or.inl rfl⟩)
  have f4 : M1.1 (n + 100) 4 = jI (s 0 0) := by rw [← hM1]; simp [m_u]
  have f5 : M1.1 (n + 100) 5 = jI (s 0 5) := by rw [← hM1]; simp [m_u, hO.1]
  have f8 : ∀ k, M1.1 (n + 101) k = jI (s 8 k) := fun k => by rw [← hM1]; simp [m_u, hO.2.2]
  have R1 : Rf n M1 := fun o k v h => by rw [← hM1]; exact hR o k v h
  have T1 : cTape n s M1 := by rw [← hM1]; exact ⟨by simp [m_u, hH.1], fun k => by simp [m_u, hH.2]⟩
  -- the rows
  have write : obad s R = false → ∀ u j (M2 : mM), j + u = R → Eo (sOr n) M M2 → Rf n M2 → cTape n s M2 → M2.1 (n + 100) 4 = jI (s 0 0) → M2.1 (n + 100) 5 = jI (s 0 5) → (∀ k, M2.1 (n + 101) k = jI (if 5 * S ≤ k ∧ k < 5 * S + j then s 7 (k - 5 * S) else s 8 k)) →
      H6_add_79 (d + 39) Th (fun v12 M11 => ∃ r13, M11.2.2 n 0 = some r13 ∧ (Th.2.2 r13 = some (.inl 9) ∧ P9_drop (d + 39) Th r13 M11 (fun M15 => Q v12 M15))) (n + 100) (n + 1) (jI j) M2 := by
    intro hb u
    induction u with
    | zero =>
      intro j M2 hj e2 R2 T2 q4 q5 q8
      refine h6_add_79 ⟨hT 100 _ rfl, ?_⟩
      rw [q4, hRr, if_pos (by rw [jIle (rI_nat (by omega)) (rI_nat (by omega))]; omega)]
      refine h6_add_122 ⟨hT 100 _ rfl, ?_⟩
      intro M3 h3
      rw [q5, i1, jI_add] at h3
      rw [show M3.1 (n + 100) 5 - 1 = jI (s 0 5) by rw [h3]; simp only [m_ui]; rw [show m_u M2.1 (n + 100) 5 (jI (s 0 5 + 1)) (n + 100) 5 = jI (s 0 5 + 1) by simp [m_u], i1, jI_sub]; congr 1; omega]
      refine tail _ M3 (by rw [h3]; exact R2 0 0 1 (by decide)) ?_
      refine k1 v (by rw [hRr]; exact hb) _ ?_ (by simp [m_u]) ?_
      · refine ⟨?_, ?_, ?_⟩
        · rw [show sOrd s 0 5 = s 0 5 + 1 from rfl, h3]; simp [m_u]
        · intro _
          rw [show sOrd s 0 0 = s 0 0 from rfl, h3]; simp [m_u, q4]
        · intro k
          rw [h3]
          have : (m_ui (m_ui M2 (n + 100) 5 (jI (s 0 5 + 1))) (n + 1) 1 0).1 (n + 101) k = M2.1 (n + 101) k := by simp [m_u]
          rw [this, q8 k]
          show _ = jI (if 5 * (s 0 5).toNat ≤ k ∧ k < 5 * (s 0 5).toNat + (s 0 0).toNat then s 7 (k - 5 * (s 0 5).toNat) else s 8 k)
          rw [hS, hRr, Int.toNat_natCast, Int.toNat_natCast, show j = R by omega]
      · rw [h3]
        exact Eo.ui (S := sOr n) (Eo.ui (S := sOr n) e2 (Or.inl ⟨rfl, Or.inr rfl⟩)) (Or.inr (Or.inr ⟨rfl, rfl⟩))
    | succ u ih =>
      intro j M2 hj e2 R2 T2 q4 q5 q8
      refine h6_add_79 ⟨hT 100 _ rfl, ?_⟩
      rw [q4, hRr, if_neg (by rw [jIle (rI_nat (by omega)) (rI_nat (by omega))]; omega)]
      rw [q5, hS, if_neg (by rw [jh5 (rI_nat (by omega))]; omega)]
      refine ⟨n + 101, R2 100 0 101 (by decide), hT 1 _ rfl, ?_⟩
      refine s9_byteAt (d := d + 37) hT R2 T2.1 (T2.2 j) hG (by omega) ?_
      rw [show jI (S : Int) * 5 + jI (j : Int) = jI ((5 * S + j : Nat) : Int) by rw [i5, jI_mul, jI_add]; congr 1; omega]
      refine ⟨m_okw_jI (hT 101 _ rfl) (by omega) (by omega) (by omega), ?_⟩
      rw [jInatN _ (by omega), jI_s]
      refine ih (j + 1) _ (by omega) (Eo.ui (S := sOr n) e2 (Or.inr (Or.inl rfl))) (fun o k v h => R2 o k v h) ⟨by simp [m_u, T2.1], fun k => by simp [m_u, T2.2]⟩ (by simp [m_u, q4, hRr]) (by simp [m_u, q5, hS]) (fun k => ?_)
      show (if n + 101 = n + 101 ∧ k = 5 * S + j then _ else M2.1 (n + 101) k) = _
      by_cases c : k = 5 * S + j
      · rw [if_pos ⟨rfl, c⟩, if_pos (by omega), c]; congr 2; omega
      · rw [if_neg (fun h => c h.2), q8 k]
        by_cases c2 : 5 * S ≤ k ∧ k < 5 * S + j
        · rw [if_pos c2, if_pos (by omega)]
        · rw [if_neg c2, if_neg (by omega)]
  have loop : ∀ u j, j + u = R → obad s j = false → H6_add_18 (d + 39) Th (fun v12 M11 => ∃ r13, M11.2.2 n 0 = some r13 ∧ (Th.2.2 r13 = some (.inl 9) ∧ P9_drop (d + 39) Th r13 M11 (fun M15 => Q v12 M15))) (n + 100) (n + 1) (jI ((omk s j : Nat) : Int)) (jI j) M1 := by
    intro u
    induction u with
    | zero =>
      intro j hj hb
      refine h6_add_18 ⟨hT 100 _ rfl, ?_⟩
      rw [f4, hRr, if_pos (by rw [jIle (rI_nat (by omega)) (rI_nat (by omega))]; omega)]
      rw [i0]
      exact write (by rw [← show j = R by omega]; exact hb) R 0 M1 (by omega) e1 R1 T1 f4 f5 (fun k => by rw [f8 k, if_neg (by omega)])
    | succ u ih =>
      intro j hj hb
      refine h6_add_18 ⟨hT 100 _ rfl, ?_⟩
      rw [f4, hRr, if_neg (by rw [jIle (rI_nat (by omega)) (rI_nat (by omega))]; omega)]
      refine ⟨hT 1 _ rfl, ?_⟩
      have b7 := g7 j
      have m32 := omk_32 hG j
      refine s9_byteAt (d := d + 37) hT R1 T1.1 (T1.2 j) hG (by omega) ?_
      have bad : obad s (j + 1) = true → Q (-2) (m_ui M1 (n + 1) 1 0) := fun hb1 => by
        have := obad_up hb1 u
        refine k0 v (by rw [hRr, Int.toNat_natCast, show R = j + 1 + u by omega]; exact this) _ ?_ (by simp [m_u]) (Eo.ui (S := sOr n) e1 (Or.inr (Or.inr ⟨rfl, rfl⟩)))
        exact ⟨by simp [m_u, f5], fun _ => by simp [m_u, f4], fun k => by simp [m_u, f8]⟩
      have rd : M1.2.2 n 0 = some (n + 1) := R1 0 0 1 (by decide)
      rw [f4]
      refine s_within 0 (s 0 0 - 1) rfl rfl (by rw [i1, jI_sub]) (rI_of (by omega) (by omega)) (rI_of (by omega) (by omega)) (rI_of (by omega) (by omega)) (fun a1 a2 => ?_) (fun a => ?_)
      rotate_left
      · rw [if_pos rfl]
        refine tail _ M1 rd (bad ?_)
        unfold obad
        rw [decide_eq_false (by omega)]
        simp
      rw [if_neg (by decide)]
      have ee := pc_e ⟨omk s j, m32⟩ ⟨(s 7 j).toNat, by omega⟩
      have ef := pc_f ⟨omk s j, m32⟩ ⟨(s 7 j).toNat, by omega⟩
      simp only [show (((s 7 j).toNat : Nat) : Int) = s 7 j by omega] at ee ef
      simp only [ee]
      cases ht : (omk s j).testBit (s 7 j).toNat
      · rw [if_neg (by decide)]
        intro x hx
        rw [ef] at hx
        rw [hx, jI_s]
        have hb' : obad s (j + 1) = false := by
          unfold obad
          rw [hb, ht, decide_eq_true (by omega)]
          rfl
        have := ih (j + 1) (by omega) hb'
        unfold omk at this
        rw [if_pos (by omega)] at this
        exact this
      · rw [if_pos rfl]
        refine tail _ M1 rd (bad ?_)
        unfold obad
        rw [ht]
        simp
  exact loop R 0 (by omega) rfl
end OR
