/-! ===== GIVEN: pure, and the class's table ===== -/
/-- where two rows are like, at the places 1 .. p -/
def mtN (s : mS) (a b : Nat) : Nat → Nat
  | 0 => 0
  | p + 1 => mtN s a b p + if jI (s 8 (5 * a + (p + 1))) = jI (s 8 (5 * b + (p + 1))) then 1 else 0
def mt (s : mS) (a b : Nat) : Nat := mtN s a b ((s 0 0).toNat - 1)
theorem mtN_b (s : mS) (a b p : Nat) : mtN s a b p ≤ p := by
  induction p with
  | zero => exact Nat.le_refl 0
  | succ p ih =>
    show mtN s a b p + _ ≤ p + 1
    split <;> omega
def sumN (f : Nat → Nat) : Nat → Nat
  | 0 => 0
  | k + 1 => sumN f k + f k
/-- the meetings of a row, by pairs -/
def mtR (s : mS) (n : Nat) (f : Nat → Nat) : Nat := sumN (fun i => sumN (fun k => mt s (f i) (f (i + 1 + k))) (n - (i + 1))) n
theorem sumN_b {f : Nat → Nat} {c : Nat} (h : ∀ k, f k ≤ c) (k : Nat) : sumN f k ≤ k * c := by
  induction k with
  | zero => exact Nat.zero_le _
  | succ k ih =>
    show sumN f k + f k ≤ _
    have := h k
    rw [Nat.succ_mul]
    omega
theorem sumN_bb {f : Nat → Nat} {c K : Nat} (h : ∀ k, f k ≤ c) (k : Nat) (hk : k ≤ K) : sumN f k ≤ K * c := Nat.le_trans (sumN_b h k) (Nat.mul_le_mul_right c hk)
/-- the digit of a code: place e from the right -/
def dgt (S code e : Nat) : Nat := code / S ^ e % S
def drw (S n code i : Nat) : Nat := dgt S code (n - 1 - i)
theorem dgt_lt {S code e : Nat} (h : 0 < S) : dgt S code e < S := Nat.mod_lt _ h
theorem dgt_div {S code e : Nat} : code / S ^ e / S = code / S ^ (e + 1) := by rw [Nat.div_div_eq_div_mul, Nat.pow_succ]
theorem dgt_carry {S code e : Nat} (hS : 0 < S) (h : S ^ e ∣ code + 1) : (code + 1) / S ^ e = code / S ^ e + 1 := by
  obtain ⟨q, hq⟩ := h
  have hp : 0 < S ^ e := Nat.pow_pos hS
  cases q with
  | zero => omega
  | succ q =>
    rw [hq, Nat.mul_div_cancel_left _ hp]
    have : code = S ^ e * q + (S ^ e - 1) := by rw [Nat.mul_succ] at hq; omega
    rw [this, Nat.mul_add_div hp, Nat.div_eq_of_lt (by omega)]
theorem dgt_up {S code e : Nat} (hS : 0 < S) (h : S ^ e ∣ code + 1) (hd : dgt S code e + 1 < S) : dgt S (code + 1) e = dgt S code e + 1 ∧ ∀ j, e < j → dgt S (code + 1) j = dgt S code j := by
  have hc := dgt_carry hS h
  unfold dgt at hd
  refine ⟨?_, fun j hj => ?_⟩
  · unfold dgt
    rw [hc, Nat.add_mod, Nat.mod_eq_of_lt (show 1 < S by omega), Nat.mod_eq_of_lt hd]
  · obtain ⟨k, rfl⟩ : ∃ k, j = e + 1 + k := ⟨j - (e + 1), by omega⟩
    unfold dgt
    have e1 : ∀ c, c / S ^ (e + 1 + k) = c / S ^ e / S / S ^ k := fun c => by rw [dgt_div, Nat.div_div_eq_div_mul, ← Nat.pow_add]
    rw [e1, e1, hc]
    have : (code / S ^ e + 1) / S = code / S ^ e / S := by
      have d1 := Nat.div_add_mod (code / S ^ e) S
      generalize code / S ^ e = q at d1 hd ⊢
      have : q + 1 = S * (q / S) + (q % S + 1) := by omega
      rw [this, Nat.mul_add_div hS, Nat.div_eq_of_lt hd, Nat.add_zero]
    rw [this]
theorem dgt_wrap {S code e : Nat} (hS : 0 < S) (h : S ^ e ∣ code + 1) (hd : ¬ dgt S code e + 1 < S) : dgt S (code + 1) e = 0 ∧ S ^ (e + 1) ∣ code + 1 := by
  have hc := dgt_carry hS h
  have hl : dgt S code e < S := dgt_lt hS
  unfold dgt at hd hl
  have z : (code / S ^ e + 1) % S = 0 := by
    have d1 := Nat.div_add_mod (code / S ^ e) S
    generalize code / S ^ e = q at d1 hd hl ⊢
    have : q + 1 = S * (q / S + 1) := by rw [Nat.mul_add]; omega
    rw [this, Nat.mul_mod_right]
  refine ⟨by unfold dgt; rw [hc, z], ?_⟩
  obtain ⟨q, hq⟩ := h
  have hp : 0 < S ^ e := Nat.pow_pos hS
  rw [hq, Nat.mul_div_cancel_left _ hp] at hc
  rw [← hc] at z
  obtain ⟨w, hw⟩ := Nat.dvd_of_mod_eq_zero z
  exact ⟨w, by rw [hq, hw, Nat.pow_succ, Nat.mul_assoc]⟩
/-- the best of the first codes, and which it is -/
def gBst (s : mS) (S n : Nat) : Nat → Int × Nat
  | 0 => (-1, 0)
  | k + 1 => if (gBst s S n k).1 = -1 ∨ (mtR s n (drw S n k) : Int) < (gBst s S n k).1 then ((mtR s n (drw S n k) : Int), k) else gBst s S n k
theorem mtR_b {s : mS} (hG : rG s) {n : Nat} (hn : n ≤ 5) (f : Nat → Nat) : mtR s n f ≤ 100 := by
  have g0 := hG.1
  have h1 : ∀ i k, mt s (f i) (f (i + 1 + k)) ≤ 4 := fun i k => Nat.le_trans (mtN_b _ _ _ _) (by omega)
  exact sumN_bb (c := 20) (K := 5) (fun i => sumN_bb (c := 4) (K := 5) (h1 i) _ (by omega)) n hn
theorem gBst_b {s : mS} (hG : rG s) {S n : Nat} (hn : n ≤ 5) (k : Nat) : -1 ≤ (gBst s S n k).1 ∧ (gBst s S n k).1 ≤ 100 ∧ ((gBst s S n k).2 < k ∨ (gBst s S n k) = (-1, 0)) := by
  induction k with
  | zero => exact ⟨by show (-1 : Int) ≤ -1; omega, by show (-1 : Int) ≤ 100; omega, Or.inr rfl⟩
  | succ k ih =>
    unfold gBst
    have := mtR_b hG hn (drw S n k)
    split
    · exact ⟨by show -1 ≤ ((mtR s n (drw S n k) : Nat) : Int); omega, by show ((mtR s n (drw S n k) : Nat) : Int) ≤ 100; omega, Or.inl (by show k < k + 1; omega)⟩
    · refine ⟨ih.1, ih.2.1, ?_⟩
      rcases ih.2.2 with h | h
      · exact Or.inl (by omega)
      · exact Or.inr h
def vGiv (s : mS) (zn zw : Int) : Prop := (2 ≤ zn ∧ zn ≤ 5) ∧ (-1 ≤ zw ∧ zw ≤ zn - 1) ∧ s 0 5 ≠ 0
def aGiv (s : mS) (n : Nat) (zw : Int) : Int := if zw = -1 then (gBst s (s 0 5).toNat n ((s 0 5).toNat ^ n)).1 else (drw (s 0 5).toNat n (gBst s (s 0 5).toNat n ((s 0 5).toNat ^ n)).2 zw.toNat : Nat)
def sGv (n : Nat) : Nat → Nat → Prop := fun q k => (q = n + 100 ∧ k = 6) ∨ (n + 102 ≤ q ∧ q ≤ n + 104)
section GV
variable {d : Nat} {Th : mT} {M : mM} {n m : Nat} {s : mS}
/-- what giving knows -/
def cGv (n : Nat) (s : mS) (R S : Nat) (M : mM) : Prop := Rf n M ∧ M.1 (n + 100) 5 = jI (S : Int) ∧ M.1 (n + 100) 4 = jI (R : Int) ∧ ∀ k, M.1 (n + 101) k = jI (s 8 k)
theorem cGv.mv {R S : Nat} {M' : mM} (h : cGv n s R S M) (he : Eo (sGv n) M M') : cGv n s R S M' :=
  ⟨fun o k v hv => by rw [(he _ _ (by unfold sGv; simp [rsA] at hv; omega)).2.2]; exact h.1 o k v hv, ((he _ _ (by unfold sGv; omega)).1).trans h.2.1, ((he _ _ (by unfold sGv; omega)).1).trans h.2.2.1, fun k => ((he _ _ (by unfold sGv; omega)).1).trans (h.2.2.2 k)⟩
theorem s6_meetAll {Q : mM → Prop} {R S : Nat} (hT : Ly Th n) (hC : cGv n s R S M) (hR : (s 0 0).toNat = R) (hR5 : R ≤ 5) (hS5 : S ≤ 5)
    (k : ∀ M', Eo (fun q _ => q = n + 102) M M' → (∀ a b, a < S → b < S → M'.1 (n + 102) (5 * a + b) = jI (mt s a b : Nat)) → Q M') : P6_meetAll (d + 1) Th (n + 100) M Q := by
  have sub : ∀ M1, Eo (fun q _ => q = n + 102) M M1 → cGv n s R S M1 := fun M1 e => hC.mv (e.mono (fun q k h => by unfold sGv; omega))
  have inner : ∀ u p a b (M1 : mM), p + 1 + u = max R 1 → a < S → b < S → Eo (fun q _ => q = n + 102) M M1 →
      (∀ M2, Eo (fun q _ => q = n + 102) M M2 → (∀ q k, (q ≠ n + 102 ∨ k ≠ 5 * a + b) → M2.1 q k = M1.1 q k) → M2.1 (n + 102) (5 * a + b) = jI (mt s a b : Nat) → H6_meetAll_17 (d + 1) Th Q (n + 100) (jI a) (jI ((b + 1 : Nat) : Int)) M2) →
      H6_meetAll_35 (d + 1) Th Q (n + 100) (jI a) (jI b) (jI (mtN s a b p : Nat)) (jI ((p + 1 : Nat) : Int)) M1 := by
    intro u
    induction u with
    | zero =>
      intro p a b M1 hp ha hb e1 kk
      obtain ⟨c1, c2, c3, c4⟩ := sub M1 e1
      refine h6_meetAll_35 ⟨hT 100 _ rfl, ?_⟩
      rw [c3, if_pos (by rw [jIle (rI_nat (by omega)) (rI_nat (by omega))]; omega)]
      rw [show jI (a : Int) * 5 + jI (b : Int) = jI ((5 * a + b : Nat) : Int) by rw [i5, jI_mul, jI_add]; congr 1; omega]
      refine ⟨n + 102, c1 100 1 102 (by decide), m_okw_jI (hT 102 _ rfl) (by omega) (by omega) (by omega), ?_⟩
      rw [jInatN _ (by omega), jI_s]
      refine kk _ (e1.ui rfl) (fun q k h => ?_) ?_
      · show (if q = n + 102 ∧ k = 5 * a + b then _ else M1.1 q k) = _
        rw [if_neg (by omega)]
      · show (if n + 102 = n + 102 ∧ 5 * a + b = 5 * a + b then _ else M1.1 (n + 102) (5 * a + b)) = _
        rw [if_pos ⟨rfl, rfl⟩]
        unfold mt
        rw [hR, show p = R - 1 by omega]
    | succ u ih =>
      intro p a b M1 hp ha hb e1 kk
      obtain ⟨c1, c2, c3, c4⟩ := sub M1 e1
      refine h6_meetAll_35 ⟨hT 100 _ rfl, ?_⟩
      rw [c3, if_neg (by rw [jIle (rI_nat (by omega)) (rI_nat (by omega))]; omega)]
      rw [show jI (a : Int) * 5 + jI ((p + 1 : Nat) : Int) = jI ((5 * a + (p + 1) : Nat) : Int) by rw [i5, jI_mul, jI_add]; congr 1; omega]
      rw [show jI (b : Int) * 5 + jI ((p + 1 : Nat) : Int) = jI ((5 * b + (p + 1) : Nat) : Int) by rw [i5, jI_mul, jI_add]; congr 1; omega]
      refine ⟨n + 101, c1 100 0 101 (by decide), m_ok_jI (hT 101 _ rfl) (by omega) (by omega) (by omega), m_ok_jI (hT 101 _ rfl) (by omega) (by omega) (by omega), ?_⟩
      intro x hx
      rw [jInatN _ (by omega), jInatN _ (by omega), c4, c4] at hx
      have ex : x = jI (mtN s a b (p + 1) : Nat) := by
        rw [hx, show mtN s a b (p + 1) = mtN s a b p + (if jI (s 8 (5 * a + (p + 1))) = jI (s 8 (5 * b + (p + 1))) then 1 else 0) from rfl]
        split
        · rw [jI_s]
        · rw [i0, jI_add]; congr 1
      rw [ex, jI_s]
      exact ih (p + 1) a b M1 (by omega) ha hb e1 kk
  have cols : ∀ u b a (M1 : mM), b + u = S → a < S → Eo (fun q _ => q = n + 102) M M1 → (∀ a' b', (a' < a ∧ b' < S) ∨ (a' = a ∧ b' < b) → M1.1 (n + 102) (5 * a' + b') = jI (mt s a' b' : Nat)) →
      (∀ M2, Eo (fun q _ => q = n + 102) M M2 → (∀ a' b', a' < a + 1 → b' < S → M2.1 (n + 102) (5 * a' + b') = jI (mt s a' b' : Nat)) → H6_meetAll_2 (d + 1) Th Q (n + 100) (jI ((a + 1 : Nat) : Int)) M2) →
      H6_meetAll_17 (d + 1) Th Q (n + 100) (jI a) (jI b) M1 := by
    intro u
    induction u with
    | zero =>
      intro b a M1 hb ha e1 hm kk
      obtain ⟨c1, c2, c3, c4⟩ := sub M1 e1
      refine h6_meetAll_17 ⟨hT 100 _ rfl, ?_⟩
      rw [c2, if_pos (by rw [jIle (rI_nat (by omega)) (rI_nat (by omega))]; omega), jI_s]
      exact kk M1 e1 (fun a' b' h1 h2 => hm a' b' (by omega))
    | succ u ih =>
      intro b a M1 hb ha e1 hm kk
      obtain ⟨c1, c2, c3, c4⟩ := sub M1 e1
      refine h6_meetAll_17 ⟨hT 100 _ rfl, ?_⟩
      rw [c2, if_neg (by rw [jIle (rI_nat (by omega)) (rI_nat (by omega))]; omega), if_neg (by rw [jh5 (rI_nat (by omega))]; omega)]
      have h := inner (max R 1 - 1) 0 a b M1 (by omega) ha (by omega) e1 (fun M2 e2 far at2 => ?_)
      · exact h
      · refine ih (b + 1) a M2 (by omega) ha e2 (fun a' b' hab => ?_) kk
        by_cases c : a' = a ∧ b' = b
        · rw [c.1, c.2]; exact at2
        · rw [far _ _ (Or.inr (by omega))]; exact hm a' b' (by omega)
  have rows : ∀ u a (M1 : mM), a + u = S → Eo (fun q _ => q = n + 102) M M1 → (∀ a' b', a' < a → b' < S → M1.1 (n + 102) (5 * a' + b') = jI (mt s a' b' : Nat)) → H6_meetAll_2 (d + 1) Th Q (n + 100) (jI a) M1 := by
    intro u
    induction u with
    | zero =>
      intro a M1 ha e1 hm
      obtain ⟨c1, c2, c3, c4⟩ := sub M1 e1
      refine h6_meetAll_2 ⟨hT 100 _ rfl, ?_⟩
      rw [c2, if_pos (by rw [jIle (rI_nat (by omega)) (rI_nat (by omega))]; omega)]
      exact k M1 e1 (fun a' b' h1 h2 => hm a' b' (by omega) h2)
    | succ u ih =>
      intro a M1 ha e1 hm
      obtain ⟨c1, c2, c3, c4⟩ := sub M1 e1
      refine h6_meetAll_2 ⟨hT 100 _ rfl, ?_⟩
      rw [c2, if_neg (by rw [jIle (rI_nat (by omega)) (rI_nat (by omega))]; omega), if_neg (by rw [jh5 (rI_nat (by omega))]; omega), i0]
      exact cols S 0 a M1 (by omega) (by omega) e1 (fun a' b' h => hm a' b' (by omega) (by omega)) (fun M2 e2 h2 => ih (a + 1) M2 (by omega) e2 h2)
  exact e6_meetAll (rows S 0 M (by omega) Eo.rf (fun a' b' h => absurd h (by omega)))
end GV
