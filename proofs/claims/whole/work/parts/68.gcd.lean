/-! ===== fractions ===== -/
/-- Euclid ends in so many steps -/
def euE : Nat → Nat → Nat → Prop
  | 0, _, y => y = 0
  | n + 1, x, y => y = 0 ∨ euE n y (x % y)
def fibo : Nat → Nat
  | 0 => 0
  | 1 => 1
  | n + 2 => fibo (n + 1) + fibo n
theorem euE_up : ∀ n x y, euE n x y → euE (n + 1) x y := by
  intro n
  induction n with
  | zero => intro x y h; exact Or.inl h
  | succ n ih =>
    intro x y h
    rcases h with h | h
    · exact Or.inl h
    · exact Or.inr (ih _ _ h)
theorem euE_fib : ∀ n x y, y < x → x < fibo (n + 2) → euE n x y := by
  intro n
  induction n using Nat.strongRecOn with
  | _ n ih =>
    intro x y h1 h2
    match n, ih, h2 with
    | 0, _, h2 =>
      have h2' : x < 1 := h2
      show y = 0
      omega
    | 1, ih, h2 =>
      have h2' : x < 2 := h2
      show y = 0 ∨ _
      left
      omega
    | n + 2, ih, h2 =>
      by_cases y0 : y = 0
      · exact Or.inl y0
      refine Or.inr ?_
      have hm : x % y < y := Nat.mod_lt _ (by omega)
      by_cases c : y < fibo (n + 1 + 2)
      · exact ih (n + 1) (by omega) y (x % y) hm c
      · have hf : fibo (n + 2 + 2) = fibo (n + 1 + 2) + fibo (n + 2) := rfl
        have hr : x % y ≤ x - y := by
          rw [Nat.mod_eq_sub_mod (by omega)]
          exact Nat.mod_le _ _
        by_cases r0 : x % y = 0
        · exact Or.inl r0
        · refine Or.inr ?_
          exact ih n (by omega) (x % y) (y % (x % y)) (Nat.mod_lt _ (by omega)) (by omega)
theorem fibo90 : 1152921504606846976 < fibo 90 := by
  have key : ∀ n a b, fibo n = a → fibo (n + 1) = b → fibo (n + 2) = b + a := fun n a b h1 h2 => by show fibo (n + 1) + fibo n = _; rw [h1, h2]
  have step : ∀ n a b, (fibo n = a ∧ fibo (n + 1) = b) → (fibo (n + 5) = 5 * b + 3 * a ∧ fibo (n + 6) = 8 * b + 5 * a) := by
    intro n a b ⟨h1, h2⟩
    have h3 := key n a b h1 h2
    have h4 := key (n + 1) b (b + a) h2 h3
    have h5 := key (n + 2) _ _ h3 h4
    have h6 := key (n + 3) _ _ h4 h5
    have h7 := key (n + 4) _ _ h5 h6
    exact ⟨by rw [h6]; omega, by rw [h7]; omega⟩
  have a0 : fibo 0 = 0 ∧ fibo 1 = 1 := ⟨rfl, rfl⟩
  have a5 := step 0 _ _ a0
  have a10 := step 5 _ _ a5
  have a15 := step 10 _ _ a10
  have a20 := step 15 _ _ a15
  have a25 := step 20 _ _ a20
  have a30 := step 25 _ _ a25
  have a35 := step 30 _ _ a30
  have a40 := step 35 _ _ a35
  have a45 := step 40 _ _ a40
  have a50 := step 45 _ _ a45
  have a55 := step 50 _ _ a50
  have a60 := step 55 _ _ a55
  have a65 := step 60 _ _ a60
  have a70 := step 65 _ _ a65
  have a75 := step 70 _ _ a70
  have a80 := step 75 _ _ a75
  have a85 := step 80 _ _ a80
  have a90 := step 85 _ _ a85
  rw [a90.1]
  decide
/-- of a fraction in lowest terms: above, below -/
def fracA (a b : Nat) : Int := ((a / Nat.gcd a b : Nat) : Int)
def fracB (a b : Nat) : Int := ((b / Nat.gcd a b : Nat) : Int)
section GC
variable {d : Nat} {Th : mT} {M : mM}
theorem jL_modN {x y : Nat} (hx : x < 9223372036854775808) (hy0 : 0 < y) (hy : y < 9223372036854775808) : jL (x : Int) - jL (x : Int) / jL (y : Int) * jL (y : Int) = jL ((x % y : Nat) : Int) := by
  rw [jL_rem (by omega) (by omega) (by omega) (by omega)]; congr 1
theorem jL_divN {x y : Nat} (hx : x < 9223372036854775808) (hy0 : 0 < y) (hy : y < 9223372036854775808) : jL (x : Int) / jL (y : Int) = jL ((x / y : Nat) : Int) := by
  rw [jL_div (by omega) (by omega) (by omega) (by omega)]; congr 1
theorem jL_z {x : Nat} (hx : x < 9223372036854775808) : (jL (x : Int) = 0) = (x = 0) := by
  have := jL_eq (a := (x : Int)) (b := 0) (by omega) (by omega) (by omega) (by omega)
  rw [jL_0] at this
  rw [this]
  exact propext ⟨by omega, by omega⟩
theorem s11_gcd {Q : Int64 → mM → Prop} {x y : Nat} (hx : x < 9223372036854775808) (hy : y < 9223372036854775808) (k : Q (jL ((Nat.gcd x y : Nat) : Int)) M) : P11_gcd (d + 1) Th (jL (x : Int)) (jL (y : Int)) M Q := by
  have loop : ∀ (u : Nat), ∀ x y, y ≤ u → x < 9223372036854775808 → y < 9223372036854775808 → Q (jL ((Nat.gcd x y : Nat) : Int)) M → H11_gcd_6 (d + 1) Th Q (jL (x : Int)) (jL (y : Int)) M := by
    intro u
    induction u with
    | zero =>
      intro x y hu hx hy k
      refine h11_gcd_6 ?_
      have : y = 0 := by omega
      subst this
      rw [if_pos (by rw [lc_eq]; rfl)]
      rw [Nat.gcd_zero_right] at k
      exact k
    | succ u ih =>
      intro x y hu hx hy k
      refine h11_gcd_6 ?_
      by_cases y0 : y = 0
      · subst y0
        rw [if_pos (by rw [lc_eq]; rfl)]
        rw [Nat.gcd_zero_right] at k
        exact k
      rw [if_neg (by rw [lc_eq, jL_z hy]; exact y0)]
      refine ⟨by rw [jL_z hy]; exact y0, ?_⟩
      intro lv2 h2
      rw [h2, jL_modN hx (by omega) hy]
      have hm : x % y < y := Nat.mod_lt _ (by omega)
      refine ih y (x % y) (by omega) hy (by omega) ?_
      rw [Nat.gcd_comm y (x % y), ← Nat.gcd_rec, Nat.gcd_comm y x]
      exact k
  exact e11_gcd (loop y x y (Nat.le_refl _) hx hy k)
theorem s10_ofFraction {Q : Int64 → mM → Prop} {a b : Nat} {w : Int32} (hb : b < 9223372036854775808) (ha : a < 9223372036854775808) (hb0 : 0 < b) (he : euE 99 b a) (k : Q (if w = 0 then jL (fracA a b) else jL (fracB a b)) M) : P10_ofFraction (d + 1) Th (jL (a : Int)) (jL (b : Int)) w M Q := by
  have h44 : ∀ g : Nat, g = Nat.gcd a b → H10_ofFraction_44 (d + 1) Th Q (jL (a : Int)) (jL (b : Int)) w (jL (g : Int)) M := by
    intro g hg
    have hg0 : 0 < g := by rw [hg]; exact Nat.gcd_pos_of_pos_right _ hb0
    have hgb : g ≤ b := by rw [hg]; exact Nat.gcd_le_right _ hb0
    refine h10_ofFraction_44 ?_
    rw [if_neg (by rw [lc_eq, jL_z (by omega)]; omega)]
    by_cases hw : w = 0
    · rw [if_pos hw] at k ⊢
      refine ⟨by rw [jL_z (by omega)]; omega, ?_⟩
      rw [jL_divN ha hg0 (by omega), hg]
      exact k
    · rw [if_neg hw] at k ⊢
      refine ⟨by rw [jL_z (by omega)]; omega, ?_⟩
      rw [jL_divN hb hg0 (by omega), hg]
      exact k
  have loop : ∀ (u x y : Nat), u ≤ 99 → euE u x y → x < 9223372036854775808 → y < 9223372036854775808 → Nat.gcd x y = Nat.gcd a b → H10_ofFraction_9 (d + 1) Th Q (jL (a : Int)) (jL (b : Int)) w (jL (x : Int)) (jL (y : Int)) (jI ((99 - u : Nat) : Int)) M := by
    intro u
    induction u with
    | zero =>
      intro x y hu he hx hy hg
      have y0 : y = 0 := he
      subst y0
      refine h10_ofFraction_9 ?_
      rw [if_neg (by rw [jh100 (rI_nat (by omega))]; omega), if_pos (by rw [lc_eq]; rfl)]
      rw [Nat.gcd_zero_right] at hg
      exact h44 x hg
    | succ u ih =>
      intro x y hu he hx hy hg
      refine h10_ofFraction_9 ?_
      rw [if_neg (by rw [jh100 (rI_nat (by omega))]; omega)]
      by_cases y0 : y = 0
      · subst y0
        rw [if_pos (by rw [lc_eq]; rfl)]
        rw [Nat.gcd_zero_right] at hg
        exact h44 x hg
      rw [if_neg (by rw [lc_eq, jL_z hy]; exact y0)]
      refine ⟨by rw [jL_z hy]; exact y0, ?_⟩
      intro lv2 h2
      have hm : x % y < y := Nat.mod_lt _ (by omega)
      rw [h2, jL_modN hx (by omega) hy, jI_s, show 99 - (u + 1) + 1 = 99 - u by omega]
      refine ih y (x % y) (by omega) (he.resolve_left y0) hy (by omega) ?_
      rw [Nat.gcd_comm y (x % y), ← Nat.gcd_rec, Nat.gcd_comm y x]
      exact hg
  refine e10_ofFraction ?_
  exact loop 99 b a (Nat.le_refl _) he hb ha (Nat.gcd_comm b a)
theorem euE_60 {a : Nat} (ha : a ≤ 1152921504606846976) : euE 99 1152921504606846976 a := by
  have up : ∀ k, euE 88 1152921504606846976 a → euE (88 + k) 1152921504606846976 a := by
    intro k h
    induction k with
    | zero => exact h
    | succ k ih => exact euE_up _ _ _ ih
  by_cases e : a = 1152921504606846976
  · subst e
    refine Or.inr ?_
    rw [Nat.mod_self]
    exact Or.inl rfl
  · exact up 11 (euE_fib 88 _ _ (by omega) fibo90)
theorem s11_eights {Q : Int64 → mM → Prop} {k : Nat} (hk : k ≤ 100) (K : Q (jL (8 ^ k)) M) : P11_eights (d + 1) Th (jI k) M Q := by
  have loop : ∀ u j, u + j = k → H11_eights_4 (d + 1) Th Q (jI k) (jL (8 ^ j)) (jI j) M := by
    intro u
    induction u with
    | zero =>
      intro j hj
      refine h11_eights_4 ?_
      rw [if_pos (by rw [jIle (rI_nat (by omega)) (rI_nat (by omega))]; omega), show j = k by omega]
      exact K
    | succ u ih =>
      intro j hj
      refine h11_eights_4 ?_
      rw [if_neg (by rw [jIle (rI_nat (by omega)) (rI_nat (by omega))]; omega)]
      intro lv1 h1
      rw [show (8 : Int64) = jL 8 from rfl, jL_mul, ← Int.pow_succ] at h1
      rw [h1, jI_s]
      exact ih (j + 1) (by omega)
  refine e11_eights ?_
  rw [i0]
  exact loop k 0 (by omega)
end GC
/-! bounds -/
theorem hV_nn {N : Int} {D : Nat} {g e : Nat → Nat → Int} {st : Nat → Nat} {p : Nat} (hN : 0 ≤ N) (hb : ∀ r t, 0 ≤ g r t ∧ 0 ≤ e r t ∧ g r t + e r t ≤ N) : ∀ n k, 0 ≤ hV N D g e st p n k := by
  intro n
  induction n with
  | zero => intro k; rw [hV]; split <;> omega
  | succ n ih =>
    intro k
    rw [hV]
    split
    · omega
    · split
      · have b := hb (k / 16) (k % 16)
        have x1 := Int.mul_nonneg b.1 (ih (16 * (k / 16) + 5 + st (k / 16)))
        have x2 := Int.mul_nonneg b.2.1 (ih (16 * (k / 16) + 11 + D))
        have x3 := Int.mul_nonneg (show 0 ≤ N - g (k / 16) (k % 16) - e (k / 16) (k % 16) by omega) (ih (16 * (k / 16) + kmo (k % 16)))
        omega
      · split
        · exact Int.mul_nonneg hN (ih _)
        · split
          · exact Int.mul_nonneg hN (ih _)
          · exact Int.mul_nonneg hN (ih _)
theorem fV_le {N : Int} {D : Nat} {g e : Nat → Nat → Int} {st : Nat → Nat} {p : Nat} (hN : 0 ≤ N) (hb : ∀ r t, 0 ≤ g r t ∧ 0 ≤ e r t ∧ g r t + e r t ≤ N) (hD : 1 ≤ D ∧ D ≤ 4) (hst : ∀ r, 1 ≤ st r ∧ st r ≤ 6) : ∀ n k, fV N D g e st p n k ≤ N ^ n := by
  intro n
  induction n with
  | zero =>
    intro k
    unfold fV
    split
    · show hV N D g e st p 0 k ≤ N ^ 0
      rw [Int.pow_zero, hV]
      split <;> omega
    · exact Int.le_refl _
  | succ n ih =>
    intro k
    rw [← fV_o hD hst, Int.pow_succ]
    unfold oV
    split
    · have b := hb (k / 16) (k % 16)
      have x1 := Int.mul_le_mul_of_nonneg_left (ih (16 * (k / 16) + 5 + st (k / 16))) b.1
      have x2 := Int.mul_le_mul_of_nonneg_left (ih (16 * (k / 16) + 11 + D)) b.2.1
      have x3 := Int.mul_le_mul_of_nonneg_left (ih (16 * (k / 16) + kmo (k % 16))) (show 0 ≤ N - g (k / 16) (k % 16) - e (k / 16) (k % 16) by omega)
      have e1 : g (k / 16) (k % 16) * N ^ n + e (k / 16) (k % 16) * N ^ n + (N - g (k / 16) (k % 16) - e (k / 16) (k % 16)) * N ^ n = N ^ n * N := by grind
      omega
    · have c : ∀ j, N * fV N D g e st p n j ≤ N ^ n * N := fun j => by
        have := Int.mul_le_mul_of_nonneg_left (ih j) hN
        rw [Int.mul_comm (N ^ n) N]
        exact this
      split
      · exact c _
      · split
        · exact c _
        · exact c _
theorem bS_nn {N : Int} {Z : Nat → Int} (hN : 0 ≤ N) (hZ : ∀ t, 0 ≤ Z t) : ∀ n, 0 ≤ bS N Z n := by
  intro n
  induction n with
  | zero => exact hZ 0
  | succ n ih =>
    show 0 ≤ N * bS N Z n + Z (n + 1)
    have := Int.mul_nonneg hN ih
    have := hZ (n + 1)
    omega
