/-! ===== SUMS; WAYS as values from behind ===== -/
def sL : Nat → (Nat → Int64) → Int64
  | 0, _ => 0
  | n + 1, f => sL n f + f n
theorem sL_ext {n : Nat} {f h : Nat → Int64} (e : ∀ k, k < n → f k = h k) : sL n f = sL n h := by
  induction n with
  | zero => rfl
  | succ n ih => unfold sL; rw [ih (fun k hk => e k (by omega)), e n (by omega)]
theorem sL_zero {n : Nat} {f : Nat → Int64} (e : ∀ k, k < n → f k = 0) : sL n f = 0 := by
  induction n with
  | zero => rfl
  | succ n ih => unfold sL; rw [ih (fun k hk => e k (by omega)), e n (by omega)]; rfl
theorem sL_succ {n : Nat} {f : Nat → Int64} : sL (n + 1) f = sL n f + f n := rfl
theorem sL_upd {n : Nat} {f X : Nat → Int64} {a : Nat} {v : Int64} (ha : a < n) : sL n (fun k => (if k = a then f a + v else f k) * X k) = sL n (fun k => f k * X k) + v * X a := by
  induction n with
  | zero => omega
  | succ n ih =>
    simp only [sL_succ]
    by_cases e : n = a
    · subst e
      have : sL n (fun k => (if k = n then f n + v else f k) * X k) = sL n (fun k => f k * X k) := sL_ext (fun k hk => by rw [if_neg (by omega)])
      rw [this]
      simp only [if_true]
      grind
    · rw [ih (by omega)]
      simp only [if_neg e]
      grind
theorem sL_add {n : Nat} {f h : Nat → Int64} : sL n (fun k => f k + h k) = sL n f + sL n h := by
  induction n with
  | zero => rfl
  | succ n ih => unfold sL; rw [ih]; grind
theorem sL_mul {n : Nat} {f : Nat → Int64} {c : Int64} : sL n (fun k => c * f k) = c * sL n f := by
  induction n with
  | zero => unfold sL; grind
  | succ n ih => unfold sL; rw [ih]; grind
theorem sL_one {n a : Nat} {f : Nat → Int64} (ha : a < n) (h : ∀ k, k < n → k ≠ a → f k = 0) : sL n f = f a := by
  induction n with
  | zero => omega
  | succ n ih =>
    unfold sL
    by_cases e : n = a
    · subst e
      rw [sL_zero (fun k hk => h k (by omega) (by omega))]
      grind
    · rw [ih (by omega) (fun k h1 h2 => h k (by omega) h2), h n (by omega) e]
      grind
theorem sL_split {n m : Nat} {f : Nat → Int64} (hm : n ≤ m) (h : ∀ k, n ≤ k → k < m → f k = 0) : sL m f = sL n f := by
  induction m with
  | zero => rw [show n = 0 by omega]
  | succ m ih =>
    by_cases e : n = m + 1
    · rw [e]
    · rw [sL_succ, ih (by omega) (fun k h1 h2 => h k h1 (by omega)), h m (by omega) (by omega)]
      exact Int64.add_zero _
theorem jL_0 : jL 0 = 0 := rfl
theorem jL_1 : jL 1 = 1 := rfl
theorem jLa (a b : Int) : jL (a + b) = jL a + jL b := (jL_add a b).symm
theorem jLm (a b : Int) : jL (a * b) = jL a * jL b := (jL_mul a b).symm
theorem jLs (a b : Int) : jL (a - b) = jL a - jL b := (jL_sub a b).symm
/-! the chain of one ALONE: of N for each tick; states 16 a riddle: 0 .. 5 thinks, 5 + left walks, 11 + left astray -/
def kmo (d : Nat) : Nat := if d < 5 then d + 1 else 5
/-- one that thinks, at one riddle: X says what it is worth to have solved in tick 10 - n .. ; n ticks are left -/
def yV (N : Int) (D : Nat) (g e : Nat → Int) (X : Nat → Int) : Nat → Nat → Int
  | 0, _ => 0
  | n + 1, d => if d ≤ 5 then g d * X (10 - n) + e d * yV N D g e X n (11 + D) + (N - g d - e d) * yV N D g e X n (kmo d)
    else if d = 12 then N * yV N D g e X n 0 else N * yV N D g e X n (d - 1)
/-- astray: so many ticks on, thinking -/
theorem yV_astray {N : Int} {D : Nat} {g e : Nat → Int} {X : Nat → Int} : ∀ (l n : Nat), 1 ≤ l → l ≤ 4 → yV N D g e X n (11 + l) = if l ≤ n then N ^ l * yV N D g e X (n - l) 0 else 0 := by
  intro l
  induction l with
  | zero => intro n h; omega
  | succ l ih =>
    intro n h1 h2
    cases n with
    | zero => rw [if_neg (by omega)]; rfl
    | succ n =>
      rw [yV, if_neg (by omega)]
      by_cases hl : l = 0
      · subst hl
        rw [if_pos (by omega), if_pos (by omega), Int.pow_succ, Int.pow_zero]
        rw [show n + 1 - (0 + 1) = n by omega, Int.one_mul]
      · rw [if_neg (by omega), show 11 + (l + 1) - 1 = 11 + l by omega, ih n (by omega) (by omega)]
        by_cases hn : l ≤ n
        · rw [if_pos hn, if_pos (by omega), Int.pow_succ, show n + 1 - (l + 1) = n - l by omega]
          grind
        · rw [if_neg hn, if_neg (by omega)]
          grind
/-- to a place p: exactly n ticks on; hV p n k, k a state -/
def hV (N : Int) (D : Nat) (g e : Nat → Nat → Int) (st : Nat → Nat) (p : Nat) : Nat → Nat → Int
  | 0, k => if k = 16 * p then 1 else 0
  | n + 1, k => if 16 * p ≤ k then 0 else
    (if k % 16 ≤ 5 then g (k / 16) (k % 16) * hV N D g e st p n (16 * (k / 16) + 5 + st (k / 16)) + e (k / 16) (k % 16) * hV N D g e st p n (16 * (k / 16) + 11 + D) + (N - g (k / 16) (k % 16) - e (k / 16) (k % 16)) * hV N D g e st p n (16 * (k / 16) + kmo (k % 16))
    else if k % 16 = 6 then N * hV N D g e st p n (16 * (k / 16 + 1)) else if k % 16 = 12 then N * hV N D g e st p n (16 * (k / 16)) else N * hV N D g e st p n (k - 1))
theorem hV_walk {N : Int} {D : Nat} {g e : Nat → Nat → Int} {st : Nat → Nat} {p r : Nat} (hr : r < p) : ∀ (l n : Nat), 1 ≤ l → l ≤ 6 → hV N D g e st p n (16 * r + 5 + l) = if l ≤ n then N ^ l * hV N D g e st p (n - l) (16 * (r + 1)) else 0 := by
  intro l
  induction l with
  | zero => intro n h; omega
  | succ l ih =>
    intro n h1 h2
    cases n with
    | zero => rw [hV, if_neg (by omega), if_neg (by omega)]
    | succ n =>
      have e1 : (16 * r + 5 + (l + 1)) % 16 = 6 + l := by omega
      have e2 : (16 * r + 5 + (l + 1)) / 16 = r := by omega
      rw [hV, if_neg (by omega), e1, e2, if_neg (by omega)]
      by_cases hl : l = 0
      · subst hl
        rw [if_pos (by omega), if_pos (by omega), Int.pow_succ, Int.pow_zero]
        rw [show n + 1 - (0 + 1) = n by omega, Int.one_mul]
      · rw [if_neg (by omega), if_neg (by omega), show 16 * r + 5 + (l + 1) - 1 = 16 * r + 5 + l by omega, ih n (by omega) (by omega)]
        by_cases hn : l ≤ n
        · rw [if_pos hn, if_pos (by omega), Int.pow_succ, show n + 1 - (l + 1) = n - l by omega]
          grind
        · rw [if_neg hn, if_neg (by omega)]
          grind
/-- thinking on the way to a place, by what solving is worth -/
theorem hV_think {N : Int} {D : Nat} {g e : Nat → Nat → Int} {st : Nat → Nat} {p r m : Nat} {X : Nat → Int} (hr : r < p) (hD : 1 ≤ D ∧ D ≤ 4) (hs : 1 ≤ st r ∧ st r ≤ 6) (hm : m ≤ 10) (hX0 : ∀ k, ¬ k + st r ≤ m → X k = 0) (hX1 : ∀ k, 1 ≤ k → k + st r ≤ m → X k = N ^ st r * hV N D g e st p (m - k - st r) (16 * (r + 1))) : ∀ (n j d : Nat), n + j = 10 → (d ≤ 5 ∨ (12 ≤ d ∧ d ≤ 15)) →
    yV N D (g r) (e r) X n d = if j ≤ m then hV N D g e st p (m - j) (16 * r + d) else 0 := by
  intro n
  induction n with
  | zero =>
    intro j d hj hd
    rw [yV]
    by_cases h : j ≤ m
    · rw [if_pos h, show m - j = 0 by omega, hV, if_neg (by omega)]
    · rw [if_neg h]
  | succ n ih =>
    intro j d hj hd
    have i1 := ih (j + 1) (11 + D) (by omega) (by omega)
    have i2 := ih (j + 1) (kmo d) (by omega) (by unfold kmo; split <;> omega)
    have i3 := ih (j + 1) 0 (by omega) (by omega)
    by_cases h : j < m
    rotate_left
    · rw [if_neg (by omega)] at i1 i2 i3
      have r0 : (if j ≤ m then hV N D g e st p (m - j) (16 * r + d) else 0) = 0 := by
        by_cases hj : j ≤ m
        · rw [if_pos hj, show m - j = 0 by omega, hV, if_neg (by omega)]
        · rw [if_neg hj]
      rw [r0, yV]
      by_cases hd5 : d ≤ 5
      · rw [if_pos hd5, i1, i2, hX0 _ (by omega)]
        grind
      · rw [if_neg hd5]
        by_cases h12 : d = 12
        · rw [if_pos h12, i3]
          grind
        · have i4 := ih (j + 1) (d - 1) (by omega) (by omega)
          rw [if_neg (by omega)] at i4
          rw [if_neg h12, i4]
          grind
    obtain ⟨q, hq⟩ : ∃ q, m - j = q + 1 := ⟨m - j - 1, by omega⟩
    have hq' : m - (j + 1) = q := by omega
    rw [if_pos (by omega), hq'] at i1 i2 i3
    have e2 : (16 * r + d) / 16 = r := by omega
    have e1 : (16 * r + d) % 16 = d := by omega
    have rh : (if j ≤ m then hV N D g e st p (m - j) (16 * r + d) else 0) = (if d ≤ 5 then g r d * hV N D g e st p q (16 * r + 5 + st r) + e r d * hV N D g e st p q (16 * r + 11 + D) + (N - g r d - e r d) * hV N D g e st p q (16 * r + kmo d)
        else if d = 6 then N * hV N D g e st p q (16 * (r + 1)) else if d = 12 then N * hV N D g e st p q (16 * r) else N * hV N D g e st p q (16 * r + d - 1)) := by
      rw [if_pos (by omega), hq, hV, if_neg (by omega), e1, e2]
    rw [rh, yV]
    by_cases hd5 : d ≤ 5
    · rw [if_pos hd5, if_pos hd5, show 10 - n = j + 1 by omega, i1, i2]
      have w := hV_walk (N := N) (D := D) (g := g) (e := e) (st := st) hr (st r) q hs.1 hs.2
      rw [w]
      have ex : X (j + 1) = if st r ≤ q then N ^ st r * hV N D g e st p (q - st r) (16 * (r + 1)) else 0 := by
        by_cases c : st r ≤ q
        · rw [if_pos c, hX1 _ (by omega) (by omega), hq']
        · rw [if_neg c, hX0 _ (by omega)]
      rw [ex, show 16 * r + (11 + D) = 16 * r + 11 + D by omega]
    · rw [if_neg hd5, if_neg hd5]
      by_cases h12 : d = 12
      · rw [if_pos h12, if_neg (by omega), if_pos h12, i3]
        rfl
      · have i4 := ih (j + 1) (d - 1) (by omega) (by omega)
        rw [if_pos (by omega), hq'] at i4
        rw [if_neg h12, if_neg (by omega), if_neg h12, i4, show 16 * r + d - 1 = 16 * r + (d - 1) by omega]
