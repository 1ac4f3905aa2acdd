/-! ===== KNEW: class ===== -/
theorem euE_le : ∀ n x y, y ≤ n → euE n x y := by
  intro n
  induction n with
  | zero => intro x y h; show y = 0; omega
  | succ n ih =>
    intro x y h
    by_cases c : y = 0
    · exact Or.inl c
    · exact Or.inr (ih y (x % y) (by have := Nat.mod_lt x (show y > 0 by omega); omega))
theorem jL_int32 (z : Int) : Int64.toInt32 (jL z) = jI z := Int64.toInt32_ofInt
def gBd (s : mS) (i : Nat) : Int := s 9 (3 * i)
def gR (s : mS) (i : Nat) : Int := s 9 (3 * i + 1)
def gTk (s : mS) (i : Nat) : Int := s 9 (3 * i + 2)
/-- bands and riddles of the log are there -/
def rLh (s : mS) : Prop := ∀ i : Nat, (i : Int) < s 0 6 → gBd s i < s 0 1 ∧ gR s i < s 0 0
def lbef (s : mS) (i : Nat) : Nat → Int
  | 0 => -1
  | j + 1 => if gBd s j = gBd s i then (j : Int) else lbef s i j
def lcame (s : mS) (i : Nat) : Nat → Int
  | 0 => 0
  | j + 1 => if gBd s j = gBd s i then gTk s j + wK s (gBd s j).toNat (gR s j).toNat else lcame s i j
theorem lbef_b (s : mS) (i j : Nat) : -1 ≤ lbef s i j ∧ lbef s i j < j := by
  induction j with
  | zero => unfold lbef; omega
  | succ j ih =>
    unfold lbef
    split
    · omega
    · omega
theorem lcame_e (s : mS) (i j : Nat) : lcame s i j = if lbef s i j = -1 then 0 else gTk s (lbef s i j).toNat + wK s (gBd s i).toNat (gR s (lbef s i j).toNat).toNat := by
  induction j with
  | zero => rfl
  | succ j ih =>
    unfold lcame lbef
    by_cases c : gBd s j = gBd s i
    · rw [if_pos c, if_pos c, if_neg (by omega), Int.toNat_natCast, c]
    · rw [if_neg c, if_neg c, ih]
theorem lcame_b {s : mS} (hL : rLg s) (i j : Nat) : 0 ≤ lcame s i j ∧ lcame s i j ≤ 16 := by
  induction j with
  | zero => exact ⟨by show (0 : Int) ≤ 0; omega, by show (0 : Int) ≤ 16; omega⟩
  | succ j ih =>
    unfold lcame
    have := hL (3 * j + 2)
    have := wK_b s (gBd s j).toNat (gR s j).toNat
    split
    · unfold gTk; omega
    · exact ih
/-- for how long it had thought -/
def lTh (s : mS) (i : Nat) : Int := if gTk s i - 1 - lcame s i i < 0 then 0 else if 5 < gTk s i - 1 - lcame s i i then 5 else gTk s i - 1 - lcame s i i
def lSeB (s : mS) (i : Nat) : Nat → Bool
  | 0 => false
  | j + 1 => lSeB s i j || decide (gR s j = gR s i ∧ gBd s j ≠ gBd s i ∧ gTk s i - 2 ≤ gTk s j)
def lSee (s : mS) (i : Nat) : Prop := ∃ j : Nat, j < i ∧ gR s j = gR s i ∧ gBd s j ≠ gBd s i ∧ gTk s i - 2 ≤ gTk s j
theorem lSeB_k (s : mS) (i k : Nat) : lSeB s i k = true ↔ ∃ j : Nat, j < k ∧ gR s j = gR s i ∧ gBd s j ≠ gBd s i ∧ gTk s i - 2 ≤ gTk s j := by
  induction k with
  | zero => constructor
            · intro h; exact absurd h (show ¬ (false = true) by decide)
            · intro ⟨j, h, _⟩; omega
  | succ k ih =>
    unfold lSeB
    rw [Bool.or_eq_true, ih, decide_eq_true_iff]
    constructor
    · intro h
      rcases h with ⟨j, h1, h2⟩ | h
      · exact ⟨j, by omega, h2⟩
      · exact ⟨k, by omega, h⟩
    · intro ⟨j, h1, h2⟩
      by_cases c : j = k
      · rw [c] at h2; exact Or.inr h2
      · exact Or.inl ⟨j, by omega, h2⟩
def vKnew (s : mS) (zi ze zw : Int) : Prop := (0 ≤ zi ∧ zi < s 0 6) ∧ (1 ≤ ze ∧ ze ≤ 8) ∧ 0 ≤ zw ∧ zw ≤ 1
def gKnew (s : mS) (i : Nat) : Int := gK s (s 4 (gBd s i).toNat) (gBd s i).toNat (gR s i).toNat (lTh s i).toNat
def aKnew (s : mS) (i : Nat) (ze zw : Int) : Int :=
  if gKnew s i = 0 then zw else
    if zw = 0 then fracA (gKnew s i).toNat (gKnew s i + (if lSeB s i i = true then ze else 0)).toNat else fracB (gKnew s i).toNat (gKnew s i + (if lSeB s i i = true then ze else 0)).toNat
section KN
variable {d : Nat} {Th : mT} {M : mM} {n m : Nat} {s : mS} {c : Int}
theorem s5_goingBefore {Q : Int32 → mM → Prop} {i : Nat} (hT : Ly Th n) (hR : Rf n M) (hH : cLog n s M) (hG : rG s) (hL : rLg s) (hi : (i : Int) < s 0 6) (k : Q (jI (lbef s i i)) M) : P5_goingBefore (d + 3) Th (n + 105) (jI i) M Q := by
  have g := hG.2.2.2.2.2.2.1
  have key : ∀ u j : Nat, j + u = i → H5_goingBefore_4 (d + 3) Th Q (n + 105) (jI i) (jI (lbef s i j)) (jI j) M := by
    intro u
    induction u with
    | zero =>
      intro j hj
      refine h5_goingBefore_4 ?_
      rw [if_pos (by rw [jIle (rI_nat (by omega)) (rI_nat (by omega))]; omega), show j = i by omega]
      exact k
    | succ u ih =>
      intro j hj
      refine h5_goingBefore_4 ?_
      rw [if_neg (by rw [jIle (rI_nat (by omega)) (rI_nat (by omega))]; omega)]
      refine ⟨hT 105 _ rfl, ?_⟩
      rw [if_neg (by rw [hH.1, jIle (rI_of (by omega) (by omega)) (rI_nat (by omega))]; omega), i0]
      refine s5_entry hT hR hH hG (rI_nat (by omega)) rI0 ?_
      refine s5_entry hT hR hH hG (rI_nat (by omega)) rI0 ?_
      rw [show eLog s (j : Int) 0 = gBd s j from eLog_in (w := 0) (by omega) (by omega), show eLog s (i : Int) 0 = gBd s i from eLog_in (w := 0) (by omega) (by omega)]
      intro x hx
      have b1 := hL (3 * j)
      have b2 := hL (3 * i)
      have e : x = jI (lbef s i (j + 1)) := by
        rw [hx, lbef]
        by_cases c : gBd s j = gBd s i
        · rw [if_pos c, if_pos (by rw [c])]
        · rw [if_neg c, if_neg (by rw [jIeq (rI_of (by unfold gBd; omega) (by unfold gBd; omega)) (rI_of (by unfold gBd; omega) (by unfold gBd; omega))]; exact c)]
      rw [e, jI_s]
      exact ih (j + 1) (by omega)
  exact e5_goingBefore (key i 0 (by omega))
theorem s5_seesGoing {Q : Int32 → mM → Prop} {i : Nat} (hT : Ly Th n) (hR : Rf n M) (hH : cLog n s M) (hG : rG s) (hL : rLg s) (hi : (i : Int) < s 0 6) (k1 : lSee s i → Q 1 M) (k0 : ¬ lSee s i → Q 0 M) : P5_seesGoing (d + 3) Th (n + 105) (jI i) M Q := by
  have g := hG.2.2.2.2.2.2.1
  have ent : ∀ (j w : Nat) (Q' : Int32 → mM → Prop), (j : Int) < s 0 6 → w ≤ 2 → Q' (jI (s 9 (3 * j + w))) M → P5_entry (d + 2) Th (n + 105) (jI j) (jI (w : Int)) M Q' := by
    intro j w Q' hj hw kk
    refine s5_entry hT hR hH hG (rI_nat (by omega)) (rI_nat (by omega)) ?_
    rw [eLog_in hj hw]
    exact kk
  have rr : ∀ k, rI (s 9 k) := fun k => by have := hL k; exact rI_of (by omega) (by omega)
  have key : ∀ u j : Nat, j + u = i → (∀ a : Nat, a < j → ¬ (gR s a = gR s i ∧ gBd s a ≠ gBd s i ∧ gTk s i - 2 ≤ gTk s a)) → H5_seesGoing_2 (d + 3) Th Q (n + 105) (jI i) (jI j) M := by
    intro u
    induction u with
    | zero =>
      intro j hj hno
      refine h5_seesGoing_2 ?_
      rw [if_pos (by rw [jIle (rI_nat (by omega)) (rI_nat (by omega))]; omega)]
      exact k0 (fun ⟨a, h1, h2⟩ => hno a (by omega) h2)
    | succ u ih =>
      intro j hj hno
      refine h5_seesGoing_2 ?_
      rw [if_neg (by rw [jIle (rI_nat (by omega)) (rI_nat (by omega))]; omega)]
      refine ⟨hT 105 _ rfl, ?_⟩
      rw [if_neg (by rw [hH.1, jIle (rI_of (by omega) (by omega)) (rI_nat (by omega))]; omega)]
      have next : ¬ (gR s j = gR s i ∧ gBd s j ≠ gBd s i ∧ gTk s i - 2 ≤ gTk s j) → H5_seesGoing_2 (d + 3) Th Q (n + 105) (jI i) (jI (j : Int) + 1) M := by
        intro h
        rw [jI_s]
        refine ih (j + 1) (by omega) (fun a ha => ?_)
        by_cases q : a = j
        · rw [q]; exact h
        · exact hno a (by omega)
      refine ent j 0 _ (by omega) (by omega) ?_
      refine ent i 0 _ (by omega) (by omega) ?_
      simp only [jIeq (rr (3 * j + 0)) (rr (3 * i + 0))]
      have z50 : gBd s j = gBd s i ∨ gR s j ≠ gR s i → H5_seesGoing_50 (d + 3) Th Q (n + 105) (jI i) (jI j) 0 M := by
        intro h
        refine h5_seesGoing_50 ?_
        rw [if_pos rfl]
        exact next (fun q => by rcases h with h | h; exact q.2.1 h; exact h q.1)
      by_cases c : s 9 (3 * j + 0) = s 9 (3 * i + 0)
      · rw [if_pos c]
        exact z50 (Or.inl c)
      · rw [if_neg c]
        refine ent j 1 _ (by omega) (by omega) ?_
        refine ent i 1 _ (by omega) (by omega) ?_
        simp only [jIeq (rr (3 * j + 1)) (rr (3 * i + 1))]
        by_cases c2 : s 9 (3 * j + 1) = s 9 (3 * i + 1)
        · rw [if_pos c2]
          refine h5_seesGoing_50 ?_
          rw [if_neg (by decide)]
          refine ⟨hT 105 _ rfl, ?_⟩
          refine ent j 2 _ (by omega) (by omega) ?_
          refine ent i 2 _ (by omega) (by omega) ?_
          have b1 := hL (3 * i + 2)
          rw [i2, jI_sub]
          by_cases c3 : s 9 (3 * j + 2) < s 9 (3 * i + 2) - 2
          · rw [if_pos (by rw [jIlt (rr _) (rI_of (by omega) (by omega))]; exact c3)]
            exact next (fun q => by have := q.2.2; unfold gTk at this; omega)
          · rw [if_neg (by rw [jIlt (rr _) (rI_of (by omega) (by omega))]; exact c3)]
            exact k1 ⟨j, by omega, c2, c, by unfold gTk; omega⟩
        · rw [if_neg c2]
          exact z50 (Or.inr c2)
  exact e5_seesGoing (key i 0 (by omega) (fun a ha => absurd ha (by omega)))
theorem lTh_b (s : mS) (i : Nat) : 0 ≤ lTh s i ∧ lTh s i ≤ 5 := by
  unfold lTh
  split
  · omega
  · split <;> omega
theorem s10_thoughtBefore {Q : Int32 → mM → Prop} {i : Nat} (hT : Ly Th n) (hR : Rf n M) (hI : cHill n s M) (hH : cLog n s M) (hG : rG s) (hL : rLg s) (hLh : rLh s) (hi : (i : Int) < s 0 6) (k : Q (jI (lTh s i)) M) : P10_thoughtBefore (d + 5) Th n (jI i) M Q := by
  have g := hG.2.2.2.2.2.2.1
  have ent : ∀ (j w : Nat) (d : Nat) (Q' : Int32 → mM → Prop), (j : Int) < s 0 6 → w ≤ 2 → Q' (jI (s 9 (3 * j + w))) M → P5_entry (d + 2) Th (n + 105) (jI j) (jI (w : Int)) M Q' := by
    intro j w d Q' hj hw kk
    refine s5_entry hT hR hH hG (rI_nat (by omega)) (rI_nat (by omega)) ?_
    rw [eLog_in hj hw]
    exact kk
  have fin : H10_thoughtBefore_53 (d + 5) Th Q n (jI i) (jI (lcame s i i)) M := by
    refine h10_thoughtBefore_53 ⟨hT 0 _ rfl, n + 105, hR 0 8 105 (by decide), hT 105 _ rfl, ?_⟩
    refine ent i 2 (d + 2) _ hi (by omega) ?_
    have b1 := hL (3 * i + 2)
    have b2 := lcame_b hL i i
    rw [show jI (s 9 (3 * i + 2)) - 1 - jI (lcame s i i) = jI (s 9 (3 * i + 2) - 1 - lcame s i i) by rw [i1, jI_sub, jI_sub]]
    have e : (if 0 < (if jI (s 9 (3 * i + 2) - 1 - lcame s i i) < 5 then jI (s 9 (3 * i + 2) - 1 - lcame s i i) else 5) then (if jI (s 9 (3 * i + 2) - 1 - lcame s i i) < 5 then jI (s 9 (3 * i + 2) - 1 - lcame s i i) else 5) else 0) = jI (lTh s i) := by
      have rr : rI (s 9 (3 * i + 2) - 1 - lcame s i i) := rI_of (by omega) (by omega)
      unfold lTh gTk
      generalize s 9 (3 * i + 2) - 1 - lcame s i i = z at rr ⊢
      simp only [jl5 rr]
      by_cases c1 : z < 5
      · simp only [if_pos c1, if_neg (show ¬ 5 < z by omega)]
        simp only [show ((0 : Int32) < jI z) = (0 < z) from jg0 rr]
        by_cases c2 : 0 < z
        · rw [if_pos c2, if_neg (by omega)]
        · rw [if_neg c2]
          by_cases c3 : z < 0
          · rw [if_pos c3]; rfl
          · rw [if_neg c3, show z = 0 by omega]; rfl
      · simp only [if_neg c1]
        rw [if_pos (by decide), if_neg (by omega)]
        by_cases c2 : 5 < z
        · rw [if_pos c2]; rfl
        · rw [if_neg c2, show z = 5 by omega]; rfl
    rw [e]
    exact k
  refine e10_thoughtBefore ⟨hT 0 _ rfl, n + 105, hR 0 8 105 (by decide), hT 105 _ rfl, ?_⟩
  refine s5_goingBefore (d := d + 1) hT hR hH hG hL hi ?_
  have hb := lbef_b s i i
  have he := lcame_e s i i
  by_cases c0 : lbef s i i = -1
  · rw [if_pos (by rw [c0]; rfl)]
    rw [if_pos c0] at he
    rw [he] at fin
    exact fin
  · rw [if_neg (by rw [jqN (rI_of (by omega) (by omega))]; exact c0)]
    rw [if_neg c0] at he
    obtain ⟨j, hj⟩ : ∃ j : Nat, lbef s i i = j := ⟨(lbef s i i).toNat, by omega⟩
    rw [hj, Int.toNat_natCast] at he
    rw [hj]
    have hji : (j : Int) < s 0 6 := by omega
    refine ⟨n + 105, hR 0 8 105 (by decide), hT 105 _ rfl, ?_⟩
    refine ent j 2 (d + 2) _ hji (by omega) ?_
    refine ⟨n + 3, hR 0 1 3 (by decide), n + 105, hR 0 8 105 (by decide), hT 105 _ rfl, ?_⟩
    refine ent i 0 (d + 2) _ hi (by omega) ?_
    refine ⟨n + 105, hR 0 8 105 (by decide), hT 105 _ rfl, ?_⟩
    refine ent j 1 (d + 2) _ hji (by omega) ?_
    refine ⟨hT 3 _ rfl, ?_⟩
    have h1 := hLh i hi
    have h2 := hLh j hji
    have b1 := hL (3 * i)
    have b2 := hL (3 * j + 1)
    unfold gBd gR at h1 h2 he
    unfold gTk at he
    obtain ⟨b, qb⟩ : ∃ b : Nat, s 9 (3 * i + 0) = b := ⟨(s 9 (3 * i)).toNat, by show s 9 (3 * i) = _; omega⟩
    obtain ⟨r, qr⟩ : ∃ r : Nat, s 9 (3 * j + 1) = r := ⟨(s 9 (3 * j + 1)).toNat, by omega⟩
    have qb' : s 9 (3 * i) = b := qb
    rw [qb', qr] at he
    simp only [Int.toNat_natCast] at he
    rw [qb, qr]
    rw [qb'] at h1
    rw [qr] at h2
    refine s2_steps (d := d + 2) hT hR hI hG h1.1 h2.2 ?_
    rw [jI_add, ← he]
    exact fin
end KN
