/-! ===== AFTER: values from behind ===== -/
/-- what x has of it that y solved a riddle in a tick: n ticks are left behind it; F what a state is worth then -/
def aSo (wy wx : Nat → Nat) (R last : Nat) (w : Bool) (F : Nat → Nat → Int) (n r late : Nat) : Int :=
  if r + 1 < R then F (16 * r + 5 + wy r) (min 12 (max (last - n) late + wx r))
  else if max (last - n) late + wx r ≤ last ∧ (w = true → max (last - n) late + wx r < last - n + wy r) then 8 ^ n else 0
def aOp (D : Nat) (g e : Nat → Nat → Int) (wy wx : Nat → Nat) (R last : Nat) (w : Bool) (F : Nat → Nat → Int) (n k late : Nat) : Int :=
  if k % 16 ≤ 5 then g (k / 16) (k % 16) * aSo wy wx R last w F n (k / 16) late + e (k / 16) (k % 16) * F (16 * (k / 16) + 11 + D) late + (8 - g (k / 16) (k % 16) - e (k / 16) (k % 16)) * F (16 * (k / 16) + kmo (k % 16)) late
  else 8 * F (kgo k) late
def aV (D : Nat) (g e : Nat → Nat → Int) (wy wx : Nat → Nat) (R last : Nat) (w : Bool) : Nat → Nat → Nat → Int
  | 0, _, _ => 0
  | n + 1, k, late => if 16 * R ≤ k then 0 else aOp D g e wy wx R last w (aV D g e wy wx R last w n) n k late
section AV
variable {D : Nat} {g e : Nat → Nat → Int} {wy wx : Nat → Nat} {R last : Nat} {w : Bool}
theorem aV_late (hl : last ≤ 10) (hx : ∀ r, 1 ≤ wx r) : ∀ n k late, last < late → late ≤ 12 → aV D g e wy wx R last w n k late = 0 := by
  intro n
  induction n with
  | zero => intro k late _ _; rfl
  | succ n ih =>
    intro k late h h2
    rw [aV]
    split
    · rfl
    · unfold aOp
      split
      · have hs : aSo wy wx R last w (aV D g e wy wx R last w n) n (k / 16) late = 0 := by
          unfold aSo
          have := hx (k / 16)
          split
          · exact ih _ _ (by omega) (by omega)
          · rw [if_neg (by omega)]
        rw [hs, ih _ _ h h2, ih _ _ h h2]
        grind
      · rw [ih _ _ h h2]
        grind
theorem aV_box {n k late : Nat} (h : 16 * R ≤ k) : aV D g e wy wx R last w n k late = 0 := by
  cases n with
  | zero => rfl
  | succ n => rw [aV, if_pos h]
theorem aV_walk {r late : Nat} : ∀ (l n : Nat), 1 ≤ l → l ≤ 6 → aV D g e wy wx R last w n (16 * r + 5 + l) late = if l ≤ n ∧ r < R then 8 ^ l * aV D g e wy wx R last w (n - l) (16 * (r + 1)) late else 0 := by
  intro l
  induction l with
  | zero => intro n h; omega
  | succ l ih =>
    intro n h1 h2
    cases n with
    | zero => rw [if_neg (by omega)]; rfl
    | succ n =>
      by_cases hr : r < R
      rotate_left
      · rw [aV_box (by omega), if_neg (by omega)]
      have e1 : (16 * r + 5 + (l + 1)) % 16 = 6 + l := by omega
      have e2 : (16 * r + 5 + (l + 1)) / 16 = r := by omega
      rw [aV, if_neg (by omega)]
      unfold aOp
      rw [e1, if_neg (by omega)]
      by_cases hl : l = 0
      · subst hl
        have ek : kgo (16 * r + 5 + (0 + 1)) = 16 * (r + 1) := by unfold kgo; rw [e1, e2, if_pos (by omega)]
        rw [ek, if_pos (by omega), Int.pow_succ, Int.pow_zero, show n + 1 - (0 + 1) = n by omega, Int.one_mul]
      · have ek : kgo (16 * r + 5 + (l + 1)) = 16 * r + 5 + l := by unfold kgo; rw [e1, if_neg (by omega), if_neg (by omega)]; omega
        rw [ek, ih n (by omega) (by omega)]
        by_cases hn : l ≤ n
        · rw [if_pos ⟨hn, hr⟩, if_pos (by omega), Int.pow_succ, show n + 1 - (l + 1) = n - l by omega]
          grind
        · rw [if_neg (by omega), if_neg (by omega)]
          grind
/-- thinking, by what solving is worth -/
theorem aV_think {X : Nat → Int} {r came late : Nat} (hr : r < R) (hD : 1 ≤ D ∧ D ≤ 4) (hl : last ≤ 10) (hX0 : ∀ k, ¬ came + k ≤ last → X k = 0) (hX1 : ∀ k, 1 ≤ k → came + k ≤ last → X k = aSo wy wx R last w (aV D g e wy wx R last w (last - (came + k))) (last - (came + k)) r late) : ∀ (n j d : Nat), n + j = 10 → (d ≤ 5 ∨ (12 ≤ d ∧ d ≤ 15)) →
    yV 8 D (g r) (e r) X n d = if came + j ≤ last then aV D g e wy wx R last w (last - (came + j)) (16 * r + d) late else 0 := by
  intro n
  induction n with
  | zero =>
    intro j d hj hd
    rw [yV]
    by_cases h : came + j ≤ last
    · rw [if_pos h, show last - (came + j) = 0 by omega]; rfl
    · rw [if_neg h]
  | succ n ih =>
    intro j d hj hd
    have i1 := ih (j + 1) (11 + D) (by omega) (by omega)
    have i2 := ih (j + 1) (kmo d) (by omega) (by unfold kmo; split <;> omega)
    have i3 := ih (j + 1) 0 (by omega) (by omega)
    by_cases h : came + j < last
    rotate_left
    · rw [if_neg (by omega)] at i1 i2 i3
      have r0 : (if came + j ≤ last then aV D g e wy wx R last w (last - (came + j)) (16 * r + d) late else 0) = 0 := by
        by_cases hj : came + j ≤ last
        · rw [if_pos hj, show last - (came + j) = 0 by omega]; rfl
        · rw [if_neg hj]
      rw [r0, yV]
      by_cases hd5 : d ≤ 5
      · rw [if_pos hd5, i1, i2, hX0 _ (by omega)]
        grind
      · rw [if_neg hd5]
        by_cases h12 : d = 12
        · rw [if_pos h12, i3]
          grind
        · have i4 := ih (j + 1) (d - 1) (by omega) (by omega)
          rw [if_neg (by omega)] at i4
          rw [if_neg h12, i4]
          grind
    obtain ⟨q, hq⟩ : ∃ q, last - (came + j) = q + 1 := ⟨last - (came + j) - 1, by omega⟩
    have hq' : last - (came + (j + 1)) = q := by omega
    rw [if_pos (by omega), hq'] at i1 i2 i3
    have e2 : (16 * r + d) / 16 = r := by omega
    have e1 : (16 * r + d) % 16 = d := by omega
    rw [if_pos (by omega), hq, aV, if_neg (by omega), yV]
    unfold aOp
    rw [e1, e2]
    by_cases hd5 : d ≤ 5
    · rw [if_pos hd5, if_pos hd5, show 10 - n = j + 1 by omega, i1, i2, hX1 _ (by omega) (by omega), hq', show 16 * r + (11 + D) = 16 * r + 11 + D by omega]
    · rw [if_neg hd5, if_neg hd5]
      by_cases h12 : d = 12
      · have ek : kgo (16 * r + d) = 16 * r + 0 := by unfold kgo; rw [e1, e2, if_neg (by omega), if_pos h12]; omega
        rw [if_pos h12, i3, ek]
      · have i4 := ih (j + 1) (d - 1) (by omega) (by omega)
        rw [if_pos (by omega), hq'] at i4
        have ek : kgo (16 * r + d) = 16 * r + (d - 1) := by unfold kgo; rw [e1, if_neg (by omega), if_neg (by omega)]; omega
        rw [if_neg h12, i4, ek]
end AV
theorem sL_swap {n m : Nat} {f : Nat → Nat → Int64} : sL n (fun i => sL m (fun j => f i j)) = sL m (fun j => sL n (fun i => f i j)) := by
  induction n with
  | zero => exact (sL_zero (fun k _ => rfl)).symm
  | succ n ih =>
    simp only [sL_succ]
    rw [sL_add, ih]
theorem sL_mulr {n : Nat} {f : Nat → Int64} {c : Int64} : sL n (fun k => f k * c) = sL n f * c := by
  induction n with
  | zero => unfold sL; grind
  | succ n ih => simp only [sL_succ]; rw [ih]; grind
theorem sL_upd' {n : Nat} {f X : Nat → Int64} {a : Nat} {v : Int64} (ha : a < n ∨ X a = 0) : sL n (fun k => (if k = a then f a + v else f k) * X k) = sL n (fun k => f k * X k) + v * X a := by
  by_cases h : a < n
  · exact sL_upd h
  · have h0 := ha.resolve_left h
    rw [h0]
    have : sL n (fun k => (if k = a then f a + v else f k) * X k) = sL n (fun k => f k * X k) := sL_ext (fun k hk => by rw [if_neg (by omega)])
    rw [this]
    grind
/-! ===== AFTER, in the class ===== -/
/-- where the pairs stand -/
def lyCh (Th : mT) (n P L : Nat) (M : mM) : Prop := (Th.2.2 (n + 69) = some (.inl 0) ∧ (∀ i, i < 11 → Th.2.2 (n + 71 + i) = some (.inr (.long, false, 11)) ∧ Th.2.2 (n + 83 + i) = some (.inr (.long, false, 11))) ∧ Th.2.2 (n + 70) = some (.inr (.array .long, false, 11)) ∧ Th.2.2 (n + 82) = some (.inr (.array .long, false, 11))) ∧ ((P = n + 70 ∧ L = n + 82) ∨ (P = n + 82 ∧ L = n + 70)) ∧
  M.2.2 (n + 69) 0 = some P ∧ M.2.2 (n + 69) 1 = some L ∧ ∀ i, i < 11 → M.2.2 (n + 70) i = some (n + 71 + i) ∧ M.2.2 (n + 82) i = some (n + 83 + i)
section CH
variable {d : Nat} {Th : mT} {M : mM} {n P L : Nat}
/-- the pairs' own cells -/
def sCh (n : Nat) : Nat → Nat → Prop := fun q k => (q = n + 69 ∧ k ≤ 1) ∨ (n + 71 ≤ q ∧ q ≤ n + 81) ∨ (n + 83 ≤ q ∧ q ≤ n + 93)
theorem lyCh.row (h : lyCh Th n P L M) {i : Nat} (hi : i < 11) : (Th.2.2 (P + 1 + i) = some (.inr (.long, false, 11)) ∧ M.2.2 P i = some (P + 1 + i)) ∧ Th.2.2 (L + 1 + i) = some (.inr (.long, false, 11)) ∧ M.2.2 L i = some (L + 1 + i) := by
  obtain ⟨⟨h0, h1, h2, h3⟩, h4, h5, h6, h7⟩ := h
  have a := h1 i hi
  have b := h7 i hi
  rcases h4 with ⟨z1, z2⟩ | ⟨z1, z2⟩ <;> subst z1 <;> subst z2
  · exact ⟨⟨a.1, b.1⟩, a.2, b.2⟩
  · exact ⟨⟨a.2, b.2⟩, a.1, b.1⟩
theorem lyCh.arr (h : lyCh Th n P L M) : Th.2.2 P = some (.inr (.array .long, false, 11)) ∧ Th.2.2 L = some (.inr (.array .long, false, 11)) := by
  obtain ⟨⟨h0, h1, h2, h3⟩, h4, -⟩ := h
  rcases h4 with ⟨z1, z2⟩ | ⟨z1, z2⟩ <;> subst z1 <;> subst z2
  · exact ⟨h2, h3⟩
  · exact ⟨h3, h2⟩
/-- only longs of rows are written -/
def sRw (n : Nat) : Nat → Nat → Prop := fun q _ => (n + 71 ≤ q ∧ q ≤ n + 81) ∨ (n + 83 ≤ q ∧ q ≤ n + 93)
theorem lyCh.mv {M' : mM} (h : lyCh Th n P L M) (he : Eo (sRw n) M M') : lyCh Th n P L M' := by
  obtain ⟨h0, h4, h5, h6, h7⟩ := h
  exact ⟨h0, h4, ((he _ _ (by unfold sRw; omega)).2.2).trans h5, ((he _ _ (by unfold sRw; omega)).2.2).trans h6, fun i hi => ⟨((he _ _ (by unfold sRw; omega)).2.2).trans (h7 i hi).1, ((he _ _ (by unfold sRw; omega)).2.2).trans (h7 i hi).2⟩⟩
/-- the rows at a place -/
def rwS (q : Nat) : Nat → Nat → Prop := fun q' _ => q + 1 ≤ q' ∧ q' ≤ q + 11
theorem s0_wipe {Q : mM → Prop} {B : Nat} (hB : Th.2.2 B = some (.inr (.array .long, false, 11))) (hr : ∀ i, i < 11 → Th.2.2 (B + 1 + i) = some (.inr (.long, false, 11)) ∧ M.2.2 B i = some (B + 1 + i)) (K : ∀ M', (∀ i k, i < 11 → k < 11 → M'.2.1 (B + 1 + i) k = 0) → Eo (rwS B) M M' → Q M') : P0_wipe (d + 1) Th B M Q := by
  have ref : ∀ M1, Eo (rwS B) M M1 → ∀ i, i < 11 → M1.2.2 B i = some (B + 1 + i) := fun M1 he i hi => ((he _ _ (by unfold rwS; omega)).2.2).trans (hr i hi).2
  have inner : ∀ (u j i : Nat) (M1 : mM), u + j = 11 → i < 11 → Eo (rwS B) M M1 → (∀ i' k, i' < i → k < 11 → M1.2.1 (B + 1 + i') k = 0) → (∀ k, k < j → M1.2.1 (B + 1 + i) k = 0) → (∀ M2, Eo (rwS B) M M2 → (∀ i' k, i' < i + 1 → k < 11 → M2.2.1 (B + 1 + i') k = 0) → H0_wipe_2 (d + 1) Th Q B (jI ((i + 1 : Nat) : Int)) M2) → H0_wipe_10 (d + 1) Th Q B (jI i) (jI j) M1 := by
    intro u
    induction u with
    | zero =>
      intro j i M1 hu hi he hz hz2 k
      refine h0_wipe_10 ⟨m_okO_jI hB (by omega) (by omega) (by omega), B + 1 + i, by rw [jInatN i (by omega)]; exact ref M1 he i hi, _, _, _, (hr i hi).1, ?_⟩
      rw [jI_nI, if_pos (by rw [jIle (rI_nat (by omega)) (rI_nat (by omega))]; omega), jI_s]
      refine k M1 he (fun i' k' h1 h2 => ?_)
      by_cases c : i' = i
      · subst c; exact hz2 k' (by omega)
      · exact hz i' k' (by omega) h2
    | succ u ih =>
      intro j i M1 hu hi he hz hz2 k
      refine h0_wipe_10 ⟨m_okO_jI hB (by omega) (by omega) (by omega), B + 1 + i, by rw [jInatN i (by omega)]; exact ref M1 he i hi, _, _, _, (hr i hi).1, ?_⟩
      rw [jI_nI, if_neg (by rw [jIle (rI_nat (by omega)) (rI_nat (by omega))]; omega)]
      refine ⟨m_okw_jI (hr i hi).1 (by omega) (by omega) (by omega), ?_⟩
      rw [jInatN j (by omega), jI_s]
      refine ih (j + 1) i _ (by omega) hi (he.trans (Eo.rf.ul ⟨by omega, by omega⟩)) (fun i' k' h1 h2 => by rw [m_ul_far (by omega)]; exact hz i' k' h1 h2) (fun k' hk => ?_) k
      rw [m_ul_row]
      by_cases c : k' = j
      · rw [if_pos c]
      · rw [if_neg c]; exact hz2 k' (by omega)
  have outer : ∀ (u i : Nat) (M1 : mM), u + i = 11 → Eo (rwS B) M M1 → (∀ i' k, i' < i → k < 11 → M1.2.1 (B + 1 + i') k = 0) → H0_wipe_2 (d + 1) Th Q B (jI i) M1 := by
    intro u
    induction u with
    | zero =>
      intro i M1 hu he hz
      refine h0_wipe_2 ⟨_, _, _, hB, ?_⟩
      rw [jI_nI, if_pos (by rw [jIle (rI_nat (by omega)) (rI_nat (by omega))]; omega)]
      exact K M1 (fun i' k h1 h2 => hz i' k (by omega) h2) he
    | succ u ih =>
      intro i M1 hu he hz
      refine h0_wipe_2 ⟨_, _, _, hB, ?_⟩
      rw [jI_nI, if_neg (by rw [jIle (rI_nat (by omega)) (rI_nat (by omega))]; omega), i0]
      have q := inner 11 0 i M1 (by omega) (by omega) he hz (fun k hk => absurd hk (by omega)) (fun M2 a1 a2 => ih (i + 1) M2 (by omega) a1 a2)
      exact q
  refine e0_wipe ?_
  rw [i0]
  exact outer 11 0 M (by omega) Eo.rf (fun i' k h => absurd h (by omega))
end CH
