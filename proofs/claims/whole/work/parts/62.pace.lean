/-! ===== PACE: one ALONE, in the class ===== -/
def lyPa (Th : mT) (p : Nat) (M : mM) : Prop := (Th.2.2 p = some (.inl 7) ∧ Th.2.2 (p + 1) = some (.inr (.long, false, 11)) ∧ Th.2.2 (p + 2) = some (.inr (.array .long, false, 5)) ∧ (∀ r, r < 5 → Th.2.2 (p + 3 + r) = some (.inr (.long, false, 11))) ∧ Th.2.2 (p + 8) = some (.inr (.array .long, false, 6)) ∧ ∀ r, r < 6 → Th.2.2 (p + 9 + r) = some (.inr (.long, false, 11))) ∧
  M.2.2 p 0 = some (p + 1) ∧ M.2.2 p 1 = some (p + 2) ∧ M.2.2 p 2 = some (p + 8) ∧ (∀ r, r < 5 → M.2.2 (p + 2) r = some (p + 3 + r)) ∧ ∀ r, r < 6 → M.2.2 (p + 8) r = some (p + 9 + r)
/-- what a pace writes -/
def sPa (p : Nat) : Nat → Nat → Prop := fun q k => (q = p ∧ (k = 3 ∨ k = 4)) ∨ q = p + 1 ∨ (p + 3 ≤ q ∧ q ≤ p + 7) ∨ (p + 9 ≤ q ∧ q ≤ p + 14)
theorem lyPa.mv {Th : mT} {p : Nat} {M M' : mM} (h : lyPa Th p M) (he : Eo (sPa p) M M') : lyPa Th p M' := by
  obtain ⟨h0, h1, h2, h3, h4, h5⟩ := h
  exact ⟨h0, ((he _ _ (by unfold sPa; omega)).2.2).trans h1, ((he _ _ (by unfold sPa; omega)).2.2).trans h2, ((he _ _ (by unfold sPa; omega)).2.2).trans h3, fun r hr => ((he _ _ (by unfold sPa; omega)).2.2).trans (h4 r hr), fun r hr => ((he _ _ (by unfold sPa; omega)).2.2).trans (h5 r hr)⟩
/-- 2 to the shift, for a tick -/
def shN (sh : Nat) (N : Int) : Prop := (sh = 3 ∧ N = 8) ∨ (sh = 6 ∧ N = 64)
theorem shN_p3 : ∀ k : Fin 11, (2 : Int) ^ (3 * k.val) = 8 ^ k.val := by decide
theorem shN_p6 : ∀ k : Fin 11, (2 : Int) ^ (6 * k.val) = 64 ^ k.val := by decide
theorem shN_pow {sh : Nat} {N : Int} (h : shN sh N) {k : Nat} (hk : k ≤ 10) : (2 : Int) ^ (sh * k) = N ^ k := by
  rcases h with ⟨h1, h2⟩ | ⟨h1, h2⟩ <;> subst h1 <;> subst h2
  · exact shN_p3 ⟨k, by omega⟩
  · exact shN_p6 ⟨k, by omega⟩
theorem shN_one {sh : Nat} {N : Int} (h : shN sh N) : (1 : Int32) <<< (jI (sh : Int) &&& 31) = jI N := by
  rcases h with ⟨h1, h2⟩ | ⟨h1, h2⟩ <;> subst h1 <;> subst h2 <;> decide
theorem shl_N {sh k : Nat} {N : Int} (h : shN sh N) (hk : k ≤ 10) (x : Int64) : x <<< ((jI (sh : Int) * jI (k : Int)).toInt64 &&& 63) = x * jL (N ^ k) := by
  have hb : sh ≤ 6 := by rcases h with ⟨h1, _⟩ | ⟨h1, _⟩ <;> omega
  have hm : sh * k ≤ 6 * 10 := Nat.mul_le_mul hb hk
  rw [jI_mul, show (sh : Int) * (k : Int) = ((sh * k : Nat) : Int) by simp, jL_shl x (by omega) (by omega), Int.toNat_natCast, shN_pow h hk]
section PA
variable {d : Nat} {Th : mT} {M : mM} {p : Nat}
theorem m_ul_row {M : mM} {a t k : Nat} {x : Int64} : (m_ul M a t x).2.1 a k = if k = t then x else M.2.1 a k := by simp [m_u]
theorem m_ul_far {M : mM} {a t a' k : Nat} {x : Int64} (h : a' ≠ a) : (m_ul M a t x).2.1 a' k = M.2.1 a' k := by simp only [m_u_ne h]
theorem s7_wipe {Q : mM → Prop} {a L : Nat} (ha : Th.2.2 a = some (.inr (.long, false, L))) (hL : L ≤ 2000) (K : ∀ M', (∀ k, k < L → M'.2.1 a k = 0) → Eo (fun q _ => q = a) M M' → Q M') : P7_wipe (d + 1) Th a M Q := by
  have key : ∀ (u j : Nat) (M1 : mM), u + j = L → Eo (fun q _ => q = a) M M1 → (∀ k, k < j → M1.2.1 a k = 0) → H7_wipe_2 (d + 1) Th Q a (jI j) M1 := by
    intro u
    induction u with
    | zero =>
      intro j M1 hu he hz
      refine h7_wipe_2 ⟨_, _, _, ha, ?_⟩
      rw [jI_nI, if_pos (by rw [jIle (rI_nat (by omega)) (rI_nat (by omega))]; omega)]
      exact K M1 (fun k hk => hz k (by omega)) he
    | succ u ih =>
      intro j M1 hu he hz
      refine h7_wipe_2 ⟨_, _, _, ha, ?_⟩
      rw [jI_nI, if_neg (by rw [jIle (rI_nat (by omega)) (rI_nat (by omega))]; omega)]
      refine ⟨m_okw_jI ha (by omega) (by omega) (by omega), ?_⟩
      rw [jInatN j (by omega), jI_s]
      refine ih (j + 1) _ (by omega) (he.trans (Eo.rf.ul rfl)) (fun k hk => ?_)
      rw [m_ul_row]
      by_cases e : k = j
      · rw [if_pos e]
      · rw [if_neg e]; exact hz k (by omega)
  refine e7_wipe ?_
  rw [i0]
  exact key L 0 M (by omega) Eo.rf (fun k hk => absurd hk (by omega))
theorem sL_from {n i : Nat} {f : Nat → Int64} (hi : i < n) : sL n (fun j => if i ≤ j then f j else 0) = sL n (fun j => if i + 1 ≤ j then f j else 0) + f i := by
  induction n with
  | zero => omega
  | succ n ih =>
    simp only [sL_succ]
    by_cases e : i = n
    · subst e
      have h1 : sL i (fun j => if i ≤ j then f j else 0) = 0 := sL_zero (fun k hk => if_neg (by omega))
      have h2 : sL i (fun j => if i + 1 ≤ j then f j else 0) = 0 := sL_zero (fun k hk => if_neg (by omega))
      rw [h1, h2, if_pos (Nat.le_refl _), if_neg (by omega)]
      grind
    · rw [ih (by omega), if_pos (by omega), if_pos (by omega)]
      grind
theorem sL_upd_if {n i a : Nat} {f X : Nat → Int64} {v : Int64} (ha : a < n) (hi : i ≤ a) : sL n (fun j => if i ≤ j then (if j = a then f a + v else f j) * X j else 0) = sL n (fun j => if i ≤ j then f j * X j else 0) + v * X a := by
  have e1 : sL n (fun j => if i ≤ j then (if j = a then f a + v else f j) * X j else 0) = sL n (fun j => (if j = a then f a + v else f j) * (if i ≤ j then X j else 0)) := sL_ext (fun k _ => by
    by_cases h : i ≤ k
    · simp only [if_pos h]
    · simp only [if_neg h]; grind)
  have e2 : sL n (fun j => if i ≤ j then f j * X j else 0) = sL n (fun j => f j * (if i ≤ j then X j else 0)) := sL_ext (fun k _ => by
    by_cases h : i ≤ k
    · simp only [if_pos h]
    · simp only [if_neg h]; grind)
  rw [e1, e2, sL_upd ha, if_pos hi]
theorem kmo_min {a : Nat} : kmo (min 5 a) = min 5 (a + 1) := by unfold kmo; split <;> omega
set_option maxHeartbeats 1000000 in
theorem s7_think {Q : mM → Prop} {q r D sh : Nat} {N R : Int} {g e : Nat → Nat → Int} {st : Nat → Int} (hp : lyPa Th p M) (hq : lySk Th q M) (hv : vSk q R g e st M) (hd : q + 3 < p ∨ p + 14 < q) (h3 : M.1 p 3 = jI (sh : Int)) (hs : shN sh N) (hr5 : r < 5) (hr : (r : Int) < R) (hD : 1 ≤ D ∧ D ≤ 4) (hb : ∀ t, 0 ≤ g r t ∧ 0 ≤ e r t ∧ g r t + e r t ≤ N)
    (K : ∀ M', (∀ X : Nat → Int, sL 11 (fun k => M'.2.1 (p + 3 + r) k * jL (X k)) = jL (yV N D (g r) (e r) X 10 0)) → Eo (fun q' _ => q' = p + 1 ∨ q' = p + 3 + r) M M' → Q M') : P7_think (d + 3) Th p q (jI r) (jI D) M Q := by
  have hN : 8 ≤ N ∧ N ≤ 64 := by rcases hs with ⟨_, h⟩ | ⟨_, h⟩ <;> omega
  have hsu : ∀ q' k, (q' = p + 1 ∨ q' = p + 3 + r) → sPa p q' k := fun q' k h => by unfold sPa; omega
  have hrow := hp.1.2.2.2.1 r hr5
  have hfr := hp.1.2.1
  let V : (Nat → Int) → Nat → Nat → Int := fun X n t => yV N D (g r) (e r) X n t
  let I : Nat → mM → Prop := fun i M1 => ∀ X : Nat → Int, sL 11 (fun k => M1.2.1 (p + 3 + r) k * jL (X k)) + sL 11 (fun j => if i ≤ j then M1.2.1 (p + 1) j * jL (V X (10 - j) 0) else 0) = jL (V X 10 0)
  have inner : ∀ (u τ i : Nat) (still : Int64) (M1 : mM), u + τ = 11 → i + 1 ≤ τ → i < 10 → Eo (fun q' _ => q' = p + 1 ∨ q' = p + 3 + r) M M1 → (∀ X : Nat → Int, sL 11 (fun k => M1.2.1 (p + 3 + r) k * jL (X k)) + sL 11 (fun j => if i + 1 ≤ j then M1.2.1 (p + 1) j * jL (V X (10 - j) 0) else 0) + still * jL (V X (11 - τ) (min 5 (τ - 1 - i))) = jL (V X 10 0)) →
      (∀ M2, Eo (fun q' _ => q' = p + 1 ∨ q' = p + 3 + r) M M2 → I (i + 1) M2 → H7_think_30 (d + 3) Th Q p q (jI r) (jI D) (p + 3 + r) (jI ((i + 1 : Nat) : Int)) M2) → H7_think_52 (d + 3) Th Q p q (jI r) (jI D) (p + 3 + r) (jI i) still (jI τ) M1 := by
    intro u
    induction u with
    | zero =>
      intro τ i still M1 hu hi hi2 he hI k
      refine h7_think_52 ?_
      rw [if_pos (by rw [jg10 (rI_nat (by omega))]; omega), jI_s]
      refine k M1 he (fun X => ?_)
      have := hI X
      rw [show 11 - τ = 0 by omega, show V X 0 (min 5 (τ - 1 - i)) = 0 from rfl, jL_0] at this
      rw [← this]
      grind
    | succ u ih =>
      intro τ i still M1 hu hi hi2 he hI k
      refine h7_think_52 ?_
      rw [if_neg (by rw [jg10 (rI_nat (by omega))]; omega)]
      have hP1 := hp.mv (he.mono hsu)
      by_cases hst : still = 0
      · rw [if_pos (by rw [lc_eq]; exact hst), jI_s]
        refine k M1 he (fun X => ?_)
        have := hI X
        rw [hst] at this
        rw [← this]
        grind
      rw [if_neg (by rw [lc_eq]; exact hst)]
      intro xv1 h1
      have hx1 : xv1 = jI ((min 5 (τ - 1 - i) : Nat) : Int) := by
        rw [h1, kI1, jI_sub, jI_sub]
        simp only [jl5 (z := (τ : Int) - 1 - (i : Int)) (rI_of (by omega) (by omega))]
        by_cases c : (τ : Int) - 1 - (i : Int) < 5
        · rw [if_pos c]; congr 1; omega
        · rw [if_neg c, show min 5 (τ - 1 - i) = 5 by omega]; rfl
      subst hx1
      have hq1 : lySk Th q M1 := ⟨hq.1, ((he _ _ (by omega)).2.2).trans hq.2.1, ((he _ _ (by omega)).2.2).trans hq.2.2.1, ((he _ _ (by omega)).2.2).trans hq.2.2.2⟩
      have hv1 : vSk q R g e st M1 := hv.mv (fun q' k a1 a2 => (he _ _ (by omega)).1)
      refine ⟨hq1.1.1, ?_⟩
      refine s8_goodAt hq1 hv1 hr5 hr (by omega) ?_
      refine s8_badAt hq1 hv1 hr5 hr (by omega) ?_
      have ht : min 5 (τ - 1 - i) ≤ 5 := by omega
      generalize hte : min 5 (τ - 1 - i) = t at *
      have hgb := hb t
      refine ⟨m_ok_jI hrow (by omega) (by omega) (by omega), m_okw_jI hrow (by omega) (by omega) (by omega), ?_⟩
      rw [jInatN τ (by omega), jI_long (z := g r t) (by omega) (by omega)]
      -- what the step is worth
      have hstep : ∀ X, V X (11 - τ) t = g r t * X τ + e r t * V X (10 - τ) (11 + D) + (N - g r t - e r t) * V X (10 - τ) (kmo t) := by
        intro X
        have : 11 - τ = (10 - τ) + 1 := by omega
        show yV N D (g r) (e r) X (11 - τ) t = _
        rw [this, yV, if_pos ht, show 10 - (10 - τ) = τ by omega]
      have hA : ∀ X, V X (10 - τ) (11 + D) = if D ≤ 10 - τ then N ^ D * V X (10 - τ - D) 0 else 0 := fun X => yV_astray D (10 - τ) hD.1 hD.2
      have hkt : kmo t = min 5 (τ - i) := by
        rw [← hte, kmo_min]
        omega
      have rowU : ∀ (f : Nat → Nat → Int64) (X : Nat → Int), True := fun _ _ => trivial
      -- behind both writes
      have fin : ∀ M2 : mM, M2.1 = M1.1 → M2.2.2 = M1.2.2 → (∀ k, M2.2.1 (p + 3 + r) k = if k = τ then M1.2.1 (p + 3 + r) τ + still * jL (g r t) else M1.2.1 (p + 3 + r) k) → (∀ X : Nat → Int, sL 11 (fun j => if i + 1 ≤ j then M2.2.1 (p + 1) j * jL (V X (10 - j) 0) else 0) = sL 11 (fun j => if i + 1 ≤ j then M1.2.1 (p + 1) j * jL (V X (10 - j) 0) else 0) + still * jL (e r t) * jL (V X (10 - τ) (11 + D))) → Eo (fun q' _ => q' = p + 1 ∨ q' = p + 3 + r) M1 M2 → H7_think_149 (d + 3) Th Q p q (jI r) (jI D) (p + 3 + r) (jI i) still (jI τ) (jI (g r t)) (jI (e r t)) M2 := by
        intro M2 f1 f2 frow ffr fe
        refine h7_think_149 ⟨hp.1.1, ?_⟩
        intro lv2 hl
        have e3 : M2.1 p 3 = jI (sh : Int) := by rw [f1]; exact ((he _ _ (by omega)).1).trans h3
        rw [e3, shN_one hs, jI_sub, jI_sub, jI_long (by omega) (by omega)] at hl
        rw [jI_s]
        refine ih (τ + 1) i lv2 M2 (by omega) (by omega) hi2 (he.trans fe) (fun X => ?_) k
        have hrw : sL 11 (fun k => M2.2.1 (p + 3 + r) k * jL (X k)) = sL 11 (fun k => M1.2.1 (p + 3 + r) k * jL (X k)) + still * jL (g r t) * jL (X τ) := by
          have : sL 11 (fun k => M2.2.1 (p + 3 + r) k * jL (X k)) = sL 11 (fun k => (if k = τ then M1.2.1 (p + 3 + r) τ + still * jL (g r t) else M1.2.1 (p + 3 + r) k) * jL (X k)) := sL_ext (fun k _ => by rw [frow])
          rw [this, sL_upd (by omega)]
        have h0 := hI X
        rw [hstep X, jLa, jLa, jLm, jLm, jLm] at h0
        rw [hrw, ffr X, hl, show 11 - (τ + 1) = 10 - τ by omega, show τ + 1 - 1 - i = τ - i by omega, ← hkt, ← h0]
        grind
      have hD2 : (jI (τ : Int) + jI (D : Int)) = jI ((τ + D : Nat) : Int) := by rw [jI_add]; rfl
      rw [if_neg (by rw [jl0 (rI_nat (by omega))]; omega), hD2]
      by_cases hfit : τ + D ≤ 10
      · rw [if_neg (by rw [jg10 (rI_nat (by omega))]; omega)]
        refine ⟨hp.1.1, p + 1, hP1.2.1, m_ok_jI hfr (by omega) (by omega) (by omega), ?_⟩
        intro M13 h13
        refine ⟨m_okw_jI hfr (by omega) (by omega) (by omega), ?_⟩
        have e3 : M13.1 p 3 = jI (sh : Int) := by rw [h13]; exact ((he _ _ (by omega)).1).trans h3
        rw [e3, shl_N hs (by omega), jInatN _ (by omega), jI_long (z := e r t) (by omega) (by omega)]
        have n1 : p + 1 ≠ p + 3 + r := by omega
        refine fin _ (by rw [h13]) (by rw [h13]) ?_ ?_ (by rw [h13]; exact (Eo.rf.ul (Or.inr rfl)).ul (Or.inl rfl))
        · intro k
          rw [m_ul_far (Ne.symm n1), h13, m_ul_row]
        · intro X
          have e13 : ∀ j, M13.2.1 (p + 1) j = M1.2.1 (p + 1) j := fun j => by rw [h13, m_ul_far n1]
          have := sL_upd_if (n := 11) (i := i + 1) (a := τ + D) (f := fun j => M1.2.1 (p + 1) j) (X := fun j => jL (V X (10 - j) 0)) (v := still * jL (e r t) * jL (N ^ D)) (by omega) (by omega)
          have e1 : sL 11 (fun j => if i + 1 ≤ j then (m_ul M13 (p + 1) (τ + D) (M13.2.1 (p + 1) (τ + D) + still * jL (e r t) * jL (N ^ D))).2.1 (p + 1) j * jL (V X (10 - j) 0) else 0) = sL 11 (fun j => if i + 1 ≤ j then (if j = τ + D then M1.2.1 (p + 1) (τ + D) + still * jL (e r t) * jL (N ^ D) else M1.2.1 (p + 1) j) * jL (V X (10 - j) 0) else 0) := sL_ext (fun j _ => by rw [m_ul_row, e13, e13])
          rw [e1, this, hA X, if_pos (by omega), jLm, show 10 - (τ + D) = 10 - τ - D by omega]
          grind
      · rw [if_pos (by rw [jg10 (rI_nat (by omega))]; omega)]
        refine fin _ rfl rfl ?_ ?_ (Eo.rf.ul (Or.inr rfl))
        · intro k; rw [m_ul_row]
        · intro X
          have n1 : p + 1 ≠ p + 3 + r := by omega
          rw [hA X, if_neg (by omega), jL_0]
          have e1 : sL 11 (fun j => if i + 1 ≤ j then (m_ul M1 (p + 3 + r) τ (M1.2.1 (p + 3 + r) τ + still * jL (g r t))).2.1 (p + 1) j * jL (V X (10 - j) 0) else 0) = sL 11 (fun j => if i + 1 ≤ j then M1.2.1 (p + 1) j * jL (V X (10 - j) 0) else 0) := sL_ext (fun j _ => by rw [m_ul_far n1])
          rw [e1]
          grind
  have outer : ∀ (u i : Nat) (M1 : mM), u + i = 10 → Eo (fun q' _ => q' = p + 1 ∨ q' = p + 3 + r) M M1 → I i M1 → H7_think_30 (d + 3) Th Q p q (jI r) (jI D) (p + 3 + r) (jI i) M1 := by
    intro u
    induction u with
    | zero =>
      intro i M1 hu he hI
      refine h7_think_30 ?_
      rw [if_pos (by rw [jh10 (rI_nat (by omega))]; omega)]
      refine K M1 (fun X => ?_) he
      have := hI X
      have z : sL 11 (fun j => if i ≤ j then M1.2.1 (p + 1) j * jL (V X (10 - j) 0) else 0) = 0 := sL_zero (fun j hj => by
        by_cases c : i ≤ j
        · rw [if_pos c, show 10 - j = 0 by omega, show V X 0 0 = 0 from rfl, jL_0]
          grind
        · rw [if_neg c])
      rw [z] at this
      rw [← this]
      grind
    | succ u ih =>
      intro i M1 hu he hI
      have hP1 := hp.mv (he.mono hsu)
      refine h7_think_30 ?_
      rw [if_neg (by rw [jh10 (rI_nat (by omega))]; omega)]
      refine ⟨hp.1.1, p + 1, hP1.2.1, m_ok_jI hfr (by omega) (by omega) (by omega), ?_⟩
      intro lv5 h5 xv6 h6
      rw [h6, jI_s, h5, jInatN i (by omega)]
      refine inner (10 - i) (i + 1) i _ M1 (by omega) (by omega) (by omega) he (fun X => ?_) (fun M2 a1 a2 => ih (i + 1) M2 (by omega) a1 a2)
      have h0 := hI X
      rw [sL_from (i := i) (by omega)] at h0
      rw [show 11 - (i + 1) = 10 - i by omega, show min 5 (i + 1 - 1 - i) = 0 by omega, ← h0]
      grind
  refine e7_think ⟨hp.1.1, p + 2, hp.2.2.1, m_okO_jI hp.1.2.2.1 (by omega) (by omega) (by omega), p + 3 + r, by rw [jInatN r (by omega)]; exact hp.2.2.2.2.1 r hr5, ?_⟩
  refine s7_wipe (d := d + 1) hrow (by omega) ?_
  intro M7 z7 e7
  refine ⟨p + 1, ((e7 _ _ (by omega)).2.2).trans hp.2.1, ?_⟩
  refine s7_wipe (d := d + 1) hfr (by omega) ?_
  intro M11 z11 e11
  refine ⟨p + 1, ((e11 _ _ (by omega)).2.2).trans (((e7 _ _ (by omega)).2.2).trans hp.2.1), by rw [i0]; exact m_okw_jI hfr (by omega) (by omega) (by omega), ?_⟩
  rw [i0, show Int32.toNatClampNeg (jI 0) = 0 from rfl]
  refine outer 10 0 _ (by omega) (((e7.mono (fun _ _ h => Or.inr h)).trans (e11.mono (fun _ _ h => Or.inl h))).trans (Eo.rf.ul (Or.inl rfl))) (fun X => ?_)
  have a1 : sL 11 (fun k => (m_ul M11 (p + 1) 0 1).2.1 (p + 3 + r) k * jL (X k)) = 0 := sL_zero (fun k hk => by
    rw [m_ul_far (by omega), (e11 _ _ (by omega)).2.1, z7 k hk]
    grind)
  have a2 : sL 11 (fun j => if 0 ≤ j then (m_ul M11 (p + 1) 0 1).2.1 (p + 1) j * jL (V X (10 - j) 0) else 0) = jL (V X 10 0) := by
    rw [sL_one (a := 0) (by omega) (fun k hk hk0 => by
      show (if 0 ≤ k then (m_ul M11 (p + 1) 0 1).2.1 (p + 1) k * jL (V X (10 - k) 0) else 0) = 0
      rw [if_pos (Nat.zero_le _), m_ul_row, if_neg hk0, z11 k hk]
      grind)]
    show (if 0 ≤ 0 then (m_ul M11 (p + 1) 0 1).2.1 (p + 1) 0 * jL (V X (10 - 0) 0) else 0) = _
    rw [if_pos (Nat.le_refl _), m_ul_row, if_pos rfl]
    grind
  rw [a1, a2]
  grind
end PA
