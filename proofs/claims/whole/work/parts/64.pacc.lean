section PC
variable {d : Nat} {Th : mT} {M : mM} {p : Nat}
theorem vSo.mv {N : Int} {D : Nat} {g e : Nat → Nat → Int} {r : Nat} {M' : mM} (h : vSo p N D g e r M) (he : ∀ k, M'.2.1 (p + 3 + r) k = M.2.1 (p + 3 + r) k) : vSo p N D g e r M' := by
  intro X
  rw [← h X]
  exact sL_ext (fun k _ => by rw [he])
theorem s7_reckon {Q : mM → Prop} {q D sh R : Nat} {N : Int} {g e : Nat → Nat → Int} {st : Nat → Nat} (hp : lyPa Th p M) (hq : lySk Th q M) (hv : vSk q R g e (fun r => (st r : Int)) M) (hd : q + 3 < p ∨ p + 14 < q) (hs : shN sh N) (hR : R ≤ 5) (hD : 1 ≤ D ∧ D ≤ 4) (hb : ∀ r t, 0 ≤ g r t ∧ 0 ≤ e r t ∧ g r t + e r t ≤ N) (hst : ∀ r, 1 ≤ st r ∧ st r ≤ 6)
    (K : ∀ M', vPa p sh N D g e st R M' → Eo (sPa p) M M' → Q M') : P7_reckon (d + 4) Th p q (jI sh) (jI R) (jI D) M Q := by
  have rows : ∀ M1, Eo (sPa p) M M1 → lyPa Th p M1 ∧ lySk Th q M1 ∧ vSk q R g e (fun r => (st r : Int)) M1 := fun M1 he =>
    ⟨hp.mv he, ⟨hq.1, ((he _ _ (by unfold sPa; omega)).2.2).trans hq.2.1, ((he _ _ (by unfold sPa; omega)).2.2).trans hq.2.2.1, ((he _ _ (by unfold sPa; omega)).2.2).trans hq.2.2.2⟩, hv.mv (fun q' k a1 a2 => (he _ _ (by unfold sPa; omega)).1)⟩
  have loop : ∀ (u r : Nat) (M1 : mM), u + r = R → Eo (sPa p) M M1 → M1.1 p 3 = jI (sh : Int) → M1.1 p 4 = jI (R : Int) → (∀ r', r' < r → ∀ t, t ≤ 10 → M1.2.1 (p + 9 + r') t = jL (hV N D g e st r' t 0)) → (∀ p' m, r ≤ p' → p' ≤ R → m ≤ 10 → sL (m + 1) (fun i => M1.2.1 (p + 9 + r) i * jL (hV N D g e st p' (m - i) (16 * r))) = jL (hV N D g e st p' m 0)) → (∀ r', r' < r → vSo p N D g e r' M1) → H7_reckon_39 (d + 4) Th Q p q (jI D) (jI r) M1 := by
    intro u
    induction u with
    | zero =>
      intro r M1 hu he h3 h4 hc hI ho
      refine h7_reckon_39 ⟨hp.1.1, ?_⟩
      rw [h4, if_pos (by rw [jIle (rI_nat (by omega)) (rI_nat (by omega))]; omega)]
      refine K M1 ⟨h3, h4, fun r' hr' t ht => ?_, fun r' hr' => ho r' (by omega)⟩ he
      by_cases c : r' < r
      · exact hc r' c t ht
      · have : r' = r := by omega
        subst this
        have := hI r' t (Nat.le_refl _) (by omega) ht
        rw [sL_one (a := t) (by omega) (fun k hk hkt => by
          show M1.2.1 (p + 9 + r') k * jL (hV N D g e st r' (t - k) (16 * r')) = 0
          rw [hV_at, if_neg (by omega), jL_0]
          grind)] at this
        have h2 : M1.2.1 (p + 9 + r') t * jL (hV N D g e st r' (t - t) (16 * r')) = M1.2.1 (p + 9 + r') t := by
          rw [hV_at, if_pos (by omega), jL_1]
          grind
        rw [← this]
        exact h2.symm
    | succ u ih =>
      intro r M1 hu he h3 h4 hc hI ho
      obtain ⟨hp1, hq1, hv1⟩ := rows M1 he
      refine h7_reckon_39 ⟨hp.1.1, ?_⟩
      rw [h4, if_neg (by rw [jIle (rI_nat (by omega)) (rI_nat (by omega))]; omega)]
      refine s7_think hp1 hq1 hv1 hd h3 hs (by omega) (by omega) hD (hb r) ?_
      intro M2 t2 e2
      have e2' : Eo (sPa p) M1 M2 := e2.mono (fun q' k z => by unfold sPa; omega)
      obtain ⟨hp2, hq2, hv2⟩ := rows M2 (he.trans e2')
      refine ⟨hq2.1.1, ?_⟩
      refine s8_stepsFrom (d := d + 2) (r := r) hq2 hv2 (by omega) (by omega) (by have := hst r; omega) ?_
      refine s7_goOn (d := d + 1) (N := N) hp2 (((e2 _ _ (by omega)).1).trans h3) hs (by omega) (hst r) ?_
      intro M7 t7 e7
      have e7' : Eo (sPa p) M2 M7 := e7.mono (fun q' k z => by unfold sPa; omega)
      rw [jI_s]
      have row2 : ∀ r', r' ≤ 5 → ∀ t, M2.2.1 (p + 9 + r') t = M1.2.1 (p + 9 + r') t := fun r' _ t => (e2 _ _ (by omega)).2.1
      refine ih (r + 1) M7 (by omega) ((he.trans e2').trans e7') (((e7 _ _ (by omega)).1).trans (((e2 _ _ (by omega)).1).trans h3)) (((e7 _ _ (by omega)).1).trans (((e2 _ _ (by omega)).1).trans h4)) ?_ ?_ ?_
      · intro r' hr' t ht
        rw [(e7 _ _ (by omega)).2.1, row2 r' (by omega)]
        by_cases c : r' < r
        · exact hc r' c t ht
        · have : r' = r := by omega
          subst this
          have := hI r' t (Nat.le_refl _) (by omega) ht
          rw [sL_one (a := t) (by omega) (fun k hk hkt => by
            show M1.2.1 (p + 9 + r') k * jL (hV N D g e st r' (t - k) (16 * r')) = 0
            rw [hV_at, if_neg (by omega), jL_0]
            grind)] at this
          have h2 : M1.2.1 (p + 9 + r') t * jL (hV N D g e st r' (t - t) (16 * r')) = M1.2.1 (p + 9 + r') t := by
            rw [hV_at, if_pos (by omega), jL_1]
            grind
          rw [← this]
          exact h2.symm
      · intro p' m h1 h2 hm
        refine come_next (S := st r) (A := fun i => M2.2.1 (p + 9 + r) i) (So := fun k => M2.2.1 (p + 3 + r) k) (by omega) hD (hst r) rfl hm t2 t7 ?_
        rw [← hI p' m (by omega) h2 hm]
        exact sL_ext (fun i _ => by rw [row2 r (by omega)])
      · intro r' hr'
        by_cases c : r' < r
        · exact (ho r' c).mv (fun k => by rw [(e7 _ _ (by omega)).2.1, (e2 _ _ (by omega)).2.1])
        · have : r' = r := by omega
          subst this
          exact vSo.mv (M := M2) t2 (fun k => (e7 _ _ (by omega)).2.1)
  have hc0 := hp.1.2.2.2.2.2 0 (by omega)
  refine e7_reckon ⟨hp.1.1, ?_⟩
  intro M2 h2
  refine ⟨p + 8, hp.2.2.2.1, by rw [i0]; exact m_okO_jI hp.1.2.2.2.2.1 (by omega) (by omega) (by omega), p + 9, hp.2.2.2.2.2 0 (by omega), ?_⟩
  have hc : (if 0 < (if jI (R : Int) < 5 then jI (R : Int) else 5) then (if jI (R : Int) < 5 then jI (R : Int) else 5) else 0) = jI (R : Int) := by
    simp only [jl5 (z := (R : Int)) (rI_nat (by omega))]
    by_cases a : (R : Int) < 5
    · simp only [if_pos a, jg0 (z := (R : Int)) (rI_nat (by omega))]
      by_cases b : (0 : Int) < R
      · rw [if_pos b]
      · rw [if_neg b, show (R : Int) = 0 by omega]; rfl
    · simp only [if_neg a]
      rw [if_pos (by decide), show (R : Int) = 5 by omega]; rfl
  rw [hc]
  have e0 : Eo (sPa p) M (m_ui M2 p 4 (jI (R : Int))) := by rw [h2]; exact (Eo.rf.ui (Or.inl ⟨rfl, Or.inl rfl⟩)).ui (Or.inl ⟨rfl, Or.inr rfl⟩)
  have x3 : (m_ui M2 p 4 (jI (R : Int))).1 p 3 = jI (sh : Int) := by rw [h2]; simp [m_u]
  have x4 : (m_ui M2 p 4 (jI (R : Int))).1 p 4 = jI (R : Int) := by simp [m_u]
  generalize m_ui M2 p 4 (jI (R : Int)) = M3 at e0 x3 x4
  refine s7_wipe (d := d + 2) hc0 (by omega) ?_
  intro M8 z8 e8
  have e8' : Eo (sPa p) M3 M8 := e8.mono (fun q' k z => by unfold sPa; omega)
  have hp8 := hp.mv (e0.trans e8')
  refine ⟨p + 8, hp8.2.2.2.1, by rw [i0]; exact m_okO_jI hp.1.2.2.2.2.1 (by omega) (by omega) (by omega), p + 9, hp8.2.2.2.2.2 0 (by omega), by rw [i0]; exact m_okw_jI hc0 (by omega) (by omega) (by omega), ?_⟩
  rw [show Int32.toNatClampNeg 0 = 0 from rfl, i0]
  refine loop R 0 _ (by omega) ((e0.trans e8').trans (Eo.rf.ul (by unfold sPa; omega))) (((e8 _ _ (by omega)).1).trans x3) (((e8 _ _ (by omega)).1).trans x4) (fun r' h => absurd h (by omega)) ?_ (fun r' h => absurd h (by omega))
  intro p' m h1 h2 hm
  have row : ∀ k, k < 11 → (m_ul M8 (p + 9) 0 1).2.1 (p + 9 + 0) k = if k = 0 then 1 else 0 := fun k hk => by
    rw [Nat.add_zero, m_ul_row]
    by_cases c : k = 0
    · rw [if_pos c, if_pos c]
    · rw [if_neg c, if_neg c]; exact z8 k hk
  rw [sL_one (a := 0) (by omega) (fun k hk hk0 => by
    show (m_ul M8 (p + 9) 0 1).2.1 (p + 9 + 0) k * _ = 0
    rw [row k (by omega), if_neg hk0]
    grind)]
  show (m_ul M8 (p + 9) 0 1).2.1 (p + 9 + 0) 0 * jL (hV N D g e st p' (m - 0) (16 * 0)) = _
  rw [row 0 (by omega), if_pos rfl]
  show 1 * jL (hV N D g e st p' m 0) = _
  grind
/-- summed over the ticks -/
def bS (N : Int) (Z : Nat → Int) : Nat → Int
  | 0 => Z 0
  | t + 1 => N * bS N Z t + Z (t + 1)
theorem s7_comeBy {Q : Int64 → mM → Prop} {r t sh : Nat} {N : Int} {Z : Nat → Int} (hp : lyPa Th p M) (h3 : M.1 p 3 = jI (sh : Int)) (hs : shN sh N) (hr : r ≤ 5) (ht : t ≤ 10) (hz : ∀ k, k ≤ 10 → M.2.1 (p + 9 + r) k = jL (Z k)) (K : Q (jL (bS N Z t)) M) : P7_comeBy (d + 2) Th p (jI r) (jI t) M Q := by
  have hx : ∀ x : Int64, x <<< ((jI (sh : Int)).toInt64 &&& 63) = x * jL N := by
    intro x
    have hb : sh ≤ 6 := by rcases hs with ⟨h1, _⟩ | ⟨h1, _⟩ <;> omega
    rw [jL_shl x (by omega) (by omega), Int.toNat_natCast]
    rcases hs with ⟨h1, h2⟩ | ⟨h1, h2⟩ <;> subst h1 <;> subst h2 <;> rfl
  have loop : ∀ (u i : Nat) (v : Int), u + i = t → H7_comeBy_5 (d + 2) Th Q p (jI r) (jI t) (jL (bS N Z i)) (jI ((i + 1 : Nat) : Int)) M := by
    intro u
    induction u with
    | zero =>
      intro i v hu
      refine h7_comeBy_5 ?_
      rw [if_pos (by rw [jIlt (rI_nat (by omega)) (rI_nat (by omega))]; omega), show i = t by omega]
      exact K
    | succ u ih =>
      intro i v hu
      refine h7_comeBy_5 ?_
      rw [if_neg (by rw [jIlt (rI_nat (by omega)) (rI_nat (by omega))]; omega), if_neg (by rw [jg10 (rI_nat (by omega))]; omega)]
      refine ⟨hp.1.1, s7_comeAt hp hr (by omega) ?_⟩
      intro lv4 h4
      rw [h3, hx, hz (i + 1) (by omega), jL_mul, jL_add] at h4
      rw [h4, jI_s]
      have e : bS N Z i * N + Z (i + 1) = bS N Z (i + 1) := by show _ = N * bS N Z i + Z (i + 1); rw [Int.mul_comm]
      rw [e]
      exact ih (i + 1) v (by omega)
  refine e7_comeBy (h7_comeBy_5 ?_)
  rw [if_neg (by rw [i0, jIlt (rI_nat (by omega)) (rI_of (by omega) (by omega))]; omega), if_neg (by decide)]
  refine ⟨hp.1.1, ?_⟩
  rw [i0]
  refine s7_comeAt (k := 0) hp hr (by omega) ?_
  intro lv4 h4
  rw [h3, hx, hz 0 (by omega)] at h4
  have e : lv4 = jL (bS N Z 0) := by rw [h4]; show 0 * jL N + jL (Z 0) = jL (Z 0); grind
  rw [e, show jI 0 + 1 = jI ((0 + 1 : Nat) : Int) from rfl]
  exact loop t 0 0 (by omega)
/-- ahead: summed over the ticks -/
def aS (Zx Zy : Nat → Int) : Nat → Int
  | 0 => 0
  | t + 1 => aS Zx Zy t + Zx (t + 1) * 8 ^ (10 - (t + 1)) * (8 ^ 10 - bS 8 Zy (t + 1) * 8 ^ (10 - (t + 1)))
def lS (Zx Zy : Nat → Int) : Nat → Int
  | 0 => 0
  | t + 1 => lS Zx Zy t + Zx (t + 1) * 8 ^ (10 - (t + 1)) * (Zy (t + 1) * 8 ^ (10 - (t + 1)))
theorem sh8 {k : Nat} (hk : k ≤ 10) (x : Int64) : x <<< ((jI 3 * jI (k : Int)).toInt64 &&& 63) = x * jL (8 ^ k) := shl_N (sh := 3) (Or.inl ⟨rfl, rfl⟩) hk x
theorem s7_aheadOf {Q : Int64 → mM → Prop} {p2 r : Nat} {Zx Zy : Nat → Int} (hp : lyPa Th p M) (hp2 : lyPa Th p2 M) (h3 : M.1 p 3 = jI 3) (h32 : M.1 p2 3 = jI 3) (hr : r ≤ 5) (hx : ∀ k, k ≤ 10 → M.2.1 (p + 9 + r) k = jL (Zx k)) (hy : ∀ k, k ≤ 10 → M.2.1 (p2 + 9 + r) k = jL (Zy k)) (K : Q (jL (aS Zx Zy 10)) M) : P7_aheadOf (d + 3) Th p p2 (jI r) M Q := by
  have loop : ∀ (u t : Nat), u + t = 10 → H7_aheadOf_16 (d + 3) Th Q p p2 (jI r) (jL (8 ^ 10)) (jL (aS Zx Zy t)) (jI ((t + 1 : Nat) : Int)) M := by
    intro u
    induction u with
    | zero =>
      intro t hu
      refine h7_aheadOf_16 ?_
      rw [if_pos (by rw [jg10 (rI_nat (by omega))]; omega), show t = 10 by omega]
      exact K
    | succ u ih =>
      intro t hu
      refine h7_aheadOf_16 ?_
      rw [if_neg (by rw [jg10 (rI_nat (by omega))]; omega)]
      refine ⟨hp.1.1, ?_⟩
      intro xv2 h2
      have e2 : xv2 = jI 3 * jI ((10 - (t + 1) : Nat) : Int) := by rw [h2, h3, kI10, jI_sub]; congr 2; omega
      refine s7_comeAt hp hr (by omega) ?_
      refine ⟨hp2.1.1, s7_comeBy (sh := 3) (N := 8) (Z := Zy) hp2 h32 (Or.inl ⟨rfl, rfl⟩) hr (by omega) hy ?_⟩
      intro lv8 h8
      rw [e2, sh8 (by omega), sh8 (by omega), hx (t + 1) (by omega), jL_mul, jL_mul, jL_sub, jL_mul, jL_add] at h8
      rw [h8, jI_s]
      exact ih (t + 1) (by omega)
  refine e7_aheadOf ⟨hp.1.1, ?_⟩
  intro lv2 h2
  have e2 : lv2 = jL (8 ^ 10) := by
    rw [h2, h3, kI10]
    have := sh8 (k := 10) (by omega) 1
    rw [show ((10 : Nat) : Int) = 10 from rfl] at this
    rw [this]
    grind
  rw [e2]
  exact loop 10 0 (by omega)
theorem s7_likeAs {Q : Int64 → mM → Prop} {p2 r : Nat} {Zx Zy : Nat → Int} (hp : lyPa Th p M) (hp2 : lyPa Th p2 M) (h3 : M.1 p 3 = jI 3) (hr : r ≤ 5) (hx : ∀ k, k ≤ 10 → M.2.1 (p + 9 + r) k = jL (Zx k)) (hy : ∀ k, k ≤ 10 → M.2.1 (p2 + 9 + r) k = jL (Zy k)) (K : Q (jL (lS Zx Zy 10)) M) : P7_likeAs (d + 3) Th p p2 (jI r) M Q := by
  have loop : ∀ (u t : Nat), u + t = 10 → H7_likeAs_5 (d + 3) Th Q p p2 (jI r) (jL (lS Zx Zy t)) (jI ((t + 1 : Nat) : Int)) M := by
    intro u
    induction u with
    | zero =>
      intro t hu
      refine h7_likeAs_5 ?_
      rw [if_pos (by rw [jg10 (rI_nat (by omega))]; omega), show t = 10 by omega]
      exact K
    | succ u ih =>
      intro t hu
      refine h7_likeAs_5 ?_
      rw [if_neg (by rw [jg10 (rI_nat (by omega))]; omega)]
      refine ⟨hp.1.1, ?_⟩
      intro xv2 h2
      have e2 : xv2 = jI 3 * jI ((10 - (t + 1) : Nat) : Int) := by rw [h2, h3, kI10, jI_sub]; congr 2; omega
      refine s7_comeAt hp hr (by omega) ?_
      refine ⟨hp2.1.1, s7_comeAt hp2 hr (by omega) ?_⟩
      intro lv8 h8
      rw [e2, sh8 (by omega), sh8 (by omega), hx (t + 1) (by omega), hy (t + 1) (by omega), jL_mul, jL_mul, jL_mul, jL_add] at h8
      rw [h8, jI_s]
      exact ih (t + 1) (by omega)
  refine e7_likeAs ?_
  exact loop 10 0 (by omega)
end PC
