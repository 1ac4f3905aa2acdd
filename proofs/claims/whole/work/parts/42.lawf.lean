/-! ===== THE LAW, AS THE CLASS READS IT: factors, products, sums ===== -/
section LF
variable {d : Nat} {Th : mT} {M : mM} {n ra : Nat} {w : Nat → Int} {L : Nat} {e : lE} {i f : Nat}
theorem jB_ne (b : Bool) : (jB b = 0) = (b = false) := by cases b <;> simp [jB]
theorem jB_or (a b : Bool) : (if jB a = 0 then (if jB b = 0 then (0 : Int32) else 1) else 1) = jB (a || b) := by cases a <;> cases b <;> simp [jB]
/-- a fault's reading -/
theorem lPo.bad {q : Bool} {v : Int32} {M' : mM} {r : lR} (h : r.1.2 ≠ 0) (hc : cst n ra w L r.1.1 r.1.2 M') (hi : r.1.1 ≤ 300) (hf : r.1.2 ≤ 5) (he : Eo (lfd n) M M') (h10 : M'.1 (n + 4) 10 = M.1 (n + 4) 10) : lPo n ra w L e q r M v M' :=
  ⟨⟨hc, hi, hf⟩, he, fun _ rf h => h10.trans h, fun z => absurd z h⟩
/-- which of the letters it is -/
def llk (g : Int) : Int := if g = 102 then 7 else if g = 110 then 6 else if g = 116 then 5 else if g = 114 then 4 else if g = 104 then 3 else if g = 113 then 2 else if g = 98 then 1 else if g = 99 then 0 else -1
theorem llk_llt (g : Int) : match llt g with | some (k, _) => llk g = (k : Int) ∧ k < 8 | none => llk g = -1 := by
  unfold llt
  by_cases h1 : g = 99
  · subst h1; simp [llk]
  by_cases h2 : g = 98
  · subst h2; simp [llk]
  by_cases h3 : g = 113
  · subst h3; simp [llk]
  by_cases h4 : g = 104
  · subst h4; simp [llk]
  by_cases h5 : g = 114
  · subst h5; simp [llk]
  by_cases h6 : g = 116
  · subst h6; simp [llk]
  by_cases h7 : g = 110
  · subst h7; simp [llk]
  by_cases h8 : g = 102
  · subst h8; simp [llk]
  simp [llk, h1, h2, h3, h4, h5, h6, h7, h8]
theorem lw_jI : lw_let 0 = jI 99 ∧ lw_let 1 = jI 98 ∧ lw_let 2 = jI 113 ∧ lw_let 3 = jI 104 ∧ lw_let 4 = jI 114 ∧ lw_let 5 = jI 116 ∧ lw_let 6 = jI 110 ∧ lw_let 7 = jI 102 := by decide
/-- a letter, or what can't stand there (also behind a fault) -/
theorem s4_letter {Q : Int32 → mM → Prop} {q : Bool} (hk : lOk Th n ra w L) (hc : cst n ra w L i f M) (hn : lIn Th n e M) (hi : i ≤ 300) (hf : f ≤ 5)
    (k : ∀ v M', lPo n ra w L e q (if f ≠ 0 then lbad i f else match llt (lsg w L i) with | some (k, kk) => ((i + 1, 0), ([1048576 + (kk : Int)], fun e => (e k, false))) | none => lbad i 1) M v M' → Q v M') : H4_factor_166 (d + 2) Th Q (n + 4) (-1) 0 M := by
  have hk' := hk
  obtain ⟨hT, hr, hL, hw, hla, hlT⟩ := hk
  have c5 := hc.2.2.2.2.1
  have hwb := lsg_b (w := w) (L := L) (i := i) hw
  generalize hg : (if f = 0 then lsg w L i else -1) = g at c5
  have hgb : -1 ≤ g ∧ g ≤ 255 := by rw [← hg]; split <;> omega
  have step : ∀ (j : Nat) (z z' : Int) (c : Int), j < 8 → lw_let j = jI c → 0 ≤ c → c ≤ 255 → (z' = if g = c then (j : Int) else z) → H4_factor_166 (d + 2) Th Q (n + 4) (jI z') (jI ((j + 1 : Nat) : Int)) M → H4_factor_166 (d + 2) Th Q (n + 4) (jI z) (jI (j : Int)) M := by
    intro j z z' c hj hc1 hc2 hc3 hz h
    refine h4_factor_166 ⟨_, _, _, hlT, ?_⟩
    rw [if_neg (by rw [jI_nI, jIle (rI_nat (by omega)) (rI_nat (by omega))]; omega)]
    refine ⟨m_ok_jI hlT (by omega) (by omega) (by omega), hT 4 _ rfl, ?_⟩
    intro xv hxv
    rw [jInatN _ (by omega), hn.2.2 j hj, hc1, c5] at hxv
    have : xv = jI z' := by
      rw [hxv, hz]
      by_cases e : g = c
      · rw [if_pos (by rw [e]), if_pos e]
      · rw [if_neg e, if_neg (by rw [jIeq (rI_of (by omega) (by omega)) (rI_of (by omega) (by omega))]; omega)]
    rw [this, i1, jI_add]
    exact h
  obtain ⟨w0, w1, w2, w3, w4, w5, w6, w7⟩ := lw_jI
  have fin : H4_factor_166 (d + 2) Th Q (n + 4) (jI (llk g)) (jI ((8 : Nat) : Int)) M := by
    have hl := llk_llt g
    refine h4_factor_166 ⟨_, _, _, hlT, ?_⟩
    rw [if_pos (by rw [jI_nI]; exact Int32.le_refl _)]
    refine ⟨hT 4 _ rfl, ?_⟩
    by_cases hf0 : f = 0
    · rw [if_pos hf0] at hg
      subst hg
      subst hf0
      rw [if_neg (by omega)] at k
      cases hl2 : llt (lsg w L i) with
      | none =>
        rw [hl2] at hl k
        simp only at hl k
        rw [hl]
        refine s4_pass false hk' hc hi (by omega) (by rw [if_pos (by rfl)]; rfl) ?_
        intro M' a1 a2 a3
        rw [if_pos (by decide)]
        exact k _ _ (lPo.bad (by show (1 : Nat) ≠ 0; omega) a1 hi (by show (1 : Nat) ≤ 5; omega) a3 a2)
      | some p =>
        obtain ⟨kp, kk⟩ := p
        rw [hl2] at hl k
        simp only at hl k
        obtain ⟨hl, hk8⟩ := hl
        rw [hl]
        refine s4_pass true hk' hc hi (by omega) (by rw [iN, if_neg (by rw [jIeq (rI_nat (by omega)) (rI_of (by omega) (by omega))]; omega)]; rfl) ?_
        intro M' a1 a2 a3
        rw [if_neg (by rw [i0, jIlt (rI_nat (by omega)) rI0]; omega)]
        have h5 := (hn.mv hk' a3)
        refine ⟨n + 5, h5.1 4 0 5 (by decide), _, _, _, hT 5 _ rfl, ?_⟩
        rw [if_neg (by rw [jI_nI, jIle (rI_nat (by omega)) (rI_nat (by omega))]; omega)]
        refine ⟨m_ok_jI (hT 5 _ rfl) (by omega) (by omega) (by omega), ?_⟩
        rw [jInatN _ (by omega), h5.2.1 kp hk8]
        have hiL : i < L := by
          refine Decidable.byContradiction (fun hh => ?_)
          rw [show lsg w L i = -1 by unfold lsg; rw [if_neg hh]] at hl2
          simp [llt] at hl2
        refine k _ _ ⟨⟨a1, by show i + 1 ≤ 300; omega, by show (0 : Nat) ≤ 5; omega⟩, a3, fun _ rf h => a2.trans h, fun _ => ⟨rfl, fun rf h => ?_⟩⟩
        rw [a2, h]
        simp
    · rw [if_neg hf0] at hg
      subst hg
      rw [if_pos hf0] at k
      have : llk (-1) = -1 := by decide
      rw [this]
      refine s4_pass false hk' hc hi hf (by rw [if_pos (by rfl)]; rfl) ?_
      intro M' a1 a2 a3
      rw [if_pos (by decide)]
      unfold lps at a1
      rw [if_pos hf0] at a1
      exact k _ _ (lPo.bad hf0 a1 hi hf a3 a2)
  rw [iN, i0]
  refine step 0 (-1) _ 99 (by omega) w0 (by omega) (by omega) rfl ?_
  refine step 1 _ _ 98 (by omega) w1 (by omega) (by omega) rfl ?_
  refine step 2 _ _ 113 (by omega) w2 (by omega) (by omega) rfl ?_
  refine step 3 _ _ 104 (by omega) w3 (by omega) (by omega) rfl ?_
  refine step 4 _ _ 114 (by omega) w4 (by omega) (by omega) rfl ?_
  refine step 5 _ _ 116 (by omega) w5 (by omega) (by omega) rfl ?_
  refine step 6 _ _ 110 (by omega) w6 (by omega) (by omega) rfl ?_
  refine step 7 _ (llk g) 102 (by omega) w7 (by omega) (by omega) (by unfold llk; simp) ?_
  exact fin
theorem isD_iff (g : Int) : isD g = true ↔ 48 ≤ g ∧ g ≤ 57 := by unfold isD; simp
theorem isD_not (g : Int) : isD g = false ↔ ¬ (48 ≤ g ∧ g ≤ 57) := by unfold isD; simp
theorem ldig_le {u i : Nat} {v : Int} : i ≤ (ldig w L u i v).1 ∧ (ldig w L u i v).1 ≤ i + u := by
  induction u generalizing i v with
  | zero => exact ⟨Nat.le_refl _, by simp [ldig]⟩
  | succ u ih =>
    unfold ldig
    split
    · have := @ih (i + 1) (10 * v + lsg w L i - 48); omega
    · simp
theorem i48 : (48 : Int32) = jI 48 := rfl
theorem i57 : (57 : Int32) = jI 57 := rfl
/-- a number -/
theorem s4_number {Q : Int32 → mM → Prop} (hk : lOk Th n ra w L) : ∀ (u : Nat), u ≤ 5 → ∀ (i : Nat) (v : Int) (M : mM), cst n ra w L i 0 M → i ≤ 300 - 2 * u → 0 ≤ v → v < 10 ^ (5 - u) →
    (∀ M', cst n ra w L (ldig w L u i v).1 (if isD (lsg w L (ldig w L u i v).1) then 2 else 0) M' → M'.1 (n + 4) 10 = M.1 (n + 4) 10 → Eo (lfd n) M M' → Q (jI (ldig w L u i v).2) M') → H4_factor_23 (d + 2) Th Q (n + 4) (jI v) (jI ((5 - u : Nat) : Int)) M := by
  have e71 : ∀ (i : Nat) (v : Int) (M : mM), cst n ra w L i 0 M → i ≤ 300 → (∀ M', cst n ra w L i (if isD (lsg w L i) then 2 else 0) M' → M'.1 (n + 4) 10 = M.1 (n + 4) 10 → Eo (lfd n) M M' → Q (jI v) M') → H4_factor_71 (d + 2) Th Q (n + 4) (jI v) M := by
    intro i v M hc hi k
    have hb := lsg_b (w := w) (L := L) (i := i) hk.2.2.2.1
    have c5 : M.1 (n + 4) 8 = jI (lsg w L i) := hc.2.2.2.2.1
    refine h4_factor_71 ⟨hk.1 4 _ rfl, ?_⟩
    simp only [c5, i48, i57, jIlt (a := lsg w L i) (b := 48) (rI_of (by omega) (by omega)) (rI_of (by omega) (by omega)), jIlt (a := 57) (b := lsg w L i) (rI_of (by omega) (by omega)) (rI_of (by omega) (by omega))]
    by_cases g1 : lsg w L i < 48
    · rw [if_pos g1]
      have := (isD_not (lsg w L i)).mpr (by omega)
      rw [this] at k
      exact k M hc rfl Eo.rf
    rw [if_neg g1]
    by_cases g2 : 57 < lsg w L i
    · rw [if_pos g2]
      have := (isD_not (lsg w L i)).mpr (by omega)
      rw [this] at k
      exact k M hc rfl Eo.rf
    rw [if_neg g2]
    have := (isD_iff (lsg w L i)).mpr (by omega)
    rw [this] at k
    refine s4_blame 2 hk hc (by omega) (by omega) rfl (fun M' a1 a2 a3 => k M' a1 a2 a3)
  intro u
  induction u with
  | zero =>
    intro _ i v M hc hi hv1 hv2 k
    refine h4_factor_23 ?_
    rw [if_pos (by decide)]
    exact e71 i v M hc (by omega) k
  | succ u ih =>
    intro hu i v M hc hi hv1 hv2 k
    have hb := lsg_b (w := w) (L := L) (i := i) hk.2.2.2.1
    have c5 : M.1 (n + 4) 8 = jI (lsg w L i) := hc.2.2.2.2.1
    have hp : (10 : Int) ^ (5 - u) = 10 * 10 ^ (5 - (u + 1)) := by
      rw [show 5 - u = (5 - (u + 1)) + 1 by omega, Int.pow_succ]; omega
    have hp5 : (10 : Int) ^ (5 - (u + 1)) ≤ 10000 := by
      have : u = 0 ∨ u = 1 ∨ u = 2 ∨ u = 3 ∨ u = 4 := by omega
      rcases this with rfl | rfl | rfl | rfl | rfl <;> decide
    refine h4_factor_23 ?_
    rw [if_neg (by rw [i5, jIle (rI_of (by omega) (by omega)) (rI_nat (by omega))]; omega)]
    refine ⟨hk.1 4 _ rfl, ?_⟩
    simp only [c5, i48, i57, jIlt (a := lsg w L i) (b := 48) (rI_of (by omega) (by omega)) (rI_of (by omega) (by omega)), jIlt (a := 57) (b := lsg w L i) (rI_of (by omega) (by omega)) (rI_of (by omega) (by omega))]
    have hdn : isD (lsg w L i) = false → ldig w L (u + 1) i v = (i, v) := fun q => by rw [ldig, q]; rfl
    have hdy : isD (lsg w L i) = true → ldig w L (u + 1) i v = ldig w L u (i + 1) (10 * v + lsg w L i - 48) := fun q => by rw [ldig, q]; rfl
    by_cases g1 : lsg w L i < 48
    · rw [if_pos g1]
      have q := (isD_not (lsg w L i)).mpr (by omega)
      rw [hdn q] at k
      exact e71 i v M hc (by omega) k
    rw [if_neg g1]
    by_cases g2 : 57 < lsg w L i
    · rw [if_pos g2]
      have q := (isD_not (lsg w L i)).mpr (by omega)
      rw [hdn q] at k
      exact e71 i v M hc (by omega) k
    rw [if_neg g2]
    have q := (isD_iff (lsg w L i)).mpr (by omega)
    rw [hdy q] at k
    intro xv hxv
    refine s4_pass true hk hc (by omega) (by omega) rfl ?_
    intro M' a1 a2 a3
    rw [hxv, i10, jI_mul, jI_add, jI_sub, i1, jI_add]
    have r := ih (by omega) (i + 1) (10 * v + lsg w L i - 48) M' a1 (by omega) (by omega) (by omega) (fun M'' b1 b2 b3 => k M'' b1 (b2.trans a2) (a3.trans b3))
    rw [show (((5 - (u + 1) : Nat) : Int) + 1) = ((5 - u : Nat) : Int) by omega]
    exact r
/-- a sum is read as told, with so many that may still be opened -/
def SumOK (Th : mT) (n ra : Nat) (w : Nat → Int) (L : Nat) (e : lE) (k : Nat) : Prop := ∀ (d : Nat) (M : mM) (i f c : Nat) (q : Bool) (Q : Int32 → mM → Prop), 3 * k + 4 ≤ d → cst n ra w L i f M → lIn Th n e M → i ≤ 300 → f ≤ 5 →
  (∀ v M', lPo n ra w L e q (if f ≠ 0 then lbad i f else lsum w L k i c) M v M' → Q v M') → P4_sum d Th (n + 4) (jI (6 - (k : Int))) (jB q) M Q
def FacOK (Th : mT) (n ra : Nat) (w : Nat → Int) (L : Nat) (e : lE) (k : Nat) : Prop := ∀ (d : Nat) (M : mM) (i f c : Nat) (q : Bool) (Q : Int32 → mM → Prop), 3 * k + 2 ≤ d → cst n ra w L i f M → lIn Th n e M → i ≤ 300 → f ≤ 5 →
  (∀ v M', lPo n ra w L e q (if f ≠ 0 then lbad i f else lfac w L (lsub w L k) i c) M v M' → Q v M') → P4_factor d Th (n + 4) (jI (6 - (k : Int))) (jB q) M Q
def ProOK (Th : mT) (n ra : Nat) (w : Nat → Int) (L : Nat) (e : lE) (k : Nat) : Prop := ∀ (d : Nat) (M : mM) (i f c : Nat) (q : Bool) (Q : Int32 → mM → Prop), 3 * k + 3 ≤ d → cst n ra w L i f M → lIn Th n e M → i ≤ 300 → f ≤ 5 →
  (∀ v M', lPo n ra w L e q (if f ≠ 0 then lbad i f else lprd w L (lsub w L k) i c) M v M' → Q v M') → P4_product d Th (n + 4) (jI (6 - (k : Int))) (jB q) M Q
theorem lsg_lt {g : Int} (h : lsg w L i = g) (hg : g ≠ -1) : i < L := by
  refine Decidable.byContradiction (fun hh => ?_)
  rw [show lsg w L i = -1 by unfold lsg; rw [if_neg hh]] at h
  exact hg h.symm
theorem s4_factor {k : Nat} (hk : lOk Th n ra w L) (hk6 : k ≤ 6) (hs : ∀ k', k = k' + 1 → SumOK Th n ra w L e k') : FacOK Th n ra w L e k := by
  intro d M i f c q Q hd hc hn hi hf K
  obtain ⟨d, rfl⟩ : ∃ d', d = d' + 2 := ⟨d - 2, by omega⟩
  have hk' := hk
  obtain ⟨hT, hr, hL, hw, hla, hlT⟩ := hk
  have c5 := hc.2.2.2.2.1
  have hwb := lsg_b (w := w) (L := L) (i := i) hw
  by_cases hf0 : f = 0
  rotate_left
  · rw [if_neg hf0] at c5
    rw [if_pos hf0] at K
    have h166 := s4_letter (d := d) (Q := Q) (q := q) hk' hc hn hi hf (by rw [if_pos hf0]; exact K)
    refine e4_factor ⟨hT 4 _ rfl, ?_⟩
    rw [if_pos (by rw [c5]; decide)]
    refine h4_factor_96 ⟨hT 4 _ rfl, ?_⟩
    rw [if_neg (by rw [c5]; decide)]
    refine h4_factor_118 ⟨hT 4 _ rfl, ?_⟩
    rw [if_neg (by rw [c5]; decide)]
    exact h166
  subst hf0
  rw [if_neg (by omega)] at K
  rw [if_pos rfl] at c5
  have hrI : rI (lsg w L i) := rI_of (by omega) (by omega)
  by_cases dg : isD (lsg w L i) = true
  · have dg2 := (isD_iff _).mp dg
    have hiL := lsg_lt (i := i) rfl (show lsg w L i ≠ -1 by omega)
    refine e4_factor ⟨hT 4 _ rfl, ?_⟩
    rw [if_neg (by rw [c5, i48, jIlt hrI (rI_of (by omega) (by omega))]; omega), if_neg (by rw [c5, i57, jIlt (rI_of (by omega) (by omega)) hrI]; omega)]
    have hle := ldig_le (w := w) (L := L) (u := 5) (i := i) (v := 0)
    refine s4_number hk' 5 (by omega) i 0 M hc (by omega) (by omega) (by decide) ?_
    intro M' a1 a2 a3
    refine K _ _ ?_
    unfold lfac
    rw [if_pos dg]
    by_cases dg3 : isD (lsg w L (ldig w L 5 i 0).1) = true
    · rw [if_pos dg3]
      rw [if_pos dg3] at a1
      exact lPo.bad (by show (2 : Nat) ≠ 0; omega) a1 (by show (ldig w L 5 i 0).1 ≤ 300; omega) (by show (2 : Nat) ≤ 5; omega) a3 a2
    · rw [if_neg dg3]
      rw [if_neg dg3] at a1
      refine ⟨⟨a1, by show (ldig w L 5 i 0).1 ≤ 300; omega, by show (0 : Nat) ≤ 5; omega⟩, a3, fun _ rf h => a2.trans h, fun _ => ⟨rfl, fun rf h => ?_⟩⟩
      rw [a2, h]
      simp
  · have dg2 : ¬ (48 ≤ lsg w L i ∧ lsg w L i ≤ 57) := fun h => dg ((isD_iff (lsg w L i)).mpr h)
    unfold lfac at K
    rw [if_neg dg] at K
    have h96 : H4_factor_96 (d + 2) Th Q (n + 4) (jI (6 - (k : Int))) (jB q) M := by
      refine h4_factor_96 ⟨hT 4 _ rfl, ?_⟩
      have e91 : (91 : Int32) = jI 91 := rfl
      by_cases b : lsg w L i = 91
      · have hiL := lsg_lt (i := i) b (by omega)
        rw [if_pos b] at K
        rw [if_pos (by rw [c5, b]; rfl)]
        cases k with
        | zero =>
          rw [if_neg (by decide)]
          refine s4_blame 5 hk' hc (by omega) (by omega) rfl ?_
          intro M' a1 a2 a3
          exact K _ _ (lPo.bad (by show (5 : Nat) ≠ 0; decide) a1 hi (by show (5 : Nat) ≤ 5; omega) a3 a2)
        | succ k' =>
          have S := hs k' rfl
          rw [if_pos (by rw [i6, jIlt (rI_of (by omega) (by omega)) (rI_of (by omega) (by omega))]; omega)]
          refine h4_factor_118 ⟨hT 4 _ rfl, ?_⟩
          rw [if_pos (by rw [c5, b]; rfl)]
          refine s4_pass true hk' hc hi (by omega) rfl ?_
          intro M2 a1 a2 a3
          rw [i1, jI_add, show (6 - ((k' + 1 : Nat) : Int) + 1) = 6 - (k' : Int) by omega]
          refine S (d + 1) M2 (i + 1) 0 c q _ (by omega) a1 (hn.mv hk' a3) (by omega) (by omega) ?_
          intro v M4 p
          rw [if_neg (by omega)] at p
          simp only [lsub] at K
          obtain ⟨⟨p1, p2, p3⟩, p4, p5, p6⟩ := p
          have c5' := p1.2.2.2.2.1
          have hwb' := lsg_b (w := w) (L := L) (i := (lsum w L k' (i + 1) c).1.1) hw
          by_cases g0 : (lsum w L k' (i + 1) c).1.2 = 0
          rotate_left
          · rw [if_pos g0] at K
            refine s4_pass false hk' p1 p2 p3 (by rw [c5', if_neg g0]; rfl) ?_
            intro M6 b1 b2 b3
            unfold lps at b1
            rw [if_pos g0] at b1
            refine K _ _ ⟨⟨b1, p2, p3⟩, (a3.trans p4).trans b3, fun hq rf h => b2.trans (p5 hq rf (a2.trans h)), fun z => absurd z g0⟩
          rw [if_neg (by omega)] at K
          rw [if_pos g0] at c5'
          rw [g0] at p1
          by_cases g93 : lsg w L (lsum w L k' (i + 1) c).1.1 = 93
          · rw [if_pos g93] at K
            have hjL := lsg_lt (i := (lsum w L k' (i + 1) c).1.1) g93 (by omega)
            refine s4_pass true hk' p1 p2 (by omega) (by rw [c5', g93]; rfl) ?_
            intro M6 b1 b2 b3
            refine K _ _ ⟨⟨b1, by show (lsum w L k' (i + 1) c).1.1 + 1 ≤ 300; omega, by show (0 : Nat) ≤ 5; omega⟩, (a3.trans p4).trans b3, fun hq rf h => b2.trans (p5 hq rf (a2.trans h)), fun _ => ⟨(p6 g0).1, fun rf h => ?_⟩⟩
            rw [b2]
            exact (p6 g0).2 rf (by rw [a2, h])
          · rw [if_neg g93] at K
            refine s4_pass false hk' p1 p2 (by omega) (by rw [c5', if_neg (by rw [show (93 : Int32) = jI 93 from rfl, jIeq (rI_of (by omega) (by omega)) (rI_of (by omega) (by omega))]; exact g93)]; rfl) ?_
            intro M6 b1 b2 b3
            exact K _ _ ⟨⟨b1, p2, by show (1 : Nat) ≤ 5; omega⟩, (a3.trans p4).trans b3, fun hq rf h => b2.trans (p5 hq rf (a2.trans h)), fun z => absurd z (by show (1 : Nat) ≠ 0; omega)⟩
      · rw [if_neg b] at K
        have h91 : ¬ jI (lsg w L i) = 91 := by rw [e91, jIeq hrI (rI_of (by omega) (by omega))]; exact b
        rw [if_neg (by rw [c5]; exact h91)]
        refine h4_factor_118 ⟨hT 4 _ rfl, ?_⟩
        rw [if_neg (by rw [c5]; exact h91)]
        exact s4_letter (q := q) hk' hc hn hi (by omega) (by rw [if_neg (by omega)]; exact K)
    refine e4_factor ⟨hT 4 _ rfl, ?_⟩
    simp only [c5, i48, i57, jIlt hrI (rI_of (z := 48) (by omega) (by omega)), jIlt (rI_of (z := 57) (by omega) (by omega)) hrI]
    by_cases g1 : lsg w L i < 48
    · rw [if_pos g1]; exact h96
    rw [if_neg g1, if_pos (by omega)]
    exact h96
theorem lPo.jn {g : Int} {q : Bool} {a r : lR} {M0 M1 M2 M3 M4 : mM} {x y v : Int32} (ha : lPo n ra w L e q a M0 x M1) (fa : a.1.2 = 0) (h2 : Eo (lfd n) M1 M2) (h10 : M2.1 (n + 4) 10 = M1.1 (n + 4) 10) (hr : lPo n ra w L e q r M2 y M3) (h4 : cst n ra w L r.1.1 r.1.2 M4) (he4 : Eo (lfd n) M3 M4)
    (hq : q = false → ∀ rf : Bool, M3.1 (n + 4) 10 = jB rf → M4.1 (n + 4) 10 = jB rf) (hv : r.1.2 = 0 → v = (lcb g x y).1 ∧ ∀ rf : Bool, M3.1 (n + 4) 10 = jB rf → M4.1 (n + 4) 10 = jB (rf || (q && (lcb g x y).2))) : lPo n ra w L e q (ljn g a r) M0 v M4 := by
  obtain ⟨⟨a1, a2, a3⟩, a4, a5, a6⟩ := ha
  obtain ⟨⟨r1, r2, r3⟩, r4, r5, r6⟩ := hr
  refine ⟨?_, ((a4.trans h2).trans r4).trans he4, fun z rf h => hq z rf (r5 z rf (h10.trans (a5 z rf h))), fun z => ?_⟩
  · rw [ljn_f]; exact ⟨h4, r2, r3⟩
  · rw [ljn_f] at z
    obtain ⟨v1, v2⟩ := hv z
    obtain ⟨x1, x2⟩ := a6 fa
    obtain ⟨y1, y2⟩ := r6 z
    unfold ljn
    rw [if_neg (by omega)]
    refine ⟨by rw [v1, x1, y1], fun rf h => ?_⟩
    rw [v2 _ (y2 _ (by rw [h10]; exact x2 rf h)), x1, y1]
    cases q <;> simp [Bool.or_assoc]
theorem i42 : (42 : Int32) = jI 42 := rfl
theorem i43 : (43 : Int32) = jI 43 := rfl
theorem i45 : (45 : Int32) = jI 45 := rfl
theorem i47 : (47 : Int32) = jI 47 := rfl
theorem i37 : (37 : Int32) = jI 37 := rfl
theorem i200 : (200 : Int32) = jI 200 := rfl
theorem lfd10 {x : Int32} : Eo (lfd n) M (m_ui M (n + 4) 10 x) := Eo.rf.ui ⟨rfl, by omega, by omega⟩
theorem s4_product {k : Nat} (hk : lOk Th n ra w L) (hF : FacOK Th n ra w L e k) : ProOK Th n ra w L e k := by
  have hL := hk.2.2.1
  intro d M0 i f c q Q hd hc0 hn0 hi0 hf0 K
  obtain ⟨d, rfl⟩ : ∃ d', d = d' + 2 := ⟨d - 2, by omega⟩
  have loop : ∀ (u : Nat), u ≤ 200 → ∀ (a : lR) (v : Int32) (M : mM), lPo n ra w L e q a M0 v M →
      (∀ v' M', lPo n ra w L e q (lloop w L isP 0 (lfac w L (lsub w L k)) ljn c u a) M0 v' M' → Q v' M') → H4_product_10 (d + 2) Th Q (n + 4) (jI (6 - (k : Int))) (jB q) v (jI ((200 - u : Nat) : Int)) M := by
    intro u
    induction u with
    | zero =>
      intro _ a v M ha K
      refine h4_product_10 ?_
      rw [if_pos (by rw [i200, jIle (rI_of (by omega) (by omega)) (rI_nat (by omega))]; omega)]
      exact K _ _ ha
    | succ u ih =>
      intro hu a v M ha K
      have ha' := ha
      obtain ⟨⟨a1, a2, a3⟩, a4, a5, a6⟩ := ha
      have c5 := a1.2.2.2.2.1
      have hwb := lsg_b (w := w) (L := L) (i := a.1.1) hk.2.2.2.1
      refine h4_product_10 ?_
      rw [if_neg (by rw [i200, jIle (rI_of (by omega) (by omega)) (rI_nat (by omega))]; omega)]
      refine ⟨hk.1 4 _ rfl, ?_⟩
      by_cases fa : a.1.2 = 0
      rotate_left
      · rw [c5, if_neg fa, if_neg (by decide), if_neg (by decide), if_neg (by decide)]
        rw [lloop_bad fa] at K
        exact K _ _ ha'
      rw [if_pos fa] at c5
      rw [fa] at a1
      generalize hg : lsg w L a.1.1 = g at *
      have rg : rI g := rI_of (by omega) (by omega)
      have q42 : (jI g = 42) = (g = 42) := by rw [i42, jIeq rg (rI_of (by omega) (by omega))]
      have q47 : (jI g = 47) = (g = 47) := by rw [i47, jIeq rg (rI_of (by omega) (by omega))]
      have q37 : (jI g = 37) = (g = 37) := by rw [i37, jIeq rg (rI_of (by omega) (by omega))]
      by_cases hP : isP g = true
      rotate_left
      · have hP' : g ≠ 42 ∧ g ≠ 47 ∧ g ≠ 37 := by unfold isP at hP; simp at hP; omega
        rw [c5, if_neg (by rw [q42]; exact hP'.1), if_neg (by rw [q47]; exact hP'.2.1), if_neg (by rw [q37]; exact hP'.2.2)]
        rw [lloop_stop (by rw [hg]; simpa using hP)] at K
        exact K _ _ ha'
      have hP' : g = 42 ∨ g = 47 ∨ g = 37 := by unfold isP at hP; simp at hP; omega
      have hiL := lsg_lt (i := a.1.1) hg (by omega)
      rw [lloop_step fa (by rw [hg]; exact hP), hg] at K
      have h45 : H4_product_45 (d + 2) Th Q (n + 4) (jI (6 - (k : Int))) (jB q) v (jI ((200 - (u + 1) : Nat) : Int)) M := by
        refine h4_product_45 ⟨hk.1 4 _ rfl, ?_⟩
        intro xv2 hx2
        rw [c5] at hx2
        subst hx2
        refine s4_pass true hk a1 a2 (by omega) rfl ?_
        intro M3 b1 b2 b3
        have hn3 := hn0.mv hk (a4.trans b3)
        refine hF (d + 1) M3 (a.1.1 + 1) 0 (c + a.2.1.length + 0) q _ (by omega) b1 hn3 (by omega) (by omega) ?_
        intro v6 M5 r
        rw [if_neg (by omega)] at r
        generalize lfac w L (lsub w L k) (a.1.1 + 1) (c + a.2.1.length + 0) = R at r K
        have r' := r
        obtain ⟨⟨r1, r2, r3⟩, r4, r5, r6⟩ := r
        have e1 : jI ((200 - (u + 1) : Nat) : Int) + 1 = jI ((200 - u : Nat) : Int) := by
          rw [i1, jI_add]; congr 1; omega
        rw [e1]
        by_cases g42 : g = 42
        · rw [if_pos (by rw [q42]; exact g42)]
          intro xv7 h7
          refine ih (by omega) (ljn g a R) xv7 M5 (ha'.jn fa b3 b2 r' r1 Eo.rf (fun _ _ h => h) (fun z => ⟨?_, fun rf h => ?_⟩)) K
          · subst g42; rw [h7]; rfl
          · subst g42; rw [h]; simp [lcb]
        rw [if_neg (by rw [q42]; exact g42)]
        have gg : g = 47 ∨ g = 37 := by omega
        have n1 : g ≠ 43 := by omega
        have n2 : g ≠ 45 := by omega
        by_cases v0 : v6 = 0
        · rw [if_pos v0]
          have hb01 : ∀ t : Int32, (if t = 0 then (if jB q = 0 then (0 : Int32) else 1) else 1) = 0 ∨ (if t = 0 then (if jB q = 0 then (0 : Int32) else 1) else 1) = 1 := by
            intro t
            split
            · split
              · exact Or.inl rfl
              · exact Or.inr rfl
            · exact Or.inr rfl
          refine ⟨by rcases hb01 (M5.1 (n + 4) 10) with z | z <;> rw [z] <;> exact ⟨by decide, by decide⟩, ?_⟩
          refine ih (by omega) (ljn g a R) 0 _ (ha'.jn fa b3 b2 r' (r1.mv hk (Eo.rf.ui ⟨rfl, rfl⟩)) lfd10 (fun z rf h => ?_) (fun z => ⟨?_, fun rf h => ?_⟩)) K
          · subst z
            simp only [m_u_eq]
            rw [h]
            cases rf <;> simp [jB]
          · simp [lcb, n1, n2, g42, gg, v0]
          · simp only [m_u_eq]
            rw [h, jB_or]
            simp [lcb, n1, n2, g42, gg, v0]
        rw [if_neg v0]
        by_cases g47 : g = 47
        · rw [if_pos (by rw [q47]; exact g47)]
          refine ⟨v0, h4_product_127 ?_⟩
          rw [e1]
          refine ih (by omega) (ljn g a R) _ M5 (ha'.jn fa b3 b2 r' r1 Eo.rf (fun _ _ h => h) (fun z => ⟨?_, fun rf h => ?_⟩)) K
          · simp [lcb, g47, v0]
          · rw [h]; simp [lcb, g47, v0]
        · rw [if_neg (by rw [q47]; exact g47)]
          refine ⟨v0, h4_product_127 ?_⟩
          rw [e1]
          have g37 : g = 37 := by omega
          refine ih (by omega) (ljn g a R) _ M5 (ha'.jn fa b3 b2 r' r1 Eo.rf (fun _ _ h => h) (fun z => ⟨?_, fun rf h => ?_⟩)) K
          · simp [lcb, g37, v0]
          · rw [h]; simp [lcb, g37, v0]
      simp only [c5, q42, q47, q37]
      split
      · exact h45
      · split
        · exact h45
        · split
          · exact h45
          · omega
  refine e4_product ⟨hk.1 4 _ rfl, ?_⟩
  refine hF (d + 1) M0 i f c q _ (by omega) hc0 hn0 hi0 hf0 ?_
  intro v M1 p
  by_cases f0 : f = 0
  · subst f0
    rw [if_neg (by omega)] at p K
    exact loop 200 (by omega) _ v M1 p K
  · rw [if_pos f0] at p K
    refine loop 200 (by omega) _ v M1 p ?_
    rw [lloop_bad (show (lbad i f).1.2 ≠ 0 from f0)]
    exact K
theorem s4_sum1 {k : Nat} (hk : lOk Th n ra w L) (hF : ProOK Th n ra w L e k) : SumOK Th n ra w L e k := by
  have hL := hk.2.2.1
  intro d M0 i f c q Q hd hc0 hn0 hi0 hf0 K
  obtain ⟨d, rfl⟩ : ∃ d', d = d' + 2 := ⟨d - 2, by omega⟩
  rw [lsum_eq] at K
  have loop : ∀ (u : Nat), u ≤ 200 → ∀ (a : lR) (v : Int32) (M : mM), lPo n ra w L e q a M0 v M →
      (∀ v' M', lPo n ra w L e q (lloop w L isS 0 (lprd w L (lsub w L k)) ljn c u a) M0 v' M' → Q v' M') → H4_sum_10 (d + 2) Th Q (n + 4) (jI (6 - (k : Int))) (jB q) v (jI ((200 - u : Nat) : Int)) M := by
    intro u
    induction u with
    | zero =>
      intro _ a v M ha K
      refine h4_sum_10 ?_
      rw [if_pos (by rw [i200, jIle (rI_of (by omega) (by omega)) (rI_nat (by omega))]; omega)]
      exact K _ _ ha
    | succ u ih =>
      intro hu a v M ha K
      have ha' := ha
      obtain ⟨⟨a1, a2, a3⟩, a4, a5, a6⟩ := ha
      have c5 := a1.2.2.2.2.1
      have hwb := lsg_b (w := w) (L := L) (i := a.1.1) hk.2.2.2.1
      refine h4_sum_10 ?_
      rw [if_neg (by rw [i200, jIle (rI_of (by omega) (by omega)) (rI_nat (by omega))]; omega)]
      refine ⟨hk.1 4 _ rfl, ?_⟩
      by_cases fa : a.1.2 = 0
      rotate_left
      · rw [c5, if_neg fa, if_neg (by decide), if_neg (by decide)]
        rw [lloop_bad fa] at K
        exact K _ _ ha'
      rw [if_pos fa] at c5
      rw [fa] at a1
      generalize hg : lsg w L a.1.1 = g at *
      have rg : rI g := rI_of (by omega) (by omega)
      have q43 : (jI g = 43) = (g = 43) := by rw [i43, jIeq rg (rI_of (by omega) (by omega))]
      have q45 : (jI g = 45) = (g = 45) := by rw [i45, jIeq rg (rI_of (by omega) (by omega))]
      by_cases hP : isS g = true
      rotate_left
      · have hP' : g ≠ 43 ∧ g ≠ 45 := by unfold isS at hP; simp at hP; omega
        rw [c5, if_neg (by rw [q43]; exact hP'.1), if_neg (by rw [q45]; exact hP'.2)]
        rw [lloop_stop (by rw [hg]; simpa using hP)] at K
        exact K _ _ ha'
      have hP' : g = 43 ∨ g = 45 := by unfold isS at hP; simp at hP; omega
      have hiL := lsg_lt (i := a.1.1) hg (by omega)
      rw [lloop_step fa (by rw [hg]; exact hP), hg] at K
      have h36 : H4_sum_36 (d + 2) Th Q (n + 4) (jI (6 - (k : Int))) (jB q) v (jI ((200 - (u + 1) : Nat) : Int)) M := by
        refine h4_sum_36 ⟨hk.1 4 _ rfl, ?_⟩
        intro xv2 hx2
        rw [c5] at hx2
        refine s4_pass true hk a1 a2 (by omega) rfl ?_
        intro M3 b1 b2 b3
        have hn3 := hn0.mv hk (a4.trans b3)
        refine hF (d + 1) M3 (a.1.1 + 1) 0 (c + a.2.1.length + 0) q _ (by omega) b1 hn3 (by omega) (by omega) ?_
        intro v6 M5 r
        rw [if_neg (by omega)] at r
        generalize lprd w L (lsub w L k) (a.1.1 + 1) (c + a.2.1.length + 0) = R at r K
        have r' := r
        obtain ⟨⟨r1, r2, r3⟩, r4, r5, r6⟩ := r
        have e1 : jI ((200 - (u + 1) : Nat) : Int) + 1 = jI ((200 - u : Nat) : Int) := by
          rw [i1, jI_add]; congr 1; omega
        rw [e1]
        intro xv7 h7
        refine ih (by omega) (ljn g a R) xv7 M5 (ha'.jn fa b3 b2 r' r1 Eo.rf (fun _ _ h => h) (fun z => ⟨?_, fun rf h => ?_⟩)) K
        · rw [h7, hx2]
          simp only [q43]
          by_cases g43 : g = 43
          · simp [g43, lcb]
          · have g45 : g = 45 := by omega
            simp [g45, lcb]
        · rw [h]
          rcases hP' with z | z <;> subst z <;> simp [lcb]
      simp only [c5, q43, q45]
      split
      · exact h36
      · split
        · exact h36
        · omega
  refine e4_sum ⟨hk.1 4 _ rfl, ?_⟩
  refine hF (d + 1) M0 i f c q _ (by omega) hc0 hn0 hi0 hf0 ?_
  intro v M1 p
  by_cases f0 : f = 0
  · subst f0
    rw [if_neg (by omega)] at p K
    exact loop 200 (by omega) _ v M1 p K
  · rw [if_pos f0] at p K
    refine loop 200 (by omega) _ v M1 p ?_
    rw [lloop_bad (show (lbad i f).1.2 ≠ 0 from f0)]
    exact K
theorem s4_sum (hk : lOk Th n ra w L) : ∀ k : Nat, k ≤ 6 → SumOK Th n ra w L e k := by
  intro k
  induction k with
  | zero => intro h; exact s4_sum1 hk (s4_product hk (s4_factor hk h (fun k' hk' => absurd hk' (by omega))))
  | succ k ih =>
    intro h
    refine s4_sum1 hk (s4_product hk (s4_factor hk h (fun k' hk' => ?_)))
    have : k' = k := by omega
    subst this
    exact ih (by omega)
end LF
