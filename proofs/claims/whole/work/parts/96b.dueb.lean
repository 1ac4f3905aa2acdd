/-! ===== BEST in the class: what it knows, the small ones ===== -/
/-- values that are kept: none yet, or right; nothing else is changed -/
def uVal (n : Nat) (s : mS) (x y nv : Nat) (V0 V : Nat → Nat → Int64) : Prop := (∀ q k, q ≠ n + 95 → V q k = V0 q k) ∧ ∀ l zx zy, l < 10 → zx < 21 * uR s → zy < 21 * uR s → zy % 21 ≤ 17 → V (n + 95) (uIx (uR s) l zx zy) = jL (-1) ∨ V (n + 95) (uIx (uR s) l zx zy) = jL (uV s x y nv (l + 1) zx zy)
/-- what stands while it reckons -/
def uOk (Th : mT) (n : Nat) (s : mS) (x y nv : Nat) (A : Nat → Nat → Int32) (B : Nat → Nat → Option Nat) : Prop :=
  Ly Th n ∧ rG s ∧ ((x : Int) < s 0 1 ∧ (y : Int) < s 0 1 ∧ nv ≤ 7) ∧ (B (n + 94) 0 = some (n + 3) ∧ B (n + 94) 1 = some (aSk n x) ∧ B (n + 94) 2 = some (aSk n y) ∧ B (n + 94) 3 = some (n + 95)) ∧
  (A (n + 3) 0 = jI (s 0 0) ∧ A (n + 3) 2 = jI (s 0 2) ∧ A (n + 3) 3 = jI (s 0 3) ∧ A (n + 94) 6 = jI (nv : Int) ∧ A (n + 94) 8 = jB (uCp s y)) ∧
  ∀ V, lySk Th (aSk n x) (A, V, B) ∧ lySk Th (aSk n y) (A, V, B) ∧ vB n s x (A, V, B) ∧ vB n s y (A, V, B)
theorem jI_div21 {k : Nat} (hk : k ≤ 100000) : jI (k : Int) / 21 = jI ((k / 21 : Nat) : Int) := by
  rw [show (21 : Int32) = jI 21 from rfl, jI_div (by omega) (by omega) (by omega) (by omega)]; congr 1
theorem jI_mod21 {k : Nat} (hk : k ≤ 100000) : jI (k : Int) - jI (k : Int) / 21 * 21 = jI ((k % 21 : Nat) : Int) := by
  rw [show (21 : Int32) = jI 21 from rfl, jI_rem (by omega) (by omega) (by omega) (by omega)]; congr 1
theorem jB_z (b : Bool) : (jB b = 0) = (b = false) := by cases b <;> simp [jB]
theorem jBf : jB false = 0 := rfl
theorem jB_1 : (1 : Int32) = jB true := rfl
theorem jB_0 : (0 : Int32) = jB false := rfl
section UB
variable {d : Nat} {Th : mT} {A : Nat → Nat → Int32} {B : Nat → Nat → Option Nat} {V0 V : Nat → Nat → Int64} {n : Nat} {s : mS} {x y nv : Nat}
theorem uOk_R (h : uOk Th n s x y nv A B) : s 0 0 = (uR s : Int) ∧ uR s ≤ 5 ∧ s 0 2 = (dN s : Int) ∧ 1 ≤ dN s ∧ dN s ≤ 4 := by
  have g0 := h.2.1.1
  have g2 := h.2.1.2.2.1
  unfold uR dN
  omega
theorem u1_walkOn {Q : Int32 → mM → Prop} {r left : Nat} (h : uOk Th n s x y nv A B) (hr : r < uR s) (hl : left ≤ 6) (k : Q (jI (uWk (uR s) r left : Nat)) (A, V, B)) : P1_walkOn (d + 1) Th (n + 94) (jI r) (jI left) (A, V, B) Q := by
  obtain ⟨e0, eR, -, -, -⟩ := uOk_R h
  obtain ⟨hT, hG, hxy, ⟨b0, b1, b2, b3⟩, ⟨a0, a2, a3, a6, a8⟩, -⟩ := h
  refine e1_walkOn ?_
  unfold uWk at k
  simp only [je0 (z := (left : Int)) (rI_nat (by omega))]
  by_cases c : 0 < left
  · rw [if_pos c] at k
    rw [if_neg (by omega), show (21 : Int32) = jI 21 from rfl, kI6, jI_mul, jI_add, jI_add, show (r : Int) * 21 + 6 + (left : Int) = ((21 * r + 6 + left : Nat) : Int) by omega]
    exact k
  · rw [if_neg c] at k
    rw [if_pos (by omega)]
    refine ⟨hT 94 _ rfl, n + 3, b0, hT 3 _ rfl, ?_⟩
    show Q (if A (n + 3) 0 ≤ jI (r : Int) + 1 then 105 else (jI (r : Int) + 1) * 21) (A, V, B)
    rw [a0, e0, jI_s]
    by_cases c2 : r + 1 < uR s
    · rw [if_pos c2] at k
      rw [if_neg (by rw [jIle (rI_nat (by omega)) (rI_nat (by omega))]; omega), show (21 : Int32) = jI 21 from rfl, jI_mul, show ((r + 1 : Nat) : Int) * 21 = ((21 * (r + 1) : Nat) : Int) by omega]
      exact k
    · rw [if_neg c2] at k
      rw [if_pos (by rw [jIle (rI_nat (by omega)) (rI_nat (by omega))]; omega)]
      exact k
theorem u1_strayOn {Q : Int32 → mM → Prop} {M : mM} {r left : Nat} {kn : Bool} (hr : r < 5) (hl : left ≤ 4) (k : Q (jI (uSt r left kn : Nat)) M) : P1_strayOn (d + 1) Th (jI r) (jI left) (jB kn) M Q := by
  refine e1_strayOn ?_
  unfold uSt at k
  simp only [je0 (z := (left : Int)) (rI_nat (by omega)), jB_z]
  by_cases c : 0 < left
  · rw [if_pos c] at k
    rw [if_neg (by omega)]
    cases kn
    · rw [if_neg (by decide)] at k
      rw [if_pos rfl, show (21 : Int32) = jI 21 from rfl, kI12, jI_mul, jI_add, jI_add, show (r : Int) * 21 + 12 + (left : Int) = ((21 * r + 12 + left : Nat) : Int) by omega]
      exact k
    · rw [if_pos rfl] at k
      rw [if_neg (by decide), show (21 : Int32) = jI 21 from rfl, kI16, jI_mul, jI_add, jI_add, show (r : Int) * 21 + 16 + (left : Int) = ((21 * r + 16 + left : Nat) : Int) by omega]
      exact k
  · rw [if_neg c] at k
    rw [if_pos (by omega)]
    cases kn
    · rw [if_neg (by decide)] at k
      rw [if_pos rfl, show (21 : Int32) = jI 21 from rfl, kI0, jI_mul, jI_add, show (r : Int) * 21 + 0 = ((21 * r + 0 : Nat) : Int) by omega]
      exact k
    · rw [if_pos rfl] at k
      rw [if_neg (by decide), show (21 : Int32) = jI 21 from rfl, kI6, jI_mul, jI_add, show (r : Int) * 21 + 6 = ((21 * r + 6 : Nat) : Int) by omega]
      exact k
theorem u1_walks {Q : Int32 → mM → Prop} {M : mM} {t : Nat} (ht : t ≤ 21) (k : Q (jB (decide (7 ≤ t ∧ t ≤ 12))) M) : P1_walks (d + 1) Th (jI t) M Q := by
  refine e1_walks ?_
  have e : (if jI (t : Int) ≤ 6 then (0 : Int32) else if 12 < jI (t : Int) then 0 else 1) = jB (decide (7 ≤ t ∧ t ≤ 12)) := by
    simp only [je6 (z := (t : Int)) (rI_nat (by omega)), jg12 (z := (t : Int)) (rI_nat (by omega))]
    by_cases c1 : (t : Int) ≤ 6
    · rw [if_pos c1, decide_eq_false (by omega)]; rfl
    · rw [if_neg c1]
      by_cases c2 : (12 : Int) < t
      · rw [if_pos c2, decide_eq_false (by omega)]; rfl
      · rw [if_neg c2, decide_eq_true (by omega)]; rfl
  rw [e]
  exact ⟨jB_bool _, k⟩
theorem u1_goOn {Q : Int32 → mM → Prop} {z : Nat} (h : uOk Th n s x y nv A B) (hz : z < 21 * uR s) (h7 : 7 ≤ z % 21) (k : Q (jI (uGq (uR s) z : Nat)) (A, V, B)) : P1_goOn (d + 2) Th (n + 94) (jI z) (A, V, B) Q := by
  obtain ⟨e0, eR, -, -, -⟩ := uOk_R h
  refine e1_goOn ?_
  intro xv1 h1 xv2 h2
  rw [jI_div21 (by omega)] at h1
  rw [jI_mod21 (by omega)] at h2
  subst h1 h2
  refine u1_walks (d := d) (by omega) ?_
  unfold uGq at k
  by_cases c : z % 21 ≤ 12
  · rw [if_pos c] at k
    rw [decide_eq_true (by omega), if_neg (by decide)]
    refine ⟨h.1 94 _ rfl, ?_⟩
    rw [kI6, jI_sub, kI1, jI_sub, show ((z % 21 : Nat) : Int) - 6 - 1 = ((z % 21 - 7 : Nat) : Int) by omega]
    exact u1_walkOn (d := d) h (by omega) (by omega) k
  · rw [if_neg c] at k
    rw [decide_eq_false (by omega), if_pos (by decide)]
    intro xv5 h5
    simp only [je16 (z := ((z % 21 : Nat) : Int)) (rI_nat (by omega))] at h5
    by_cases c16 : z % 21 ≤ 16
    · rw [if_pos c16] at k
      rw [if_pos (by omega)] at h5
      subst h5
      rw [if_pos rfl, kI1, jI_sub, kI12, jI_sub, show ((z % 21 : Nat) : Int) - 1 - 12 = ((z % 21 - 13 : Nat) : Int) by omega]
      exact u1_strayOn (d := d) (kn := false) (by omega) (by omega) k
    · rw [if_neg c16] at k
      rw [if_neg (by omega)] at h5
      subst h5
      rw [if_neg (by decide)]
      rw [show jI ((z % 21 : Nat) : Int) - 1 - 16 = jI ((z % 21 - 17 : Nat) : Int) by rw [kI1, jI_sub, kI16, jI_sub]; congr 1; omega]
      exact u1_strayOn (d := d) (kn := true) (by omega) (by omega) k
theorem u1_seeing {Q : Int32 → mM → Prop} {z bg : Nat} (h : uOk Th n s x y nv A B) (hz : z ≤ 105) (hb : bg ≤ 2) (k : Q (jI (uSee (uCp s y) z bg : Nat)) (A, V, B)) : P1_seeing (d + 1) Th (n + 94) (jI z) (jI bg) (A, V, B) Q := by
  obtain ⟨hT, hG, hxy, ⟨b0, b1, b2, b3⟩, ⟨a0, a2, a3, a6, a8⟩, -⟩ := h
  refine e1_seeing ⟨hT 94 _ rfl, ?_⟩
  show (if A (n + 94) 8 = 0 then _ else _)
  rw [a8, jI_mod21 (by omega), jI_div21 (by omega)]
  simp only [jB_z, jq0 (z := (bg : Int)) (rI_nat (by omega)), jh6 (z := ((z % 21 : Nat) : Int)) (rI_nat (by omega)), jl105 (z := (z : Int)) (rI_nat (by omega)), jq1 (z := (bg : Int)) (rI_nat (by omega))]
  unfold uSee at k
  cases hc : uCp s y
  · rw [hc, if_neg (fun q => absurd q.1 (by decide))] at k
    rw [if_pos rfl]; exact k
  · rw [hc] at k
    rw [if_neg (by decide)]
    by_cases c1 : bg = 0
    · rw [if_neg (fun q => q.2.1 c1)] at k
      rw [if_pos (by omega)]; exact k
    rw [if_neg (by omega)]
    by_cases c2 : z % 21 < 6
    rotate_left
    · rw [if_neg (fun q => c2 q.2.2.1)] at k
      rw [if_pos (by omega)]; exact k
    rw [if_neg (by omega)]
    by_cases c3 : z < 105
    rotate_left
    · rw [if_neg (fun q => c3 q.2.2.2)] at k
      rw [if_neg (by omega)]; exact k
    rw [if_pos ⟨rfl, c1, c2, c3⟩] at k
    rw [if_pos (by omega)]
    by_cases c4 : bg = 1
    · rw [if_pos c4] at k
      rw [if_pos (by omega), show (21 : Int32) = jI 21 from rfl, kI6, jI_mul, jI_add, show ((z / 21 : Nat) : Int) * 21 + 6 = ((21 * (z / 21) + 6 : Nat) : Int) by omega]
      exact k
    · rw [if_neg c4] at k
      rw [if_neg (by omega), show (21 : Int32) = jI 21 from rfl, kI17, jI_mul, jI_add, show ((z / 21 : Nat) : Int) * 21 + 17 = ((21 * (z / 21) + 17 : Nat) : Int) by omega]
      exact k
theorem u1_steps {Q : Int32 → mM → Prop} {b r : Nat} {M : mM} (hR : s 0 0 = (uR s : Int)) (hR5 : uR s ≤ 5) (hq : lySk Th (aSk n b) M) (hv : vB n s b M) (hr : r < uR s) (k : Q (jI (wN s b r : Nat)) M) : P8_stepsFrom (d + 1) Th (aSk n b) (jI r) M Q := by
  have := wN_b s b r
  have e := wN_e s b r
  refine s8_stepsFrom (d := d) (r := r) hq hv (by omega) (by omega) (by omega) ?_
  rw [e]
  exact k
theorem u1_movedY {Q : Int32 → mM → Prop} {z : Nat} (h : uOk Th n s x y nv A B) (hz : z < 21 * uR s) (h6 : 6 ≤ z % 21) (h17 : z % 21 ≤ 17) (k : Q (jI (uMv s y z : Nat)) (A, V, B)) : P1_movedY (d + 3) Th (n + 94) (jI z) (A, V, B) Q := by
  obtain ⟨e0, eR, eD, eD1, eD4⟩ := uOk_R h
  have h' := h
  obtain ⟨hT, hG, hxy, ⟨b0, b1, b2, b3⟩, ⟨a0, a2, a3, a6, a8⟩, hS⟩ := h
  have hw := wN_b s y (z / 21)
  refine e1_movedY ?_
  intro xv1 h1
  rw [jI_div21 (by omega)] at h1
  subst h1
  rw [jI_mod21 (by omega)]
  simp only [jq6 (z := ((z % 21 : Nat) : Int)) (rI_nat (by omega)), jq17 (z := ((z % 21 : Nat) : Int)) (rI_nat (by omega))]
  unfold uMv at k
  by_cases c6 : z % 21 = 6
  · rw [if_pos c6] at k
    rw [if_pos (by omega)]
    refine ⟨hT 94 _ rfl, aSk n y, b2, (hS V).2.1.1.1, ?_⟩
    refine u1_steps (d := d + 1) e0 eR (hS V).2.1 (hS V).2.2.2 (by omega) ?_
    obtain ⟨w, hw'⟩ : ∃ w, wN s y (z / 21) = w + 1 := ⟨wN s y (z / 21) - 1, by omega⟩
    rw [hw'] at k ⊢
    rw [jI_p]
    exact u1_walkOn (d := d + 1) h' (by omega) (by omega) k
  rw [if_neg c6] at k
  rw [if_neg (by omega)]
  by_cases c17 : z % 21 = 17
  · rw [if_pos c17] at k
    rw [if_pos (by omega)]
    refine ⟨hT 94 _ rfl, n + 3, b0, hT 3 _ rfl, ?_⟩
    show P1_strayOn _ _ _ (A (n + 3) 2 - 1) 0 _ _
    rw [a2, eD]
    obtain ⟨w, hw'⟩ : ∃ w, dN s = w + 1 := ⟨dN s - 1, by omega⟩
    rw [hw'] at k ⊢
    rw [jI_p]
    exact u1_strayOn (d := d + 1) (kn := false) (by omega) (by omega) k
  · rw [if_neg c17] at k
    rw [if_neg (by omega)]
    exact ⟨hT 94 _ rfl, u1_goOn (d := d) h' hz (by omega) k⟩
theorem u1_thoughtOn {Q : Int32 → mM → Prop} {M : mM} {r t : Nat} (hr : r < 5) (ht : t ≤ 5) (k : Q (jI (21 * r + kmo t : Nat)) M) : P1_thoughtOn (d + 1) Th (jI r) (jI t) M Q := by
  refine e1_thoughtOn ?_
  have e : (if jI (t : Int) + 1 < 5 then jI (t : Int) + 1 else 5) = jI (kmo t : Nat) := by
    rw [jI_s]
    unfold kmo
    simp only [jl5 (z := ((t + 1 : Nat) : Int)) (rI_nat (by omega))]
    by_cases c : t < 5
    · rw [if_pos c]
      by_cases c2 : t + 1 < 5
      · rw [if_pos (by omega)]
      · rw [if_neg (by omega), show t + 1 = 5 by omega]; rfl
    · rw [if_neg c, if_neg (by omega)]; rfl
  have hk : kmo t ≤ 5 := by unfold kmo; split <;> omega
  rw [e, show (21 : Int32) = jI 21 from rfl, jI_mul, jI_add, show (r : Int) * 21 + (kmo t : Int) = ((21 * r + kmo t : Nat) : Int) by omega]
  exact k
theorem u_bit : ∀ (v : Fin 8) (k : Fin 5), (((jI (v.val : Int) >>> ((jI (k.val : Int) - 2) &&& 31)) &&& 1 = 1) = (v.val / 2 ^ (k.val - 2) % 2 = 1)) ∨ k.val < 2 := by decide +kernel
/-- can it be done -/
theorem u1_can {Q : Int32 → mM → Prop} {k zx zy : Nat} (h : uOk Th n s x y nv A B) (hx : zx < 21 * uR s) (hy : zy ≤ 105) (hk : k < 5) (kk : Q (jB (decide (zx % 21 ≤ 6) && uCan s nv k zx zy)) (A, V, B)) : P1_can (d + 2) Th (n + 94) (jI k) (jI zx) (jI zy) (A, V, B) Q := by
  obtain ⟨e0, eR, eD, eD1, eD4⟩ := uOk_R h
  obtain ⟨hT, hG, hxy, ⟨b0, b1, b2, b3⟩, ⟨a0, a2, a3, a6, a8⟩, hS⟩ := h
  have g3 := hG.2.2.2.1
  refine e1_can ?_
  intro xv1 h1
  rw [jI_mod21 (by omega)] at h1
  subst h1
  simp only [jg6 (z := ((zx % 21 : Nat) : Int)) (rI_nat (by omega)), jqN (z := (k : Int)) (rI_nat (by omega)), jl2 (z := (k : Int)) (rI_nat (by omega))]
  by_cases c6 : zx % 21 ≤ 6
  rotate_left
  · rw [decide_eq_false c6] at kk
    rw [if_pos (by omega)]
    refine h1_can_18 ?_
    simp only [je6 (z := ((zx % 21 : Nat) : Int)) (rI_nat (by omega)), jqN (z := (k : Int)) (rI_nat (by omega))]
    rw [if_neg (by omega), if_neg (by omega)]
    exact ⟨mb0, kk⟩
  rw [decide_eq_true c6, Bool.true_and] at kk
  rw [if_neg (by omega), if_neg (by omega)]
  have rest : uLet nv k = true → H1_can_57 (d + 2) Th Q (n + 94) (jI k) (jI zx) (jI zy) (jI ((zx % 21 : Nat) : Int)) (A, V, B) := by
    intro hl
    refine h1_can_57 ?_
    unfold uCan at kk
    rw [hl, Bool.true_and] at kk
    simp only [jq0 (z := (k : Int)) (rI_nat (by omega)), jq3 (z := (k : Int)) (rI_nat (by omega)), jq4 (z := (k : Int)) (rI_nat (by omega)), jq6 (z := ((zx % 21 : Nat) : Int)) (rI_nat (by omega))]
    by_cases k0 : k = 0
    · rw [if_pos k0] at kk
      rw [if_pos (by omega)]
      have e : (if ((zx % 21 : Nat) : Int) = 6 then (0 : Int32) else 1) = jB (decide (zx % 21 ≠ 6)) := by
        by_cases c : zx % 21 = 6
        · rw [if_pos (by omega), decide_eq_false (by omega)]; rfl
        · rw [if_neg (by omega), decide_eq_true (by omega)]; rfl
      rw [e]
      exact ⟨jB_bool _, kk⟩
    rw [if_neg k0] at kk
    rw [if_neg (by omega)]
    by_cases k3 : k = 3
    · rw [if_pos k3] at kk
      rw [if_pos (by omega)]
      refine ⟨hT 94 _ rfl, n + 3, b0, hT 3 _ rfl, ?_⟩
      show (if A (n + 3) 3 = 0 then _ else _)
      rw [a3, jI_mod21 (k := zy) (by omega), jI_div21 (by omega), jI_div21 (by omega)]
      simp only [jq0 (z := s 0 3) (rI_of (by omega) (by omega)), jIeq (rI_nat (k := zx / 21) (by omega)) (rI_nat (k := zy / 21) (by omega))]
      by_cases f : s 0 3 = 0
      rotate_left
      · rw [decide_eq_false (fun q => f q.1)] at kk
        rw [if_neg f]; exact kk
      rw [if_pos f]
      by_cases w : zx / 21 = zy / 21
      rotate_left
      · rw [decide_eq_false (fun q => w q.2.1)] at kk
        rw [if_neg (by omega)]; exact kk
      rw [if_pos (by omega)]
      refine u1_walks (d := d) (by omega) ?_
      have e : (if jB (decide (7 ≤ zy % 21 ∧ zy % 21 ≤ 12)) = 0 then (0 : Int32) else 1) = jB (decide (s 0 3 = 0 ∧ zx / 21 = zy / 21 ∧ 7 ≤ zy % 21 ∧ zy % 21 ≤ 12)) := by
        by_cases q : 7 ≤ zy % 21 ∧ zy % 21 ≤ 12
        · rw [decide_eq_true q, decide_eq_true ⟨f, w, q⟩]; rfl
        · rw [decide_eq_false q, decide_eq_false (fun q' => q q'.2.2)]; rfl
      rw [e]
      exact ⟨jB_bool _, kk⟩
    rw [if_neg k3] at kk
    rw [if_neg (by omega)]
    by_cases k4 : k = 4
    · rw [if_pos k4] at kk
      have e : (if (k : Int) = 4 then (1 : Int32) else if ((zx % 21 : Nat) : Int) = 6 then 1 else 0) = jB true := by rw [if_pos (by omega)]; rfl
      rw [e]
      exact ⟨jB_bool _, kk⟩
    · rw [if_neg k4] at kk
      have e : (if (k : Int) = 4 then (1 : Int32) else if ((zx % 21 : Nat) : Int) = 6 then 1 else 0) = jB (decide (zx % 21 = 6)) := by
        rw [if_neg (by omega)]
        by_cases c : zx % 21 = 6
        · rw [if_pos (by omega), decide_eq_true c]; rfl
        · rw [if_neg (by omega), decide_eq_false c]; rfl
      rw [e]
      exact ⟨jB_bool _, kk⟩
  by_cases k2 : k < 2
  · rw [if_pos (by omega)]
    exact rest (by unfold uLet; rw [decide_eq_true (Or.inl k2)])
  rw [if_neg (by omega)]
  refine ⟨hT 94 _ rfl, ?_⟩
  show (if (A (n + 94) 6 >>> ((jI (k : Int) - 2) &&& 31)) &&& 1 = 1 then _ else _)
  rw [a6]
  have ub := u_bit ⟨nv, by omega⟩ ⟨k, hk⟩
  rcases ub with ub | ub
  rotate_left
  · exact absurd ub k2
  simp only [ub]
  by_cases b : nv / 2 ^ (k - 2) % 2 = 1
  · rw [if_pos b]
    have e : uCan s nv k zx zy = false := by
      unfold uCan uLet
      rw [decide_eq_false (by omega), Bool.false_and]
    rw [e] at kk
    exact kk
  · rw [if_neg b]
    exact rest (by unfold uLet; rw [decide_eq_true (Or.inr (by omega))])
theorem u1_canN {Q : Int32 → mM → Prop} {zx zy : Nat} (hx : zx ≤ 105) {M : mM} (kk : Q (jB (decide (7 ≤ zx % 21))) M) : P1_can (d + 2) Th (n + 94) (-1) (jI zx) (jI zy) M Q := by
  refine e1_can ?_
  intro xv1 h1
  rw [jI_mod21 (by omega)] at h1
  subst h1
  simp only [jg6 (z := ((zx % 21 : Nat) : Int)) (rI_nat (by omega))]
  have g : H1_can_18 (d + 2) Th Q (-1) (jI ((zx % 21 : Nat) : Int)) M := by
    refine h1_can_18 ?_
    have e : (if jI ((zx % 21 : Nat) : Int) ≤ 6 then (0 : Int32) else if (-1 : Int32) = -1 then 1 else 0) = jB (decide (7 ≤ zx % 21)) := by
      simp only [je6 (z := ((zx % 21 : Nat) : Int)) (rI_nat (by omega))]
      by_cases c : zx % 21 ≤ 6
      · rw [if_pos (by omega), decide_eq_false (by omega)]; rfl
      · rw [if_neg (by omega), if_pos trivial, decide_eq_true (by omega)]; rfl
    rw [e]
    exact ⟨jB_bool _, kk⟩
  by_cases c : (6 : Int) < ((zx % 21 : Nat) : Int)
  · rw [if_pos c]; exact g
  · rw [if_neg c, if_pos trivial]; exact g
end UB
