section CT
variable {d : Nat} {Th : mT} {M : mM} {n P L : Nat}
def tBo (Pr : Nat → Nat → Int64) (So : Nat → Int64) (wy wx last : Nat) (w : Bool) (i k h : Nat) : Int64 := Pr i h * (So k * jL (8 ^ (last - (i + k))) * (if max (i + k) h + wx ≤ last ∧ (w = true → max (i + k) h + wx < i + k + wy) then 1 else 0))
def uBo (Pr : Nat → Nat → Int64) (So : Nat → Int64) (wy wx last : Nat) (w : Bool) (i k : Nat) : Int64 := if 1 ≤ k ∧ i + k ≤ last then sL (last + 1) (tBo Pr So wy wx last w i k) else 0
theorem s0_toBox {Q : Int64 → mM → Prop} {r p qx qy last wy wx : Nat} {w : Bool} {R : Int} {gx ex gy ey : Nat → Nat → Int} {sx sy : Nat → Int} (hc : lyCh Th n P L M) (hp : lyPa Th p M) (hp4 : M.1 p 4 = jI ((r + 1 : Nat) : Int)) (hqx : lySk Th qx M) (hqy : lySk Th qy M) (hvx : vSk qx R gx ex sx M) (hvy : vSk qy R gy ey sy M) (hr5 : r < 5) (hr : (r : Int) < R) (hl : last ≤ 10) (hsx : sx r = (wx : Int)) (hsy : sy r = (wy : Int)) (hwx : 1 ≤ wx ∧ wx ≤ 6) (hwy : 1 ≤ wy ∧ wy ≤ 6)
    (K : Q (sL (last + 1) (fun i => sL 11 (uBo (fun t h => M.2.1 (P + 1 + t) h) (fun k => M.2.1 (p + 3 + r) k) wy wx last w i))) M) : P0_toBox (d + 3) Th (n + 69) qx qy p (jI last) (jB w) M Q := by
  let Pr : Nat → Nat → Int64 := fun t h => M.2.1 (P + 1 + t) h
  let So : Nat → Int64 := fun k => M.2.1 (p + 3 + r) k
  have inner : ∀ (u h k i : Nat) (v : Int64), u + h = last + 1 → i ≤ last → 1 ≤ k → i + k ≤ last → v = sL i (fun i => sL 11 (uBo Pr So wy wx last w i)) + sL k (uBo Pr So wy wx last w i) + sL h (tBo Pr So wy wx last w i k) →
      (∀ v', v' = sL i (fun i => sL 11 (uBo Pr So wy wx last w i)) + sL (k + 1) (uBo Pr So wy wx last w i) → H0_toBox_27 (d + 3) Th Q (n + 69) qx qy p (jI last) (jB w) (jI r) v' (jI i) (jI ((i + k + 1 : Nat) : Int)) M) → H0_toBox_58 (d + 3) Th Q (n + 69) qx qy p (jI last) (jB w) (jI r) v (jI i) (jI ((i + k : Nat) : Int)) (So k * jL (8 ^ (last - (i + k)))) (jI h) M := by
    intro u
    induction u with
    | zero =>
      intro h k i v hu hi hk hf hv kk
      refine h0_toBox_58 ?_
      rw [if_pos (by rw [jIlt (rI_nat (by omega)) (rI_nat (by omega))]; omega), jI_s]
      refine kk v ?_
      have eu : uBo Pr So wy wx last w i k = sL (last + 1) (tBo Pr So wy wx last w i k) := if_pos ⟨hk, hf⟩
      rw [hv, sL_succ, eu, show h = last + 1 by omega]
      grind
    | succ u ih =>
      intro h k i v hu hi hk hf hv kk
      refine h0_toBox_58 ?_
      rw [if_neg (by rw [jIlt (rI_nat (by omega)) (rI_nat (by omega))]; omega)]
      by_cases hz : So k * jL (8 ^ (last - (i + k))) = 0
      · rw [if_pos (by rw [lc_eq]; exact hz), jI_s]
        refine kk v ?_
        have eu : uBo Pr So wy wx last w i k = sL (last + 1) (tBo Pr So wy wx last w i k) := if_pos ⟨hk, hf⟩
        have z : ∀ m, sL m (tBo Pr So wy wx last w i k) = 0 := fun m => sL_zero (fun j _ => by unfold tBo; rw [hz]; grind)
        rw [hv, sL_succ, eu, z, z]
        grind
      rw [if_neg (by rw [lc_eq]; exact hz)]
      refine ⟨hqx.1.1, ?_⟩
      refine s8_stepsFrom (d := d + 1) (r := r) hqx hvx hr5 hr (by omega) ?_
      intro xv4 h4
      have hx4 : xv4 = jI ((max (i + k) h + wx : Nat) : Int) := by
        rw [h4, hsx]
        simp only [jIlt (rI_nat (k := h) (by omega)) (rI_nat (k := i + k) (by omega))]
        by_cases c : (h : Int) < ((i + k : Nat) : Int)
        · rw [if_pos c, jI_add, show max (i + k) h = i + k by omega]; rfl
        · rw [if_neg c, jI_add, show max (i + k) h = h by omega]; rfl
      subst hx4
      refine ⟨hqy.1.1, ?_⟩
      refine s8_stepsFrom (d := d + 1) (r := r) hqy hvy hr5 hr (by omega) ?_
      intro xv8 h8
      rw [hsy, jI_add, show ((i + k : Nat) : Int) + (wy : Int) = ((i + k + wy : Nat) : Int) by omega] at h8
      have skip : tBo Pr So wy wx last w i k h = 0 → H0_toBox_58 (d + 3) Th Q (n + 69) qx qy p (jI last) (jB w) (jI r) v (jI i) (jI ((i + k : Nat) : Int)) (So k * jL (8 ^ (last - (i + k)))) (jI h + 1) M := by
        intro z
        rw [jI_s]
        refine ih (h + 1) k i v (by omega) hi hk hf ?_ kk
        rw [hv, sL_succ, z]
        grind
      have add : (max (i + k) h + wx ≤ last ∧ (w = true → max (i + k) h + wx < i + k + wy)) → H0_toBox_126 (d + 3) Th Q (n + 69) qx qy p (jI last) (jB w) (jI r) v (jI i) (jI ((i + k : Nat) : Int)) (So k * jL (8 ^ (last - (i + k)))) (jI h) M := by
        intro hcd
        have rb := hc.row (i := i) (by omega)
        refine h0_toBox_126 ⟨hc.1.1, P, hc.2.2.1, m_okO_jI hc.arr.1 (by omega) (by omega) (by omega), P + 1 + i, by rw [jInatN _ (by omega)]; exact rb.1.2, m_ok_jI rb.1.1 (by omega) (by omega) (by omega), ?_⟩
        intro lv8 hl8
        rw [jInatN h (by omega)] at hl8
        rw [jI_s]
        refine ih (h + 1) k i lv8 (by omega) hi hk hf ?_ kk
        have : tBo Pr So wy wx last w i k h = Pr i h * (So k * jL (8 ^ (last - (i + k)))) := by unfold tBo; rw [if_pos hcd]; grind
        rw [hl8, hv, sL_succ, this]
        grind
      by_cases ct : last < max (i + k) h + wx
      · rw [if_pos (by rw [jIlt (rI_nat (by omega)) (rI_nat (by omega))]; omega)]
        exact skip (by unfold tBo; rw [if_neg (by omega)]; grind)
      rw [if_neg (by rw [jIlt (rI_nat (by omega)) (rI_nat (by omega))]; omega)]
      by_cases ca : max (i + k) h + wx < i + k + wy
      · rw [if_neg (by rw [h8, if_neg (by rw [jIle (rI_nat (by omega)) (rI_nat (by omega))]; omega)]; decide)]
        exact add ⟨by omega, fun _ => ca⟩
      · rw [if_pos (by rw [h8, if_pos (by rw [jIle (rI_nat (by omega)) (rI_nat (by omega))]; omega)])]
        cases w with
        | false =>
          rw [if_pos (show jB false = 0 from rfl)]
          exact add ⟨by omega, fun z => by cases z⟩
        | true =>
          rw [if_neg (by decide)]
          exact skip (by unfold tBo; rw [if_neg (fun z => ca (z.2 rfl))]; grind)
  have mid : ∀ (u k i : Nat) (v : Int64), u + k = 11 → i ≤ last → 1 ≤ k → v = sL i (fun i => sL 11 (uBo Pr So wy wx last w i)) + sL k (uBo Pr So wy wx last w i) →
      (∀ v', v' = sL (i + 1) (fun i => sL 11 (uBo Pr So wy wx last w i)) → H0_toBox_14 (d + 3) Th Q (n + 69) qx qy p (jI last) (jB w) (jI r) v' (jI ((i + 1 : Nat) : Int)) M) → H0_toBox_27 (d + 3) Th Q (n + 69) qx qy p (jI last) (jB w) (jI r) v (jI i) (jI ((i + k : Nat) : Int)) M := by
    intro u
    induction u with
    | zero =>
      intro k i v hu hi hk hv kk
      refine h0_toBox_27 ?_
      rw [if_pos (by rw [jIlt (rI_nat (by omega)) (rI_nat (by omega))]; omega), jI_s]
      exact kk v (by rw [hv, sL_succ, show k = 11 by omega])
    | succ u ih =>
      intro k i v hu hi hk hv kk
      refine h0_toBox_27 ?_
      by_cases cx : last < i + k
      · rw [if_pos (by rw [jIlt (rI_nat (by omega)) (rI_nat (by omega))]; omega), jI_s]
        refine kk v ?_
        rw [hv, sL_succ]
        congr 1
        exact (sL_split (by omega) (fun j h1 h2 => if_neg (by omega))).symm
      rw [if_neg (by rw [jIlt (rI_nat (by omega)) (rI_nat (by omega))]; omega)]
      refine ⟨hp.1.1, ?_⟩
      rw [jI_sub, show ((i + k : Nat) : Int) - (i : Int) = (k : Int) by omega]
      refine s7_solvedIn (d := d + 1) hp hr5 (by omega) ?_
      intro lv4 h4
      rw [jI_sub, show (last : Int) - ((i + k : Nat) : Int) = ((last - (i + k) : Nat) : Int) by omega, kI3, sh8 (by omega)] at h4
      rw [h4, i0]
      refine inner (last + 1) 0 k i v (by omega) hi hk (by omega) ?_ (fun v' hv' => ?_)
      · rw [hv, show sL 0 (tBo Pr So wy wx last w i k) = 0 from rfl]
        grind
      · exact ih (k + 1) i v' (by omega) hi (by omega) hv' kk
  have outer : ∀ (u i : Nat) (v : Int64), u + i = last + 1 → v = sL i (fun i => sL 11 (uBo Pr So wy wx last w i)) → H0_toBox_14 (d + 3) Th Q (n + 69) qx qy p (jI last) (jB w) (jI r) v (jI i) M := by
    intro u
    induction u with
    | zero =>
      intro i v hu hv
      refine h0_toBox_14 ?_
      rw [if_pos (by rw [jIlt (rI_nat (by omega)) (rI_nat (by omega))]; omega), hv, show i = last + 1 by omega]
      exact K
    | succ u ih =>
      intro i v hu hv
      refine h0_toBox_14 ?_
      rw [if_neg (by rw [jIlt (rI_nat (by omega)) (rI_nat (by omega))]; omega)]
      intro xv1 h1
      rw [h1, jI_s]
      refine mid 10 1 i v (by omega) (by omega) (by omega) ?_ (fun v' hv' => ih (i + 1) v' (by omega) hv')
      have : sL 1 (uBo Pr So wy wx last w i) = 0 := sL_zero (fun k hk => if_neg (by omega))
      rw [hv, this]
      grind
  refine e0_toBox ⟨hp.1.1, ?_⟩
  intro xv2 h2
  rw [hp4, jI_p] at h2
  rw [h2, i0]
  exact outer (last + 1) 0 0 (by omega) rfl
/-- on from a riddle to the next one -/
theorem pairs_next {D : Nat} {g e : Nat → Nat → Int} {wy wx : Nat → Nat} {R last r : Nat} {w : Bool} {Pr : Nat → Nat → Int64} {So : Nat → Int64} (hr : r + 1 < R) (hD : 1 ≤ D ∧ D ≤ 4) (hl : last ≤ 10) (hwy : ∀ r, 1 ≤ wy r ∧ wy r ≤ 6) (hwx : ∀ r, 1 ≤ wx r ∧ wx r ≤ 6)
    (hSo : ∀ X : Nat → Int, sL 11 (fun k => So k * jL (X k)) = jL (yV 8 D (g r) (e r) X 10 0)) {i : Nat} (hi : i ≤ last) :
    sL 11 (uGo Pr So (wy r) (wx r) last (fun t h => jL (aV D g e wy wx R last w (last - t) (16 * (r + 1)) h)) i) = sL (last + 1) (fun h => Pr i h * jL (aV D g e wy wx R last w (last - i) (16 * r) h)) := by
  let X : Nat → Nat → Int := fun h k => if 1 ≤ k ∧ i + k + wy r ≤ last ∧ max (i + k) h + wx r ≤ last then 8 ^ wy r * aV D g e wy wx R last w (last - (i + k + wy r)) (16 * (r + 1)) (max (i + k) h + wx r) else 0
  have e1 : ∀ k, k < 11 → uGo Pr So (wy r) (wx r) last (fun t h => jL (aV D g e wy wx R last w (last - t) (16 * (r + 1)) h)) i k = sL (last + 1) (fun h => Pr i h * (So k * jL (X h k))) := by
    intro k hk
    unfold uGo
    by_cases c : 1 ≤ k ∧ i + k + wy r ≤ last
    · rw [if_pos c]
      refine sL_ext (fun h hh => ?_)
      unfold tGo
      by_cases c2 : max (i + k) h + wx r ≤ last
      · have ex : X h k = 8 ^ wy r * aV D g e wy wx R last w (last - (i + k + wy r)) (16 * (r + 1)) (max (i + k) h + wx r) := if_pos ⟨c.1, c.2, c2⟩
        rw [if_pos c2, ex, jLm]
        grind
      · have ex : X h k = 0 := if_neg (fun z => c2 z.2.2)
        rw [if_neg c2, ex, jL_0]
        grind
    · rw [if_neg c]
      refine (sL_zero (fun h hh => ?_)).symm
      have ex : X h k = 0 := if_neg (fun z => c ⟨z.1, z.2.1⟩)
      rw [ex, jL_0]
      grind
  rw [sL_ext e1, sL_swap]
  refine sL_ext (fun h hh => ?_)
  have e2 : sL 11 (fun k => Pr i h * (So k * jL (X h k))) = Pr i h * sL 11 (fun k => So k * jL (X h k)) := sL_mul
  rw [e2, hSo]
  have ht := aV_think (D := D) (g := g) (e := e) (wy := wy) (wx := wx) (R := R) (last := last) (w := w) (X := X h) (r := r) (came := i) (late := h) (by omega) hD hl (fun k hk => if_neg (by omega)) (fun k h1 h2 => by
    unfold aSo
    rw [if_pos hr, aV_walk (wy r) (last - (i + k)) (hwy r).1 (hwy r).2]
    have e3 : last - (last - (i + k)) = i + k := by omega
    rw [e3]
    by_cases c : i + k + wy r ≤ last
    · rw [if_pos ⟨by omega, by omega⟩]
      by_cases c2 : max (i + k) h + wx r ≤ last
      · have ex : X h k = 8 ^ wy r * aV D g e wy wx R last w (last - (i + k + wy r)) (16 * (r + 1)) (max (i + k) h + wx r) := if_pos ⟨h1, c, c2⟩
        rw [ex, show last - (i + k) - wy r = last - (i + k + wy r) by omega, show min 12 (max (i + k) h + wx r) = max (i + k) h + wx r by omega]
      · have ex : X h k = 0 := if_neg (fun z => c2 z.2.2)
        rw [ex, aV_late hl (fun r => (hwx r).1) _ _ _ (by omega) (by omega)]
        omega
    · have ex : X h k = 0 := if_neg (fun z => c z.2.1)
      rw [ex, if_neg (by omega)]) 10 0 0 rfl (Or.inl (by omega))
  rw [ht, if_pos (by omega)]
  rfl
theorem pairs_box {D : Nat} {g e : Nat → Nat → Int} {wy wx : Nat → Nat} {R last r : Nat} {w : Bool} {Pr : Nat → Nat → Int64} {So : Nat → Int64} (hr : r + 1 = R) (hD : 1 ≤ D ∧ D ≤ 4) (hl : last ≤ 10)
    (hSo : ∀ X : Nat → Int, sL 11 (fun k => So k * jL (X k)) = jL (yV 8 D (g r) (e r) X 10 0)) {i : Nat} (hi : i ≤ last) :
    sL 11 (uBo Pr So (wy r) (wx r) last w i) = sL (last + 1) (fun h => Pr i h * jL (aV D g e wy wx R last w (last - i) (16 * r) h)) := by
  let X : Nat → Nat → Int := fun h k => if 1 ≤ k ∧ i + k ≤ last ∧ max (i + k) h + wx r ≤ last ∧ (w = true → max (i + k) h + wx r < i + k + wy r) then 8 ^ (last - (i + k)) else 0
  have e1 : ∀ k, k < 11 → uBo Pr So (wy r) (wx r) last w i k = sL (last + 1) (fun h => Pr i h * (So k * jL (X h k))) := by
    intro k hk
    unfold uBo
    by_cases c : 1 ≤ k ∧ i + k ≤ last
    · rw [if_pos c]
      refine sL_ext (fun h hh => ?_)
      unfold tBo
      by_cases c2 : max (i + k) h + wx r ≤ last ∧ (w = true → max (i + k) h + wx r < i + k + wy r)
      · have ex : X h k = 8 ^ (last - (i + k)) := if_pos ⟨c.1, c.2, c2.1, c2.2⟩
        rw [if_pos c2, ex]
        grind
      · have ex : X h k = 0 := if_neg (fun z => c2 z.2.2)
        rw [if_neg c2, ex, jL_0]
        grind
    · rw [if_neg c]
      refine (sL_zero (fun h hh => ?_)).symm
      have ex : X h k = 0 := if_neg (fun z => c ⟨z.1, z.2.1⟩)
      rw [ex, jL_0]
      grind
  rw [sL_ext e1, sL_swap]
  refine sL_ext (fun h hh => ?_)
  have e2 : sL 11 (fun k => Pr i h * (So k * jL (X h k))) = Pr i h * sL 11 (fun k => So k * jL (X h k)) := sL_mul
  rw [e2, hSo]
  have ht := aV_think (D := D) (g := g) (e := e) (wy := wy) (wx := wx) (R := R) (last := last) (w := w) (X := X h) (r := r) (came := i) (late := h) (by omega) hD hl (fun k hk => if_neg (by omega)) (fun k h1 h2 => by
    unfold aSo
    have e3 : last - (last - (i + k)) = i + k := by omega
    rw [if_neg (by omega), e3]
    by_cases c2 : max (i + k) h + wx r ≤ last ∧ (w = true → max (i + k) h + wx r < i + k + wy r)
    · rw [if_pos c2]
      exact if_pos ⟨h1, h2, c2.1, c2.2⟩
    · rw [if_neg c2]
      exact if_neg (fun z => c2 z.2.2)) 10 0 0 rfl (Or.inl (by omega))
  rw [ht, if_pos (by omega)]
  rfl
end CT
