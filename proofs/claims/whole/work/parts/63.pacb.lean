section PB
variable {d : Nat} {Th : mT} {M : mM} {p : Nat}
/-- what a pace has reckoned of solving -/
def vSo (p : Nat) (N : Int) (D : Nat) (g e : Nat → Nat → Int) (r : Nat) (M : mM) : Prop := ∀ X : Nat → Int, sL 11 (fun k => M.2.1 (p + 3 + r) k * jL (X k)) = jL (yV N D (g r) (e r) X 10 0)
theorem s7_solvedIn {Q : Int64 → mM → Prop} {r k : Nat} (hp : lyPa Th p M) (hr : r < 5) (hk : k ≤ 10) (K : Q (M.2.1 (p + 3 + r) k) M) : P7_solvedIn (d + 1) Th p (jI r) (jI k) M Q := by
  refine e7_solvedIn ?_
  intro xv1 h1
  have : xv1 = 1 := by
    rw [h1, if_neg (by rw [jl0 (rI_nat (by omega))]; omega), if_neg (by rw [jh5 (rI_nat (by omega))]; omega), if_neg (by rw [jl0 (rI_nat (by omega))]; omega), if_neg (by rw [jg10 (rI_nat (by omega))]; omega)]
  rw [if_neg (by rw [this]; decide)]
  refine ⟨hp.1.1, p + 2, hp.2.2.1, m_okO_jI hp.1.2.2.1 (by omega) (by omega) (by omega), p + 3 + r, by rw [jInatN r (by omega)]; exact hp.2.2.2.2.1 r hr, m_ok_jI (hp.1.2.2.2.1 r hr) (by omega) (by omega) (by omega), ?_⟩
  rw [jInatN k (by omega)]
  exact K
theorem s7_comeAt {Q : Int64 → mM → Prop} {r k : Nat} (hp : lyPa Th p M) (hr : r ≤ 5) (hk : k ≤ 10) (K : Q (M.2.1 (p + 9 + r) k) M) : P7_comeAt (d + 1) Th p (jI r) (jI k) M Q := by
  refine e7_comeAt ?_
  intro xv1 h1
  have : xv1 = 1 := by
    rw [h1, if_neg (by rw [jl0 (rI_nat (by omega))]; omega), if_neg (by rw [jg5 (rI_nat (by omega))]; omega), if_neg (by rw [jl0 (rI_nat (by omega))]; omega), if_neg (by rw [jg10 (rI_nat (by omega))]; omega)]
  rw [if_neg (by rw [this]; decide)]
  refine ⟨hp.1.1, p + 8, hp.2.2.2.1, m_okO_jI hp.1.2.2.2.2.1 (by omega) (by omega) (by omega), p + 9 + r, by rw [jInatN r (by omega)]; exact hp.2.2.2.2.2 r (by omega), m_ok_jI (hp.1.2.2.2.2.2 r (by omega)) (by omega) (by omega) (by omega), ?_⟩
  rw [jInatN k (by omega)]
  exact K
theorem s7_goOn {Q : mM → Prop} {r sh S : Nat} {N : Int} (hp : lyPa Th p M) (h3 : M.1 p 3 = jI (sh : Int)) (hs : shN sh N) (hr5 : r < 5) (hS : 1 ≤ S ∧ S ≤ 6)
    (K : ∀ M', (∀ f : Nat → Int64, sL 11 (fun j => M'.2.1 (p + 9 + (r + 1)) j * f j) = sL 11 (fun i => M.2.1 (p + 9 + r) i * sL 11 (fun k => if 1 ≤ k ∧ i + k + S ≤ 10 then M.2.1 (p + 3 + r) k * (jL (N ^ S) * f (i + k + S)) else 0))) → Eo (fun q' _ => q' = p + 9 + (r + 1)) M M' → Q M') : P7_goOn (d + 2) Th p (jI r) (jI S) M Q := by
  have hh := hp.1.2.2.2.2.2 r (by omega)
  have ht := hp.1.2.2.2.2.2 (r + 1) (by omega)
  let G : (Nat → Int64) → Nat → Nat → Int64 := fun f i k => if 1 ≤ k ∧ i + k + S ≤ 10 then M.2.1 (p + 3 + r) k * (jL (N ^ S) * f (i + k + S)) else 0
  have hsu : ∀ q' k, q' = p + 9 + (r + 1) → sPa p q' k := fun q' k h => by unfold sPa; omega
  have inner : ∀ (u k i : Nat) (M1 : mM), u + (i + k + S) = i + 11 + S → 1 ≤ k → k ≤ 11 → i ≤ 10 → Eo (fun q' _ => q' = p + 9 + (r + 1)) M M1 → (∀ f : Nat → Int64, sL 11 (fun j => M1.2.1 (p + 9 + (r + 1)) j * f j) = sL i (fun i => M.2.1 (p + 9 + r) i * sL 11 (G f i)) + M.2.1 (p + 9 + r) i * sL k (G f i)) →
      (∀ M2, Eo (fun q' _ => q' = p + 9 + (r + 1)) M M2 → (∀ f : Nat → Int64, sL 11 (fun j => M2.2.1 (p + 9 + (r + 1)) j * f j) = sL (i + 1) (fun i => M.2.1 (p + 9 + r) i * sL 11 (G f i))) → H7_goOn_25 (d + 2) Th Q p (jI r) (jI S) (p + 9 + r) (p + 9 + (r + 1)) (jI ((i + 1 : Nat) : Int)) M2) → H7_goOn_35 (d + 2) Th Q p (jI r) (jI S) (p + 9 + r) (p + 9 + (r + 1)) (jI i) (jI k) M1 := by
    intro u
    induction u with
    | zero =>
      intro k i M1 hu hk1 hk11 hi he hI kk
      refine h7_goOn_35 ?_
      have e : jI (i : Int) + jI (k : Int) + jI (S : Int) = jI ((i + k + S : Nat) : Int) := by rw [jI_add, jI_add]; rfl
      rw [e, if_pos (by rw [jg10 (rI_nat (by omega))]; omega), jI_s]
      refine kk M1 he (fun f => ?_)
      rw [hI f, sL_succ, show k = 11 by omega]
    | succ u ih =>
      intro k i M1 hu hk1 hk11 hi he hI kk
      have e : jI (i : Int) + jI (k : Int) + jI (S : Int) = jI ((i + k + S : Nat) : Int) := by rw [jI_add, jI_add]; rfl
      refine h7_goOn_35 ?_
      rw [e]
      by_cases hx : 10 < i + k + S
      · rw [if_pos (by rw [jg10 (rI_nat (by omega))]; omega), jI_s]
        refine kk M1 he (fun f => ?_)
        rw [hI f, sL_succ]
        congr 2
        exact (sL_split (by omega) (fun j h1 h2 => if_neg (by omega))).symm
      rw [if_neg (by rw [jg10 (rI_nat (by omega))]; omega)]
      have hP1 := hp.mv (he.mono hsu)
      refine ⟨m_ok_jI ht (by omega) (by omega) (by omega), m_ok_jI hh (by omega) (by omega) (by omega), hp.1.1, ?_⟩
      refine s7_solvedIn hP1 hr5 (by omega) ?_
      have e3 : M1.1 p 3 = jI (sh : Int) := ((he _ _ (by omega)).1).trans h3
      refine ⟨m_okw_jI ht (by omega) (by omega) (by omega), ?_⟩
      rw [e3, shl_N hs (by omega), jInatN i (by omega), jInatN (i + k + S) (by omega), (he _ _ (show ¬ p + 9 + r = p + 9 + (r + 1) by omega)).2.1, (he _ _ (show ¬ p + 3 + r = p + 9 + (r + 1) by omega)).2.1, jI_s]
      refine ih (k + 1) i _ (by omega) (by omega) (by omega) hi (he.trans (Eo.rf.ul rfl)) (fun f => ?_) kk
      have e1 : sL 11 (fun j => (m_ul M1 (p + 9 + (r + 1)) (i + k + S) (M1.2.1 (p + 9 + (r + 1)) (i + k + S) + M.2.1 (p + 9 + r) i * M.2.1 (p + 3 + r) k * jL (N ^ S))).2.1 (p + 9 + (r + 1)) j * f j) = sL 11 (fun j => (if j = i + k + S then M1.2.1 (p + 9 + (r + 1)) (i + k + S) + M.2.1 (p + 9 + r) i * M.2.1 (p + 3 + r) k * jL (N ^ S) else M1.2.1 (p + 9 + (r + 1)) j) * f j) := sL_ext (fun j _ => by rw [m_ul_row])
      rw [e1, sL_upd (by omega), hI f, sL_succ]
      have eG : G f i k = M.2.1 (p + 3 + r) k * (jL (N ^ S) * f (i + k + S)) := if_pos (by omega)
      rw [eG]
      grind
  have outer : ∀ (u i : Nat) (M1 : mM), u + i = 11 → Eo (fun q' _ => q' = p + 9 + (r + 1)) M M1 → (∀ f : Nat → Int64, sL 11 (fun j => M1.2.1 (p + 9 + (r + 1)) j * f j) = sL i (fun i => M.2.1 (p + 9 + r) i * sL 11 (G f i))) → H7_goOn_25 (d + 2) Th Q p (jI r) (jI S) (p + 9 + r) (p + 9 + (r + 1)) (jI i) M1 := by
    intro u
    induction u with
    | zero =>
      intro i M1 hu he hI
      refine h7_goOn_25 ?_
      rw [if_pos (by rw [jg10 (rI_nat (by omega))]; omega)]
      refine K M1 (fun f => ?_) he
      rw [hI f, show i = 11 by omega]
    | succ u ih =>
      intro i M1 hu he hI
      refine h7_goOn_25 ?_
      rw [if_neg (by rw [jg10 (rI_nat (by omega))]; omega)]
      have q := inner 10 1 i M1 (by omega) (by omega) (by omega) (by omega) he (fun f => by
        rw [hI f]
        have : sL 1 (G f i) = 0 := sL_zero (fun k hk => if_neg (by omega))
        rw [this]
        grind) (fun M2 a1 a2 => ih (i + 1) M2 (by omega) a1 a2)
      exact q
  refine e7_goOn ⟨hp.1.1, p + 8, hp.2.2.2.1, m_okO_jI hp.1.2.2.2.2.1 (by omega) (by omega) (by omega), p + 9 + r, by rw [jInatN r (by omega)]; exact hp.2.2.2.2.2 r (by omega), ?_⟩
  rw [jI_s]
  refine ⟨m_okO_jI hp.1.2.2.2.2.1 (by omega) (by omega) (by omega), p + 9 + (r + 1), by rw [jInatN _ (by omega)]; exact hp.2.2.2.2.2 (r + 1) (by omega), ?_⟩
  refine s7_wipe (d := d) ht (by omega) ?_
  intro M10 z10 e10
  rw [i0]
  refine outer 11 0 M10 (by omega) e10 (fun f => ?_)
  have : sL 0 (fun i => M.2.1 (p + 9 + r) i * sL 11 (G f i)) = 0 := rfl
  rw [this]
  exact sL_zero (fun j hj => by rw [z10 j hj]; grind)
/-- what a pace has reckoned -/
def vPa (p : Nat) (sh : Nat) (N : Int) (D : Nat) (g e : Nat → Nat → Int) (st : Nat → Nat) (R : Nat) (M : mM) : Prop :=
  M.1 p 3 = jI (sh : Int) ∧ M.1 p 4 = jI (R : Int) ∧ (∀ r, r ≤ R → ∀ t, t ≤ 10 → M.2.1 (p + 9 + r) t = jL (hV N D g e st r t 0)) ∧ ∀ r, r < R → vSo p N D g e r M
theorem hV_at {N : Int} {D : Nat} {g e : Nat → Nat → Int} {st : Nat → Nat} {p n : Nat} : hV N D g e st p n (16 * p) = if n = 0 then 1 else 0 := by
  cases n with
  | zero => rw [hV, if_pos rfl, if_pos rfl]
  | succ n => rw [hV, if_pos (Nat.le_refl _), if_neg (by omega)]
/-- on from a place to the next one -/
theorem come_next {N : Int} {D S : Nat} {g e : Nat → Nat → Int} {st : Nat → Nat} {r p' m : Nat} {A Bh So : Nat → Int64} (hr : r < p') (hD : 1 ≤ D ∧ D ≤ 4) (hs : 1 ≤ st r ∧ st r ≤ 6) (hS : S = st r) (hm : m ≤ 10)
    (hSo : ∀ X : Nat → Int, sL 11 (fun k => So k * jL (X k)) = jL (yV N D (g r) (e r) X 10 0))
    (hB : ∀ f : Nat → Int64, sL 11 (fun j => Bh j * f j) = sL 11 (fun i => A i * sL 11 (fun k => if 1 ≤ k ∧ i + k + S ≤ 10 then So k * (jL (N ^ S) * f (i + k + S)) else 0)))
    (hA : sL (m + 1) (fun i => A i * jL (hV N D g e st p' (m - i) (16 * r))) = jL (hV N D g e st p' m 0)) :
    sL (m + 1) (fun j => Bh j * jL (hV N D g e st p' (m - j) (16 * (r + 1)))) = jL (hV N D g e st p' m 0) := by
  subst hS
  have h1 := hB (fun j => if j ≤ m then jL (hV N D g e st p' (m - j) (16 * (r + 1))) else 0)
  have e1 : sL 11 (fun j => Bh j * (if j ≤ m then jL (hV N D g e st p' (m - j) (16 * (r + 1))) else 0)) = sL (m + 1) (fun j => Bh j * jL (hV N D g e st p' (m - j) (16 * (r + 1)))) := by
    rw [sL_split (n := m + 1) (by omega) (fun k h1 h2 => by rw [if_neg (by omega)]; grind)]
    exact sL_ext (fun k hk => by rw [if_pos (by omega)])
  rw [e1] at h1
  rw [h1, ← hA]
  have e2 : ∀ i, i < 11 → A i * sL 11 (fun k => if 1 ≤ k ∧ i + k + st r ≤ 10 then So k * (jL (N ^ st r) * (if i + k + st r ≤ m then jL (hV N D g e st p' (m - (i + k + st r)) (16 * (r + 1))) else 0)) else 0) = if i ≤ m then A i * jL (hV N D g e st p' (m - i) (16 * r)) else 0 := by
    intro i hi
    have e3 : sL 11 (fun k => if 1 ≤ k ∧ i + k + st r ≤ 10 then So k * (jL (N ^ st r) * (if i + k + st r ≤ m then jL (hV N D g e st p' (m - (i + k + st r)) (16 * (r + 1))) else 0)) else 0) = sL 11 (fun k => So k * jL (if 1 ≤ k ∧ i + k + st r ≤ m then N ^ st r * hV N D g e st p' (m - i - k - st r) (16 * (r + 1)) else 0)) := sL_ext (fun k hk => by
      by_cases c1 : 1 ≤ k ∧ i + k + st r ≤ m
      · rw [if_pos (show 1 ≤ k ∧ i + k + st r ≤ 10 by omega), if_pos (show i + k + st r ≤ m by omega), if_pos c1, jLm, show m - (i + k + st r) = m - i - k - st r by omega]
      · rw [if_neg c1, jL_0]
        by_cases c2 : 1 ≤ k ∧ i + k + st r ≤ 10
        · rw [if_pos c2, if_neg (by omega)]
          grind
        · rw [if_neg c2]
          grind)
    rw [e3, hSo]
    by_cases c : i ≤ m
    · rw [if_pos c]
      have h := hV_think (N := N) (D := D) (g := g) (e := e) (st := st) (p := p') (r := r) (m := m - i) (X := fun k => if 1 ≤ k ∧ i + k + st r ≤ m then N ^ st r * hV N D g e st p' (m - i - k - st r) (16 * (r + 1)) else 0) hr hD hs (by omega) (fun k hk => if_neg (by omega)) (fun k h1 h2 => if_pos (by omega)) 10 0 0 rfl (Or.inl (by omega))
      rw [h, if_pos (Nat.zero_le _)]
      rfl
    · rw [if_neg c]
      have hz : ∀ n d, yV N D (g r) (e r) (fun k => if 1 ≤ k ∧ i + k + st r ≤ m then N ^ st r * hV N D g e st p' (m - i - k - st r) (16 * (r + 1)) else 0) n d = 0 := by
        intro n
        induction n with
        | zero => intro d; rfl
        | succ n ih =>
          intro d
          rw [yV]
          simp only [ih]
          split
          · rw [if_neg (by omega)]
            grind
          · split <;> grind
      rw [hz, jL_0]
      grind
  rw [sL_ext e2, sL_split (n := m + 1) (by omega) (fun k h1 h2 => if_neg (by omega))]
  exact sL_ext (fun k hk => if_pos (by omega))
end PB
