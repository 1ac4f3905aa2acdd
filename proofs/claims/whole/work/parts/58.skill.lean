/-! ===== SKILLS: what the law says of a band, kept by the class ===== -/
/-- the text that is kept, as clauses -/
def lawCl (s : mS) : List lC := (ltx (s 11) (s 0 10).toNat).2
/-- the kept text is right -/
def rLw (s : mS) : Prop := (0 ≤ s 0 10 ∧ s 0 10 ≤ 200) ∧ (∀ k, 0 ≤ s 11 k ∧ s 11 k ≤ 255) ∧ (s 0 10 = 0 ∨ (ltx (s 11) (s 0 10).toNat).1.2 = 0) ∧ s 0 9 = ((lawCl s).length : Int)
/-- what the letters mean: of a band, by a CLEVER, at a riddle, with t -/
def lenv (s : mS) (cl : Int) (b r t : Nat) : lE := fun k => match k with
  | 0 => jI cl | 1 => jI (b : Int) | 2 => jI (s 5 b) | 3 => jI (s 1 r) | 4 => jI (r : Int) | 5 => jI (t : Int) | 6 => jI (s 0 0) | _ => jI (s 0 3)
def gK (s : mS) (cl : Int) (b r t : Nat) : Int := lclp (lval 115 (lenv s cl b r t) (lawCl s)) 8
def eK (s : mS) (cl : Int) (b r t : Nat) : Int := lclp (lval 101 (lenv s cl b r t) (lawCl s)) (8 - gK s cl b r t)
theorem gK_b (s : mS) (cl : Int) (b r t : Nat) : 0 ≤ gK s cl b r t ∧ gK s cl b r t ≤ 8 := lclp_b (by omega)
theorem eK_b (s : mS) (cl : Int) (b r t : Nat) : 0 ≤ eK s cl b r t ∧ eK s cl b r t ≤ 8 - gK s cl b r t := lclp_b (by have := gK_b s cl b r t; omega)
/-- the law that the class keeps -/
def cLaw (n : Nat) (s : mS) (M : mM) : Prop := ∃ ta da : Nat, ((ta = n + 6 ∧ da = n + 7) ∨ (ta = n + 7 ∧ da = n + 6)) ∧ M.2.2 (n + 4) 1 = some ta ∧ M.2.2 (n + 4) 2 = some da ∧ M.1 (n + 4) 3 = jI (s 0 10) ∧ M.1 (n + 4) 4 = jI (s 0 9) ∧ ∀ k : Nat, (k : Int) < s 0 10 → M.1 ta k = jI (s 11 k)
/-- the letters -/
def gLt (Th : mT) (M : mM) : Prop := ∀ k, k < 8 → M.1 Th.2.1 k = lw_let k
def gTh (Th : mT) (n : Nat) : Prop := Ly Th n ∧ Th.2.1 < n ∧ Th.2.2 Th.2.1 = some (.inr (.char, true, 8))
section SK
variable {d : Nat} {Th : mT} {M : mM} {n : Nat} {s : mS}
theorem ltx_zero (w : Nat → Int) : (ltx w 0).2 = [] := by
  have e : lcl w 0 0 0 0 = lcbad 0 1 := by unfold lcl; rw [if_pos (by unfold lsg; simp)]
  unfold ltx
  rw [lall, e]
  rw [if_pos (by show (1 : Nat) ≠ 0; omega)]
theorem s4_eighths {Q : Int32 → mM → Prop} {g : Int} {e : lE} (hT : gTh Th n) (hL : cLaw n s M) (hO : rLw s) (hn : lIn Th n e M) (hg : 0 ≤ g ∧ g ≤ 255) (hd : 29 ≤ d)
    (K : ∀ M', Eo (lfs n) M M' → Q (jI (lval g e (lawCl s)).toInt) M') : P4_eighths (d + 1) Th (n + 4) (jI g) M Q := by
  obtain ⟨ta, da, hta, h1, h2, h3, h4, h5⟩ := hL
  obtain ⟨⟨o1, o2⟩, o3, o4, o5⟩ := hO
  obtain ⟨L, hL⟩ : ∃ L : Nat, s 0 10 = L := ⟨(s 0 10).toNat, by omega⟩
  have hk : lOk Th n ta (s 11) L := ⟨hT.1, by omega, by omega, o3, hT.2.1, hT.2.2⟩
  have hcl : lawCl s = (ltx (s 11) L).2 := by unfold lawCl; rw [hL, Int.toNat_natCast]
  have ev : ∀ v : Int32, jI v.toInt = v := fun v => Int32.ofInt_toInt v
  obtain ⟨d, rfl⟩ : ∃ d', d = d' + 1 := ⟨d - 1, by omega⟩
  refine e4_eighths ⟨hT.1 4 _ rfl, ta, h1, ?_⟩
  rw [h3, hL]
  refine s4_start (L := L) (w := s 11) hk (fun k hk' => h5 k (by omega)) ?_
  intro M4 a1 a2 a3
  have hn4 : lIn Th n e M4 := hn.mva hk (a3.mono lfs_a)
  have e4 : M4.1 (n + 4) 4 = jI (s 0 9) := ((a3 _ _ (by unfold lfs; omega)).1).trans h4
  by_cases hl0 : L = 0
  · have hnil : lawCl s = [] := by rw [hcl, hl0]; exact ltx_zero _
    refine h4_eighths_14 ⟨hT.1 4 _ rfl, ?_⟩
    rw [e4, o5, hnil, if_pos (by decide)]
    have := K M4 a3
    rw [hnil] at this
    exact this
  · have o4' : (ltx (s 11) L).1.2 = 0 := by
      rcases o4 with z | z
      · omega
      · rw [hL, Int.toNat_natCast] at z; exact z
    have hp : lall (s 11) L 15 0 0 0 = (((ltx (s 11) L).1.1, 0), lawCl s) := by
      have e : ∀ x : (Nat × Nat) × List lC, x.1.2 = 0 → x = ((x.1.1, 0), x.2) := fun x h => by rw [← h]
      rw [hcl]
      exact e (ltx (s 11) L) o4'
    refine s4_eighths_h (d := d + 1) hk hg (by omega) 15 0 0 0 (lawCl s) _ M4 rfl (by omega) hp a1 hn4 (by rw [e4, o5, Nat.zero_add]) ?_
    intro M' b1
    have := K M' (a3.trans (b1.mono lfd_s))
    rw [ev] at this
    exact this
theorem cHill.mv {M' : mM} (h : cHill n s M) (he : ∀ q k, (q = n + 3 ∧ k ≤ 3) ∨ (n + 9 ≤ q ∧ q ≤ n + 14) → M'.1 q k = M.1 q k) : cHill n s M' := by
  obtain ⟨h1, h2, h3, h4, h5, h6, h7, h8, h9, h10⟩ := h
  refine ⟨(he _ _ (by omega)).trans h1, (he _ _ (by omega)).trans h2, (he _ _ (by omega)).trans h3, (he _ _ (by omega)).trans h4, fun k => (he _ _ (by omega)).trans (h5 k), fun k => (he _ _ (by omega)).trans (h6 k), fun k => (he _ _ (by omega)).trans (h7 k), fun k => (he _ _ (by omega)).trans (h8 k), fun k => (he _ _ (by omega)).trans (h9 k), fun k => (he _ _ (by omega)).trans (h10 k)⟩
/-- what asking the law writes -/
def sLaw (n : Nat) : Nat → Nat → Prop := fun q k => (q = n + 4 ∧ 5 ≤ k ∧ k ≤ 10) ∨ q = n + 5
theorem lfs_l {n : Nat} : ∀ q k, lfs n q k → sLaw n q k := fun q k h => Or.inl h
theorem cLaw.mv {M' : mM} (h : cLaw n s M) (he : ∀ q k, (q = n + 4 ∧ 1 ≤ k ∧ k ≤ 4) ∨ q = n + 6 ∨ q = n + 7 → M'.1 q k = M.1 q k ∧ M'.2.2 q k = M.2.2 q k) : cLaw n s M' := by
  obtain ⟨ta, da, hta, h1, h2, h3, h4, h5⟩ := h
  exact ⟨ta, da, hta, ((he _ _ (by omega)).2).trans h1, ((he _ _ (by omega)).2).trans h2, ((he _ _ (by omega)).1).trans h3, ((he _ _ (by omega)).1).trans h4, fun k hk => ((he _ _ (by omega)).1).trans (h5 k hk)⟩
theorem Rf.mv {S : Nat → Nat → Prop} {M' : mM} (h : Rf n M) (he : Eo S M M') (hs : ∀ o k v, (o, k, v) ∈ rsA → ¬ S (n + o) k) : Rf n M' := fun o k v hv => ((he _ _ (hs o k v hv)).2.2).trans (h o k v hv)
/-- where a skill stands -/
def lySk (Th : mT) (q : Nat) (M : mM) : Prop := (Th.2.2 q = some (.inl 8) ∧ Th.2.2 (q + 1) = some (.inr (.int, false, 30)) ∧ Th.2.2 (q + 2) = some (.inr (.int, false, 30)) ∧ Th.2.2 (q + 3) = some (.inr (.int, false, 5))) ∧ M.2.2 q 0 = some (q + 1) ∧ M.2.2 q 1 = some (q + 2) ∧ M.2.2 q 2 = some (q + 3)
/-- what a skill says -/
def vSk (q : Nat) (R : Int) (g e : Nat → Nat → Int) (st : Nat → Int) (M : mM) : Prop := ∀ r : Nat, (r : Int) < R → M.1 (q + 3) r = jI (st r) ∧ ∀ t, t < 6 → M.1 (q + 1) (6 * r + t) = jI (g r t) ∧ M.1 (q + 2) (6 * r + t) = jI (e r t)
theorem s8_slot {Q : Int32 → mM → Prop} {r t : Nat} (hr : r < 5) (ht : t < 6) (k : Q (jI ((6 * r + t : Nat) : Int)) M) : P8_slot (d + 1) Th (jI r) (jI t) M Q := by
  refine e8_slot ?_
  intro xv1 h1
  have e1 : xv1 = jI (r : Int) := by
    rw [h1]
    simp only [jl4 (z := (r : Int)) (rI_nat (by omega))]
    by_cases a : (r : Int) < 4
    · simp only [if_pos a, jg0 (z := (r : Int)) (rI_nat (by omega))]
      by_cases b : (0 : Int) < r
      · rw [if_pos b]
      · rw [if_neg b, show (r : Int) = 0 by omega]; rfl
    · simp only [if_neg a]
      rw [if_pos (by decide), show (r : Int) = 4 by omega]; rfl
  have e2 : (if 0 < (if jI (t : Int) < 5 then jI (t : Int) else 5) then (if jI (t : Int) < 5 then jI (t : Int) else 5) else 0) = jI (t : Int) := by
    simp only [jl5 (z := (t : Int)) (rI_nat (by omega))]
    by_cases a : (t : Int) < 5
    · simp only [if_pos a, jg0 (z := (t : Int)) (rI_nat (by omega))]
      by_cases b : (0 : Int) < t
      · rw [if_pos b]
      · rw [if_neg b, show (t : Int) = 0 by omega]; rfl
    · simp only [if_neg a]
      rw [if_pos (by decide), show (t : Int) = 5 by omega]; rfl
  rw [e1, e2, i6, jI_mul, jI_add, show (r : Int) * 6 + (t : Int) = ((6 * r + t : Nat) : Int) by omega]
  exact k
theorem s8_goodAt {Q : Int32 → mM → Prop} {q r t : Nat} {R : Int} {g e : Nat → Nat → Int} {st : Nat → Int} (hq : lySk Th q M) (hv : vSk q R g e st M) (hr5 : r < 5) (hr : (r : Int) < R) (ht : t < 6) (k : Q (jI (g r t)) M) : P8_goodAt (d + 2) Th q (jI r) (jI t) M Q := by
  refine e8_goodAt ⟨hq.1.1, q + 1, hq.2.1, s8_slot hr5 ht ⟨m_ok_jI hq.1.2.1 (by omega) (by omega) (by omega), ?_⟩⟩
  rw [jInatN _ (by omega), ((hv r hr).2 t ht).1]
  exact k
theorem s8_badAt {Q : Int32 → mM → Prop} {q r t : Nat} {R : Int} {g e : Nat → Nat → Int} {st : Nat → Int} (hq : lySk Th q M) (hv : vSk q R g e st M) (hr5 : r < 5) (hr : (r : Int) < R) (ht : t < 6) (k : Q (jI (e r t)) M) : P8_badAt (d + 2) Th q (jI r) (jI t) M Q := by
  refine e8_badAt ⟨hq.1.1, q + 2, hq.2.2.1, s8_slot hr5 ht ⟨m_ok_jI hq.1.2.2.1 (by omega) (by omega) (by omega), ?_⟩⟩
  rw [jInatN _ (by omega), ((hv r hr).2 t ht).2]
  exact k
theorem s8_stepsFrom {Q : Int32 → mM → Prop} {q r : Nat} {R : Int} {g e : Nat → Nat → Int} {st : Nat → Int} (hq : lySk Th q M) (hv : vSk q R g e st M) (hr5 : r < 5) (hr : (r : Int) < R) (hs : 1 ≤ st r ∧ st r ≤ 6) (k : Q (jI (st r)) M) : P8_stepsFrom (d + 1) Th q (jI r) M Q := by
  refine e8_stepsFrom ?_
  rw [if_neg (by rw [jl0 (rI_nat (by omega))]; omega), if_neg (by rw [jh5 (rI_nat (by omega))]; omega)]
  refine ⟨hq.1.1, q + 3, hq.2.2.2, m_ok_jI hq.1.2.2.2 (by omega) (by omega) (by omega), ?_⟩
  rw [jInatN _ (by omega), (hv r hr).1]
  have e1 : (if 1 < jI (st r) then jI (st r) else 1) = jI (st r) := by
    simp only [jg1 (z := st r) (rI_of (by omega) (by omega))]
    by_cases a : 1 < st r
    · rw [if_pos a]
    · rw [if_neg a, show st r = 1 by omega]; rfl
  rw [e1]
  exact k
end SK
