/-! ===== THE LAW, AS THE CLASS READS IT: clauses, the text ===== -/
section LCL
variable {d : Nat} {Th : mT} {M : mM} {n ra : Nat} {w : Nat → Int} {L : Nat} {e : lE} {i f : Nat}
def lcr1 (w : Nat → Int) (L i f c : Nat) : lR := if f ≠ 0 then lbad i f else lsum w L 6 i c
def lcr2 (w : Nat → Int) (L i f c : Nat) : lR := if f ≠ 0 then lbad i f else lanyo w L (lpie w L 5) i c
def lpt (w : Nat → Int) (L : Nat) (g : Int) (p : Nat × Nat) : Nat × Nat := lps (decide (p.2 = 0 ∧ lsg w L p.1 = g)) p.1 p.2
/-- a clause from its letter on, that fits or not -/
def lcw (w : Nat → Int) (L : Nat) (b : Bool) (i f c : Nat) : Nat × Nat :=
  lpt w L 41 (lcr2 w L (lpt w L 40 (lcr1 w L (lps b i f).1 (lps b i f).2 c).1).1 (lpt w L 40 (lcr1 w L (lps b i f).1 (lps b i f).2 c).1).2 (c + (lcr1 w L (lps b i f).1 (lps b i f).2 c).2.1.length)).1
theorem lps_f (b : Bool) (i : Nat) {f : Nat} (h : f ≠ 0) : lps b i f = (i, f) := by unfold lps; rw [if_pos h]
theorem lps_t (i : Nat) : lps true i 0 = (i + 1, 0) := rfl
theorem lps_n (i : Nat) : lps false i 0 = (i, 1) := rfl
theorem lpt_f {g : Int} {p : Nat × Nat} (h : p.2 ≠ 0) : lpt w L g p = p := lps_f _ _ h
theorem lpt_y {g : Int} {p : Nat × Nat} (h : p.2 = 0) (h2 : lsg w L p.1 = g) : lpt w L g p = (p.1 + 1, 0) := by
  unfold lpt; rw [decide_eq_true ⟨h, h2⟩, h]; rfl
theorem lpt_n {g : Int} {p : Nat × Nat} (h : p.2 = 0) (h2 : lsg w L p.1 ≠ g) : lpt w L g p = (p.1, 1) := by
  unfold lpt; rw [decide_eq_false (fun z => h2 z.2), h]; rfl
theorem s4_lpt {Q : mM → Prop} {p : Nat × Nat} {x : Int32} (g : Int) (hk : lOk Th n ra w L) (hc : cst n ra w L p.1 p.2 M) (hi : p.1 ≤ 300) (hf : p.2 ≤ 5) (hg : 0 ≤ g ∧ g ≤ 255) (hx : x = if M.1 (n + 4) 8 = jI g then 1 else 0)
    (k : ∀ M', cst n ra w L (lpt w L g p).1 (lpt w L g p).2 M' → (lpt w L g p).1 ≤ 300 → (lpt w L g p).2 ≤ 5 → M'.1 (n + 4) 10 = M.1 (n + 4) 10 → Eo (lfd n) M M' → Q M') : P4_pass (d + 1) Th (n + 4) x M Q := by
  have c5 := hc.2.2.2.2.1
  have hwb := lsg_b (w := w) (L := L) (i := p.1) hk.2.2.2.1
  rw [c5] at hx
  by_cases h0 : p.2 = 0
  · rw [if_pos h0] at hx
    by_cases h1 : lsg w L p.1 = g
    · have hL := lsg_lt (i := p.1) h1 (by omega)
      have := hk.2.2.1
      refine s4_pass true hk hc hi hf (by rw [hx, h1]; simp [jB]) ?_
      intro M' a1 a2 a3
      rw [lpt_y h0 h1] at k
      rw [h0] at a1
      exact k M' a1 (by show p.1 + 1 ≤ 300; omega) (by show 0 ≤ 5; omega) a2 a3
    · refine s4_pass false hk hc hi hf (by rw [hx, if_neg (by rw [jIeq (rI_of (by omega) (by omega)) (rI_of (by omega) (by omega))]; exact h1)]; rfl) ?_
      intro M' a1 a2 a3
      rw [lpt_n h0 h1] at k
      rw [h0] at a1
      exact k M' a1 hi (by show 1 ≤ 5; omega) a2 a3
  · rw [if_neg h0, if_neg (by rw [jIeq (rI_of (by omega) (by omega)) (rI_of (by omega) (by omega))]; omega)] at hx
    refine s4_pass false hk hc hi hf (by rw [hx]; rfl) ?_
    intro M' a1 a2 a3
    rw [lpt_f h0] at k
    rw [lps_f _ _ h0] at a1
    exact k M' a1 hi hf a2 a3
theorem s4_lcw {Q : mM → Prop} {b : Bool} {c : Nat} (hk : lOk Th n ra w L) (hc : cst n ra w L i f M) (hn : lIn Th n e M) (hi : i ≤ 250) (hf : f ≤ 5) (hd : 27 ≤ d)
    (k : ∀ M', cst n ra w L (lcw w L b i f c).1 (lcw w L b i f c).2 M' → (lcw w L b i f c).1 ≤ 300 → (lcw w L b i f c).2 ≤ 5 → Eo (lfd n) M M' → Q M') : H4_readClause_39 (d + 1) Th Q (n + 4) (jB b) M := by
  obtain ⟨d, rfl⟩ : ∃ d', d = d' + 1 := ⟨d - 1, by omega⟩
  refine h4_readClause_39 ⟨hk.1 4 _ rfl, ?_⟩
  refine s4_pass b hk hc (by omega) hf rfl ?_
  intro M1 a1 a2 a3
  have p1b : (lps b i f).1 ≤ 300 ∧ (lps b i f).2 ≤ 5 := by
    unfold lps
    split
    · exact ⟨by show i ≤ 300; omega, hf⟩
    · split
      · exact ⟨by show i + 1 ≤ 300; omega, by show 0 ≤ 5; omega⟩
      · exact ⟨by show i ≤ 300; omega, by show 1 ≤ 5; omega⟩
  unfold lcw at k
  generalize lps b i f = p1 at a1 p1b k
  have S := s4_sum (e := e) hk 6 (by omega)
  refine S (d + 1) M1 p1.1 p1.2 c false _ (by omega) a1 (hn.mv hk a3) p1b.1 p1b.2 ?_
  intro v5 M4 q
  have q' : lPo n ra w L e false (lcr1 w L p1.1 p1.2 c) M1 v5 M4 := q
  generalize lcr1 w L p1.1 p1.2 c = r1 at q' k
  obtain ⟨⟨q1, q2, q3⟩, q4, -, -⟩ := q'
  refine s4_lpt (p := r1.1) 40 hk q1 q2 q3 (by omega) rfl ?_
  intro M6 b1 b1' b1'' b2 b3
  generalize lpt w L 40 r1.1 = p2 at b1 b1' b1'' k
  have A := (s4_piece (e := e) hk 5 (by omega)).2
  refine A (d + 1) M6 p2.1 p2.2 (c + r1.2.1.length) false _ (by omega) b1 (hn.mv hk ((a3.trans q4).trans b3)) b1' b1'' ?_
  intro v9 M8 _ t
  have t' : lPo n ra w L e false (lcr2 w L p2.1 p2.2 (c + r1.2.1.length)) M6 v9 M8 := t
  generalize lcr2 w L p2.1 p2.2 (c + r1.2.1.length) = r2 at t' k
  obtain ⟨⟨t1, t2, t3⟩, t4, -, -⟩ := t'
  refine s4_lpt (p := r2.1) 41 hk t1 t2 t3 (by omega) rfl ?_
  intro M10 c1 c1' c1'' c2 c3
  exact k M10 c1 c1' c1'' ((((a3.trans q4).trans b3).trans t4).trans c3)
theorem lcw_f {b : Bool} {c : Nat} (h : f ≠ 0) : lcw w L b i f c = (i, f) := by
  unfold lcw
  rw [lps_f _ _ h]
  have e1 : lcr1 w L i f c = lbad i f := by unfold lcr1; rw [if_pos h]
  simp only [e1]
  rw [lpt_f (show (lbad i f).1.2 ≠ 0 from h)]
  have e2 : lcr2 w L (lbad i f).1.1 (lbad i f).1.2 (c + (lbad i f).2.1.length) = lbad i f := by unfold lcr2; rw [if_pos (show (lbad i f).1.2 ≠ 0 from h)]; rfl
  rw [e2, lpt_f (show (lbad i f).1.2 ≠ 0 from h)]
  rfl
theorem lcw_n {c : Nat} : lcw w L false i 0 c = (i, 1) := by
  have : lcw w L false i 0 c = lcw w L false i 1 c := by unfold lcw; rw [lps_n, lps_f _ _ (by omega)]
  rw [this, lcw_f (by omega)]
theorem lcw_y {c m : Nat} (h1 : lsg w L i = 115 ∨ lsg w L i = 101) (h2 : m < 14) : lcw w L true i 0 c = (lcl w L i m c).1 := by
  unfold lcw
  rw [lps_t]
  have e1 : lcr1 w L (i + 1) 0 c = lcE w L i c := by unfold lcr1 lcE; rw [if_neg (by omega)]
  simp only [e1]
  unfold lcl
  rw [if_neg (by omega), if_neg (by omega)]
  by_cases f1 : (lcE w L i c).1.2 ≠ 0
  · rw [if_pos f1, lpt_f f1]
    have e2 : lcr2 w L (lcE w L i c).1.1 (lcE w L i c).1.2 (c + (lcE w L i c).2.1.length) = lbad (lcE w L i c).1.1 (lcE w L i c).1.2 := by unfold lcr2; rw [if_pos f1]
    rw [e2, lpt_f (show (lbad _ _).1.2 ≠ 0 from f1)]
    rfl
  rw [if_neg f1]
  have f1' : (lcE w L i c).1.2 = 0 := by omega
  by_cases g1 : lsg w L (lcE w L i c).1.1 = 40
  rotate_left
  · rw [if_pos g1, lpt_n f1' g1]
    have e2 : lcr2 w L (lcE w L i c).1.1 1 (c + (lcE w L i c).2.1.length) = lbad (lcE w L i c).1.1 1 := by unfold lcr2; rw [if_pos (by omega)]
    simp only [e2]
    rw [lpt_f (show (lbad _ _).1.2 ≠ 0 from by show (1 : Nat) ≠ 0; omega)]
    rfl
  rw [if_neg (fun z => z g1), lpt_y f1' g1]
  have e2 : lcr2 w L ((lcE w L i c).1.1 + 1) 0 (c + (lcE w L i c).2.1.length) = lcC w L i c := by unfold lcr2 lcC; rw [if_neg (by omega)]
  simp only [e2]
  by_cases f2 : (lcC w L i c).1.2 ≠ 0
  · rw [if_pos f2, lpt_f f2]; rfl
  rw [if_neg f2]
  have f2' : (lcC w L i c).1.2 = 0 := by omega
  by_cases g2 : lsg w L (lcC w L i c).1.1 = 41
  · rw [if_neg (fun z => z g2), lpt_y f2' g2]
  · rw [if_pos g2, lpt_n f2' g2]; rfl
theorem lcl_n {c m : Nat} (h1 : ¬ (lsg w L i = 115 ∨ lsg w L i = 101)) : (lcl w L i m c).1 = (i, 1) := by unfold lcl; rw [if_pos h1]; rfl
theorem lcl_m {c m : Nat} (h1 : lsg w L i = 115 ∨ lsg w L i = 101) (h2 : ¬ m < 14) : (lcl w L i m c).1 = (i, 4) := by unfold lcl; rw [if_neg (by omega), if_pos (by omega)]; rfl
theorem i115 : (115 : Int32) = jI 115 := rfl
theorem i101 : (101 : Int32) = jI 101 := rfl
theorem i14 : (14 : Int32) = jI 14 := rfl
theorem i59 : (59 : Int32) = jI 59 := rfl
theorem s4_readClause {Q : mM → Prop} {c m : Nat} (hk : lOk Th n ra w L) (hc : cst n ra w L i 0 M) (hn : lIn Th n e M) (hi : i ≤ 250) (hm : m ≤ 100) (hd : 28 ≤ d)
    (k : ∀ M', cst n ra w L (lcl w L i m c).1.1 (lcl w L i m c).1.2 M' → (lcl w L i m c).1.1 ≤ 300 → (lcl w L i m c).1.2 ≤ 5 → Eo (lfd n) M M' → Q M') : P4_readClause (d + 1) Th (n + 4) (jI m) M Q := by
  have c5 : M.1 (n + 4) 8 = jI (lsg w L i) := hc.2.2.2.2.1
  have hwb := lsg_b (w := w) (L := L) (i := i) hk.2.2.2.1
  have rg : rI (lsg w L i) := rI_of (by omega) (by omega)
  have q115 : (jI (lsg w L i) = 115) = (lsg w L i = 115) := by rw [i115, jIeq rg (rI_of (by omega) (by omega))]
  have q101 : (jI (lsg w L i) = 101) = (lsg w L i = 101) := by rw [i101, jIeq rg (rI_of (by omega) (by omega))]
  by_cases h1 : lsg w L i = 115 ∨ lsg w L i = 101
  · have h23 : H4_readClause_23 (d + 1) Th Q (n + 4) (jI m) 1 M := by
      refine h4_readClause_23 ?_
      rw [if_neg (by decide)]
      by_cases h2 : m < 14
      · rw [if_pos (by rw [i14, jIlt (rI_nat (by omega)) (rI_of (by omega) (by omega))]; omega)]
        refine s4_lcw (b := true) (c := c) hk hc hn hi (by omega) (by omega) ?_
        rw [lcw_y h1 h2]
        exact k
      · rw [if_neg (by rw [i14, jIlt (rI_nat (by omega)) (rI_of (by omega) (by omega))]; omega)]
        obtain ⟨d, rfl⟩ : ∃ d', d = d' + 1 := ⟨d - 1, by omega⟩
        refine ⟨hk.1 4 _ rfl, s4_blame 4 hk hc (by omega) (by omega) rfl ?_⟩
        intro M1 a1 a2 a3
        rw [if_neg (by omega)] at a1
        refine s4_lcw (b := true) (c := c) hk a1 (hn.mv hk a3) hi (by omega) (by omega) ?_
        rw [lcw_f (by omega), ← lcl_m (c := c) h1 h2]
        intro M' b1 b2 b3 b4
        exact k M' b1 b2 b3 (a3.trans b4)
    refine e4_readClause ⟨hk.1 4 _ rfl, ?_⟩
    simp only [c5, q115, q101]
    split
    · exact h23
    · rw [if_pos (by omega)]; exact h23
  · refine e4_readClause ⟨hk.1 4 _ rfl, ?_⟩
    simp only [c5, q115, q101]
    rw [if_neg (by omega), if_neg (by omega)]
    refine h4_readClause_23 ?_
    rw [if_pos rfl]
    refine s4_lcw (b := false) (c := c) hk hc hn hi (by omega) (by omega) ?_
    rw [lcw_n, ← lcl_n (c := c) (m := m) h1]
    exact k
/-- the whole text -/
theorem s4_readAll_h {Q : Int32 → mM → Prop} (hk : lOk Th n ra w L) (hd : 29 ≤ d) : ∀ (u : Nat) (i m c : Nat) (M : mM), u + m = 15 → i ≤ L + 1 → cst n ra w L i 0 M → lIn Th n e M →
    (∀ v M', ((lall w L u i m c).1.2 = 0 → v = jI ((m + (lall w L u i m c).2.length : Nat) : Int)) → (lall w L u i m c).1.2 ≤ 5 → (lall w L u i m c).1.1 ≤ 300 → cst n ra w L (lall w L u i m c).1.1 (lall w L u i m c).1.2 M' → Eo (lfd n) M M' → Q v M') → 0 < u → H4_readAll_4 (d + 1) Th Q (n + 4) (jI m) 1 M := by
  have hL := hk.2.2.1
  intro u
  induction u with
  | zero => intro i m c M _ _ _ _ _ h; omega
  | succ u ih =>
    intro i m c M hu hi hc hn K _
    obtain ⟨d, rfl⟩ : ∃ d', d = d' + 1 := ⟨d - 1, by omega⟩
    refine h4_readAll_4 ?_
    rw [if_neg (by decide), if_neg (by rw [i14, jIlt (rI_of (by omega) (by omega)) (rI_nat (by omega))]; omega)]
    refine ⟨hk.1 4 _ rfl, ?_⟩
    refine s4_readClause (c := c) hk hc hn (by omega) (by omega) (by omega) ?_
    intro M1 a1 a2 a3 a4 xv4 h4
    have c5 := a1.2.2.2.2.1
    have c7 := a1.2.2.2.1
    have c6 := a1.2.2.1
    have hwb := lsg_b (w := w) (L := L) (i := (lcl w L i m c).1.1) hk.2.2.2.1
    rw [lall] at K
    have em : jI (m : Int) + 1 = jI ((m + 1 : Nat) : Int) := by rw [i1, jI_add]; rfl
    have h49 : ∀ (v : Int32), ((lcl w L i m c).1.2 = 0 → (lcl w L i m c).1.1 < L → Q v = Q v) → (∀ M', cst n ra w L (lcl w L i m c).1.1 (if (lcl w L i m c).1.2 ≠ 0 then (lcl w L i m c).1.2 else if (lcl w L i m c).1.1 < L then 1 else 0) M' → Eo (lfd n) M M' → Q v M') → H4_readAll_4 (d + 1 + 1) Th Q (n + 4) v 0 M1 := by
      intro v _ k
      refine h4_readAll_4 ?_
      rw [if_pos rfl]
      refine h4_readAll_49 ⟨hk.1 4 _ rfl, ?_⟩
      by_cases g : (lcl w L i m c).1.1 < L
      · rw [if_neg (by rw [c6, c7, jIle (rI_nat (by omega)) (rI_nat (by omega))]; omega)]
        refine s4_blame 1 hk a1 (by omega) (by omega) rfl ?_
        intro M2 b1 b2 b3
        rw [if_pos g] at k
        exact k M2 b1 (a4.trans b3)
      · rw [if_pos (by rw [c6, c7, jIle (rI_nat (by omega)) (rI_nat (by omega))]; omega)]
        rw [if_neg g] at k
        refine k M1 ?_ a4
        split
        · exact a1
        · rename_i z
          have z' : (lcl w L i m c).1.2 = 0 := by omega
          rw [z'] at a1; exact a1
    by_cases f0 : (lcl w L i m c).1.2 = 0
    rotate_left
    · rw [if_neg f0] at c5
      rw [if_pos f0] at K
      have : xv4 = 0 := by rw [h4, c5]; rfl
      subst this
      rw [if_pos rfl, em]
      refine h49 _ (fun _ _ => rfl) ?_
      intro M' b1 b2
      rw [if_pos f0] at b1
      exact K _ M' (fun z => absurd z f0) a3 a2 b1 b2
    rw [if_pos f0] at c5
    rw [if_neg (by omega)] at K
    have G := lcl_gd f0
    by_cases g59 : lsg w L (lcl w L i m c).1.1 = 59
    · rw [if_pos g59] at K
      have hpL := lsg_lt (i := (lcl w L i m c).1.1) g59 (by omega)
      have : xv4 = 1 := by rw [h4, c5, g59]; rfl
      subst this
      rw [if_neg (by decide), em]
      rw [f0] at a1
      refine s4_pass true hk a1 a2 (by omega) rfl ?_
      intro M5 b1 b2 b3
      refine ih ((lcl w L i m c).1.1 + 1) (m + 1) (c + lcn (lcl w L i m c)) M5 (by omega) (by omega) b1 (hn.mv hk (a4.trans b3)) ?_ (by omega)
      intro v M' k1 k2 k2' k3 k4
      refine K v M' (fun z => ?_) k2 k2' k3 ((a4.trans b3).trans k4)
      rw [k1 z]
      simp only [List.length_cons]
      congr 2
      omega
    · rw [if_neg g59] at K
      have : xv4 = 0 := by rw [h4, c5, i59, if_neg (by rw [jIeq (rI_of (by omega) (by omega)) (rI_of (by omega) (by omega))]; exact g59)]
      subst this
      rw [if_pos rfl, em]
      refine h49 _ (fun _ _ => rfl) ?_
      intro M' b1 b2
      rw [if_neg (by omega)] at b1
      by_cases g : (lcl w L i m c).1.1 < L
      · rw [if_pos g] at b1 K
        exact K _ M' (fun z => absurd z (by show (1 : Nat) ≠ 0; omega)) (by show 1 ≤ 5; omega) a2 b1 b2
      · rw [if_neg g] at b1 K
        exact K _ M' (fun _ => rfl) (by show 0 ≤ 5; omega) a2 b1 b2
theorem s4_readAll {Q : Int32 → mM → Prop} (hk : lOk Th n ra w L) (hd : 29 ≤ d) (hc : cst n ra w L 0 0 M) (hn : lIn Th n e M)
    (K : ∀ v M', ((ltx w L).1.2 = 0 → v = jI ((ltx w L).2.length : Int)) → (ltx w L).1.2 ≤ 5 → (ltx w L).1.1 ≤ 300 → cst n ra w L (ltx w L).1.1 (ltx w L).1.2 M' → Eo (lfd n) M M' → Q v M') : P4_readAll (d + 1) Th (n + 4) M Q := by
  refine e4_readAll ?_
  have h := s4_readAll_h (e := e) (Q := Q) hk hd 15 0 0 0 M rfl (by omega) hc hn (fun v M' k1 k2 k2' k3 k4 => K v M' (fun z => by rw [k1 z, Nat.zero_add]; rfl) k2 k2' k3 k4) (by omega)
  exact h
/-- the reader begins -/
def lfs (n : Nat) : Nat → Nat → Prop := fun q k => q = n + 4 ∧ 5 ≤ k ∧ k ≤ 10
theorem s4_start {Q : mM → Prop} (hk : lOk Th n ra w L) (hw : ∀ k, k < L → M.1 ra k = jI (w k))
    (k : ∀ M', cst n ra w L 0 0 M' → M'.1 (n + 4) 10 = 0 → Eo (lfs n) M M' → Q M') : P4_start (d + 1) Th (n + 4) ra (jI L) M Q := by
  have hra := hk.ra
  have hne : ra ≠ n + 4 := by have := hk.2.1; omega
  have hL := hk.2.2.1
  refine e4_start ⟨hk.1 4 _ rfl, _, _, _, hra, ?_⟩
  intro M4 h4 M5 h5 M6 h6
  have eL : (if nI 200 < jI (L : Int) then nI 200 else jI (L : Int)) = jI (L : Int) := by
    rw [if_neg (by rw [jI_nI, jIlt (rI_nat (by omega)) (rI_nat (by omega))]; omega)]
  rw [eL] at h5
  have g6 : M6.1 (n + 4) 6 = jI (L : Int) := by rw [h6, h5]; simp [m_u]
  have gra : ∀ j, M6.1 ra j = M.1 ra j := by intro j; rw [h6, h5, h4]; simp only [m_u_ne hne]
  have fin : H4_start_35 (d + 1) Th Q (n + 4) (jI (lsg w L 0)) (n + 4) M6 := by
    refine h4_start_35 ⟨hk.1 4 _ rfl, hk.1 4 _ rfl, ?_⟩
    intro M3 h3 M4' h4'
    refine k _ ?_ (by simp [m_u]) ?_
    · refine ⟨?_, fun j hj => ?_, ?_, ?_, ?_, ?_⟩
      · rw [h4', h3, h6, h5, h4]; simp [m_u]
      · rw [h4', h3]; simp only [m_u_ne hne]; rw [gra]; exact hw j hj
      · rw [h4', h3]; simp [m_u, g6]
      · rw [h4', h3, h6]; simp [m_u]; rfl
      · rw [h4', h3]; simp [m_u]
      · rw [h4']; simp [m_u]; rfl
    · rw [h4', h3, h6, h5, h4]
      exact ((((((Eo.rf.ur ⟨rfl, by omega, by omega⟩).ui ⟨rfl, by omega, by omega⟩).ui ⟨rfl, by omega, by omega⟩).ui ⟨rfl, by omega, by omega⟩).ui ⟨rfl, by omega, by omega⟩).ui ⟨rfl, by omega, by omega⟩)
  by_cases hl0 : L = 0
  · rw [if_pos (by rw [g6, i0, jIle (rI_nat (by omega)) rI0]; omega)]
    rw [show lsg w L 0 = -1 by unfold lsg; rw [if_neg (by omega)]] at fin
    exact fin
  · rw [if_neg (by rw [g6, i0, jIle (rI_nat (by omega)) rI0]; omega)]
    refine ⟨by rw [i0]; exact m_ok_jI hra (by omega) (by omega) (by omega), ?_⟩
    rw [show lsg w L 0 = w 0 by unfold lsg; rw [if_pos (by omega)]] at fin
    rw [show Int32.toNatClampNeg 0 = 0 from rfl, gra, hw 0 (by omega)]
    exact fin
end LCL
