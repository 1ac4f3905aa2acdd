/-! ===== THE LAW, AS THE CLASS ASKS IT ===== -/
section LEI
variable {d : Nat} {Th : mT} {M : mM} {n ra : Nat} {w : Nat → Int} {L : Nat} {e : lE} {i f : Nat}
/-- all of the reader's cells but the letters' meanings -/
def lfa (n : Nat) : Nat → Nat → Prop := fun q k => q = n + 4 ∧ 1 ≤ k
theorem lIn.mva {M' : mM} (hk : lOk Th n ra w L) (h : lIn Th n e M) (he : Eo (lfa n) M M') : lIn Th n e M' := by
  have hla := hk.2.2.2.2.1
  refine ⟨fun o k v hv => ?_, fun k hk => ((he _ _ (fun z => by have := z.1; omega)).1).trans (h.2.1 k hk), fun k hk => ((he _ _ (fun z => by have := z.1; omega)).1).trans (h.2.2 k hk)⟩
  by_cases c : lfa n (n + o) k
  · exfalso
    obtain ⟨c1, c2⟩ := c
    have ho : o = 4 := by omega
    subst ho
    simp [rsA] at hv
    omega
  · exact ((he _ _ c).2.2).trans (h.1 o k v hv)
theorem lfd_a {n : Nat} : ∀ q k, lfd n q k → lfa n q k := fun q k h => ⟨h.1, by have := h.2.1; omega⟩
theorem lfd_s {n : Nat} : ∀ q k, lfd n q k → lfs n q k := fun q k h => ⟨h.1, by have := h.2.1; omega, h.2.2⟩
theorem lfs_a {n : Nat} : ∀ q k, lfs n q k → lfa n q k := fun q k h => ⟨h.1, by have := h.2.1; omega⟩
theorem lsg_w {j : Nat} (hw : ∀ k, 0 ≤ w k ∧ w k ≤ 255) (h : j < L) : 0 ≤ lsg w L j := by
  unfold lsg; rw [if_pos h]; exact (hw j).1
theorem i255 : (255 : Int32) = jI 255 := rfl
theorem s4_eighths_h {Q : Int32 → mM → Prop} {g : Int} (hk : lOk Th n ra w L) (hg : 0 ≤ g ∧ g ≤ 255) (hd : 29 ≤ d) : ∀ (u : Nat) (i m c : Nat) (cls : List lC) (p : Nat) (M : mM), u + m = 15 → i ≤ L + 1 → lall w L u i m c = ((p, 0), cls) → cst n ra w L i 0 M → lIn Th n e M → M.1 (n + 4) 4 = jI ((m + cls.length : Nat) : Int) →
    (∀ M', Eo (lfd n) M M' → Q (lval g e cls) M') → H4_eighths_14 (d + 1) Th Q (n + 4) (jI g) (jI m) M := by
  have hL := hk.2.2.1
  have hw := hk.2.2.2.1
  intro u
  induction u with
  | zero => intro i m c cls p M _ _ h; unfold lall at h; exact absurd (congrArg (fun z => z.1.2) h) (by show (1 : Nat) ≠ 0; omega)
  | succ u ih =>
    intro i m c cls p M hu hi h hc hn h4 K
    obtain ⟨d, rfl⟩ : ∃ d', d = d' + 1 := ⟨d - 1, by omega⟩
    have hlen : cls.length ≤ 15 := by
      have := lall_len (w := w) (L := L) (u + 1) i m c
      rw [h] at this
      have h2 : cls.length ≤ u + 1 := this
      omega
    rw [lall] at h
    by_cases f0 : (lcl w L i m c).1.2 = 0
    rotate_left
    · rw [if_pos f0] at h
      exact absurd (congrArg (fun z => z.1.2) h) f0
    rw [if_neg (by omega)] at h
    obtain ⟨G1, G2, G3, G4, G5, G6, G7, G8, G9, G10, G11, -, -⟩ := lcl_gd f0
    have c5 : M.1 (n + 4) 8 = jI (lsg w L i) := hc.2.2.2.2.1
    have hiL : i < L := lsg_in (w := w) (by omega)
    have hpos : (lcl w L i m c).1.1 = (lcC w L i c).1.1 + 1 := by rw [G10]
    have e1 : jI (m : Int) + 1 = jI ((m + 1 : Nat) : Int) := by rw [i1, jI_add]; rfl
    -- the clauses behind
    obtain ⟨t, ht, hcls, hsg⟩ : ∃ t, cls = lcl w L i m c :: t ∧ (∀ M1, cst n ra w L ((lcl w L i m c).1.1 + 1) 0 M1 → Eo (lfd n) M M1 → (∀ M', Eo (lfd n) M M' → Q (lval g e t) M') → H4_eighths_14 (d + 1 + 1) Th Q (n + 4) (jI g) (jI ((m + 1 : Nat) : Int)) M1) ∧ (lsg w L (lcl w L i m c).1.1 = 59 ∨ lsg w L (lcl w L i m c).1.1 = -1) := by
      by_cases g59 : lsg w L (lcl w L i m c).1.1 = 59
      · rw [if_pos g59] at h
        have h1 := congrArg (fun z => z.1) h
        have h2 := congrArg (fun z => z.2) h
        simp only at h1 h2
        have hpL := lsg_lt (i := (lcl w L i m c).1.1) g59 (by omega)
        refine ⟨_, h2.symm, fun M1 a1 a2 k => ?_, Or.inl g59⟩
        refine ih _ (m + 1) _ _ p M1 (by omega) (by omega) (by rw [← h1]) a1 (hn.mv hk a2) ?_ (fun M' b => k M' (a2.trans b))
        rw [(a2 _ _ (fun z => by have := z.2; omega)).1, h4, ← h2]
        simp only [List.length_cons]
        congr 2
        omega
      · rw [if_neg g59] at h
        by_cases gL : (lcl w L i m c).1.1 < L
        · rw [if_pos gL] at h
          exact absurd (congrArg (fun z => z.1.2) h) (by show (1 : Nat) ≠ 0; omega)
        rw [if_neg gL] at h
        have h2 := congrArg (fun z => z.2) h
        simp only at h2
        refine ⟨[], h2.symm, fun M1 a1 a2 k => ?_, Or.inr (by unfold lsg; rw [if_neg gL])⟩
        refine h4_eighths_14 ⟨hk.1 4 _ rfl, ?_⟩
        rw [(a2 _ _ (fun z => by have := z.2; omega)).1, h4, ← h2]
        simp only [List.length_cons, List.length_nil, Nat.zero_add]
        rw [if_pos (by rw [jIle (rI_nat (by omega)) (rI_nat (by omega))]; omega)]
        exact k M1 a2
    generalize hA : lcl w L i m c = A at *
    -- behind the clause, not taken
    have h141 : (lval g e cls = lval g e t) → ∀ M1, cst n ra w L A.1.1 0 M1 → Eo (lfd n) M M1 → H4_eighths_141 (d + 1 + 1) Th Q (n + 4) (jI g) (jI (m : Int)) M1 := by
      intro hv M1 a1 a2
      refine h4_eighths_141 ⟨hk.1 4 _ rfl, ?_⟩
      refine s4_pass true hk a1 (by omega) (by omega) rfl ?_
      intro M2 b1 b2 b3
      rw [e1]
      rw [hv] at K
      exact hcls M2 b1 (a2.trans b3) K
    have h105 : (lval g e cls = lval g e t) → ∀ (b j x : Nat) (M1 : mM), b + j = A.1.1 → i ≤ j → b + x ≤ 200 → cst n ra w L j 0 M1 → Eo (lfd n) M M1 → H4_eighths_105 (d + 1 + 1) Th Q (n + 4) (jI g) (jI (m : Int)) (jI (x : Int)) M1 := by
      intro hv b
      induction b with
      | zero =>
        intro j x M1 hb hij hx a1 a2
        have hj : j = A.1.1 := by omega
        subst hj
        have q := h141 hv M1 a1 a2
        refine h4_eighths_105 ?_
        split
        · exact q
        · refine ⟨hk.1 4 _ rfl, ?_⟩
          have c8 : M1.1 (n + 4) 8 = jI (lsg w L A.1.1) := a1.2.2.2.2.1
          rw [c8]
          rcases hsg with z | z
          · rw [z, if_pos (by rfl)]; exact q
          · rw [z, if_neg (by decide), if_pos (by rfl)]; exact q
      | succ b ihb =>
        intro j x M1 hb hij hx a1 a2
        have hjL : j < L := by omega
        have c8 : M1.1 (n + 4) 8 = jI (lsg w L j) := a1.2.2.2.2.1
        have hwb := lsg_b (w := w) (L := L) (i := j) hw
        have n59 := G11 j hij (by omega)
        have nn := lsg_w (j := j) hw hjL
        refine h4_eighths_105 ?_
        rw [if_neg (by rw [i200, jIle (rI_of (by omega) (by omega)) (rI_nat (by omega))]; omega)]
        refine ⟨hk.1 4 _ rfl, ?_⟩
        rw [c8, if_neg (by rw [i59, jIeq (rI_of (by omega) (by omega)) (rI_of (by omega) (by omega))]; exact n59), if_neg (by rw [iN, jIeq (rI_of (by omega) (by omega)) (rI_of (by omega) (by omega))]; omega)]
        refine s4_pass true hk a1 (by omega) (by omega) rfl ?_
        intro M2 b1 b2 b3
        have q := ihb (j + 1) (x + 1) M2 (by omega) (by omega) (by omega) b1 (a2.trans b3)
        rw [i1, jI_add]
        exact q
    refine h4_eighths_14 ⟨hk.1 4 _ rfl, ?_⟩
    have hlen2 : 0 < cls.length := by rw [ht]; simp
    rw [if_neg (by rw [h4, jIle (rI_nat (by omega)) (rI_nat (by omega))]; omega)]
    intro xv2 hx2
    rw [c5] at hx2
    refine s4_pass true hk hc (by omega) (by omega) rfl ?_
    intro M3 a1 a2 a3
    have hlt : A.2.1 = lsg w L i := by rw [G10]
    by_cases mine : lsg w L i = g
    rotate_left
    · have : xv2 = 0 := by rw [hx2, if_neg (by rw [jIeq (rI_of (by omega) (by omega)) (rI_of (by omega) (by omega))]; exact mine)]
      subst this
      rw [if_pos rfl, i0]
      refine h105 ?_ (A.1.1 - (i + 1)) (i + 1) 0 M3 (by omega) (by omega) (by omega) a1 a3
      rw [ht, lval, if_neg (fun z => mine (hlt ▸ z.1))]
    have : xv2 = 1 := by rw [hx2, mine, if_pos rfl]
    subst this
    rw [if_neg (by decide)]
    have M3c : cst n ra w L (i + 1) 0 (m_ui M3 (n + 4) 10 0) := cst.mv hk a1 (Eo.rf.ui ⟨rfl, rfl⟩)
    have M3e : Eo (lfd n) M (m_ui M3 (n + 4) 10 0) := a3.trans (Eo.rf.ui ⟨rfl, by omega, by omega⟩)
    refine s4_sum (e := e) hk 6 (by omega) (d + 1) _ (i + 1) 0 c true _ (by omega) M3c (hn.mv hk M3e) (by omega) (by omega) ?_
    intro v6 M5 P
    rw [if_neg (by omega)] at P
    have P' : lPo n ra w L e true (lcE w L i c) (m_ui M3 (n + 4) 10 0) v6 M5 := P
    obtain ⟨⟨p1, p2, p3⟩, p4, -, p6⟩ := P'
    obtain ⟨y1, y2⟩ := p6 G4
    have y3 := y2 false (by simp [m_u]; rfl)
    intro xv7 hx7
    rw [G4] at p1
    have M5c : cst n ra w L (lcE w L i c).1.1 0 (m_ui M5 (n + 4) 10 0) := cst.mv hk p1 (Eo.rf.ui ⟨rfl, rfl⟩)
    have M5e : Eo (lfd n) M (m_ui M5 (n + 4) 10 0) := (M3e.trans p4).trans (Eo.rf.ui ⟨rfl, by omega, by omega⟩)
    refine s4_pass true hk M5c p2 (by omega) rfl ?_
    intro M8 b1 b2 b3
    refine (s4_piece (e := e) hk 5 (by omega)).2 (d + 1) M8 ((lcE w L i c).1.1 + 1) 0 (c + (lcE w L i c).2.1.length) true _ (by omega) b1 (hn.mv hk (M5e.trans b3)) (by omega) (by omega) ?_
    intro v11 M10 hv R
    rw [if_neg (by omega)] at R
    have R' : lPo n ra w L e true (lcC w L i c) M8 v11 M10 := R
    obtain ⟨⟨r1, r2, r3⟩, r4, -, r6⟩ := R'
    obtain ⟨z1, z2⟩ := r6 G7
    have z3 := z2 false (by rw [b2]; simp [m_u]; rfl)
    rw [G7] at r1
    have M10e := (M5e.trans b3).trans r4
    have hE : A.2.2.1 = (lcE w L i c).2 := by rw [G10]
    have hC : A.2.2.2 = (lcC w L i c).2 := by rw [G10]
    have skip : (lval g e cls = lval g e t) → H4_eighths_105 (d + 1 + 1) Th Q (n + 4) (jI g) (jI (m : Int)) 0 M10 := by
      intro hv
      exact h105 hv (A.1.1 - (lcC w L i c).1.1) (lcC w L i c).1.1 0 M10 (by omega) (by omega) (by omega) r1 M10e
    by_cases v0 : v11 = 0
    · rw [if_pos v0]
      refine skip ?_
      rw [ht, lval, if_neg (fun z => z.2.1 (by rw [hC, ← z1]; exact v0))]
    rw [if_neg v0, z3]
    simp only [Bool.false_or, Bool.true_and]
    cases hr2 : ((lcC w L i c).2.2 e).2 with
    | true =>
      rw [if_neg (by decide)]
      refine skip ?_
      rw [ht, lval, if_neg (fun z => by rw [hC, hr2] at z; exact absurd z.2.2 (by decide))]
    | false =>
      rw [if_pos (by rfl)]
      have := K M10 M10e
      rw [ht, lval, if_pos ⟨by rw [hlt]; exact mine, by rw [hC, ← z1]; exact v0, by rw [hC]; exact hr2⟩, hE] at this
      have e7 : xv7 = if ((lcE w L i c).2.2 e).2 = true then 0 else ((lcE w L i c).2.2 e).1 := by
        rw [hx7, y3, y1]
        cases ((lcE w L i c).2.2 e).2 <;> simp [jB]
      rw [e7]
      exact this
end LEI
