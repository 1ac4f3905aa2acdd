/-! ===== THE LAW, AS THE CLASS READS IT ===== -/
/-- the reader stands at a place, with a fault; what it reads -/
def cst (n ra : Nat) (w : Nat → Int) (L i f : Nat) (M : mM) : Prop :=
  M.2.2 (n + 4) 5 = some ra ∧ (∀ k, k < L → M.1 ra k = jI (w k)) ∧ M.1 (n + 4) 6 = jI L ∧ M.1 (n + 4) 7 = jI i ∧ M.1 (n + 4) 8 = jI (if f = 0 then lsg w L i else -1) ∧ M.1 (n + 4) 9 = jI f
/-- the reader's own fields -/
def lfd (n : Nat) : Nat → Nat → Prop := fun q k => q = n + 4 ∧ 7 ≤ k ∧ k ≤ 10
/-- what is given of all: where the text stands, its bounds -/
def lOk (Th : mT) (n ra : Nat) (w : Nat → Int) (L : Nat) : Prop := Ly Th n ∧ (ra = n + 6 ∨ ra = n + 7) ∧ L ≤ 200 ∧ (∀ k, 0 ≤ w k ∧ w k ≤ 255) ∧ Th.2.1 < n ∧ Th.2.2 Th.2.1 = some (.inr (.char, true, 8))
theorem lOk.ra {Th : mT} {n ra L : Nat} {w : Nat → Int} (h : lOk Th n ra w L) : Th.2.2 ra = some (.inr (.int, false, 200)) := by
  rcases h.2.1 with q | q
  · rw [q]; exact h.1 6 _ rfl
  · rw [q]; exact h.1 7 _ rfl
theorem lsg_b {w : Nat → Int} {L i : Nat} (h : ∀ k, 0 ≤ w k ∧ w k ≤ 255) : -1 ≤ lsg w L i ∧ lsg w L i ≤ 255 := by
  unfold lsg
  have := h i
  split <;> omega
theorem jI_nI' (k : Nat) : nI k = jI k := jI_nI k
section LK
variable {d : Nat} {Th : mT} {M : mM} {n ra : Nat} {w : Nat → Int} {L : Nat} {e : lE} {i f : Nat}
theorem cst.mv {M' : mM} (hk : lOk Th n ra w L) (h : cst n ra w L i f M) (he : Eo (fun q k => q = n + 4 ∧ k = 10) M M') : cst n ra w L i f M' := by
  obtain ⟨c1, c2, c3, c4, c5, c6⟩ := h
  have hne := hk.2.1
  refine ⟨(he _ _ (by omega)).2.2.trans c1, fun k hkk => ((he _ _ (by omega)).1).trans (c2 k hkk), ((he _ _ (by omega)).1).trans c3, ((he _ _ (by omega)).1).trans c4, ((he _ _ (by omega)).1).trans c5, ((he _ _ (by omega)).1).trans c6⟩
def lps (b : Bool) (i f : Nat) : Nat × Nat := if f ≠ 0 then (i, f) else if b then (i + 1, 0) else (i, 1)
theorem s4_pass {Q : mM → Prop} {x : Int32} (b : Bool) (hk : lOk Th n ra w L) (hc : cst n ra w L i f M) (hi : i ≤ 300) (hf : f ≤ 5) (hx : x = jB b)
    (k : ∀ M', cst n ra w L (lps b i f).1 (lps b i f).2 M' → M'.1 (n + 4) 10 = M.1 (n + 4) 10 → Eo (lfd n) M M' → Q M') : P4_pass (d + 1) Th (n + 4) x M Q := by
  have hra := hk.ra
  obtain ⟨hT, hr, hL, hw, -, -⟩ := hk
  have hc' := hc
  obtain ⟨c1, c2, c3, c4, c5, c6⟩ := hc
  have hne : ra ≠ n + 4 := by omega
  have e9 : (M.1 (n + 4) 9 = 0) = (f = 0) := by rw [c6, i0, jIeq (rI_nat (by omega)) rI0]; exact propext ⟨by omega, by omega⟩
  refine e4_pass ?_
  by_cases hf0 : f = 0
  rotate_left
  · have g : Q M := by
      refine k M ?_ rfl Eo.rf
      rw [show lps b i f = (i, f) by unfold lps; rw [if_pos hf0]]
      exact hc'
    have g2 : H4_pass_21 (d + 1) Th Q (n + 4) M := h4_pass_21 ⟨hT 4 _ rfl, by rw [if_neg (by rw [e9]; exact hf0)]; exact g⟩
    split
    · refine ⟨hT 4 _ rfl, ?_⟩
      rw [if_neg (by rw [e9]; exact hf0)]
      exact g2
    · exact g2
  subst hf0
  cases b with
  | false =>
    have hx0 : x = 0 := hx
    rw [if_pos hx0]
    refine ⟨hT 4 _ rfl, ?_⟩
    rw [if_pos (by rw [e9])]
    intro M2 h2
    refine h4_pass_21 ⟨hT 4 _ rfl, ?_⟩
    rw [if_neg (by rw [h2]; simp [m_u])]
    refine k _ ?_ (by rw [h2]; simp [m_u]) (by rw [h2]; exact (Eo.rf.ui ⟨rfl, by omega, by omega⟩).ui ⟨rfl, by omega, by omega⟩)
    show cst n ra w L i 1 _
    rw [h2]
    refine ⟨c1, fun k hkk => ?_, ?_, ?_, ?_, ?_⟩
    · simp only [m_u_ne hne]; exact c2 k hkk
    · simp [m_u, c3]
    · simp [m_u, c4]
    · simp [m_u]; rfl
    · simp [m_u]; rfl
  | true =>
    have hx1 : x = 1 := hx
    rw [if_neg (by rw [hx1]; decide)]
    refine h4_pass_21 ⟨hT 4 _ rfl, ?_⟩
    rw [if_pos (by rw [e9])]
    intro M2 h2
    have g7 : M2.1 (n + 4) 7 = jI ((i + 1 : Nat) : Int) := by
      rw [h2]; simp only [m_u_eq]; rw [c4, i1, jI_add]; rfl
    have g6 : M2.1 (n + 4) 6 = jI (L : Int) := by rw [h2]; simp [m_u, c3]
    have fin : ∀ g : Int32, g = jI (lsg w L (i + 1)) → Q (m_ui M2 (n + 4) 8 g) := by
      intro g hg
      refine k _ ?_ (by rw [h2]; simp [m_u]) (by rw [h2]; exact (Eo.rf.ui ⟨rfl, by omega, by omega⟩).ui ⟨rfl, by omega, by omega⟩)
      show cst n ra w L (i + 1) 0 _
      refine ⟨by rw [h2]; exact c1, fun k hkk => ?_, ?_, ?_, ?_, ?_⟩
      · rw [h2]; simp only [m_u_ne hne]; exact c2 k hkk
      · simp [m_u, g6]
      · simp only [m_u_nk (show (7 : Nat) ≠ 8 by omega)]; exact g7
      · simp [m_u, hg]
      · rw [h2]; simp [m_u, c6]
    rw [if_neg (by rw [g7, i0, jIlt (rI_nat (by omega)) rI0]; omega)]
    by_cases hlt : i + 1 < L
    · rw [if_neg (by rw [g6, g7, jIle (rI_nat (by omega)) (rI_nat (by omega))]; omega)]
      refine ⟨ra, c1, _, _, _, hra, ?_⟩
      rw [if_neg (by rw [jI_nI, g7, jIle (rI_nat (by omega)) (rI_nat (by omega))]; omega)]
      refine ⟨by rw [g7]; exact m_ok_jI hra (by omega) (by omega) (by omega), ?_⟩
      refine fin _ ?_
      rw [g7, jInatN _ (by omega), h2]
      simp only [m_u_ne hne]
      rw [c2 _ hlt]
      unfold lsg
      rw [if_pos hlt]
    · rw [if_pos (by rw [g6, g7, jIle (rI_nat (by omega)) (rI_nat (by omega))]; omega)]
      refine fin _ ?_
      unfold lsg
      rw [if_neg hlt]
      rfl
theorem s4_blame {Q : mM → Prop} {x : Int32} (y : Nat) (hk : lOk Th n ra w L) (hc : cst n ra w L i f M) (hf : f ≤ 5) (hy : 1 ≤ y) (hx : x = jI y)
    (k : ∀ M', cst n ra w L i (if f ≠ 0 then f else y) M' → M'.1 (n + 4) 10 = M.1 (n + 4) 10 → Eo (lfd n) M M' → Q M') : P4_blame (d + 1) Th (n + 4) x M Q := by
  obtain ⟨hT, hr, hL, hw, -, -⟩ := hk
  have hc' := hc
  obtain ⟨c1, c2, c3, c4, c5, c6⟩ := hc
  have hne : ra ≠ n + 4 := by omega
  have e9 : (M.1 (n + 4) 9 = 0) = (f = 0) := by rw [c6, i0, jIeq (rI_nat (by omega)) rI0]; exact propext ⟨by omega, by omega⟩
  refine e4_blame ⟨hT 4 _ rfl, ?_⟩
  by_cases hf0 : f = 0
  · rw [if_pos (by rw [e9]; exact hf0)]
    intro M2 h2
    refine k _ ?_ (by rw [h2]; simp [m_u]) (by rw [h2]; exact (Eo.rf.ui ⟨rfl, by omega, by omega⟩).ui ⟨rfl, by omega, by omega⟩)
    rw [if_neg (by omega), h2]
    refine ⟨c1, fun k hkk => ?_, ?_, ?_, ?_, ?_⟩
    · simp only [m_u_ne hne]; exact c2 k hkk
    · simp [m_u, c3]
    · simp [m_u, c4]
    · rw [if_neg (by omega)]; simp [m_u]; rfl
    · simp [m_u, hx]
  · rw [if_neg (by rw [e9]; exact hf0)]
    refine k _ ?_ rfl Eo.rf
    rw [if_pos hf0]
    exact hc'
/-- what a reading leaves -/
def lPo (n ra : Nat) (w : Nat → Int) (L : Nat) (e : lE) (q : Bool) (r : lR) (M : mM) (v : Int32) (M' : mM) : Prop :=
  (cst n ra w L r.1.1 r.1.2 M' ∧ r.1.1 ≤ 300 ∧ r.1.2 ≤ 5) ∧ Eo (lfd n) M M' ∧ (q = false → ∀ rf : Bool, M.1 (n + 4) 10 = jB rf → M'.1 (n + 4) 10 = jB rf) ∧ (r.1.2 = 0 → v = (r.2.2 e).1 ∧ ∀ rf : Bool, M.1 (n + 4) 10 = jB rf → M'.1 (n + 4) 10 = jB (rf || (q && (r.2.2 e).2)))
/-- what is given at a reading: the letters, what they mean -/
def lIn (Th : mT) (n : Nat) (e : lE) (M : mM) : Prop := Rf n M ∧ (∀ k, k < 8 → M.1 (n + 5) k = e k) ∧ ∀ k, k < 8 → M.1 Th.2.1 k = lw_let k
theorem lIn.mv {M' : mM} (hk : lOk Th n ra w L) (h : lIn Th n e M) (he : Eo (lfd n) M M') : lIn Th n e M' := by
  have hla := hk.2.2.2.2.1
  refine ⟨fun o k v hv => ?_, fun k hk => ((he _ _ (fun z => by have := z.1; omega)).1).trans (h.2.1 k hk), fun k hk => ((he _ _ (fun z => by have := z.1; omega)).1).trans (h.2.2 k hk)⟩
  by_cases c : lfd n (n + o) k
  · exfalso
    obtain ⟨c1, c2, c3⟩ := c
    have ho : o = 4 := by omega
    subst ho
    simp [rsA] at hv
    omega
  · exact ((he _ _ c).2.2).trans (h.1 o k v hv)
end LK
