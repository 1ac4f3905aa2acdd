/-! ===== THE LAW, AS THE MODEL READS IT: its stack, its codes ===== -/
def stk (m : Nat) : List Int → mM → Prop
  | [], _ => True
  | x :: r, M => M.1 (m + 9) r.length = jI x ∧ stk m r M
/-- numbers that the reader keeps -/
def rC (x : Int) : Prop := 0 ≤ x ∧ x < 16777216
/-- the reader stands at a place; so many are open; what waits (the top first); the codes -/
def kst (m : Nat) (w : Nat → Int) (L i o : Nat) (W C : List Int) (M : mM) : Prop :=
  M.1 m 13 = jI i ∧ M.1 m 14 = jI L ∧ M.1 m 16 = jI o ∧ M.1 m 17 = jI C.length ∧ M.1 m 18 = jI W.length ∧ stk m W M ∧ (∀ k x, C[k]? = some x → M.1 (m + 8) k = jI x) ∧ (∀ k, k < L → M.1 (m + 7) k = jI (sB (w k))) ∧ (∀ x, x ∈ W → rC x) ∧ (∀ x, x ∈ C → rC x)
/-- what the reader writes -/
def krd (m : Nat) : Nat → Nat → Prop := fun q k => (q = m ∧ 13 ≤ k ∧ k ≤ 20 ∧ k ≠ 19) ∨ q = m + 8 ∨ q = m + 9
def kOk (Th : mT) (m : Nat) (w : Nat → Int) (L : Nat) : Prop := LyM Th m ∧ L ≤ 200 ∧ ∀ k, 0 ≤ w k ∧ w k ≤ 255
theorem RfM.mv {m : Nat} {M M' : mM} (h : RfM m M) (he : M'.2.2 = M.2.2) : RfM m M' := fun o k v hv => by rw [he]; exact h o k v hv
theorem krd_rf {m : Nat} {M M' : mM} (h : RfM m M) (he : Eo (krd m) M M') : RfM m M' := by
  intro o k v hv
  by_cases c : krd m (m + o) k
  · exfalso
    rcases c with ⟨c1, c2, c3, c4⟩ | c | c
    · have ho : o = 0 := by omega
      subst ho
      simp [rsM] at hv
      omega
    · have ho : o = 8 := by omega
      subst ho
      simp [rsM] at hv
    · have ho : o = 9 := by omega
      subst ho
      simp [rsM] at hv
  · rw [(he _ _ c).2.2]; exact h o k v hv
section LM
variable {d : Nat} {Th : mT} {M : mM} {m : Nat} {w : Nat → Int} {L : Nat} {i o : Nat} {W C : List Int}
theorem stk_mv {M' : mM} : ∀ {W : List Int}, (∀ k, k < W.length → M'.1 (m + 9) k = M.1 (m + 9) k) → stk m W M → stk m W M' := by
  intro W
  induction W with
  | nil => intro _ _; trivial
  | cons x r ih =>
    intro h hs
    exact ⟨(h _ (by simp)).trans hs.1, ih (fun k hk => h k (by simp; omega)) hs.2⟩
theorem sB_and : ∀ z : Fin 256, jI (sB (z.val : Int)) &&& 255 = jI (z.val : Int) := by decide +kernel
theorem sB_and' {z : Int} (h : 0 ≤ z ∧ z ≤ 255) : jI (sB z) &&& 255 = jI z := by
  obtain ⟨k, rfl⟩ := Int.eq_ofNat_of_zero_le h.1
  exact sB_and ⟨k, by omega⟩
theorem s11_here {Q : Int32 → mM → Prop} (hk : kOk Th m w L) (hR : RfM m M) (hs : kst m w L i o W C M) (hi : i ≤ 300) (k : Q (jI (lsg w L i)) M) : P11_here (d + 1) Th m M Q := by
  obtain ⟨hT, hL, hw⟩ := hk
  obtain ⟨c1, c2, c3, c4, c5, c6, c7, c8, c9, c10⟩ := hs
  refine e11_here ⟨hT 0 _ rfl, ?_⟩
  unfold lsg at k
  by_cases h : i < L
  · rw [if_pos h] at k
    rw [if_neg (by rw [c1, c2, jIle (rI_nat (by omega)) (rI_nat (by omega))]; omega)]
    refine ⟨m + 7, hR 0 11 7 (by decide), by rw [c1]; exact m_ok_jI (hT 7 _ rfl) (by omega) (by omega) (by omega), ?_⟩
    rw [c1, jInatN _ (by omega), c8 i h, sB_and' (hw i)]
    exact k
  · rw [if_neg h] at k
    rw [if_pos (by rw [c1, c2, jIle (rI_nat (by omega)) (rI_nat (by omega))]; omega)]
    exact k
theorem s11_isDigit {Q : Int32 → mM → Prop} (hk : kOk Th m w L) (hR : RfM m M) (hs : kst m w L i o W C M) (hi : i ≤ 300) (k : Q (jB (isD (lsg w L i))) M) : P11_isDigit (d + 2) Th m M Q := by
  have hb := lsg_b (w := w) (L := L) (i := i) hk.2.2
  refine e11_isDigit ⟨hk.1 0 _ rfl, ?_⟩
  refine s11_here hk hR hs hi ?_
  simp only [i48, jIlt (a := lsg w L i) (b := 48) (rI_of (by omega) (by omega)) (rI_of (by omega) (by omega))]
  by_cases h : lsg w L i < 48
  · rw [if_pos h]
    rw [(isD_not _).mpr (by omega)] at k
    exact k
  · rw [if_neg h]
    refine s11_here hk hR hs hi ?_
    simp only [i57, jIlt (a := 57) (b := lsg w L i) (rI_of (by omega) (by omega)) (rI_of (by omega) (by omega))]
    by_cases h2 : 57 < lsg w L i
    · rw [(isD_not _).mpr (by omega)] at k
      rw [if_pos h2]
      exact ⟨mb0, k⟩
    · rw [(isD_iff _).mpr (by omega)] at k
      rw [if_neg h2]
      exact ⟨mb1, k⟩
theorem s11_wrong {Q : Int32 → mM → Prop} {x y : Int} (hk : kOk Th m w L) (k : Q 0 (m_ui M m 15 (jI (-1000 * x - y)))) : P11_wrong (d + 1) Th m (jI x) (jI y) M Q := by
  refine e11_wrong ⟨hk.1 0 _ rfl, ?_⟩
  rw [show (-1000 : Int32) = jI (-1000) from rfl, jI_mul, jI_sub]
  exact k
theorem iU : (1048576 : Int32) = jI 1048576 := rfl
/-- a code more -/
theorem s11_notes {Q : mM → Prop} {x y : Int} (hk : kOk Th m w L) (hR : RfM m M) (hs : kst m w L i o W C M) (hc : C.length < 220) (hx : rC (1048576 * x + y))
    (k : ∀ M', kst m w L i o W (C ++ [1048576 * x + y]) M' → Eo (krd m) M M' → M'.1 m 20 = M.1 m 20 → Q M') : P11_notes (d + 1) Th m (jI x) (jI y) M Q := by
  obtain ⟨hT, hL, hw⟩ := hk
  obtain ⟨c1, c2, c3, c4, c5, c6, c7, c8, c9, c10⟩ := hs
  refine e11_notes ⟨hT 0 _ rfl, m + 8, hR 0 22 8 (by decide), by rw [c4]; exact m_okw_jI (hT 8 _ rfl) (by omega) (by omega) (by omega), ?_⟩
  intro M5 h5
  rw [c4, jInatN _ (by omega), iU, jI_mul, jI_add] at h5
  have g17 : M5.1 m 17 = jI C.length := by rw [h5]; simp [m_u, c4]
  rw [g17, i1, jI_add]
  refine k _ ?_ (by rw [h5]; exact (Eo.rf.ui (Or.inr (Or.inl rfl))).ui (Or.inl ⟨rfl, by omega, by omega, by omega⟩)) (by rw [h5]; simp [m_u])
  rw [h5]
  refine ⟨by simp [m_u, c1], by simp [m_u, c2], by simp [m_u, c3], by simp [m_u], by simp [m_u, c5], stk_mv (M := M) (fun j _ => by simp [m_u]) c6, fun j z hz => ?_, fun j hj => by simp [m_u, c8 j hj], c9, fun z hz => ?_⟩
  · by_cases e : j = C.length
    · subst e
      rw [List.getElem?_append_right (Nat.le_refl _)] at hz
      simp at hz
      simp [m_u, hz]
    · have hj : j < (C ++ [1048576 * x + y]).length := (List.getElem?_eq_some_iff.mp hz).1
      simp at hj
      rw [List.getElem?_append_left (by omega)] at hz
      simp [m_u, e, c7 j z hz]
  · rcases List.mem_append.mp hz with h | h
    · exact c10 z h
    · simp at h; rw [h]; exact hx
/-- the top of what waits, by its number -/
def ktop (W : List Int) : Int := match W with | [] => -1 | x :: _ => x / 1048576
theorem s11_top {Q : Int32 → mM → Prop} (hk : kOk Th m w L) (hR : RfM m M) (hs : kst m w L i o W C M) (hW : W.length ≤ 220) (k : Q (jI (ktop W)) M) : P11_top (d + 1) Th m M Q := by
  obtain ⟨hT, hL, hw⟩ := hk
  obtain ⟨c1, c2, c3, c4, c5, c6, c7, c8, c9, c10⟩ := hs
  refine e11_top ⟨hT 0 _ rfl, ?_⟩
  cases W with
  | nil => rw [if_pos (by rw [c5]; rfl)]; exact k
  | cons x r =>
    simp only [List.length_cons] at c5 hW
    have hx := c9 x (by simp)
    unfold rC at hx
    rw [if_neg (by rw [c5, i0, jIeq (rI_nat (by omega)) rI0]; omega)]
    refine ⟨m + 9, hR 0 23 9 (by decide), by rw [c5, i1, jI_sub]; exact m_ok_jI (hT 9 _ rfl) (by omega) (by omega) (by omega), ?_⟩
    rw [c5, i1, jI_sub, jInat (rI_of (by omega) (by omega)), show ((r.length + 1 : Nat) : Int) - 1 = (r.length : Int) by omega, Int.toNat_natCast, c6.1, iU, jI_div (by omega) (by omega) (by omega) (by omega)]
    exact k
theorem s11_opens {Q : Int32 → mM → Prop} {x : Int} (hk : kOk Th m w L) (hR : RfM m M) (hs : kst m w L i o W C M) (hW : W.length < 220) (ho : o ≤ 6) (hi : i ≤ 300) (hx : rC (1048576 * x))
    (k0 : o = 6 → Q 0 (m_ui M m 15 (jI (-1000 * 5 - (i : Int))))) (k1 : o < 6 → ∀ M', kst m w L (i + 1) (o + 1) (1048576 * x :: W) C M' → Eo (krd m) M M' → Q 1 M') : P11_opens (d + 2) Th m (jI x) M Q := by
  have hk' := hk
  obtain ⟨hT, hL, hw⟩ := hk
  obtain ⟨c1, c2, c3, c4, c5, c6, c7, c8, c9, c10⟩ := hs
  refine e11_opens ⟨hT 0 _ rfl, ?_⟩
  by_cases h6 : o = 6
  · rw [if_pos (by rw [c3, h6]; rfl), c1, i5]
    exact s11_wrong hk' ⟨mb0, k0 h6⟩
  · rw [if_neg (by rw [c3, i6, jIeq (rI_nat (by omega)) (rI_of (by omega) (by omega))]; omega)]
    refine ⟨m + 9, hR 0 23 9 (by decide), ?_⟩
    intro M6 h6
    have g18 : M6.1 m 18 = jI W.length := by rw [h6]; simp [m_u, c5]
    refine ⟨by rw [g18]; exact m_okw_jI (hT 9 _ rfl) (by omega) (by omega) (by omega), ?_⟩
    intro M8 h8 M9 h9
    rw [g18, jInatN _ (by omega), iU, jI_mul] at h8
    have g18' : M8.1 m 18 = jI W.length := by rw [h8]; simp [m_u, g18]
    rw [g18', i1, jI_add] at h9
    have g13 : M9.1 m 13 = jI i := by rw [h9, h8, h6]; simp [m_u, c1]
    rw [c3, i1, jI_add] at h6
    rw [g13, i1, jI_add]
    refine k1 (by omega) _ ?_ ?_
    · rw [h9, h8, h6]
      refine ⟨by simp [m_u], by simp [m_u, c2], by simp [m_u], by simp [m_u, c4], by simp [m_u], ⟨by simp [m_u], stk_mv (M := M) (fun j hj => by simp [m_u]; intro z; omega) c6⟩, fun j z hz => by simp [m_u, c7 j z hz], fun j hj => by simp [m_u, c8 j hj], fun z hz => ?_, c10⟩
      rcases List.mem_cons.mp hz with h | h
      · rw [h]; exact hx
      · exact c9 z h
    · rw [h9, h8, h6]
      exact (((Eo.rf.ui (Or.inl ⟨rfl, by omega, by omega, by omega⟩)).ui (Or.inr (Or.inr rfl))).ui (Or.inl ⟨rfl, by omega, by omega, by omega⟩)).ui (Or.inl ⟨rfl, by omega, by omega, by omega⟩)
/-- one less waits -/
theorem kst_pop {x : Int} (hs : kst m w L i o (x :: W) C M) (hW : W.length < 220) : M.1 m 18 - 1 = jI W.length ∧ kst m w L i o W C (m_ui M m 18 (M.1 m 18 - 1)) := by
  obtain ⟨c1, c2, c3, c4, c5, c6, c7, c8, c9, c10⟩ := hs
  have e : M.1 m 18 - 1 = jI W.length := by
    rw [c5, i1, jI_sub]; simp only [List.length_cons]; congr 1; omega
  refine ⟨e, ?_⟩
  rw [e]
  exact ⟨by simp [m_u, c1], by simp [m_u, c2], by simp [m_u, c3], by simp [m_u, c4], by simp [m_u], stk_mv (M := M) (fun j _ => by simp [m_u]) c6.2, fun j z hz => by simp [m_u, c7 j z hz], fun j hj => by simp [m_u, c8 j hj], fun z hz => c9 z (List.mem_cons_of_mem _ hz), c10⟩
end LM
