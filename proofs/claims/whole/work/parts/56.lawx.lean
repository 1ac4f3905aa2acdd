/-! ===== the codes run, in the model ===== -/
section LX
variable {d : Nat} {Th : mT} {M : mM} {m : Nat} {w : Nat → Int} {L : Nat}
/-- what the letters mean, in the model -/
def kfe (m : Nat) (e : lE) (M : mM) : Prop := M.1 (m + 20) 0 = e 0 ∧ M.1 (m + 20) 1 = e 3 ∧ M.1 (m + 20) 2 = e 5 ∧ M.1 (m + 20) 3 = e 4 ∧ M.1 (m + 20) 4 = e 1 ∧ M.1 (m + 20) 5 = e 6 ∧ M.1 (m + 20) 6 = e 7 ∧ M.1 (m + 20) 7 = e 2
/-- what the run writes: its stack from a place on -/
def ksk (m n : Nat) : Nat → Nat → Prop := fun q k => q = m + 19 ∧ n ≤ k
abbrev kC (d : Nat) (Th : mT) (Q : Int32 → mM → Prop) (m to n k : Nat) (M : mM) : Prop := H11_comesTo_16 (d + 2) Th Q m (jI to) (jI n) 0 (jI k) M
theorem ksk_rf {n : Nat} {M' : mM} (h : RfM m M) (he : Eo (ksk m n) M M') : RfM m M' := by
  intro o k v hv
  by_cases c : ksk m n (m + o) k
  · exfalso
    unfold ksk at c
    have ho : o = 19 := by omega
    subst ho
    simp [rsM] at hv
  · rw [(he _ _ c).2.2]; exact h o k v hv
/-- codes that run as a meaning says -/
def kRun (d : Nat) (Th : mT) (m : Nat) (code : List Int) (c : Nat) (v : lD) : Prop := ∀ (e : lE) (n to : Nat) (M : mM) (Q : Int32 → mM → Prop), RfM m M → (∀ j x, code[j]? = some x → M.1 (m + 14) (c + j) = jI x) → kfe m e M → c + code.length ≤ to → to ≤ 210 → n + code.length ≤ 210 →
  ((v e).2 = false → ∀ M', Eo (ksk m n) M M' → M'.1 (m + 19) n = (v e).1 → kC d Th Q m to (n + 1) (c + code.length) M') →
  ((v e).2 = true → ∀ M', Eo (ksk m n) M M' → Q 0 M') → kC d Th Q m to n c M
theorem kfe.mv {e : lE} {n : Nat} {M' : mM} (h : kfe m e M) (he : Eo (ksk m n) M M') : kfe m e M' := by
  have g : ∀ k, M'.1 (m + 20) k = M.1 (m + 20) k := fun k => (he _ _ (by unfold ksk; omega)).1
  unfold kfe
  rw [g, g, g, g, g, g, g, g]
  exact h
/-- a number or a letter -/
theorem kC_num {Q : Int32 → mM → Prop} {x : Int} {n to k : Nat} {e : lE} (hT : LyM Th m) (hR : RfM m M) (hc : M.1 (m + 14) k = jI x) (hk : k < to) (hto : to ≤ 210) (hn : n ≤ 210) (y : Int32) (he : kfe m e M)
    (hx : (0 ≤ x ∧ x < 1048576 ∧ y = jI x) ∨ (∃ kk : Nat, kk < 8 ∧ x = 1048576 + kk ∧ y = M.1 (m + 20) kk)) (h : kC d Th Q m to (n + 1) (k + 1) (m_ui M (m + 19) n y)) : kC d Th Q m to n k M := by
  have hxb : 0 ≤ x ∧ x < 16777216 := by
    rcases hx with z | ⟨kk, z1, z2, z3⟩ <;> omega
  have h85 : H11_comesTo_85 (d + 2) Th Q m (jI to) (jI n) 0 (jI ((k + 1 : Nat) : Int)) y (jI n) (m + 19) M := by
    refine h11_comesTo_85 ⟨m_okw_jI (hT 19 _ rfl) (by omega) (by omega) (by omega), ?_⟩
    intro xv2 h2
    rw [h2, jI_s, jInatN n (by omega)]
    exact h
  refine h11_comesTo_16 ?_
  rw [if_neg (by rw [jIle (rI_nat (by omega)) (rI_nat (by omega))]; omega)]
  refine ⟨hT 0 _ rfl, m + 14, hR 0 28 14 (by decide), m_ok_jI (hT 14 _ rfl) (by omega) (by omega) (by omega), ?_⟩
  rw [jInatN k (by omega), hc, iU, jI_rem (by omega) (by omega) (by omega) (by omega), jI_div (by omega) (by omega) (by omega) (by omega), jI_s]
  intro xv9 h9 xv10 h10 xv11 h11
  subst h9 h10 h11
  have h63 : H11_comesTo_63 (d + 2) Th Q m (jI to) (jI n) 0 (jI ((k + 1 : Nat) : Int)) (jI (x / 1048576)) (jI (x % 1048576)) M := by
    refine h11_comesTo_63 ⟨hT 0 _ rfl, m + 19, hR 0 33 19 (by decide), ?_⟩
    simp only [jq0 (z := x / 1048576) (rI_of (by omega) (by omega))]
    rcases hx with z | ⟨kk, z1, z2, z3⟩
    · rw [if_pos (by omega), show x % 1048576 = x by omega, ← z.2.2]
      exact h85
    · rw [if_neg (by omega)]
      refine ⟨m + 20, hR 0 34 20 (by decide), m_ok_jI (hT 20 _ rfl) (by omega) (by omega) (by omega), ?_⟩
      rw [show x % 1048576 = (kk : Int) by omega, jInatN kk (by omega), ← z3]
      exact h85
  simp only [jq0 (z := x / 1048576) (rI_of (by omega) (by omega)), jq1 (z := x / 1048576) (rI_of (by omega) (by omega))]
  rcases hx with z | ⟨kk, z1, z2, z3⟩
  · rw [if_pos (by omega)]; exact h63
  · rw [if_neg (by omega), if_pos (by omega)]; exact h63
theorem kRun_num {x : Int} {c : Nat} (hT : LyM Th m) (hx : 0 ≤ x ∧ x < 1048576) : kRun d Th m [x] c (fun _ => (jI x, false)) := by
  intro e n to M Q hR hc he h1 h2 h3 k1 _
  have h1' : c + 1 ≤ to := h1
  have h3' : n + 1 ≤ 210 := h3
  refine kC_num hT hR (hc 0 x rfl) (by omega) h2 (by omega) (jI x) he (Or.inl ⟨hx.1, hx.2, rfl⟩) ?_
  exact k1 rfl _ (Eo.rf.ui ⟨rfl, Nat.le_refl _⟩) (by simp [m_u])
theorem llt_e {g : Int} {k kk : Nat} {e : lE} (h : llt g = some (k, kk)) (he : kfe m e M) : M.1 (m + 20) kk = e k := by
  obtain ⟨e0, e1, e2, e3, e4, e5, e6, e7⟩ := he
  unfold llt at h
  split at h
  · simp at h; rw [← h.1, ← h.2]; exact e0
  split at h
  · simp at h; rw [← h.1, ← h.2]; exact e4
  split at h
  · simp at h; rw [← h.1, ← h.2]; exact e7
  split at h
  · simp at h; rw [← h.1, ← h.2]; exact e1
  split at h
  · simp at h; rw [← h.1, ← h.2]; exact e3
  split at h
  · simp at h; rw [← h.1, ← h.2]; exact e2
  split at h
  · simp at h; rw [← h.1, ← h.2]; exact e5
  split at h
  · simp at h; rw [← h.1, ← h.2]; exact e6
  · simp at h
theorem kRun_let {g : Int} {k kk c : Nat} (hT : LyM Th m) (h : llt g = some (k, kk)) : kRun d Th m [1048576 + (kk : Int)] c (fun e => (e k, false)) := by
  intro e n to M Q hR hc he h1 h2 h3 k1 _
  have h1' : c + 1 ≤ to := h1
  have h3' : n + 1 ≤ 210 := h3
  have hb := llt_b h
  refine kC_num hT hR (hc 0 _ rfl) (by omega) h2 (by omega) (M.1 (m + 20) kk) he (Or.inr ⟨kk, hb.1, rfl, rfl⟩) ?_
  exact k1 rfl _ (Eo.rf.ui ⟨rfl, Nat.le_refl _⟩) (by simp [m_u]; exact llt_e h he)
/-- two numbers by an operation -/
theorem s11_reckon {Q : Int32 → mM → Prop} {g : Int} {x y : Int32} (hg : isS g = true ∨ isP g = true ∨ isC g = true) (h0 : (lcb g x y).2 = false) (k : Q (lcb g x y).1 M) : P11_reckon (d + 1) Th (jI (lop g)) x y M Q := by
  have hg' : g = 43 ∨ g = 45 ∨ g = 42 ∨ g = 47 ∨ g = 37 ∨ g = 60 ∨ g = 62 ∨ g = 61 := by
    unfold isS isP isC at hg; simp at hg; omega
  refine e11_reckon ?_
  rcases hg' with z | z | z | z | z | z | z | z <;> subst z
  · rw [if_pos (by decide)]; exact k
  · rw [if_neg (by decide), if_pos (by decide)]; exact k
  · rw [if_neg (by decide), if_neg (by decide), if_pos (by decide)]; exact k
  · rw [if_neg (by decide), if_neg (by decide), if_neg (by decide), if_pos (by decide)]
    by_cases hy : y = 0
    · simp [lcb, hy] at h0
    · simp [lcb, hy] at k; exact ⟨hy, k⟩
  · rw [if_neg (by decide), if_neg (by decide), if_neg (by decide), if_neg (by decide), if_pos (by decide)]
    by_cases hy : y = 0
    · simp [lcb, hy] at h0
    · simp [lcb, hy] at k; exact ⟨hy, k⟩
  · rw [if_neg (by decide), if_neg (by decide), if_neg (by decide), if_neg (by decide), if_neg (by decide), if_pos (by decide)]; exact k
  · rw [if_neg (by decide), if_neg (by decide), if_neg (by decide), if_neg (by decide), if_neg (by decide), if_neg (by decide), if_pos (by decide)]; exact k
  · rw [if_neg (by decide), if_neg (by decide), if_neg (by decide), if_neg (by decide), if_neg (by decide), if_neg (by decide), if_neg (by decide)]; exact k
theorem kC_op {Q : Int32 → mM → Prop} {g : Int} {n to k : Nat} {x y : Int32} (hT : LyM Th m) (hR : RfM m M) (hc : M.1 (m + 14) k = jI (1048576 * lop g)) (hk : k < to) (hto : to ≤ 210) (hn : n ≤ 212) (hg : isS g = true ∨ isP g = true ∨ isC g = true) (hx : M.1 (m + 19) n = x) (hy : M.1 (m + 19) (n + 1) = y)
    (k1 : (lcb g x y).2 = false → kC d Th Q m to (n + 1) (k + 1) (m_ui M (m + 19) n (lcb g x y).1)) (k0 : (lcb g x y).2 = true → Q 0 M) : kC d Th Q m to (n + 2) k M := by
  have hg' : g = 43 ∨ g = 45 ∨ g = 42 ∨ g = 47 ∨ g = 37 ∨ g = 60 ∨ g = 62 ∨ g = 61 := by
    unfold isS isP isC at hg; simp at hg; omega
  have hlo : 2 ≤ lop g ∧ lop g ≤ 9 := by
    rcases hg' with z | z | z | z | z | z | z | z <;> subst z <;> exact ⟨by decide, by decide⟩
  have h203 : (lcb g x y).2 = false → H11_comesTo_203 (d + 2) Th Q m (jI to) (jI ((n + 1 : Nat) : Int)) 0 (jI ((k + 1 : Nat) : Int)) (jI (lop g)) M := by
    intro hf
    refine h11_comesTo_203 ⟨hT 0 _ rfl, m + 19, hR 0 33 19 (by decide), ?_⟩
    rw [jI_p]
    refine ⟨m_ok_jI (hT 19 _ rfl) (by omega) (by omega) (by omega), m_ok_jI (hT 19 _ rfl) (by omega) (by omega) (by omega), ?_⟩
    rw [jInatN n (by omega), jInatN (n + 1) (by omega), hx, hy]
    refine s11_reckon hg hf ?_
    exact ⟨m_okw_jI (hT 19 _ rfl) (by omega) (by omega) (by omega), k1 hf⟩
  refine h11_comesTo_16 ?_
  rw [if_neg (by rw [jIle (rI_nat (by omega)) (rI_nat (by omega))]; omega)]
  refine ⟨hT 0 _ rfl, m + 14, hR 0 28 14 (by decide), m_ok_jI (hT 14 _ rfl) (by omega) (by omega) (by omega), ?_⟩
  rw [jInatN k (by omega), hc, iU, jI_rem (by omega) (by omega) (by omega) (by omega), jI_div (by omega) (by omega) (by omega) (by omega), jI_s, show 1048576 * lop g / 1048576 = lop g by omega]
  intro xv9 h9 xv10 h10 xv11 h11
  subst h9 h10 h11
  have rl : rI (lop g) := rI_of (by omega) (by omega)
  simp only [jq0 rl, jq1 rl, jq10 rl, jq11 rl, jq12 rl]
  rw [if_neg (by omega), if_neg (by omega), if_neg (by omega), if_neg (by omega), if_neg (by omega)]
  intro xv16 h16
  rw [jI_p2] at h16
  subst h16
  simp only [jq5 rl, jq6 rl]
  have h192 : (g = 47 ∨ g = 37) → H11_comesTo_192 (d + 2) Th Q m (jI to) (jI ((n + 1 : Nat) : Int)) 0 (jI ((k + 1 : Nat) : Int)) (jI (lop g)) M := by
    intro hd
    refine h11_comesTo_192 ⟨hT 0 _ rfl, m + 19, hR 0 33 19 (by decide), m_ok_jI (hT 19 _ rfl) (by omega) (by omega) (by omega), ?_⟩
    rw [jInatN (n + 1) (by omega), hy]
    have n1 : g ≠ 43 := by omega
    have n2 : g ≠ 45 := by omega
    have n3 : g ≠ 42 := by omega
    by_cases h0 : y = 0
    · rw [if_pos h0]
      exact k0 (by simp [lcb, n1, n2, n3, hd, h0])
    · rw [if_neg h0]
      refine h203 ?_
      unfold lcb
      rw [if_neg n1, if_neg n2, if_neg n3, if_pos hd, if_neg h0]
      split <;> rfl
  by_cases h5 : lop g = 5
  · rw [if_pos h5]
    exact h192 (by rcases hg' with z | z | z | z | z | z | z | z <;> subst z <;> first | (left; rfl) | (exact absurd h5 (by decide)) | (right; rfl))
  rw [if_neg h5]
  by_cases h6 : lop g = 6
  · rw [if_pos h6]
    exact h192 (by rcases hg' with z | z | z | z | z | z | z | z <;> subst z <;> first | (left; rfl) | (exact absurd h6 (by decide)) | (right; rfl))
  rw [if_neg h6]
  refine h203 ?_
  rcases hg' with z | z | z | z | z | z | z | z <;> subst z <;> first | rfl | exact absurd rfl h5 | exact absurd rfl h6
theorem kRun_jn {g : Int} {a r : lR} {c : Nat} (hT : LyM Th m) (hg : isS g = true ∨ isP g = true ∨ isC g = true) (hr0 : r.1.2 = 0) (ha : kRun d Th m a.2.1 c a.2.2) (hr : kRun d Th m r.2.1 (c + a.2.1.length) r.2.2) : kRun d Th m (ljn g a r).2.1 c (ljn g a r).2.2 := by
  have e : ljn g a r = (r.1, (a.2.1 ++ r.2.1 ++ [1048576 * lop g], fun e => ((lcb g (a.2.2 e).1 (r.2.2 e).1).1, (a.2.2 e).2 || (r.2.2 e).2 || (lcb g (a.2.2 e).1 (r.2.2 e).1).2))) := by unfold ljn; rw [if_neg (by omega)]
  rw [e]
  intro en n to M Q hR hc he h1 h2 h3 k1 k0
  simp only [List.length_append, List.length_cons, List.length_nil] at h1 h3 k1
  have cA : ∀ j x, a.2.1[j]? = some x → M.1 (m + 14) (c + j) = jI x := fun j x hj => hc j x (by
    have := (List.getElem?_eq_some_iff.mp hj).1
    rw [List.getElem?_append_left (by simp only [List.length_append, List.length_cons, List.length_nil]; omega), List.getElem?_append_left (by omega)]; exact hj)
  have cR : ∀ j x, r.2.1[j]? = some x → M.1 (m + 14) (c + a.2.1.length + j) = jI x := fun j x hj => by
    have := (List.getElem?_eq_some_iff.mp hj).1
    rw [Nat.add_assoc]
    refine hc _ x ?_
    rw [List.getElem?_append_left (by simp; omega), List.getElem?_append_right (by omega)]
    simpa using hj
  have cO : M.1 (m + 14) (c + (a.2.1.length + r.2.1.length)) = jI (1048576 * lop g) := hc _ _ (by
    rw [List.getElem?_append_right (by simp)]
    simp)
  refine ha en n to M Q hR cA he (by omega) h2 (by omega) ?_ ?_
  rotate_left
  · intro hf M1 e1
    exact k0 (by simp [hf]) M1 e1
  intro hfa M1 e1 v1
  have up : ∀ k, M1.1 (m + 14) k = M.1 (m + 14) k := fun k => (e1 _ _ (by unfold ksk; omega)).1
  refine hr en (n + 1) to M1 Q (ksk_rf hR e1) (fun j x hj => by rw [up]; exact cR j x hj) (he.mv e1) (by omega) h2 (by omega) ?_ ?_
  rotate_left
  · intro hf M2 e2
    exact k0 (by simp [hf]) M2 (e1.trans (e2.mono (fun q k z => ⟨z.1, by have := z.2; omega⟩)))
  intro hfr M2 e2 v2
  have e12 : Eo (ksk m n) M M2 := e1.trans (e2.mono (fun q k z => ⟨z.1, by have := z.2; omega⟩))
  have v1' : M2.1 (m + 19) n = (a.2.2 en).1 := ((e2 _ _ (by unfold ksk; omega)).1).trans v1
  have up2 : ∀ k, M2.1 (m + 14) k = M.1 (m + 14) k := fun k => (e12 _ _ (by unfold ksk; omega)).1
  rw [show c + a.2.1.length + r.2.1.length = c + (a.2.1.length + r.2.1.length) by omega]
  refine kC_op hT (ksk_rf hR e12) (by rw [up2]; exact cO) (by omega) h2 (by omega) hg v1' v2 ?_ ?_
  · intro hf
    have := k1 (by simp [hfa, hfr, hf]) (m_ui M2 (m + 19) n (lcb g (a.2.2 en).1 (r.2.2 en).1).1) (e12.trans (Eo.rf.ui ⟨rfl, Nat.le_refl _⟩)) (by simp [m_u])
    simpa only [Nat.add_assoc] using this
  · intro hf
    exact k0 (by simp [hf]) M2 e12
/-- a jump -/
theorem kC_jump {Q : Int32 → mM → Prop} {orr : Bool} {n to k t : Nat} {x : Int32} (hT : LyM Th m) (hR : RfM m M) (hc : M.1 (m + 14) k = jI (1048576 * (if orr then 12 else 11) + (t : Int))) (hk : k < to) (hto : to ≤ 210) (ht : t ≤ 210) (hn : n ≤ 212) (hx : M.1 (m + 19) n = x) (hb : b01 x)
    (k1 : (x = 0 ↔ orr = false) → kC d Th Q m to (n + 1) t M) (k0 : ¬ (x = 0 ↔ orr = false) → kC d Th Q m to n (k + 1) M) : kC d Th Q m to (n + 1) k M := by
  have hop : (1048576 * (if orr then 12 else 11) + (t : Int)) / 1048576 = (if orr then 12 else 11) := by cases orr <;> simp <;> omega
  have hrm : (1048576 * (if orr then 12 else 11) + (t : Int)) % 1048576 = t := by cases orr <;> simp <;> omega
  have hbd : 0 ≤ (1048576 * (if orr then 12 else 11) + (t : Int)) ∧ (1048576 * (if orr then 12 else 11) + (t : Int)) < 16777216 := by cases orr <;> simp <;> omega
  have h135 : H11_comesTo_135 (d + 2) Th Q m (jI to) (jI ((n + 1 : Nat) : Int)) 0 (jI ((k + 1 : Nat) : Int)) (jI (if orr then 12 else 11)) (jI (t : Int)) M := by
    refine h11_comesTo_135 ⟨hT 0 _ rfl, m + 19, hR 0 33 19 (by decide), ?_⟩
    rw [jI_p]
    refine ⟨m_ok_jI (hT 19 _ rfl) (by omega) (by omega) (by omega), ?_⟩
    rw [jInatN n (by omega), hx]
    have hsel : (if jI (if orr then 12 else 11) = 12 then (1 : Int32) else 0) = jB orr := by cases orr <;> decide
    rw [hsel]
    by_cases h : (x = 0 ↔ orr = false)
    · rw [if_pos (by
        rcases hb with z | z <;> cases orr <;> rw [z] at h ⊢ <;> first | rfl | (exfalso; revert h; decide))]
      intro xv5 h5
      rw [h5, i0, jI_add, Int.zero_add]
      exact k1 h
    · rw [if_neg (by
        rcases hb with z | z <;> cases orr <;> rw [z] at h ⊢ <;> first | decide | (exfalso; revert h; decide))]
      intro xv6 h6
      rw [h6]
      exact k0 h
  refine h11_comesTo_16 ?_
  rw [if_neg (by rw [jIle (rI_nat (by omega)) (rI_nat (by omega))]; omega)]
  refine ⟨hT 0 _ rfl, m + 14, hR 0 28 14 (by decide), m_ok_jI (hT 14 _ rfl) (by omega) (by omega) (by omega), ?_⟩
  rw [jInatN k (by omega), hc, iU, jI_rem (by omega) (by omega) (by omega) (by omega), jI_div (by omega) (by omega) (by omega) (by omega), jI_s, hop, hrm]
  intro xv9 h9 xv10 h10 xv11 h11
  subst h9 h10 h11
  cases orr with
  | false =>
    rw [if_neg (by decide), if_neg (by decide), if_neg (by decide), if_pos (by decide)]
    exact h135
  | true =>
    rw [if_neg (by decide), if_neg (by decide), if_neg (by decide), if_neg (by decide), if_pos (by decide)]
    exact h135
theorem kRun_jb {orr : Bool} {a r : lR} {c : Nat} (hT : LyM Th m) (hr0 : r.1.2 = 0) (hb : ∀ e, b01 (a.2.2 e).1) (ha : kRun d Th m a.2.1 c a.2.2) (hr : kRun d Th m r.2.1 (c + a.2.1.length + 1) r.2.2) : kRun d Th m (ljb orr c a r).2.1 c (ljb orr c a r).2.2 := by
  have e : ljb orr c a r = (r.1, (a.2.1 ++ [1048576 * (if orr then 12 else 11) + ((c + a.2.1.length + 1 + r.2.1.length : Nat) : Int)] ++ r.2.1,
    fun e => (if ((a.2.2 e).1 = 0 ↔ orr = false) then (a.2.2 e).1 else (r.2.2 e).1, (a.2.2 e).2 || (if ((a.2.2 e).1 = 0 ↔ orr = false) then false else (r.2.2 e).2)))) := by unfold ljb; rw [if_neg (by omega)]
  rw [e]
  intro en n to M Q hR hc he h1 h2 h3 k1 k0
  simp only [List.length_append, List.length_cons, List.length_nil] at h1 h3 k1
  have cA : ∀ j x, a.2.1[j]? = some x → M.1 (m + 14) (c + j) = jI x := fun j x hj => hc j x (by
    have := (List.getElem?_eq_some_iff.mp hj).1
    rw [List.getElem?_append_left (by simp only [List.length_append, List.length_cons, List.length_nil]; omega), List.getElem?_append_left (by omega)]; exact hj)
  have cR : ∀ j x, r.2.1[j]? = some x → M.1 (m + 14) (c + a.2.1.length + 1 + j) = jI x := fun j x hj => by
    have := (List.getElem?_eq_some_iff.mp hj).1
    rw [show c + a.2.1.length + 1 + j = c + (a.2.1.length + 1 + j) by omega]
    refine hc _ x ?_
    rw [List.getElem?_append_right (by simp)]
    simp only [List.length_append, List.length_cons, List.length_nil]
    rw [show a.2.1.length + 1 + j - (a.2.1.length + (0 + 1)) = j by omega]
    exact hj
  have cO : M.1 (m + 14) (c + a.2.1.length) = jI (1048576 * (if orr then 12 else 11) + ((c + a.2.1.length + 1 + r.2.1.length : Nat) : Int)) := hc _ _ (by
    rw [List.getElem?_append_left (by simp), List.getElem?_append_right (Nat.le_refl _)]
    simp)
  refine ha en n to M Q hR cA he (by omega) h2 (by omega) ?_ ?_
  rotate_left
  · intro hf M1 e1
    exact k0 (by simp [hf]) M1 e1
  intro hfa M1 e1 v1
  have up : ∀ k, M1.1 (m + 14) k = M.1 (m + 14) k := fun k => (e1 _ _ (by unfold ksk; omega)).1
  refine kC_jump hT (ksk_rf hR e1) (by rw [up]; exact cO) (by omega) h2 (by omega) (by omega) v1 (hb en) ?_ ?_
  · intro h
    simp only [if_pos h] at k1
    have := k1 (by simp [hfa]) M1 e1 v1
    rw [show c + a.2.1.length + 1 + r.2.1.length = c + (a.2.1.length + (0 + 1) + r.2.1.length) by omega]
    exact this
  · intro h
    simp only [if_neg h] at k1 k0
    refine hr en n to M1 Q (ksk_rf hR e1) (fun j x hj => by rw [up]; exact cR j x hj) (he.mv e1) (by omega) h2 (by omega) ?_ ?_
    · intro hf M2 e2 v2
      have := k1 (by simp [hfa, hf]) M2 (e1.trans e2) v2
      rw [show c + a.2.1.length + 1 + r.2.1.length = c + (a.2.1.length + (0 + 1) + r.2.1.length) by omega]
      exact this
    · intro hf M2 e2
      exact k0 (by simp [hf]) M2 (e1.trans e2)
theorem kRun_not {r : lR} {c : Nat} (hT : LyM Th m) (hr0 : r.1.2 = 0) (hb : ∀ e, b01 (r.2.2 e).1) (hr : kRun d Th m r.2.1 c r.2.2) : kRun d Th m (lnot r).2.1 c (lnot r).2.2 := by
  have e : lnot r = (r.1, (r.2.1 ++ [1048576 * 10], fun e => (if (r.2.2 e).1 = 0 then 1 else 0, (r.2.2 e).2))) := by unfold lnot; rw [if_neg (by omega)]
  rw [e]
  intro en n to M Q hR hc he h1 h2 h3 k1 k0
  simp only [List.length_append, List.length_cons, List.length_nil] at h1 h3 k1
  have cR : ∀ j x, r.2.1[j]? = some x → M.1 (m + 14) (c + j) = jI x := fun j x hj => hc j x (by
    have := (List.getElem?_eq_some_iff.mp hj).1
    rw [List.getElem?_append_left (by omega)]; exact hj)
  have cO : M.1 (m + 14) (c + r.2.1.length) = jI (1048576 * 10) := hc _ _ (by
    rw [List.getElem?_append_right (Nat.le_refl _)]
    simp)
  refine hr en n to M Q hR cR he (by omega) h2 (by omega) ?_ k0
  intro hf M1 e1 v1
  have up : ∀ k, M1.1 (m + 14) k = M.1 (m + 14) k := fun k => (e1 _ _ (by unfold ksk; omega)).1
  have hR1 := ksk_rf hR e1
  refine h11_comesTo_16 ?_
  rw [if_neg (by rw [jIle (rI_nat (by omega)) (rI_nat (by omega))]; omega)]
  refine ⟨hT 0 _ rfl, m + 14, hR1 0 28 14 (by decide), m_ok_jI (hT 14 _ rfl) (by omega) (by omega) (by omega), ?_⟩
  rw [jInatN _ (by omega), up, cO, iU, jI_rem (by omega) (by omega) (by omega) (by omega), jI_div (by omega) (by omega) (by omega) (by omega), jI_s, show (1048576 * 10 / 1048576 : Int) = 10 by decide]
  intro xv9 h9 xv10 h10 xv11 h11
  subst h9 h10 h11
  rw [if_neg (by decide), if_neg (by decide), if_pos (by decide)]
  refine ⟨m + 19, hR1 0 33 19 (by decide), ?_⟩
  rw [jI_p]
  refine ⟨m_ok_jI (hT 19 _ rfl) (by omega) (by omega) (by omega), m_okw_jI (hT 19 _ rfl) (by omega) (by omega) (by omega), ?_⟩
  rw [jInatN n (by omega), v1]
  have hv : 1 - (r.2.2 en).1 = if (r.2.2 en).1 = 0 then 1 else 0 := by
    rcases hb en with z | z <;> rw [z] <;> decide
  rw [hv]
  have := k1 hf (m_ui M1 (m + 19) n (if (r.2.2 en).1 = 0 then 1 else 0)) (e1.trans (Eo.rf.ui ⟨rfl, Nat.le_refl _⟩)) (by simp [m_u])
  simpa only [Nat.add_assoc] using this
end LX
