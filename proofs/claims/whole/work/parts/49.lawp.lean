/-! ===== factors, sums, as the model reads them ===== -/
section LP
variable {d : Nat} {Th : mT} {M : mM} {m : Nat} {w : Nat → Int} {L : Nat} {i o : Nat} {W C : List Int}
/-- the reader goes one on -/
theorem kst_place {j : Nat} (hs : kst m w L i o W C M) : kst m w L j o W C (m_ui M m 13 (jI j)) := by
  obtain ⟨c1, c2, c3, c4, c5, c6, c7, c8, c9, c10⟩ := hs
  exact ⟨by simp [m_u], by simp [m_u, c2], by simp [m_u, c3], by simp [m_u, c4], by simp [m_u, c5], stk_mv (M := M) (fun j _ => by simp [m_u]) c6, fun j z hz => by simp [m_u, c7 j z hz], fun j hj => by simp [m_u, c8 j hj], c9, c10⟩
theorem kst_fld {k : Nat} {x : Int32} (hk : k = 20 ∨ k = 15 ∨ k = 19) (hs : kst m w L i o W C M) : kst m w L i o W C (m_ui M m k x) := by
  obtain ⟨c1, c2, c3, c4, c5, c6, c7, c8, c9, c10⟩ := hs
  have n13 : (13 : Nat) ≠ k := by omega
  have n14 : (14 : Nat) ≠ k := by omega
  have n16 : (16 : Nat) ≠ k := by omega
  have n17 : (17 : Nat) ≠ k := by omega
  have n18 : (18 : Nat) ≠ k := by omega
  exact ⟨by simp [m_u, c1, n13], by simp [m_u, c2, n14], by simp [m_u, c3, n16], by simp [m_u, c4, n17], by simp [m_u, c5, n18], stk_mv (M := M) (fun j _ => by simp [m_u]) c6, fun j z hz => by simp [m_u, c7 j z hz], fun j hj => by simp [m_u, c8 j hj], c9, c10⟩
theorem s11_readsNumber {Q : Int32 → mM → Prop} (hk : kOk Th m w L) (hi0 : i ≤ L)
    (hs : kst m w L i o W C M) (hR0 : RfM m M)
    (k0 : isD (lsg w L (ldig w L 5 i 0).1) = true → ∀ M', kfa m ((ldig w L 5 i 0).1, 2) M' → Eo (krd m) M M' → Q 0 M')
    (k1 : isD (lsg w L (ldig w L 5 i 0).1) = false → ∀ M', kst m w L (ldig w L 5 i 0).1 o W C M' → M'.1 m 20 = jI (ldig w L 5 i 0).2 → 0 ≤ (ldig w L 5 i 0).2 → (ldig w L 5 i 0).2 < 100000 → Eo (krd m) M M' → Q 1 M') : P11_readsNumber (d + 3) Th m M Q := by
  have hL := hk.2.1
  have key : ∀ (u j : Nat) (v : Int) (M1 : mM), u + j = 5 → RfM m M1 → kst m w L (i + j) o W C M1 → M1.1 m 20 = jI v → 0 ≤ v → v < 10 ^ j → Eo (krd m) M M1 → ldig w L u (i + j) v = ldig w L 5 i 0 → H11_readsNumber_10 (d + 3) Th Q m (jI i) M1 := by
    intro u
    induction u with
    | zero =>
      intro j v M1 hu hR hs hv hv0 hv1 he hl
      have hj : j = 5 := by omega
      subst hj
      rw [← hl] at k0 k1
      have hv5 : v < 100000 := hv1
      refine h11_readsNumber_10 ⟨hk.1 0 _ rfl, ?_⟩
      refine s11_isDigit hk hR hs (by omega) ?_
      cases hD : isD (lsg w L (i + 5)) with
      | false =>
        rw [if_pos (show jB false = 0 from rfl)]
        exact k1 hD M1 hs hv hv0 hv5 he
      | true =>
        rw [if_neg (by decide)]
        rw [hs.1]
        rw [if_pos (by rw [i5, jI_add]; rfl)]
        rw [i2]
        refine s11_wrong hk ⟨mb0, ?_⟩
        refine k0 hD _ ?_ (he.trans (Eo.rf.ui (Or.inl ⟨rfl, by omega, by omega, by omega⟩)))
        unfold kfa
        simp only [m_u_eq]
        rfl
    | succ u ih =>
      intro j v M1 hu hR hs hv hv0 hv1 he hl
      have hp5 : (10 : Int) ^ j ≤ 10000 := by
        have : j = 0 ∨ j = 1 ∨ j = 2 ∨ j = 3 ∨ j = 4 := by omega
        rcases this with rfl | rfl | rfl | rfl | rfl <;> decide
      refine h11_readsNumber_10 ⟨hk.1 0 _ rfl, ?_⟩
      refine s11_isDigit hk hR hs (by omega) ?_
      cases hD : isD (lsg w L (i + j)) with
      | false =>
        rw [if_pos (show jB false = 0 from rfl)]
        rw [ldig, hD] at hl
        have hl' : (i + j, v) = ldig w L 5 i 0 := hl
        rw [← hl'] at k1
        exact k1 hD M1 hs hv hv0 (by show v < 100000; omega) he
      | true =>
        rw [if_neg (by decide)]
        rw [hs.1, i5, jI_add]
        rw [if_neg (by rw [jIeq (rI_nat (by omega)) (rI_of (by omega) (by omega))]; omega)]
        refine s11_here hk hR hs (by omega) ?_
        intro M8 h8
        have hD2 := (isD_iff _).mp hD
        rw [hv, show (48 : Int32) = jI 48 from rfl, i10, jI_mul, jI_add, jI_sub] at h8
        have g13 : M8.1 m 13 = jI ((i + j : Nat) : Int) := by rw [h8]; simp [m_u, hs.1]
        rw [g13, i1, jI_add]
        have s8 : kst m w L (i + j) o W C M8 := by rw [h8]; exact kst_fld (Or.inl rfl) hs
        have e1 : ((i + j : Nat) : Int) + 1 = ((i + (j + 1) : Nat) : Int) := by omega
        rw [e1]
        refine ih (j + 1) (10 * v + lsg w L (i + j) - 48) _ (by omega) ?_ (kst_place s8) ?_ (by omega) ?_ ?_ ?_
        · rw [h8]; exact hR.mv rfl
        · rw [h8]; simp [m_u]
        · rw [Int.pow_succ]; omega
        · rw [h8]; exact he.trans ((Eo.rf.ui (Or.inl ⟨rfl, by omega, by omega, by omega⟩)).ui (Or.inl ⟨rfl, by omega, by omega, by omega⟩))
        · rw [ldig, hD] at hl
          exact hl
  refine e11_readsNumber ⟨hk.1 0 _ rfl, ?_⟩
  intro xv2 hx
  rw [hx, hs.1]
  refine key 5 0 0 _ rfl (hR0.mv rfl) (kst_fld (Or.inl rfl) hs) (by simp [m_u]; rfl) (by omega) (by decide) (Eo.rf.ui (Or.inl ⟨rfl, by omega, by omega, by omega⟩)) rfl
theorem s11_factOf {Q : Int32 → mM → Prop} {g : Int} (hg : -1 ≤ g ∧ g ≤ 255) (k : Q (jI (match llt g with | some (_, kk) => (kk : Int) | none => -1)) M) : P11_factOf (d + 1) Th (jI g) M Q := by
  have rg : rI g := rI_of (by omega) (by omega)
  refine e11_factOf ?_
  simp only [show (98 : Int32) = jI 98 from rfl, show (99 : Int32) = jI 99 from rfl, show (102 : Int32) = jI 102 from rfl, show (104 : Int32) = jI 104 from rfl, show (110 : Int32) = jI 110 from rfl, show (113 : Int32) = jI 113 from rfl, show (114 : Int32) = jI 114 from rfl, show (116 : Int32) = jI 116 from rfl,
    jIeq rg (rI_of (z := 98) (by omega) (by omega)), jIeq rg (rI_of (z := 99) (by omega) (by omega)), jIeq rg (rI_of (z := 102) (by omega) (by omega)), jIeq rg (rI_of (z := 104) (by omega) (by omega)), jIeq rg (rI_of (z := 110) (by omega) (by omega)), jIeq rg (rI_of (z := 113) (by omega) (by omega)), jIeq rg (rI_of (z := 114) (by omega) (by omega)), jIeq rg (rI_of (z := 116) (by omega) (by omega))]
  unfold llt at k
  by_cases h1 : g = 99
  · subst h1; exact k
  by_cases h2 : g = 98
  · subst h2; exact k
  by_cases h3 : g = 113
  · subst h3; exact k
  by_cases h4 : g = 104
  · subst h4; exact k
  by_cases h5 : g = 114
  · subst h5; exact k
  by_cases h6 : g = 116
  · subst h6; exact k
  by_cases h7 : g = 110
  · subst h7; exact k
  by_cases h8 : g = 102
  · subst h8; exact k
  simp only [if_neg h1, if_neg h2, if_neg h3, if_neg h4, if_neg h5, if_neg h6, if_neg h7, if_neg h8] at k ⊢
  exact k
theorem llt_b {g : Int} {p q : Nat} (h : llt g = some (p, q)) : q < 8 ∧ p < 8 := by
  unfold llt at h
  repeat (split at h; · simp at h; omega)
  simp at h
/-- where the sum that is read ends, nothing but its own operations stands above the base -/
theorem khos_not {P W : List Int} {b : Nat} (hb : b = W.length) (hP : ∀ x, x ∈ P → kcn true x) : ¬ khos (P ++ W) b := by
  intro ⟨k, h1, h2, h3⟩
  have : ∀ P : List Int, (∀ x, x ∈ P → kcn true x) → k < (P ++ W).length → W.length ≤ k → ¬ kent (P ++ W) k / 1048576 = 14 := by
    intro P
    induction P with
    | nil => intro _ h h'; simp at h; omega
    | cons x r ih =>
      intro hP h h'
      show ¬ (if k = (r ++ W).length then x else kent (r ++ W) k) / 1048576 = 14
      by_cases e : k = (r ++ W).length
      · rw [if_pos e]
        have := hP x (by simp)
        unfold kcn at this
        omega
      · rw [if_neg e]
        refine ih (fun y hy => hP y (by simp [hy])) ?_ h'
        simp only [List.cons_append, List.length_cons] at h
        omega
  exact this P hP h2 (by omega) h3
theorem kent_low : ∀ (P W : List Int) (k : Nat), k < W.length → kent (P ++ W) k = kent W k := by
  intro P
  induction P with
  | nil => intro W k _; rfl
  | cons x r ih =>
    intro W k hk
    show (if k = (r ++ W).length then x else kent (r ++ W) k) = _
    rw [if_neg (by simp; omega)]
    exact ih W k hk
theorem khos_open {P W : List Int} {b : Nat} (hb : b ≤ W.length) : khos (P ++ (1048576 * 14) :: W) b := by
  refine ⟨W.length, hb, by simp; omega, ?_⟩
  rw [kent_low P _ _ (by simp)]
  show (if W.length = W.length then (1048576 * 14 : Int) else kent W W.length) / 1048576 = 14
  rw [if_pos rfl]
  decide
theorem kbd_R (h : kbd i W C) : W.length ≤ 201 ∧ C.length ≤ 201 ∧ i ≤ 201 := by
  unfold kbd at h; omega
/-- the end of a sum in the loop, if there is nothing to go on with -/
theorem kLH_end {Q : Int32 → mM → Prop} {b : Nat} {P : List Int} (hk : kOk Th m w L) (hR : RfM m M) (hs : kst m w L i o (P ++ W) C M) (hb : kbd i (P ++ W) C) (hn : isS (lsg w L i) = false ∧ isP (lsg w L i) = false) (hP : ∀ x, x ∈ P → kcn true x) (hW : ktp W) (hbW : b = W.length)
    (k : ∀ M', kst m w L i o W (kfl C P) M' → Eo (krd m) M M' → Q 1 M') : kLH d Th Q m b M := by
  have hbb := kbd_R hb
  have hgb := lsg_b (w := w) (L := L) (i := i) hk.2.2
  have hwl : (P ++ W).length = P.length + W.length := by simp
  have hno := khos_not hbW hP
  have h138 : H11_readsSum_138 (d + 5) Th Q m (jI b) M := by
    refine h11_readsSum_138 ⟨hk.1 0 _ rfl, ?_⟩
    refine s11_hasOpenSum (by omega) hk hR hs (by omega) (fun z => absurd z hno) (fun _ => ?_)
    rw [if_pos rfl]
    refine e11_closesSums ?_
    obtain ⟨b1, b2, b3⟩ := hb
    have hwP : kwg P = P.length := kcn_wg hP
    rw [kwg_app, hwP] at b2
    refine s11_closesSums (all := true) (d := d + 2) (L := L) hk P W C M hR hs hP (ktp_tn _ hW) (by omega) (by omega) ?_
    intro M' a1 a2
    exact k M' a1 a2
  refine h11_readsSum_14 ⟨hk.1 0 _ rfl, s11_here hk hR hs (by omega) ?_⟩
  refine s11_sumSign hgb ?_
  rw [hn.1, hn.2]
  rw [if_pos (show jI (if (false || false) = true then lop (lsg w L i) else -1) = -1 from rfl)]
  refine s11_here hk hR hs (by omega) ?_
  simp only [jq93 (z := lsg w L i) (rI_of (by omega) (by omega))]
  by_cases h93 : lsg w L i = 93
  · rw [if_pos h93]
    refine s11_hasOpenSum (by omega) hk hR hs (by omega) (fun z => absurd z hno) (fun _ => ?_)
    rw [if_pos rfl]
    exact h138
  · rw [if_neg h93]; exact h138
/-- the end of a sum in [ ] -/
theorem kLH_close {Q : Int32 → mM → Prop} {b : Nat} {P : List Int} (hk : kOk Th m w L) (hR : RfM m M) (hs : kst m w L i (o + 1) (P ++ (1048576 * 14) :: W) C M) (hb : kbd i (P ++ (1048576 * 14) :: W) C) (hn : isS (lsg w L i) = false ∧ isP (lsg w L i) = false) (hP : ∀ x, x ∈ P → kcn true x) (hbW : b ≤ W.length)
    (k1 : lsg w L i = 93 → ∀ M', kst m w L (i + 1) o W (kfl C P) M' → kbd (i + 1) W (kfl C P) → Eo (krd m) M M' → kLH d Th Q m b M')
    (k0 : lsg w L i ≠ 93 → ∀ M', kfa m (i, 1) M' → Eo (krd m) M M' → Q 0 M') : kLH d Th Q m b M := by
  have hbb := kbd_R hb
  have hgb := lsg_b (w := w) (L := L) (i := i) hk.2.2
  have hwl : (P ++ (1048576 * 14) :: W).length = P.length + W.length + 1 := by simp; omega
  have hyes := khos_open (P := P) hbW
  refine h11_readsSum_14 ⟨hk.1 0 _ rfl, s11_here hk hR hs (by omega) ?_⟩
  refine s11_sumSign hgb ?_
  rw [hn.1, hn.2]
  rw [if_pos (show jI (if (false || false) = true then lop (lsg w L i) else -1) = -1 from rfl)]
  refine s11_here hk hR hs (by omega) ?_
  simp only [jq93 (z := lsg w L i) (rI_of (by omega) (by omega))]
  by_cases h93 : lsg w L i = 93
  · rw [if_pos h93]
    refine s11_hasOpenSum (by omega) hk hR hs (by omega) (fun _ => ?_) (fun z => absurd hyes z)
    rw [if_neg (by decide)]
    refine e11_closesSums ?_
    obtain ⟨b1, b2, b3⟩ := hb
    have hwP : kwg P = P.length := kcn_wg hP
    rw [kwg_app, hwP] at b2
    refine s11_closesSums (all := true) (d := d + 2) (L := L) hk P ((1048576 * 14) :: W) C M hR hs hP (ktp_tn _ (by show (7 : Int) ≤ 1048576 * 14 / 1048576; decide)) (by omega) (by omega) ?_
    intro M10 a1 a2 M12 h12 M13 h13
    obtain ⟨p1, p2⟩ := kst_pop a1 (by omega)
    rw [← h12] at p2
    have g16 : M12.1 m 16 = jI ((o + 1 : Nat) : Int) := p2.2.2.1
    rw [g16, i1, jI_sub, show ((o + 1 : Nat) : Int) - 1 = (o : Int) by omega] at h13
    have g13 : M13.1 m 13 = jI i := by rw [h13]; simp [m_u]; exact p2.1
    rw [g13, i1, jI_add, show (i : Int) + 1 = ((i + 1 : Nat) : Int) by omega]
    have s13 : kst m w L i o W (kfl C P) M13 := by
      obtain ⟨c1, c2, c3, c4, c5, c6, c7, c8, c9, c10⟩ := p2
      rw [h13]
      exact ⟨by simp [m_u, c1], by simp [m_u, c2], by simp [m_u], by simp [m_u, c4], by simp [m_u, c5], stk_mv (M := M12) (fun j _ => by simp [m_u]) c6, fun j z hz => by simp [m_u, c7 j z hz], fun j hj => by simp [m_u, c8 j hj], c9, c10⟩
    refine k1 h93 _ (kst_place s13) ⟨by omega, ?_, ?_⟩ ?_
    · rw [kfl_len]
      simp only [kwg] at b2
      omega
    · have : i < L := lsg_in (w := w) (by omega)
      have := hk.2.1
      omega
    · rw [h13, h12]
      exact a2.trans (((Eo.rf.ui (Or.inl ⟨rfl, by omega, by omega, by omega⟩)).ui (Or.inl ⟨rfl, by omega, by omega, by omega⟩)).ui (Or.inl ⟨rfl, by omega, by omega, by omega⟩))
  · rw [if_neg h93]
    refine h11_readsSum_138 ⟨hk.1 0 _ rfl, ?_⟩
    refine s11_hasOpenSum (by omega) hk hR hs (by omega) (fun _ => ?_) (fun z => absurd hyes z)
    rw [if_neg (by decide), hs.1, i1]
    refine s11_wrong hk ⟨mb0, ?_⟩
    refine k0 h93 _ ?_ (Eo.rf.ui (Or.inl ⟨rfl, by omega, by omega, by omega⟩))
    unfold kfa
    simp only [m_u_eq]
    rfl
end LP
