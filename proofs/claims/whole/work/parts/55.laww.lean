/-! ===== the model's law: the text is read and kept ===== -/
section LW
variable {d : Nat} {Th : mT} {M : mM} {m : Nat} {w : Nat → Int} {L : Nat} {i o : Nat} {W C : List Int}
def lcod : List lC → List Int
  | [] => []
  | a :: t => a.2.2.1.1 ++ a.2.2.2.1 ++ lcod t
def ltab : Nat → List lC → List kT
  | _, [] => []
  | c, a :: t => (a.2.1, c, c + a.2.2.1.1.length, c + lcn a) :: ltab (c + lcn a) t
theorem ltab_len : ∀ (l : List lC) (c : Nat), (ltab c l).length = l.length := by
  intro l
  induction l with
  | nil => intro c; rfl
  | cons a t ih => intro c; simp only [ltab, List.length_cons]; rw [ih]
theorem s11_takes {Q : Int32 → mM → Prop} {g : Int} (hk : kOk Th m w L) (hR : RfM m M) (hs : kst m w L i o W C M) (hi : i ≤ 300) (hg : 0 ≤ g ∧ g ≤ 255)
    (k1 : lsg w L i = g → Q 1 (m_ui M m 13 (jI ((i + 1 : Nat) : Int)))) (k0 : lsg w L i ≠ g → ∀ M', kfa m (i, 1) M' → Eo (krt m) M M' → Q 0 M') : P11_takes (d + 2) Th m (jI g) M Q := by
  have hgb := lsg_b (w := w) (L := L) (i := i) hk.2.2
  refine e11_takes ⟨hk.1 0 _ rfl, s11_here hk hR hs hi ?_⟩
  by_cases h : lsg w L i = g
  · rw [if_pos (by rw [h]), hs.1, i1, jI_add]
    exact k1 h
  · rw [if_neg (by rw [jIeq (rI_of (by omega) (by omega)) (rI_of (by omega) (by omega))]; exact h), hs.1, i1]
    refine s11_wrong hk ⟨mb0, ?_⟩
    refine k0 h _ ?_ (Eo.rf.ui (Or.inl ⟨rfl, by omega, by omega⟩))
    unfold kfa
    simp only [m_u_eq]
    rfl
theorem s11_law_h {Q : Int32 → mM → Prop} (hk : kOk Th m w L) : ∀ (u i : Nat) (C : List Int) (T : List kT) (M : mM) (Q' : Int32 → mM → Prop), u + T.length = 15 → T.length ≤ 14 → RfM m M → kwk m w L i C M → C.length ≤ i → i ≤ L + 1 → ktb m T M →
    (∀ M', H11_law_46 (d + 10) Th Q m 1 M' → Q' 1 M') → (∀ M', H11_law_46 (d + 10) Th Q m 0 M' → Q' 0 M') →
    ((lall w L u i T.length C.length).1.2 = 0 → ∀ M', RfM m M' → kst m w L (lall w L u i T.length C.length).1.1 0 [] (C ++ lcod (lall w L u i T.length C.length).2) M' → (C ++ lcod (lall w L u i T.length C.length).2).length ≤ 201 → ktb m (T ++ ltab C.length (lall w L u i T.length C.length).2) M' → Eo (krt m) M M' → H11_law_86 (d + 10) Th Q m 1 M') →
    ((lall w L u i T.length C.length).1.2 ≠ 0 → ∀ M', kfa m (lall w L u i T.length C.length).1 M' → Eo (krt m) M M' → H11_law_86 (d + 10) Th Q m 0 M') → P11_readsClause (d + 9) Th m M Q' := by
  have hL := hk.2.1
  intro u
  induction u with
  | zero => intro i C T M Q' h1 h2; omega
  | succ u ih =>
    intro i C T M Q' h1 h2 hR hs hc hi hT q1 q0 k1 k0
    rw [lall] at k1 k0
    refine s11_readsClause (d := d) hk hR hs hc (by omega) hT h2 ?_ ?_
    rotate_left
    · intro f0 M' a1 a2
      rw [if_pos f0] at k0
      refine q0 M' (h11_law_46 ?_)
      rw [if_pos rfl]
      exact k0 f0 M' a1 a2
    intro f0 M' a1 a2 a3
    have G := lcl_gd f0
    have Gc := lcl_code f0
    have hpos : (lcl w L i T.length C.length).1.1 = (lcC w L i C.length).1.1 + 1 := by rw [G.2.2.2.2.2.2.2.2.2.1]
    have hRM' := krt_rf hR a3
    rw [if_neg (by omega)] at k1 k0
    have g12 := G.2.2.2.2.2.2.2.2.2.2.2
    rw [← Gc.1, ← Gc.2] at g12
    have hpL : (lcC w L i C.length).1.1 < L := G.2.2.2.2.2.2.2.2.1
    have hg3 := G.2.2.1
    have hgn := G.2.1
    have hg6 := G.2.2.2.2.2.1
    generalize lcl w L i T.length C.length = A at *
    have hcl : (C ++ (A.2.2.1.1 ++ A.2.2.2.1)).length = C.length + lcn A := by simp [lcn]
    have hcn : C.length + lcn A ≤ A.1.1 := by unfold lcn; omega
    refine q1 M' (h11_law_46 ?_)
    rw [if_neg (by decide)]
    refine ⟨hk.1 0 _ rfl, ?_⟩
    rw [a1.1, a1.2.1]
    by_cases hend : L ≤ A.1.1
    · rw [if_pos (by rw [jIle (rI_nat (by omega)) (rI_nat (by omega))]; omega)]
      have hsg : lsg w L A.1.1 = -1 := by unfold lsg; rw [if_neg (by omega)]
      rw [if_neg (by rw [hsg]; decide), if_neg (by omega)] at k1
      refine k1 rfl M' hRM' ?_ ?_ ?_ a3
      · simp only [lcod, List.append_nil]; exact a1
      · simp only [lcod, List.append_nil]; omega
      · simp only [ltab]; exact a2
    · rw [if_neg (by rw [jIle (rI_nat (by omega)) (rI_nat (by omega))]; omega)]
      rw [i59]
      refine s11_takes hk hRM' a1 (by omega) (by omega) ?_ ?_
      · intro h59
        rw [if_pos h59] at k1 k0
        rw [if_neg (by decide)]
        have tl : (T ++ [(A.2.1, C.length, C.length + A.2.2.1.1.length, C.length + lcn A)]).length = T.length + 1 := by simp
        have e2 : Eo (krt m) M' (m_ui M' m 13 (jI ((A.1.1 + 1 : Nat) : Int))) := Eo.rf.ui (Or.inl ⟨rfl, by omega, by omega⟩)
        refine ih (A.1.1 + 1) (C ++ (A.2.2.1.1 ++ A.2.2.2.1)) (T ++ [(A.2.1, C.length, C.length + A.2.2.1.1.length, C.length + lcn A)]) _ _ (by omega) (by omega) (hRM'.mv rfl) (kst_place a1).wk (by omega) (by omega) (a2.mv (Eo.rf.ui (Or.inl ⟨rfl, by omega, by omega, by omega⟩))) ?_ ?_ ?_ ?_
        · intro M2 h xv6 h6
          rw [if_neg (by decide)] at h6
          rw [h6]; exact h
        · intro M2 h xv6 h6
          rw [if_pos rfl] at h6
          rw [h6]; exact h
        · rw [tl, hcl]
          intro f1 M2 b0 b1 b1' b2 b3
          refine k1 f1 M2 b0 ?_ ?_ ?_ ((a3.trans e2).trans b3)
          · simp only [lcod]
            simpa only [List.append_assoc] using b1
          · simp only [lcod]
            simpa only [List.append_assoc] using b1'
          · simp only [ltab]
            simpa only [List.append_assoc, List.cons_append, List.nil_append] using b2
        · rw [tl, hcl]
          intro f1 M2 b1 b3
          exact k0 f1 M2 b1 ((a3.trans e2).trans b3)
      · intro h59 M2 b1 b2
        rw [if_neg h59, if_pos (by omega)] at k0
        rw [if_pos rfl]
        refine h11_law_46 ?_
        rw [if_pos rfl]
        exact k0 (by show (1 : Nat) ≠ 0; omega) M2 b1 (a3.trans b2)
/-- the law that the model keeps -/
def mLaw (m : Nat) (cls : List lC) (M : mM) : Prop := M.1 m 21 = jI cls.length ∧ (∀ k x, (lcod cls)[k]? = some x → M.1 (m + 14) k = jI x) ∧ ∀ j t, (ltab 0 cls)[j]? = some t → M.1 (m + 15) j = jI t.1 ∧ M.1 (m + 16) j = jI t.2.1 ∧ M.1 (m + 17) j = jI t.2.2.1 ∧ M.1 (m + 18) j = jI t.2.2.2
/-- what the model's law writes if it is kept, and if not -/
def klw (m : Nat) : Nat → Nat → Prop := fun q k => (q = m ∧ 12 ≤ k ∧ k ≤ 21) ∨ (m + 8 ≤ q ∧ q ≤ m + 18)
def klr (m : Nat) : Nat → Nat → Prop := fun q k => (q = m ∧ 12 ≤ k ∧ k ≤ 20) ∨ (m + 8 ≤ q ∧ q ≤ m + 13)
theorem krt_w {m : Nat} : ∀ q k, krt m q k → klw m q k := fun q k h => by unfold krt at h; unfold klw; omega
theorem krt_r {m : Nat} : ∀ q k, krt m q k → klr m q k := fun q k h => by unfold krt at h; unfold klr; omega
theorem klw_rf {m : Nat} {M M' : mM} (h : RfM m M) (he : Eo (klw m) M M') : RfM m M' := by
  intro o k v hv
  by_cases c : klw m (m + o) k
  · exfalso
    have : (o = 0 ∧ 12 ≤ k ∧ k ≤ 21) ∨ (8 ≤ o ∧ o ≤ 18) := by unfold klw at c; omega
    simp [rsM] at hv
    omega
  · rw [(he _ _ c).2.2]; exact h o k v hv
theorem jI_z (n : Nat) (h : n = 0) : (0 : Int32) = jI (n : Int) := by rw [h]; rfl
theorem s11_law_c {Q : Int32 → mM → Prop} {cls : List lC} (hk : kOk Th m w L) (hR : RfM m M) (hcl : (lcod cls).length ≤ 201) (hl : cls.length ≤ 14) (h19 : M.1 m 19 = jI cls.length) (h17 : M.1 m 17 = jI (lcod cls).length) (hC : ∀ k x, (lcod cls)[k]? = some x → M.1 (m + 8) k = jI x) (hT : ktb m (ltab 0 cls) M)
    (k : ∀ M', M'.1 m 12 = 0 → mLaw m cls M' → Eo (klw m) M M' → Q (jI cls.length) M') : H11_law_86 (d + 1) Th Q m 1 M := by
  refine h11_law_86 ⟨hk.1 0 _ rfl, ?_⟩
  rw [if_neg (by decide)]
  intro M3 h3
  have g19 : M3.1 m 19 = jI cls.length := by rw [h3]; simp [m_u, h19]
  rw [g19]
  have e0 : Eo (klw m) M (m_ui M3 m 21 (jI cls.length)) := by rw [h3]; exact (Eo.rf.ui (Or.inl ⟨rfl, by omega, by omega⟩)).ui (Or.inl ⟨rfl, by omega, by omega⟩)
  have z12 : (m_ui M3 m 21 (jI cls.length)).1 m 12 = 0 := by rw [h3]; simp [m_u]
  have z21 : (m_ui M3 m 21 (jI cls.length)).1 m 21 = jI cls.length := by simp [m_u]
  have zk : ∀ q k, q ≠ m → (m_ui M3 m 21 (jI cls.length)).1 q k = M.1 q k := by intro q k hq; rw [h3]; simp [m_u, hq]
  have z17 : (m_ui M3 m 21 (jI cls.length)).1 m 17 = jI (lcod cls).length := by rw [h3]; simp [m_u, h17]
  have z19 : (m_ui M3 m 21 (jI cls.length)).1 m 19 = jI cls.length := by rw [h3]; simp [m_u, h19]
  generalize m_ui M3 m 21 (jI cls.length) = M4 at *
  have hR4 := klw_rf hR e0
  -- the tables
  have tabs : ∀ (u j : Nat) (M1 : mM), u + j = cls.length → Eo (klw m) M M1 → RfM m M1 → M1.1 m 12 = 0 → M1.1 m 21 = jI cls.length → M1.1 m 19 = jI cls.length → (∀ k x, (lcod cls)[k]? = some x → M1.1 (m + 14) k = jI x) → (∀ q, m + 10 ≤ q → q ≤ m + 13 → ∀ k, M1.1 q k = M.1 q k) → (∀ i t, i < j → (ltab 0 cls)[i]? = some t → M1.1 (m + 15) i = jI t.1 ∧ M1.1 (m + 16) i = jI t.2.1 ∧ M1.1 (m + 17) i = jI t.2.2.1 ∧ M1.1 (m + 18) i = jI t.2.2.2) → H11_law_138 (d + 1) Th Q m (jI j) M1 := by
    intro u
    induction u with
    | zero =>
      intro j M1 hu he hR1 x12 x21 x19 xc xs xt
      refine h11_law_138 ⟨hk.1 0 _ rfl, ?_⟩
      rw [x19, if_pos (by rw [jIle (rI_nat (by omega)) (rI_nat (by omega))]; omega)]
      refine k M1 x12 ⟨x21, xc, fun i t hi => xt i t ?_ hi⟩ he
      have := (List.getElem?_eq_some_iff.mp hi).1
      rw [ltab_len] at this
      omega
    | succ u ih =>
      intro j M1 hu he hR1 x12 x21 x19 xc xs xt
      refine h11_law_138 ⟨hk.1 0 _ rfl, ?_⟩
      rw [x19, if_neg (by rw [jIle (rI_nat (by omega)) (rI_nat (by omega))]; omega)]
      have hj : j < (ltab 0 cls).length := by rw [ltab_len]; omega
      obtain ⟨t, ht⟩ : ∃ t, (ltab 0 cls)[j]? = some t := ⟨_, List.getElem?_eq_getElem hj⟩
      have g := hT.2 j t ht
      have ok : ∀ (a : Nat) (h : Th.2.2 a = some (.inr (.int, false, 14))), m_ok Th a .int (jI j) := fun a h => m_ok_jI h (by omega) (by omega) (by omega)
      have okw : ∀ (a : Nat) (h : Th.2.2 a = some (.inr (.int, false, 14))), m_okw Th a .int (jI j) := fun a h => m_okw_jI h (by omega) (by omega) (by omega)
      refine ⟨m + 15, hR1 0 29 15 (by decide), m + 10, hR1 0 24 10 (by decide), ok _ (hk.1 10 _ rfl), okw _ (hk.1 15 _ rfl), m + 16, hR1 0 30 16 (by decide), m + 11, hR1 0 25 11 (by decide), ok _ (hk.1 11 _ rfl), ?_⟩
      intro M13 h13
      refine ⟨okw _ (hk.1 16 _ rfl), m + 17, hR1 0 31 17 (by decide), m + 12, hR1 0 26 12 (by decide), ok _ (hk.1 12 _ rfl), ?_⟩
      intro M20 h20
      refine ⟨okw _ (hk.1 17 _ rfl), m + 18, hR1 0 32 18 (by decide), m + 13, hR1 0 27 13 (by decide), ok _ (hk.1 13 _ rfl), ?_⟩
      intro M27 h27
      refine ⟨okw _ (hk.1 18 _ rfl), ?_⟩
      rw [jInatN j (by omega)] at h13 h20 h27 ⊢
      rw [xs (m + 10) (by omega) (by omega), g.1] at h13
      rw [show M13.1 (m + 11) j = jI t.2.1 by rw [h13]; simp [m_u, xs (m + 11) (by omega) (by omega), g.2.1]] at h20
      rw [show M20.1 (m + 12) j = jI t.2.2.1 by rw [h20, h13]; simp [m_u, xs (m + 12) (by omega) (by omega), g.2.2.1]] at h27
      rw [show M27.1 (m + 13) j = jI t.2.2.2 by rw [h27, h20, h13]; simp [m_u, xs (m + 13) (by omega) (by omega), g.2.2.2]]
      rw [i1, jI_add, show (j : Int) + 1 = ((j + 1 : Nat) : Int) by omega, h27, h20, h13]
      refine ih (j + 1) _ (by omega) ?_ (hR1.mv rfl) (by simp [m_u, x12]) (by simp [m_u, x21]) (by simp [m_u, x19]) (fun k x hx => by simp [m_u, xc k x hx]) (fun q h1 h2 k => ?_) (fun i' t' hi ht' => ?_)
      · exact he.trans ((((Eo.rf.ui (Or.inr ⟨by omega, by omega⟩)).ui (Or.inr ⟨by omega, by omega⟩)).ui (Or.inr ⟨by omega, by omega⟩)).ui (Or.inr ⟨by omega, by omega⟩))
      · have n15 : q ≠ m + 15 := by omega
        have n16 : q ≠ m + 16 := by omega
        have n17 : q ≠ m + 17 := by omega
        have n18 : q ≠ m + 18 := by omega
        simp [m_u, n15, n16, n17, n18, xs q h1 h2 k]
      · by_cases ej : i' = j
        · subst ej
          have : t' = t := Option.some.inj (ht'.symm.trans ht)
          subst this
          simp [m_u]
        · have q := xt i' t' (by omega) ht'
          simp [m_u, ej, q]
  -- the codes
  have cods : ∀ (u j : Nat) (M1 : mM), u + j = (lcod cls).length → Eo (klw m) M M1 → RfM m M1 → M1.1 m 12 = 0 → M1.1 m 21 = jI cls.length → M1.1 m 19 = jI cls.length → M1.1 m 17 = jI (lcod cls).length → (∀ q, m + 8 ≤ q → q ≤ m + 13 → ∀ k, M1.1 q k = M.1 q k) → (∀ i x, i < j → (lcod cls)[i]? = some x → M1.1 (m + 14) i = jI x) → H11_law_110 (d + 1) Th Q m (jI j) M1 := by
    intro u
    induction u with
    | zero =>
      intro j M1 hu he hR1 x12 x21 x19 x17 xs xc
      refine h11_law_110 ⟨hk.1 0 _ rfl, ?_⟩
      rw [x17, if_pos (by rw [jIle (rI_nat (by omega)) (rI_nat (by omega))]; omega)]
      have q := tabs cls.length 0 M1 (by omega) he hR1 x12 x21 x19 (fun i x hx => xc i x (by have := (List.getElem?_eq_some_iff.mp hx).1; omega) hx) (fun q h1 h2 k => xs q (by omega) h2 k) (fun i t hi => absurd hi (by omega))
      exact q
    | succ u ih =>
      intro j M1 hu he hR1 x12 x21 x19 x17 xs xc
      refine h11_law_110 ⟨hk.1 0 _ rfl, ?_⟩
      rw [x17, if_neg (by rw [jIle (rI_nat (by omega)) (rI_nat (by omega))]; omega)]
      refine ⟨m + 14, hR1 0 28 14 (by decide), m + 8, hR1 0 22 8 (by decide), m_ok_jI (hk.1 8 _ rfl) (by omega) (by omega) (by omega), m_okw_jI (hk.1 14 _ rfl) (by omega) (by omega) (by omega), ?_⟩
      rw [jInatN j (by omega), i1, jI_add, show (j : Int) + 1 = ((j + 1 : Nat) : Int) by omega]
      obtain ⟨x, hx⟩ : ∃ x, (lcod cls)[j]? = some x := ⟨_, List.getElem?_eq_getElem (by omega)⟩
      rw [xs (m + 8) (by omega) (by omega), hC j x hx]
      refine ih (j + 1) _ (by omega) (he.trans (Eo.rf.ui (Or.inr ⟨by omega, by omega⟩))) (hR1.mv rfl) (by simp [m_u, x12]) (by simp [m_u, x21]) (by simp [m_u, x19]) (by simp [m_u, x17]) (fun q h1 h2 k => ?_) (fun i' x' hi hx' => ?_)
      · have n14 : q ≠ m + 14 := by omega
        simp [m_u, n14, xs q h1 h2 k]
      · by_cases ej : i' = j
        · subst ej
          have : x' = x := Option.some.inj (hx'.symm.trans hx)
          subst this
          simp [m_u]
        · simp [m_u, ej, xc i' x' (by omega) hx']
  have q := cods (lcod cls).length 0 M4 (by omega) e0 hR4 z12 z21 z19 z17 (fun q h1 h2 k => zk q k (by omega)) (fun i x hi => absurd hi (by omega))
  exact q
theorem s11_law {Q : Int32 → mM → Prop} {s : mS} {z : Int} (hT : LyM Th m) (hR : RfM m M) (hH : mTape m s M) (hG : rG s) (hz : rI z)
    (kb : ¬ ((1 ≤ z ∧ z ≤ 200) ∧ z ≤ s 0 4) → Q (-1) M)
    (k0 : (1 ≤ z ∧ z ≤ 200) ∧ z ≤ s 0 4 → (ltx (s 7) z.toNat).1.2 ≠ 0 → ∀ M', M'.1 m 12 = 0 → Eo (klr m) M M' → Q (jI (-1000 * ((ltx (s 7) z.toNat).1.2 : Int) - ((ltx (s 7) z.toNat).1.1 : Int))) M')
    (k1 : (1 ≤ z ∧ z ≤ 200) ∧ z ≤ s 0 4 → (ltx (s 7) z.toNat).1.2 = 0 → ∀ M', M'.1 m 12 = 0 → mLaw m (ltx (s 7) z.toNat).2 M' → Eo (klw m) M M' → Q (jI (ltx (s 7) z.toNat).2.length) M') : P11_law (d + 10) Th m (jI z) M Q := by
  have hb4 := hG.2.2.2.2.1
  have hby : ∀ k, 0 ≤ s 7 k ∧ s 7 k ≤ 255 := hG.2.2.2.2.2.2.2.2.2.2.2.2.2.2.2.2
  refine e11_law ?_
  refine s_in 1 200 rfl rfl rfl hz (rI_of (by omega) (by omega)) (rI_of (by omega) (by omega)) (fun a1 a2 => ?_) (fun a => ?_)
  rotate_left
  · rw [if_pos rfl]; exact kb (fun h => a h.1)
  rw [if_neg (by decide)]
  refine ⟨hT 0 _ rfl, ?_⟩
  rw [hH.1]
  by_cases h4 : z ≤ s 0 4
  rotate_left
  · rw [if_neg (by rw [jIle hz (rI_of (by omega) (by omega))]; exact h4)]
    exact kb (fun h => h4 h.2)
  rw [if_pos (by rw [jIle hz (rI_of (by omega) (by omega))]; exact h4)]
  intro M4 h4' M5 h5 M6 h6
  obtain ⟨L, hL⟩ : ∃ L : Nat, z = L := ⟨z.toNat, by omega⟩
  subst hL
  rw [Int.toNat_natCast] at k0 k1
  have hk : kOk Th m (s 7) L := ⟨hT, by omega, hby⟩
  have s6 : kwk m (s 7) L 0 [] (m_ui M6 m 19 0) := by
    rw [h6, h5, h4']
    exact ⟨by simp [m_u]; rfl, by simp [m_u], by simp [m_u]; rfl, fun j x hx => by simp at hx, fun j hj => by simp [m_u, hH.2], fun x hx => by cases hx⟩
  have t6 : ktb m [] (m_ui M6 m 19 0) := ⟨by simp [m_u]; rfl, fun j t hj => by simp at hj⟩
  have e6 : Eo (krt m) M (m_ui M6 m 19 0) := by
    rw [h6, h5, h4']
    exact (((Eo.rf.ui (Or.inl ⟨rfl, by omega, by omega⟩)).ui (Or.inl ⟨rfl, by omega, by omega⟩)).ui (Or.inl ⟨rfl, by omega, by omega⟩)).ui (Or.inl ⟨rfl, by omega, by omega⟩)
  have hR6 := krt_rf hR e6
  refine s11_law_h (d := d) (Q := Q) hk 15 0 [] [] _ _ rfl (by simp) hR6 s6 (by simp) (by omega) t6 (fun _ h => h) (fun _ h => h) ?_ ?_
  · intro f0 M' r1 r2 r3 r4 r5
    have f0' : (ltx (s 7) L).1.2 = 0 := f0
    have hlen : (ltx (s 7) L).2.length ≤ 15 := lall_len 15 0 0 0
    refine s11_law_c (d := d + 9) (cls := (ltx (s 7) L).2) hk r1 r3 ?_ (by rw [r4.1]; simp [ltab_len]; rfl) r2.2.2.2.1 r2.2.2.2.2.2.2.1 r4 ?_
    · have := lall_len2 (w := s 7) (L := L) 15 0 0 0 f0 (by omega)
      have h2 : 0 + (ltx (s 7) L).2.length ≤ 14 := this
      omega
    · intro M2 b1 b2 b3
      exact k1 ⟨⟨a1, a2⟩, h4⟩ f0' M2 b1 b2 ((e6.mono krt_w).trans ((r5.mono krt_w).trans b3))
  · intro f0 M' r1 r2
    refine h11_law_86 ⟨hT 0 _ rfl, ?_⟩
    rw [if_pos rfl]
    intro M2 h2
    have g15 : M2.1 m 15 = M'.1 m 15 := by rw [h2]; simp [m_u]
    rw [g15, r1]
    exact k0 ⟨⟨a1, a2⟩, h4⟩ f0 M2 (by rw [h2]; simp [m_u]) (by rw [h2]; exact ((e6.mono krt_r).trans (r2.mono krt_r)).trans (Eo.rf.ui (Or.inl ⟨rfl, by omega, by omega⟩)))
end LW
