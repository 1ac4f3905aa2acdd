section SL
variable {d : Nat} {Th : mT} {M : mM} {n : Nat} {s : mS}
/-- the skill of a band stands at -/
def aSk (n b : Nat) : Nat := n + 15 + 4 * b
theorem aSk_q {b : Nat} (h : b < 5) : qSk n (aSk n b) := by unfold qSk aSk; omega
/-- what a band can do -/
def vB (n : Nat) (s : mS) (b : Nat) (M : mM) : Prop := vSk (aSk n b) (s 0 0) (gK s (s 4 b) b) (eK s (s 4 b) b) (wK s b) M
/-- the skills that are kept: stale, or right; those pinned in row 12 are right -/
def cSkl (n : Nat) (s : mS) (c : Int) (M : mM) : Prop := ∀ b : Nat, b < 5 → ∃ cb : Int, M.1 (aSk n b) 3 = jI cb ∧ -1 ≤ cb ∧ cb ≤ c ∧ (cb = c → (b : Int) < s 0 1 → vB n s b M) ∧ (s 12 b = 1 → cb = c)
def KM (Th : mT) (n : Nat) (s : mS) (c : Int) (M : mM) : Prop := KH Th n s M ∧ M.1 (n + 3) 4 = jI c ∧ (0 ≤ c ∧ c ≤ 100000) ∧ cSkl n s c M
/-- what asking for a skill writes -/
def sSk (n : Nat) : Nat → Nat → Prop := fun q k => sLaw n q k ∨ (n + 15 ≤ q ∧ q < n + 35 ∧ ((q - (n + 15)) % 4 = 0 → k = 3))
theorem sSk_rf (n : Nat) : ∀ o k v, (o, k, v) ∈ rsA → ¬ sSk n (n + o) k := by
  intro o k v hv h
  unfold sSk sLaw at h
  simp [rsA] at hv
  omega
theorem sSk_h {n : Nat} : ∀ q' k, sSk n q' k → n ≤ q' ∧ ¬ ((q' = n + 3 ∧ k ≤ 3) ∨ (n + 9 ≤ q' ∧ q' ≤ n + 14)) ∧ ¬ ((q' = n + 4 ∧ 1 ≤ k ∧ k ≤ 4) ∨ q' = n + 6 ∨ q' = n + 7) := by
  intro q' k h
  unfold sSk sLaw at h
  omega
theorem sLd_sk {b : Nat} (hb : b < 5) : ∀ q k, sLd n (aSk n b) q k → sSk n q k := by
  intro q k h
  unfold sLd aSk at h
  unfold sSk
  rcases h with h | h | h | h
  · exact Or.inl h
  · right; omega
  · right; omega
  · right; omega
theorem vSk.mv {q : Nat} {R : Int} {g e : Nat → Nat → Int} {st : Nat → Int} {M' : mM} (h : vSk q R g e st M) (he : ∀ q' k, q + 1 ≤ q' → q' ≤ q + 3 → M'.1 q' k = M.1 q' k) : vSk q R g e st M' := by
  intro r hr
  obtain ⟨h1, h2⟩ := h r hr
  exact ⟨(he _ _ (by omega) (by omega)).trans h1, fun t ht => ⟨(he _ _ (by omega) (by omega)).trans (h2 t ht).1, (he _ _ (by omega) (by omega)).trans (h2 t ht).2⟩⟩
theorem refs_skill (hR : Rf n M) {b : Nat} (hb : b < 5) : M.2.2 (n + 8) b = some (aSk n b) := by
  have : b = 0 ∨ b = 1 ∨ b = 2 ∨ b = 3 ∨ b = 4 := by omega
  rcases this with z | z | z | z | z <;> subst z
  · exact hR 8 0 15 (by decide)
  · exact hR 8 1 19 (by decide)
  · exact hR 8 2 23 (by decide)
  · exact hR 8 3 27 (by decide)
  · exact hR 8 4 31 (by decide)
theorem m_okO_jI {Th : mT} {a n : Nat} {ty : FieldType} {fz : Bool} {z : Int} (h : Th.2.2 a = some (.inr (ty, fz, n))) (h1 : 0 ≤ z) (h2 : z < n) (h3 : n ≤ 2147483648) : m_ok Th a ty (jI z) := ⟨fz, n, h, jI_in h1 h2 h3⟩
theorem s2_skill2 {Q : Nat → mM → Prop} {b : Nat} {c : Int} (hT : gTh Th n) (hM : KM Th n s c M) (hG : rG s) (hO : rLw s) (hb : (b : Int) < s 0 1) (hd : 32 ≤ d)
    (K : ∀ M', KM Th n s c M' → vB n s b M' → Eo (sSk n) M M' → (∀ b', b' < 5 → b' ≠ b → vB n s b' M → vB n s b' M') → Q (aSk n b) M') : P2_skill (d + 1) Th (n + 3) (jI b) M Q := by
  have g0 := hG.1
  have g1 := hG.2.1
  have hM' := hM
  obtain ⟨hH, hc, hcb, hS⟩ := hM
  have hb5 : b < 5 := by omega
  obtain ⟨cb, s1, s2, s3, s4, s5⟩ := hS b hb5
  have hl := lySk_of hT.1 hH.1 (aSk_q hb5)
  obtain ⟨d, rfl⟩ : ∃ d', d = d' + 1 := ⟨d - 1, by omega⟩
  refine e2_skill ⟨hT.1 3 _ rfl, ?_⟩
  refine s2_hasBand (d := d) (b := (s 0 1).toNat) hT.1 (by rw [hH.2.2.1.2.1]; congr 1; omega) (by omega) (rI_nat (by omega)) (fun _ _ => ?_) (fun z => absurd z (by omega))
  intro xv4 h4
  rw [if_neg (by decide)] at h4
  subst h4
  refine ⟨n + 8, hH.1 3 6 8 (by decide), m_okO_jI (hT.1 8 _ rfl) (by omega) (by omega) (by omega), aSk n b, ?_, hl.1.1, ?_⟩
  · rw [jInatN b (by omega)]
    exact refs_skill hH.1 hb5
  rw [s1, hc]
  by_cases e : cb = c
  · rw [if_pos (by rw [e])]
    exact K M hM' (s4 e hb) Eo.rf (fun _ _ _ h => h)
  rw [if_neg (by rw [jIeq (rI_of (by omega) (by omega)) (rI_of (by omega) (by omega))]; exact e)]
  refine ⟨n + 12, hH.1 3 10 12 (by decide), m_ok_jI (hT.1 12 _ rfl) (by omega) (by omega) (by omega), ?_⟩
  rw [jInatN b (by omega), hH.2.2.1.2.2.2.2.2.2.2.1]
  refine s2_load (d := d) hT hH hG hO (aSk_q hb5) hb (by omega) ?_
  intro M14 e14 v14
  have c14 : M14.1 (n + 3) 4 = jI c := ((e14 _ _ (by unfold sLd sLaw aSk; omega)).1).trans hc
  rw [c14]
  have e15 : Eo (sSk n) M (m_ui M14 (aSk n b) 3 (jI c)) := (e14.mono (sLd_sk hb5)).trans (Eo.rf.ui (by right; unfold aSk; omega))
  have v15 : vB n s b (m_ui M14 (aSk n b) 3 (jI c)) := vSk.mv v14 (fun q' k h1 h2 => by simp only [m_u_ne (show q' ≠ aSk n b by omega)])
  have far : ∀ b', b' ≠ b → ∀ q' k, aSk n b' ≤ q' → q' ≤ aSk n b' + 3 → (m_ui M14 (aSk n b) 3 (jI c)).1 q' k = M.1 q' k := by
    intro b' eb q' k h1 h2
    have : q' ≠ aSk n b := by unfold aSk at *; omega
    simp only [m_u_ne this]
    exact (e14 _ _ (by unfold sLd sLaw; unfold aSk at *; omega)).1
  refine K _ ⟨hH.mvS hT e15 (sSk_rf n) sSk_h, ?_, hcb, ?_⟩ v15 e15 (fun b' hb' eb hv => vSk.mv hv (fun q' k a1 a2 => far b' eb q' k (by omega) (by omega)))
  · simp only [m_u_ne (show n + 3 ≠ aSk n b by unfold aSk; omega)]; exact c14
  · intro b' hb'
    by_cases eb : b' = b
    · subst eb
      exact ⟨c, by simp [m_u], by omega, by omega, fun _ _ => v15, fun _ => rfl⟩
    · obtain ⟨cb', t1, t2, t3, t4, t5⟩ := hS b' hb'
      exact ⟨cb', (far b' eb _ _ (by omega) (by omega)).trans t1, t2, t3, fun h1 h2 => vSk.mv (t4 h1 h2) (fun q' k a1 a2 => far b' eb q' k (by omega) (by omega)), t5⟩
theorem s2_skill {Q : Nat → mM → Prop} {b : Nat} {c : Int} (hT : gTh Th n) (hM : KM Th n s c M) (hG : rG s) (hO : rLw s) (hb : (b : Int) < s 0 1) (hd : 32 ≤ d)
    (K : ∀ M', KM Th n s c M' → vB n s b M' → Eo (sSk n) M M' → Q (aSk n b) M') : P2_skill (d + 1) Th (n + 3) (jI b) M Q :=
  s2_skill2 hT hM hG hO hb hd (fun M' a1 a2 a3 _ => K M' a1 a2 a3)
end SL
section ML
variable {d : Nat} {Th : mT} {M : mM} {m : Nat} {s : mS}
theorem kCls_law {d : Nat} (hT : LyM Th m) (hO : rLw s) : kCls d Th m 0 (lawCl s) ∧ (lawCl s).length ≤ 14 ∧ (lcod (lawCl s)).length ≤ 201 := by
  obtain ⟨⟨o1, o2⟩, o3, o4, o5⟩ := hO
  rcases o4 with z | z
  · have : lawCl s = [] := by unfold lawCl; rw [z]; exact ltx_zero _
    rw [this]
    exact ⟨trivial, by simp, by simp [lcod]⟩
  · refine ⟨kCls_all (d := d) hT o3 15 0 0 0 z, ?_, ?_⟩
    · have := lall_len2 (w := s 11) (L := (s 0 10).toNat) 15 0 0 0 z (by omega)
      have h2 : 0 + (lawCl s).length ≤ 14 := this
      omega
    · have key : ∀ u i n c, (lall (s 11) (s 0 10).toNat u i n c).1.2 = 0 → i + (lcod (lall (s 11) (s 0 10).toNat u i n c).2).length ≤ (s 0 10).toNat := by
        intro u
        induction u with
        | zero => intro i n c f; exact absurd f (by show (1 : Nat) ≠ 0; omega)
        | succ u ih =>
          intro i n c f
          rw [lall] at f ⊢
          by_cases f0 : (lcl (s 11) (s 0 10).toNat i n c).1.2 = 0
          rotate_left
          · rw [if_pos f0] at f; exact absurd f f0
          rw [if_neg (by omega)] at f ⊢
          have G := lcl_gd f0
          have Gc := lcl_code f0
          have hpos : (lcl (s 11) (s 0 10).toNat i n c).1.1 = (lcC (s 11) (s 0 10).toNat i c).1.1 + 1 := by rw [G.2.2.2.2.2.2.2.2.2.1]
          have g12 := G.2.2.2.2.2.2.2.2.2.2.2
          rw [← Gc.1, ← Gc.2] at g12
          have hpL := G.2.2.2.2.2.2.2.2.1
          split
          · rename_i z
            rw [if_pos z] at f
            have := ih _ _ _ f
            simp only [lcod, List.length_append]
            omega
          · rename_i z
            rw [if_neg z] at f
            split
            · rename_i z3; rw [if_pos z3] at f; exact absurd f (by show (1 : Nat) ≠ 0; omega)
            · simp only [lcod, List.length_append, List.append_nil]
              omega
      have := key 15 0 0 0 z
      have h2 : 0 + (lcod (lawCl s)).length ≤ (s 0 10).toNat := this
      omega
/-- what thinking writes in the model -/
def sTh (m : Nat) : Nat → Nat → Prop := fun q k => (q = m ∧ (k = 35 ∨ k = 36)) ∨ q = m + 19 ∨ q = m + 20
/-- what the model knows for thinking -/
def KT (m : Nat) (s : mS) (M : mM) : Prop := RfM m M ∧ mHill m s M ∧ mLaw m (lawCl s) M
theorem KT.mv {S : Nat → Nat → Prop} {M' : mM} (h : KT m s M) (he : Eo S M M') (hs : ∀ q k, S q k → ¬ ((q = m ∧ (k ≤ 3 ∨ (5 ≤ k ∧ k ≤ 11) ∨ (21 ≤ k ∧ k ≤ 34) ∨ (37 ≤ k ∧ k ≤ 39) ∨ k = 41 ∨ (46 ≤ k ∧ k ≤ 52) ∨ (57 ≤ k ∧ k ≤ 59) ∨ 62 ≤ k)) ∨ (m + 1 ≤ q ∧ q ≤ m + 6) ∨ (m + 14 ≤ q ∧ q ≤ m + 18))) : KT m s M' := by
  obtain ⟨hR, ⟨h1, h2, h3, h4, h5, h6, h7, h8, h9, h10⟩, l1, l2, l3⟩ := h
  have g : ∀ q k, ((q = m ∧ (k ≤ 3 ∨ (5 ≤ k ∧ k ≤ 11) ∨ (21 ≤ k ∧ k ≤ 34) ∨ (37 ≤ k ∧ k ≤ 39) ∨ k = 41 ∨ (46 ≤ k ∧ k ≤ 52) ∨ (57 ≤ k ∧ k ≤ 59) ∨ 62 ≤ k)) ∨ (m + 1 ≤ q ∧ q ≤ m + 6) ∨ (m + 14 ≤ q ∧ q ≤ m + 18)) → M'.1 q k = M.1 q k ∧ M'.2.2 q k = M.2.2 q k := fun q k h => ⟨(he _ _ (fun z => hs _ _ z h)).1, (he _ _ (fun z => hs _ _ z h)).2.2⟩
  refine ⟨fun o k v hv => ?_, ⟨((g _ _ (by omega)).1).trans h1, ((g _ _ (by omega)).1).trans h2, ((g _ _ (by omega)).1).trans h3, ((g _ _ (by omega)).1).trans h4, fun k => ((g _ _ (by omega)).1).trans (h5 k), fun k => ((g _ _ (by omega)).1).trans (h6 k), fun k => ((g _ _ (by omega)).1).trans (h7 k), fun k => ((g _ _ (by omega)).1).trans (h8 k), fun k => ((g _ _ (by omega)).1).trans (h9 k), fun k => ((g _ _ (by omega)).1).trans (h10 k)⟩, ((g _ _ (by omega)).1).trans l1, fun k x hx => ((g _ _ (by omega)).1).trans (l2 k x hx), fun j t ht => ?_⟩
  · have h0 := hR o k v hv
    rw [← h0]
    refine (g _ _ ?_).2
    simp [rsM] at hv
    omega
  · obtain ⟨t1, t2, t3, t4⟩ := l3 j t ht
    exact ⟨((g _ _ (by omega)).1).trans t1, ((g _ _ (by omega)).1).trans t2, ((g _ _ (by omega)).1).trans t3, ((g _ _ (by omega)).1).trans t4⟩
theorem sTh_k : ∀ q k, sTh m q k → ¬ ((q = m ∧ (k ≤ 3 ∨ (5 ≤ k ∧ k ≤ 11) ∨ (21 ≤ k ∧ k ≤ 34) ∨ (37 ≤ k ∧ k ≤ 39) ∨ k = 41 ∨ (46 ≤ k ∧ k ≤ 52) ∨ (57 ≤ k ∧ k ≤ 59) ∨ 62 ≤ k)) ∨ (m + 1 ≤ q ∧ q ≤ m + 6) ∨ (m + 14 ≤ q ∧ q ≤ m + 18)) := by
  intro q k h
  unfold sTh at h
  omega
theorem s11_thinks {Q : mM → Prop} {b r t : Nat} {cl : Int} (hT : LyM Th m) (hK : KT m s M) (hG : rG s) (hO : rLw s) (hb : (b : Int) < s 0 1) (hr : (r : Int) < s 0 0) (ht : t ≤ 5)
    (k : ∀ M', KT m s M' → M'.1 m 35 = jI (gK s cl b r t) → M'.1 m 36 = jI (eK s cl b r t) → Eo (sTh m) M M' → Q M') : P11_thinks (d + 4) Th m (jI b) (jI cl) (jI r) (jI t) M Q := by
  have g0 := hG.1
  have g1 := hG.2.1
  have hK' := hK
  obtain ⟨hR, ⟨h1, h2, h3, h4, h5, h6, h7, h8, h9, h10⟩, hL⟩ := hK
  have o : ∀ j : Nat, j < 8 → m_okw Th (m + 20) .int (jI (j : Int)) := fun j hj => m_okw_jI (hT 20 _ rfl) (by omega) (by omega) (by omega)
  refine e11_thinks ⟨hT 0 _ rfl, m + 20, hR 0 34 20 (by decide), o 0 (by omega), m + 1, hR 0 5 1 (by decide), m_ok_jI (hT 1 _ rfl) (by omega) (by omega) (by omega), ?_⟩
  rw [jInatN r (by omega), jInatN b (by omega)]
  intro M8 q8
  refine ⟨o 1 (by omega), o 2 (by omega), ?_⟩
  intro M11 q11
  rw [show M8.1 (m + 1) r = jI (s 1 r) by rw [q8]; simp [m_u, h5]] at q11
  refine ⟨o 3 (by omega), ?_⟩
  intro M13 q13
  refine ⟨o 4 (by omega), ?_⟩
  intro M15 q15 M16 q16
  refine ⟨o 5 (by omega), ?_⟩
  intro M18 q18
  rw [show M16.1 m 0 = jI (s 0 0) by rw [q16, q15, q13, q11, q8]; simp [m_u, h1]] at q18
  refine ⟨o 6 (by omega), m + 5, hR 0 9 5 (by decide), m_ok_jI (hT 5 _ rfl) (by omega) (by omega) (by omega), ?_⟩
  intro M23 q23
  rw [show M18.1 m 3 = jI (s 0 3) by rw [q18, q16, q15, q13, q11, q8]; simp [m_u, h4]] at q23
  refine ⟨o 7 (by omega), ?_⟩
  rw [show M23.1 (m + 5) b = jI (s 5 b) by rw [q23, q18, q16, q15, q13, q11, q8]; simp [m_u, h9]]
  have e24 : Eo (sTh m) M (m_ui M23 (m + 20) (Int32.toNatClampNeg 7) (jI (s 5 b))) := by
    rw [q23, q18, q16, q15, q13, q11, q8]
    exact (((((((Eo.rf.ui (Or.inr (Or.inr rfl))).ui (Or.inr (Or.inr rfl))).ui (Or.inr (Or.inr rfl))).ui (Or.inr (Or.inr rfl))).ui (Or.inr (Or.inr rfl))).ui (Or.inr (Or.inr rfl))).ui (Or.inr (Or.inr rfl))).ui (Or.inr (Or.inr rfl))
  have f24 : kfe m (lenv s cl b r t) (m_ui M23 (m + 20) (Int32.toNatClampNeg 7) (jI (s 5 b))) := by
    rw [q23, q18, q16, q15, q13, q11, q8]
    have c0 : Int32.toNatClampNeg 0 = 0 := rfl
    have c1 : Int32.toNatClampNeg 1 = 1 := rfl
    have c2 : Int32.toNatClampNeg 2 = 2 := rfl
    have c3 : Int32.toNatClampNeg 3 = 3 := rfl
    have c4 : Int32.toNatClampNeg 4 = 4 := rfl
    have c5 : Int32.toNatClampNeg 5 = 5 := rfl
    have c6 : Int32.toNatClampNeg 6 = 6 := rfl
    have c7 : Int32.toNatClampNeg 7 = 7 := rfl
    rw [c0, c1, c2, c3, c4, c5, c6, c7]
    refine ⟨by simp [m_u, lenv], by simp [m_u, lenv], by simp [m_u, lenv], by simp [m_u, lenv], by simp [m_u, lenv], by simp [m_u, lenv], by simp [m_u, lenv], by simp [m_u, lenv]⟩
  generalize m_ui M23 (m + 20) (Int32.toNatClampNeg 7) (jI (s 5 b)) = M24 at e24 f24
  have K24 := hK'.mv e24 sTh_k
  obtain ⟨kc1, kc2, kc3⟩ := kCls_law (d := d) hT hO
  rw [i115, i8]
  refine s11_byLaw (d := d) hT K24.1 (Or.inl rfl) (by omega) K24.2.2 f24 kc1 kc2 kc3 ?_
  intro M25 e25 M27 h27
  have gb := gK_b s cl b r t
  have e25' : Eo (sTh m) M24 M25 := e25.mono (fun q k z => by unfold ksk at z; unfold sTh; omega)
  have g35 : M27.1 m 35 = jI (gK s cl b r t) := by rw [h27]; simp [m_u]; rfl
  rw [g35, jI_sub]
  have e27 : Eo (sTh m) M24 M27 := by rw [h27]; exact e25'.trans (Eo.rf.ui (Or.inl ⟨rfl, Or.inl rfl⟩))
  have K27 := K24.mv e27 sTh_k
  have f27 : kfe m (lenv s cl b r t) M27 := by
    have g : ∀ k, M27.1 (m + 20) k = M24.1 (m + 20) k := fun k => by
      rw [h27]
      simp only [m_u_ne (show m + 20 ≠ m by omega)]
      exact (e25 _ _ (by unfold ksk; omega)).1
    unfold kfe
    rw [g, g, g, g, g, g, g, g]
    exact f24
  rw [i101]
  refine s11_byLaw (d := d) hT K27.1 (Or.inr rfl) (by omega) K27.2.2 f27 kc1 kc2 kc3 ?_
  intro M28 e28
  have e28' : Eo (sTh m) M27 M28 := e28.mono (fun q k z => by unfold ksk at z; unfold sTh; omega)
  have ee : Eo (sTh m) M (m_ui M28 m 36 (jI (lclp (lval 101 (lenv s cl b r t) (lawCl s)) (8 - gK s cl b r t)))) := ((e24.trans e27).trans e28').trans (Eo.rf.ui (Or.inl ⟨rfl, Or.inr rfl⟩))
  refine k _ (hK'.mv ee sTh_k) ?_ (by simp [m_u]; rfl) ee
  simp only [m_u_nk (show (35 : Nat) ≠ 36 by omega)]
  rw [(e28 _ _ (by unfold ksk; omega)).1]
  exact g35
end ML
