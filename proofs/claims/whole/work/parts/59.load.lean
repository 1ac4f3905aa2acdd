section LD
variable {d : Nat} {Th : mT} {M : mM} {n : Nat} {s : mS}
theorem sLaw_rf (n : Nat) : ∀ o k v, (o, k, v) ∈ rsA → ¬ sLaw n (n + o) k := by
  intro o k v hv h
  unfold sLaw at h
  simp [rsA] at hv
  omega
/-- what loading a skill writes -/
def sLd (n q : Nat) : Nat → Nat → Prop := fun q' k => sLaw n q' k ∨ q' = q + 1 ∨ q' = q + 2 ∨ q' = q + 3
/-- where skills may stand -/
def qSk (n q : Nat) : Prop := q = n + 15 ∨ q = n + 19 ∨ q = n + 23 ∨ q = n + 27 ∨ q = n + 31 ∨ q = n + 35
theorem sLd_rf {n q : Nat} (hq : qSk n q) : ∀ o k v, (o, k, v) ∈ rsA → ¬ sLd n q (n + o) k := by
  intro o k v hv h
  unfold sLd sLaw at h
  unfold qSk at hq
  simp [rsA] at hv
  omega
theorem lySk_of {q : Nat} (hT : Ly Th n) (hR : Rf n M) (hq : qSk n q) : lySk Th q M := by
  rcases hq with z | z | z | z | z | z <;> subst z
  · exact ⟨⟨hT 15 _ rfl, hT 16 _ rfl, hT 17 _ rfl, hT 18 _ rfl⟩, hR 15 0 16 (by decide), hR 15 1 17 (by decide), hR 15 2 18 (by decide)⟩
  · exact ⟨⟨hT 19 _ rfl, hT 20 _ rfl, hT 21 _ rfl, hT 22 _ rfl⟩, hR 19 0 20 (by decide), hR 19 1 21 (by decide), hR 19 2 22 (by decide)⟩
  · exact ⟨⟨hT 23 _ rfl, hT 24 _ rfl, hT 25 _ rfl, hT 26 _ rfl⟩, hR 23 0 24 (by decide), hR 23 1 25 (by decide), hR 23 2 26 (by decide)⟩
  · exact ⟨⟨hT 27 _ rfl, hT 28 _ rfl, hT 29 _ rfl, hT 30 _ rfl⟩, hR 27 0 28 (by decide), hR 27 1 29 (by decide), hR 27 2 30 (by decide)⟩
  · exact ⟨⟨hT 31 _ rfl, hT 32 _ rfl, hT 33 _ rfl, hT 34 _ rfl⟩, hR 31 0 32 (by decide), hR 31 1 33 (by decide), hR 31 2 34 (by decide)⟩
  · exact ⟨⟨hT 35 _ rfl, hT 36 _ rfl, hT 37 _ rfl, hT 38 _ rfl⟩, hR 35 0 36 (by decide), hR 35 1 37 (by decide), hR 35 2 38 (by decide)⟩
/-- what is known of the hill, for asking -/
def KH (Th : mT) (n : Nat) (s : mS) (M : mM) : Prop := Rf n M ∧ gLt Th M ∧ cHill n s M ∧ cLaw n s M
theorem KH.mvS {S : Nat → Nat → Prop} {M' : mM} (hT : gTh Th n) (h : KH Th n s M) (he : Eo S M M') (h1 : ∀ o k v, (o, k, v) ∈ rsA → ¬ S (n + o) k) (h2 : ∀ q k, S q k → n ≤ q ∧ ¬ ((q = n + 3 ∧ k ≤ 3) ∨ (n + 9 ≤ q ∧ q ≤ n + 14)) ∧ ¬ ((q = n + 4 ∧ 1 ≤ k ∧ k ≤ 4) ∨ q = n + 6 ∨ q = n + 7)) : KH Th n s M' := by
  have hla := hT.2.1
  refine ⟨h.1.mv he h1, fun k hk => ((he _ _ (fun z => by have := (h2 _ _ z).1; omega)).1).trans (h.2.1 k hk), h.2.2.1.mv (fun q k hq => (he _ _ (fun z => (h2 _ _ z).2.1 hq)).1), h.2.2.2.mv (fun q k hq => ⟨(he _ _ (fun z => (h2 _ _ z).2.2 hq)).1, (he _ _ (fun z => (h2 _ _ z).2.2 hq)).2.2⟩)⟩
theorem sLd_h {n q : Nat} (hq : qSk n q) : ∀ q' k, sLd n q q' k → n ≤ q' ∧ ¬ ((q' = n + 3 ∧ k ≤ 3) ∨ (n + 9 ≤ q' ∧ q' ≤ n + 14)) ∧ ¬ ((q' = n + 4 ∧ 1 ≤ k ∧ k ≤ 4) ∨ q' = n + 6 ∨ q' = n + 7) := by
  intro q' k h
  unfold sLd sLaw at h
  unfold qSk at hq
  omega
theorem s4_tellRiddle {Q : mM → Prop} {x1 x2 x3 : Int32} (hT : Ly Th n) (hR : Rf n M) (k : Q (m_ui (m_ui (m_ui M (n + 5) 3 x1) (n + 5) 4 x2) (n + 5) 5 x3)) : P4_tellRiddle (d + 1) Th (n + 4) x1 x2 x3 M Q := by
  have o : ∀ j : Nat, j < 8 → m_okw Th (n + 5) .int (jI (j : Int)) := fun j hj => m_okw_jI (hT 5 _ rfl) (by omega) (by omega) (by omega)
  refine e4_tellRiddle ⟨hT 4 _ rfl, n + 5, hR 4 0 5 (by decide), o 3 (by omega), o 4 (by omega), ?_⟩
  intro M6 h6
  refine ⟨o 5 (by omega), ?_⟩
  intro M8 h8
  rw [h8, h6]
  exact k
theorem s4_tellBand {Q : mM → Prop} {x1 x2 x3 : Int32} (hT : Ly Th n) (hR : Rf n M) (k : Q (m_ui (m_ui (m_ui M (n + 5) 0 x1) (n + 5) 1 x2) (n + 5) 2 x3)) : P4_tellBand (d + 1) Th (n + 4) x1 x2 x3 M Q := by
  have o : ∀ j : Nat, j < 8 → m_okw Th (n + 5) .int (jI (j : Int)) := fun j hj => m_okw_jI (hT 5 _ rfl) (by omega) (by omega) (by omega)
  refine e4_tellBand ⟨hT 4 _ rfl, n + 5, hR 4 0 5 (by decide), o 0 (by omega), o 1 (by omega), ?_⟩
  intro M6 h6
  refine ⟨o 2 (by omega), ?_⟩
  intro M8 h8
  rw [h8, h6]
  exact k
theorem s4_tellHill {Q : mM → Prop} {x1 x2 : Int32} (hT : Ly Th n) (hR : Rf n M) (k : Q (m_ui (m_ui M (n + 5) 6 x1) (n + 5) 7 x2)) : P4_tellHill (d + 1) Th (n + 4) x1 x2 M Q := by
  have o : ∀ j : Nat, j < 8 → m_okw Th (n + 5) .int (jI (j : Int)) := fun j hj => m_okw_jI (hT 5 _ rfl) (by omega) (by omega) (by omega)
  refine e4_tellHill ⟨hT 4 _ rfl, n + 5, hR 4 0 5 (by decide), o 6 (by omega), o 7 (by omega), ?_⟩
  intro M6 h6
  rw [h6]
  exact k
set_option maxHeartbeats 1000000 in
theorem s2_load {Q : mM → Prop} {q b : Nat} {cl : Int} (hT : gTh Th n) (hH0 : KH Th n s M) (hG : rG s) (hO : rLw s) (hq : qSk n q) (hb : (b : Int) < s 0 1) (hd : 31 ≤ d)
    (K : ∀ M', Eo (sLd n q) M M' → vSk q (s 0 0) (gK s cl b) (eK s cl b) (wK s b) M' → Q M') : P2_load (d + 1) Th (n + 3) q (jI b) (jI cl) M Q := by
  have g0 := hG.1
  have g1 := hG.2.1
  have rf := sLd_rf hq
  have hh := sLd_h hq
  have hl := lySk_of hT.1 hH0.1 hq
  have hqn : qSk n q := hq
  unfold qSk at hq
  obtain ⟨d, rfl⟩ : ∃ d', d = d' + 1 := ⟨d - 1, by omega⟩
  -- the letters of the band and of the hill
  let B : mM → Prop := fun M1 => M1.1 (n + 5) 0 = jI cl ∧ M1.1 (n + 5) 1 = jI (b : Int) ∧ M1.1 (n + 5) 2 = jI (s 5 b) ∧ M1.1 (n + 5) 6 = jI (s 0 0) ∧ M1.1 (n + 5) 7 = jI (s 0 3)
  let F : Nat → Nat → mM → Prop := fun r t M1 => ∀ r' t', t' < 6 → (r' < r ∨ (r' = r ∧ t' < t)) → M1.1 (q + 1) (6 * r' + t') = jI (gK s cl b r' t') ∧ M1.1 (q + 2) (6 * r' + t') = jI (eK s cl b r' t')
  have inner : ∀ (u t r : Nat) (M1 : mM), u + t = 6 → (r : Int) < s 0 0 → Eo (sLd n q) M M1 → B M1 → F r t M1 → (∀ r', r' < r + 1 → M1.1 (q + 3) r' = jI (wK s b r')) →
      (∀ M2, Eo (sLd n q) M M2 → B M2 → F (r + 1) 0 M2 → (∀ r', r' < r + 1 → M2.1 (q + 3) r' = jI (wK s b r')) → H2_load_42 (d + 1 + 1) Th Q (n + 3) q (jI b) (jI ((r + 1 : Nat) : Int)) M2) → H2_load_74 (d + 1 + 1) Th Q (n + 3) q (jI b) (jI r) (jI t) M1 := by
    intro u
    induction u with
    | zero =>
      intro t r M1 hu hr he hB hF hS k
      refine h2_load_74 ?_
      rw [if_pos (by rw [jh6 (rI_nat (by omega))]; omega), jI_s]
      refine k M1 he hB (fun r' t' h1 h2 => hF r' t' h1 (by omega)) hS
    | succ u ih =>
      intro t r M1 hu hr he hB hF hS k
      have hM1 := hH0.mvS hT he rf hh
      obtain ⟨hR1, hl1, hH1, hL1⟩ := hM1
      have hlM : ∀ M', Eo (sLd n q) M M' → lySk Th q M' := fun M' h => lySk_of hT.1 (hH0.1.mv h rf) hqn
      refine h2_load_74 ?_
      rw [if_neg (by rw [jh6 (rI_nat (by omega))]; omega)]
      refine ⟨hT.1 3 _ rfl, n + 4, hR1 3 5 4 (by decide), n + 9, hR1 3 7 9 (by decide), m_ok_jI (hT.1 9 _ rfl) (by omega) (by omega) (by omega), hT.1 4 _ rfl, ?_⟩
      rw [jInatN r (by omega), hH1.2.2.2.2.1]
      refine s4_tellRiddle (d := d) hT.1 hR1 ?_
      have e7 : Eo (sLd n q) M1 (m_ui (m_ui (m_ui M1 (n + 5) 3 (jI (s 1 r))) (n + 5) 4 (jI r)) (n + 5) 5 (jI t)) := ((Eo.rf.ui (Or.inl (Or.inr rfl))).ui (Or.inl (Or.inr rfl))).ui (Or.inl (Or.inr rfl))
      have env : ∀ M2, Eo (fun q' k => ¬ (q' = n + 5)) (m_ui (m_ui (m_ui M1 (n + 5) 3 (jI (s 1 r))) (n + 5) 4 (jI r)) (n + 5) 5 (jI t)) M2 → (∀ k, k < 8 → M2.1 (n + 5) k = lenv s cl b r t k) ∧ B M2 := by
        intro M2 h2
        have g : ∀ k, M2.1 (n + 5) k = (m_ui (m_ui (m_ui M1 (n + 5) 3 (jI (s 1 r))) (n + 5) 4 (jI r)) (n + 5) 5 (jI t)).1 (n + 5) k := fun k => (h2 _ _ (fun z => z rfl)).1
        obtain ⟨b0, b1, b2, b6, b7⟩ := hB
        refine ⟨fun k hk => ?_, by rw [g]; simp [m_u, b0], by rw [g]; simp [m_u, b1], by rw [g]; simp [m_u, b2], by rw [g]; simp [m_u, b6], by rw [g]; simp [m_u, b7]⟩
        rw [g]
        have : k = 0 ∨ k = 1 ∨ k = 2 ∨ k = 3 ∨ k = 4 ∨ k = 5 ∨ k = 6 ∨ k = 7 := by omega
        rcases this with z | z | z | z | z | z | z | z <;> subst z <;> simp [m_u, lenv, b0, b1, b2, b6, b7]
      have fld : ∀ M2, (∀ k, M2.1 (q + 1) k = M1.1 (q + 1) k ∧ M2.1 (q + 2) k = M1.1 (q + 2) k ∧ M2.1 (q + 3) k = M1.1 (q + 3) k) → F r t M2 ∧ ∀ r', r' < r + 1 → M2.1 (q + 3) r' = jI (wK s b r') := by
        intro M2 h
        exact ⟨fun r' t' h1 h2 => ⟨by rw [(h _).1]; exact (hF r' t' h1 h2).1, by rw [(h _).2.1]; exact (hF r' t' h1 h2).2⟩, fun r' hr' => by rw [(h _).2.2]; exact hS r' hr'⟩
      generalize hM7 : m_ui (m_ui (m_ui M1 (n + 5) 3 (jI (s 1 r))) (n + 5) 4 (jI r)) (n + 5) 5 (jI t) = M7 at e7 env
      have k7 : ∀ k, M7.1 (q + 1) k = M1.1 (q + 1) k ∧ M7.1 (q + 2) k = M1.1 (q + 2) k ∧ M7.1 (q + 3) k = M1.1 (q + 3) k := by
        intro k
        have n1 : q + 1 ≠ n + 5 := by omega
        have n2 : q + 2 ≠ n + 5 := by omega
        have n3 : q + 3 ≠ n + 5 := by omega
        rw [← hM7]
        exact ⟨by simp only [m_u_ne n1], by simp only [m_u_ne n2], by simp only [m_u_ne n3]⟩
      have he7 := he.trans e7
      obtain ⟨hR7, hl7, hH7, hL7⟩ := hH0.mvS hT he7 rf hh
      refine ⟨n + 4, hR7 3 5 4 (by decide), hT.1 4 _ rfl, ?_⟩
      rw [i115]
      refine s4_eighths (d := d) (e := lenv s cl b r t) hT hL7 hO ⟨hR7, (env M7 Eo.rf).1, hl7⟩ (by omega) (by omega) ?_
      intro M12 e12 xv15 h15
      have s12 : Eo (sLd n q) M7 M12 := e12.mono (fun q' k z => Or.inl (Or.inl z))
      have he12 := he7.trans s12
      have hg : xv15 = jI (gK s cl b r t) := by
        rw [h15]
        have := lclp_A (v := lval 115 (lenv s cl b r t) (lawCl s)) (h := 8) (by omega)
        rw [show jI (lval 115 (lenv s cl b r t) (lawCl s)).toInt = lval 115 (lenv s cl b r t) (lawCl s) from Int32.ofInt_toInt _]
        unfold gK
        rw [← this]
        have sw : (if lval 115 (lenv s cl b r t) (lawCl s) < 8 then lval 115 (lenv s cl b r t) (lawCl s) else 8) = (if jI 8 < lval 115 (lenv s cl b r t) (lawCl s) then jI 8 else lval 115 (lenv s cl b r t) (lawCl s)) := by
          generalize lval 115 (lenv s cl b r t) (lawCl s) = v
          obtain ⟨z, hz, rfl⟩ := rI_ex v
          simp only [jl8 hz, jIlt (rI_of (z := 8) (by omega) (by omega)) hz]
          by_cases a : z < 8
          · rw [if_pos a, if_neg (by omega)]
          · rw [if_neg a]
            by_cases a2 : 8 < z
            · rw [if_pos a2]; rfl
            · rw [if_neg a2, show z = 8 by omega]; rfl
        rw [sw]
      have gb := gK_b s cl b r t
      have hl12 := hlM M12 he12
      refine ⟨hl12.1.1, q + 1, hl12.2.1, ?_⟩
      rw [i6, jI_mul, jI_add, show (r : Int) * 6 + (t : Int) = ((6 * r + t : Nat) : Int) by omega]
      refine ⟨m_okw_jI hl12.1.2.1 (by omega) (by omega) (by omega), q + 2, hl12.2.2.1, ?_⟩
      have hR12 := hH0.1.mv he12 rf
      refine ⟨n + 4, hR12 3 5 4 (by decide), hT.1 4 _ rfl, ?_⟩
      rw [jInatN _ (by omega), hg]
      have s13 : Eo (sLd n q) M12 (m_ui M12 (q + 1) (6 * r + t) (jI (gK s cl b r t))) := Eo.rf.ui (Or.inr (Or.inl rfl))
      have he13 := he12.trans s13
      obtain ⟨hR13, hl13, hH13, hL13⟩ := hH0.mvS hT he13 rf hh
      have env13 := env (m_ui M12 (q + 1) (6 * r + t) (jI (gK s cl b r t))) ((e12.mono (fun q' k z => by have := z.1; show ¬ q' = n + 5; omega)).trans (Eo.rf.ui (by omega)))
      have k12 : ∀ q' k, q' = q + 1 ∨ q' = q + 2 ∨ q' = q + 3 → M12.1 q' k = M7.1 q' k := fun q' k hz => (e12 _ _ (fun z => by have := z.1; omega)).1
      generalize hM13 : m_ui M12 (q + 1) (6 * r + t) (jI (gK s cl b r t)) = M13 at s13 he13 hR13 hl13 hH13 hL13 env13
      rw [i101]
      refine s4_eighths (d := d) (e := lenv s cl b r t) hT hL13 hO ⟨hR13, env13.1, hl13⟩ (by omega) (by omega) ?_
      intro M24 e24
      have s24 : Eo (sLd n q) M13 M24 := e24.mono (fun q' k z => Or.inl (Or.inl z))
      have he24 := he13.trans s24
      have hl24 := hlM M24 he24
      refine ⟨m_okw_jI hl24.1.2.2.1 (by omega) (by omega) (by omega), ?_⟩
      have hbad : (if 0 < (if jI (lval 101 (lenv s cl b r t) (lawCl s)).toInt < (8 - jI (gK s cl b r t)) then jI (lval 101 (lenv s cl b r t) (lawCl s)).toInt else (8 - jI (gK s cl b r t))) then (if jI (lval 101 (lenv s cl b r t) (lawCl s)).toInt < (8 - jI (gK s cl b r t)) then jI (lval 101 (lenv s cl b r t) (lawCl s)).toInt else (8 - jI (gK s cl b r t))) else 0) = jI (eK s cl b r t) := by
        rw [show jI (lval 101 (lenv s cl b r t) (lawCl s)).toInt = lval 101 (lenv s cl b r t) (lawCl s) from Int32.ofInt_toInt _, i8, jI_sub]
        have := lclp_A (v := lval 101 (lenv s cl b r t) (lawCl s)) (h := 8 - gK s cl b r t) (by omega)
        unfold eK
        rw [← this]
        have sw : (if lval 101 (lenv s cl b r t) (lawCl s) < jI (8 - gK s cl b r t) then lval 101 (lenv s cl b r t) (lawCl s) else jI (8 - gK s cl b r t)) = (if jI (8 - gK s cl b r t) < lval 101 (lenv s cl b r t) (lawCl s) then jI (8 - gK s cl b r t) else lval 101 (lenv s cl b r t) (lawCl s)) := by
          generalize lval 101 (lenv s cl b r t) (lawCl s) = v
          generalize hh8 : 8 - gK s cl b r t = h8
          obtain ⟨z, hz, rfl⟩ := rI_ex v
          have r8 : rI h8 := rI_of (by omega) (by omega)
          simp only [jIlt hz r8, jIlt r8 hz]
          by_cases a : z < h8
          · rw [if_pos a, if_neg (by omega)]
          · rw [if_neg a]
            by_cases a2 : h8 < z
            · rw [if_pos a2]
            · rw [if_neg a2, show z = h8 by omega]
        rw [sw]
      rw [hbad, jI_s]
      have k24 : ∀ q' k, q' = q + 1 ∨ q' = q + 2 ∨ q' = q + 3 → M24.1 q' k = M13.1 q' k := fun q' k hz => (e24 _ _ (fun z => by have := z.1; omega)).1
      refine ih (t + 1) r _ (by omega) hr (he24.trans (Eo.rf.ui (Or.inr (Or.inr (Or.inl rfl))))) ?_ ?_ ?_ k
      · obtain ⟨b0, b1, b2, b6, b7⟩ := env13.2
        have n5 : n + 5 ≠ q + 2 := by omega
        have g : ∀ k, (m_ui M24 (q + 2) (6 * r + t) (jI (eK s cl b r t))).1 (n + 5) k = M13.1 (n + 5) k := fun k => by
          simp only [m_u_ne n5]
          exact (e24 _ _ (fun z => by have := z.1; omega)).1
        exact ⟨(g _).trans b0, (g _).trans b1, (g _).trans b2, (g _).trans b6, (g _).trans b7⟩
      · intro r' t' h1 h2
        have n12 : q + 1 ≠ q + 2 := by omega
        by_cases e : r' = r ∧ t' = t
        · obtain ⟨er, et⟩ := e
          subst er et
          refine ⟨?_, by simp [m_u]⟩
          simp only [m_u_ne n12]
          rw [k24 _ _ (Or.inl rfl), ← hM13]
          simp [m_u]
        · have hne : 6 * r' + t' ≠ 6 * r + t := by omega
          have := hF r' t' h1 (by omega)
          refine ⟨?_, ?_⟩
          · simp only [m_u_ne n12]
            rw [k24 _ _ (Or.inl rfl), ← hM13]
            simp only [m_u_nk hne]
            rw [k12 _ _ (Or.inl rfl), (k7 _).1]
            exact this.1
          · simp only [m_u_nk hne]
            rw [k24 _ _ (Or.inr (Or.inl rfl)), ← hM13]
            simp only [m_u_ne (show q + 2 ≠ q + 1 by omega)]
            rw [k12 _ _ (Or.inr (Or.inl rfl)), (k7 _).2.1]
            exact this.2
      · intro r' hr'
        simp only [m_u_ne (show q + 3 ≠ q + 2 by omega)]
        rw [k24 _ _ (Or.inr (Or.inr rfl)), ← hM13]
        simp only [m_u_ne (show q + 3 ≠ q + 1 by omega)]
        rw [k12 _ _ (Or.inr (Or.inr rfl)), (k7 _).2.2]
        exact hS r' hr'
  have outer : ∀ (u r : Nat) (M1 : mM), (u : Int) + r = s 0 0 → Eo (sLd n q) M M1 → B M1 → F r 0 M1 → (∀ r', r' < r → M1.1 (q + 3) r' = jI (wK s b r')) → H2_load_42 (d + 1 + 1) Th Q (n + 3) q (jI b) (jI r) M1 := by
    intro u
    induction u with
    | zero =>
      intro r M1 hu he hB hF hS
      obtain ⟨hR1, hl1, hH1, hL1⟩ := hH0.mvS hT he rf hh
      refine h2_load_42 ⟨hT.1 3 _ rfl, ?_⟩
      rw [hH1.1, if_pos (by rw [jIle (rI_of (by omega) (by omega)) (rI_nat (by omega))]; omega)]
      exact K M1 he (fun r' hr' => ⟨hS r' (by omega), fun t ht => hF r' t ht (by omega)⟩)
    | succ u ih =>
      intro r M1 hu he hB hF hS
      obtain ⟨hR1, hl1, hH1, hL1⟩ := hH0.mvS hT he rf hh
      have hl1' := lySk_of hT.1 hR1 hqn
      refine h2_load_42 ⟨hT.1 3 _ rfl, ?_⟩
      rw [hH1.1, if_neg (by rw [jIle (rI_of (by omega) (by omega)) (rI_nat (by omega))]; omega), if_neg (by rw [jh5 (rI_nat (by omega))]; omega)]
      refine ⟨hl1'.1.1, q + 3, hl1'.2.2.2, ?_⟩
      refine s2_steps (d := d - 1) hT.1 hR1 hH1 hG hb (by omega) ?_ |> (fun h => by rw [show d - 1 + 2 = d + 1 by omega] at h; exact h)
      refine ⟨m_okw_jI hl1'.1.2.2.2 (by omega) (by omega) (by omega), ?_⟩
      rw [jInatN r (by omega), i0]
      have n5 : n + 5 ≠ q + 3 := by omega
      refine inner 6 0 r _ rfl (by omega) (he.trans (Eo.rf.ui (Or.inr (Or.inr (Or.inr rfl))))) ?_ ?_ ?_ ?_
      · obtain ⟨b0, b1, b2, b6, b7⟩ := hB
        refine ⟨?_, ?_, ?_, ?_, ?_⟩ <;> simp only [m_u_ne n5] <;> assumption
      · intro r' t' h1 h2
        have := hF r' t' h1 (by omega)
        exact ⟨by simp only [m_u_ne (show q + 1 ≠ q + 3 by omega)]; exact this.1, by simp only [m_u_ne (show q + 2 ≠ q + 3 by omega)]; exact this.2⟩
      · intro r' hr'
        by_cases e : r' = r
        · subst e; simp [m_u]
        · simp only [m_u_nk e]; exact hS r' (by omega)
      · intro M2 h1 h2 h3 h4
        exact ih (r + 1) M2 (by omega) h1 h2 h3 h4
  obtain ⟨hR0, hl0, hHh, hL0⟩ := hH0
  refine e2_load ⟨hT.1 3 _ rfl, ?_⟩
  refine s2_hasBand (d := d) (b := (s 0 1).toNat) hT.1 (by rw [hHh.2.1]; congr 1; omega) (by omega) (rI_nat (by omega)) (fun _ _ => ?_) (fun z => absurd z (by omega))
  rw [if_neg (by decide)]
  refine ⟨n + 4, hR0 3 5 4 (by decide), n + 13, hR0 3 11 13 (by decide), m_ok_jI (hT.1 13 _ rfl) (by omega) (by omega) (by omega), hT.1 4 _ rfl, ?_⟩
  rw [jInatN b (by omega), hHh.2.2.2.2.2.2.2.2.1]
  refine s4_tellBand (d := d) hT.1 hR0 ?_
  have e9 : Eo (sLd n q) M (m_ui (m_ui (m_ui M (n + 5) 0 (jI cl)) (n + 5) 1 (jI b)) (n + 5) 2 (jI (s 5 b))) := ((Eo.rf.ui (Or.inl (Or.inr rfl))).ui (Or.inl (Or.inr rfl))).ui (Or.inl (Or.inr rfl))
  have hR9 := hR0.mv e9 rf
  refine ⟨n + 4, hR9 3 5 4 (by decide), hT.1 4 _ rfl, ?_⟩
  have x0 : (m_ui (m_ui (m_ui M (n + 5) 0 (jI cl)) (n + 5) 1 (jI b)) (n + 5) 2 (jI (s 5 b))).1 (n + 3) 0 = jI (s 0 0) := by simp [m_u, hHh.1]
  have x3 : (m_ui (m_ui (m_ui M (n + 5) 0 (jI cl)) (n + 5) 1 (jI b)) (n + 5) 2 (jI (s 5 b))).1 (n + 3) 3 = jI (s 0 3) := by simp [m_u, hHh.2.2.2.1]
  rw [x0, x3]
  refine s4_tellHill (d := d) hT.1 hR9 ?_
  rw [i0]
  refine outer (s 0 0).toNat 0 _ (by omega) (e9.trans ((Eo.rf.ui (Or.inl (Or.inr rfl))).ui (Or.inl (Or.inr rfl)))) ?_ (fun r' t' _ h => absurd h (by omega)) (fun r' h => absurd h (by omega))
  refine ⟨by simp [m_u], by simp [m_u], by simp [m_u], by simp [m_u], by simp [m_u]⟩
end LD
