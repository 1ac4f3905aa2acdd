/-! ===== A CALL OF BOTH: those that change the state, not the hill ===== -/
section OPC
variable {Th : mT} {n m b : Nat} {s t : mS} {c : Int} {M M' : mM} {S : Nat → Nat → Prop} {G : mM → Prop}
/-- the hill stays, the rest is new -/
theorem Jc.nw (hT : gTh Th n) (h : Jc Th n s c M) (e : jEq s t) (he : Eo S M M') (h1 : ∀ o k v, (o, k, v) ∈ rsA → ¬ S (n + o) k) (h2 : ∀ q k, S q k → n ≤ q ∧ ¬ (q = n + 3 ∧ k ≤ 4) ∧ ¬ (n + 9 ≤ q ∧ q ≤ n + 34) ∧ ¬ (q = n + 4 ∧ 1 ≤ k ∧ k ≤ 4) ∧ q ≠ n + 6 ∧ q ≠ n + 7) (h3 : ∀ q k, S q k → ¬ cD1 n q k ∧ ¬ cC1 n q k) (k1 : cTape n t M') (k2 : cOrd n t M') (k3 : cLog n t M') (k4 : cHunt n t M') : Jc Th n t c M' :=
  ⟨KM_h e (h.1.mvS hT he h1 h2), cDue_h e (h.2.1.mvq he (fun q k z => (h3 q k z).1)), k1, k2, k3, k4, h.2.2.2.2.2.2.mvq he (fun q k z => (h3 q k z).2)⟩
theorem Jm.nw (h : Jm m s M) (e : jEq s t) (he : Eo S M M') (hs : ∀ q k, S q k → ¬ ((q = m ∧ (k ≤ 3 ∨ (5 ≤ k ∧ k ≤ 11) ∨ (21 ≤ k ∧ k ≤ 34) ∨ (37 ≤ k ∧ k ≤ 39) ∨ k = 41 ∨ (46 ≤ k ∧ k ≤ 52) ∨ (57 ≤ k ∧ k ≤ 59) ∨ 62 ≤ k)) ∨ (m + 1 ≤ q ∧ q ≤ m + 6) ∨ (m + 14 ≤ q ∧ q ≤ m + 18))) (k1 : mTape m t M') (k2 : mOrd m t M') (k3 : mLog m t M') (k4 : mHunt m t M') : Jm m t M' :=
  ⟨KT_h e (h.1.mv he hs), k1, k2, k3, k4⟩
/-- both are new -/
theorem Jv.two {M7 M10 : mM} {S7 S10 : Nat → Nat → Prop} (h : Jv Th n b s c M) (hs : Js t) (h7 : Jc Th n t c M7) (e7 : Eo S7 M M7) (f7 : ∀ q k, S7 q k → n ≤ q ∧ q < n + 113) (hm : Jm (n + 113) t M10) (e10 : Eo S10 M7 M10) (f10 : ∀ q k, S10 q k → n + 113 ≤ q) : Jv Th n b t c M10 ∧ ∀ k, M10.1 b k = M.1 b k := by
  obtain ⟨⟨hT, hT2, hb⟩, h2, h3, h4⟩ := h
  exact ⟨⟨⟨hT, hT2, hb⟩, hs, h7.fr hT e10 f10, hm⟩, fun k => ((e10 _ _ (fun z => by have := f10 _ _ z; omega)).1).trans (e7 _ _ (fun z => by have := f7 _ _ z; omega)).1⟩
/-! seed, clear, check -/
def tSd (s : mS) (z : Int) : mS := fun i k => if i = 0 ∧ k = 7 then z else s i k
def tCl (s : mS) : mS := fun i k => if i = 0 ∧ (k = 6 ∨ k = 8) then 0 else s i k
def tTp (s : mS) : mS := fun i k => if i = 0 ∧ k = 4 then 0 else s i k
theorem jEq_Sd (s : mS) (z : Int) : jEq s (tSd s z) := ⟨⟨rfl, rfl, rfl, rfl, rfl, rfl⟩, funext fun _ => rfl, funext fun _ => rfl, funext fun _ => rfl, funext fun _ => rfl, funext fun _ => rfl, funext fun _ => rfl, funext fun _ => rfl, funext fun _ => rfl⟩
theorem jEq_Cl (s : mS) : jEq s (tCl s) := ⟨⟨rfl, rfl, rfl, rfl, rfl, rfl⟩, funext fun _ => rfl, funext fun _ => rfl, funext fun _ => rfl, funext fun _ => rfl, funext fun _ => rfl, funext fun _ => rfl, funext fun _ => rfl, funext fun _ => rfl⟩
theorem jEq_Tp (s : mS) : jEq s (tTp s) := ⟨⟨rfl, rfl, rfl, rfl, rfl, rfl⟩, funext fun _ => rfl, funext fun _ => rfl, funext fun _ => rfl, funext fun _ => rfl, funext fun _ => rfl, funext fun _ => rfl, funext fun _ => rfl, funext fun _ => rfl⟩
theorem Js_Sd {z : Int} (h : Js s) (hz : 0 ≤ z ∧ z ≤ 65535) : Js (tSd s z) := by
  obtain ⟨⟨g0, g1, g2, g3, g4, g5, g6, g7, g8, g9⟩, h2, h3, h4, h5, h6⟩ := h
  exact ⟨⟨g0, g1, g2, g3, g4, g5, g6, hz, g8, g9⟩, h2, h3, h4, h5, h6⟩
theorem Js_Cl (h : Js s) : Js (tCl s) := by
  obtain ⟨⟨g0, g1, g2, g3, g4, g5, g6, g7, g8, g9⟩, h2, h3, h4, h5, h6⟩ := h
  refine ⟨⟨g0, g1, g2, g3, g4, g5, ⟨by show (0 : Int) ≤ 0; omega, by show (0 : Int) ≤ 40; omega⟩, g7, Or.inl rfl, g9⟩, h2, h3, fun i hi => ?_, fun i hi => ?_, h6⟩
  · have : (i : Int) < 0 := hi
    omega
  · have : (i : Int) < 0 := hi
    omega
theorem Js_Tp (h : Js s) : Js (tTp s) := by
  obtain ⟨⟨g0, g1, g2, g3, g4, g5, g6, g7, g8, g9⟩, h2, h3, h4, h5, h6⟩ := h
  exact ⟨⟨g0, g1, g2, g3, ⟨by show (0 : Int) ≤ 0; omega, by show (0 : Int) ≤ 220; omega⟩, g5, g6, g7, g8, g9⟩, h2, h3, h4, h5, h6⟩
theorem t_seed {i1 : Nat} (h : Jv Th n b s c M) (K : Jk Th n b c M G) : P10_seed 2047 Th n (M.1 b i1) M (fun (v8 : Int32) (M7 : mM) => Th.2.2 (n + 113) = some (.inl 11) ∧ P11_seed 2047 Th (n + 113) (M7.1 b i1) M7 (fun (v11 : Int32) (M10 : mM) => if v8 = v11 then G M10 else False)) := by
  have h' := h
  obtain ⟨⟨hT, hT2, hb⟩, hJs, h3, h4⟩ := h
  obtain ⟨c1, c2, c3, c4, c5, c6, c7⟩ := h3
  obtain ⟨m1, m2, m3, m4, m5⟩ := h4
  obtain ⟨z1, r1, e1⟩ := rI_ex (M.1 b i1)
  rw [e1]
  refine s10_seed (d := 2045) hT.1 c1.1.1 r1 (fun hn => ?_) (fun x1 x2 => ?_)
  · refine ⟨hT2 0 _ rfl, ?_⟩
    rw [e1]
    refine s11_seed (d := 2045) hT2 r1 (fun _ => ?_) (fun y1 y2 => absurd ⟨y1, y2⟩ hn)
    rw [if_pos rfl]
    exact K s c M h' (by omega) (fun _ => rfl)
  · refine ⟨hT2 0 _ rfl, ?_⟩
    rw [show (m_ui M (n + 107) 8 (jI z1)).1 b i1 = jI z1 from (m_u_ne (by omega)).trans e1]
    refine s11_seed (d := 2045) hT2 r1 (fun hn => absurd ⟨x1, x2⟩ hn) (fun _ _ => ?_)
    rw [if_pos rfl]
    have e7 : Eo (fun q k => q = n + 107 ∧ k = 8) M (m_ui M (n + 107) 8 (jI z1)) := Eo.rf.ui ⟨rfl, rfl⟩
    have e10 : Eo (fun q k => q = n + 113 ∧ k = 4) (m_ui M (n + 107) 8 (jI z1)) (m_ui (m_ui M (n + 107) 8 (jI z1)) (n + 113) 4 (jI z1)) := Eo.rf.ui ⟨rfl, rfl⟩
    have j7 : Jc Th n (tSd s z1) c (m_ui M (n + 107) 8 (jI z1)) := by
      refine Jc.nw hT ⟨c1, c2, c3, c4, c5, c6, c7⟩ (jEq_Sd s z1) e7 (fun o k v hv z => by simp [rsA] at hv; omega) (fun q k z => by omega) (fun q k z => by simp only [cD1, cC1]; omega) ?_ ?_ ?_ ?_
      · exact c3.mvq e7 (fun q k z => by simp only [cT1]; omega)
      · exact c4.mvq e7 (fun q k z => by simp only [cO1]; omega)
      · exact c5.mvq e7 (fun q k z => by simp only [cL1]; omega)
      · exact ⟨by simp [m_u]; rfl, by simp [m_u]; exact c6.2.1, fun k => by simp [m_u]; exact c6.2.2 k⟩
    have mm : Jm (n + 113) s (m_ui M (n + 107) 8 (jI z1)) := h'.2.2.2.fr e7 (fun q k z => by omega)
    have j10 : Jm (n + 113) (tSd s z1) (m_ui (m_ui M (n + 107) 8 (jI z1)) (n + 113) 4 (jI z1)) := by
      refine Jm.nw mm (jEq_Sd s z1) e10 (fun q k z => by omega) ?_ ?_ ?_ ?_
      · exact mm.2.1.mvq (fun q k z => (e10 q k (by omega)).1)
      · exact mm.2.2.1.mvq (fun q k z => (e10 q k (by omega)).1)
      · exact mm.2.2.2.1.mvq (fun q k z => (e10 q k (by omega)).1)
      · exact ⟨by simp [m_u]; rfl, ((e10 _ _ (by omega)).1).trans mm.2.2.2.2.2.1, fun k => ((e10 _ _ (by omega)).1).trans (mm.2.2.2.2.2.2 k)⟩
    obtain ⟨j, a⟩ := h'.two (Js_Sd hJs ⟨x1, x2⟩) j7 e7 (fun q k z => by omega) j10 e10 (fun q k z => by omega)
    exact K _ c _ j (by omega) a
theorem t_clear (h : Jv Th n b s c M) (K : Jk Th n b c M G) : P10_clear 2047 Th n M (fun (v8 : Int32) (M7 : mM) => Th.2.2 (n + 113) = some (.inl 11) ∧ P11_clear 2047 Th (n + 113) M7 (fun (v11 : Int32) (M10 : mM) => if v8 = v11 then G M10 else False)) := by
  have h' := h
  obtain ⟨⟨hT, hT2, hb⟩, hJs, h3, h4⟩ := h
  obtain ⟨c1, c2, c3, c4, c5, c6, c7⟩ := h3
  have e7 : Eo (fun q k => (q = n + 105 ∧ k = 1) ∨ (q = n + 107 ∧ k = 9)) M (m_ui (m_ui M (n + 105) 1 0) (n + 107) 9 0) := (Eo.rf.ui (Or.inl ⟨rfl, rfl⟩)).ui (Or.inr ⟨rfl, rfl⟩)
  have mm : Jm (n + 113) s (m_ui (m_ui M (n + 105) 1 0) (n + 107) 9 0) := h4.fr e7 (fun q k z => by omega)
  refine s10_clear (d := 2044) hT.1 c1.1.1 ?_
  refine ⟨hT2 0 _ rfl, ?_⟩
  rw [c5.1]
  refine s11_clear (z := s 0 6) (d := 2045) hT2 mm.2.2.2.1.1 ?_
  rw [if_pos rfl]
  generalize hM7 : m_ui (m_ui M (n + 105) 1 0) (n + 107) 9 0 = M7 at e7 mm ⊢
  have e10 : Eo (fun q k => q = n + 113 ∧ (k = 60 ∨ k = 61)) M7 (m_ui (m_ui M7 (n + 113) 60 0) (n + 113) 61 0) := (Eo.rf.ui ⟨rfl, Or.inl rfl⟩).ui ⟨rfl, Or.inr rfl⟩
  have j7 : Jc Th n (tCl s) c M7 := by
    refine Jc.nw hT ⟨c1, c2, c3, c4, c5, c6, c7⟩ (jEq_Cl s) e7 (fun o k v hv z => by simp [rsA] at hv; omega) (fun q k z => by omega) (fun q k z => by simp only [cD1, cC1]; omega) ?_ ?_ ?_ ?_
    · exact c3.mvq e7 (fun q k z => by simp only [cT1]; omega)
    · exact c4.mvq e7 (fun q k z => by simp only [cO1]; omega)
    · exact ⟨by rw [← hM7]; simp [m_u]; rfl, fun k => ((e7 _ _ (by omega)).1).trans (c5.2 k)⟩
    · exact ⟨((e7 _ _ (by omega)).1).trans c6.1, by rw [← hM7]; simp [m_u]; rfl, fun k => ((e7 _ _ (by omega)).1).trans (c6.2.2 k)⟩
  have j10 : Jm (n + 113) (tCl s) (m_ui (m_ui M7 (n + 113) 60 0) (n + 113) 61 0) := by
    refine Jm.nw mm (jEq_Cl s) e10 (fun q k z => by omega) ?_ ?_ ?_ ?_
    · exact mm.2.1.mvq (fun q k z => (e10 q k (by omega)).1)
    · exact mm.2.2.1.mvq (fun q k z => (e10 q k (by omega)).1)
    · exact ⟨by simp [m_u]; rfl, fun k => ((e10 _ _ (by omega)).1).trans (mm.2.2.2.1.2.1 k), fun k => ((e10 _ _ (by omega)).1).trans (mm.2.2.2.1.2.2.1 k), fun k => ((e10 _ _ (by omega)).1).trans (mm.2.2.2.1.2.2.2 k)⟩
    · exact ⟨((e10 _ _ (by omega)).1).trans mm.2.2.2.2.1, by simp [m_u]; rfl, fun k => ((e10 _ _ (by omega)).1).trans (mm.2.2.2.2.2.2 k)⟩
  obtain ⟨j, a⟩ := h'.two (Js_Cl hJs) j7 e7 (fun q k z => by omega) j10 e10 (fun q k z => by omega)
  exact K _ c _ j (by omega) a
/-- the tape is emptied by both -/
theorem Jc.tp (hT : gTh Th n) (h : Jc Th n s c M) (he : Eo S M M') (h1 : M'.1 (n + 1) 1 = 0) (h2 : cOrd n t M') (e : jEq s t) (hs : ∀ q k, S q k → (q = n + 1 ∧ k = 1) ∨ (q = n + 100 ∧ (k = 4 ∨ k = 5)) ∨ q = n + 101) (t4 : t 0 4 = 0) (t7 : t 7 = s 7) (t6 : t 0 6 = s 0 6) (t9 : t 9 = s 9) (tx : t 0 7 = s 0 7 ∧ t 0 8 = s 0 8 ∧ t 10 = s 10) : Jc Th n t c M' := by
  obtain ⟨c1, c2, c3, c4, c5, c6, c7⟩ := id h
  have g : ∀ q k, ¬ ((q = n + 1 ∧ k = 1) ∨ (q = n + 100 ∧ (k = 4 ∨ k = 5)) ∨ q = n + 101) → M'.1 q k = M.1 q k := fun q k z => (he q k (fun w => z (hs q k w))).1
  refine Jc.nw hT h e he (fun o k v hv z => by have := hs _ _ z; simp [rsA] at hv; omega) (fun q k z => by have := hs _ _ z; omega) (fun q k z => by have := hs _ _ z; simp only [cD1, cC1]; omega) ?_ h2 ?_ ?_
  · exact ⟨by rw [h1, t4]; rfl, fun k => by rw [t7]; exact (g _ _ (by omega)).trans (c3.2 k)⟩
  · exact ⟨by rw [t6]; exact (g _ _ (by omega)).trans c5.1, fun k => by rw [t9]; exact (g _ _ (by omega)).trans (c5.2 k)⟩
  · exact ⟨by rw [tx.1]; exact (g _ _ (by omega)).trans c6.1, by rw [tx.2.1]; exact (g _ _ (by omega)).trans c6.2.1, fun k => by rw [tx.2.2]; exact (g _ _ (by omega)).trans (c6.2.2 k)⟩
theorem Jm.tp (h : Jm m s M) (he : Eo S M M') (h1 : M'.1 m 12 = 0) (h2 : mOrd m t M') (e : jEq s t) (hs : ∀ q k, S q k → (q = m ∧ (k = 12 ∨ k = 56)) ∨ q = m + 32) (t4 : t 0 4 = 0) (t7 : t 7 = s 7) (t6 : t 0 6 = s 0 6) (t9 : t 9 = s 9) (tx : t 0 7 = s 0 7 ∧ t 0 8 = s 0 8 ∧ t 10 = s 10) : Jm m t M' := by
  obtain ⟨m1, m2, m3, m4, m5⟩ := id h
  have g : ∀ q k, ¬ ((q = m ∧ (k = 12 ∨ k = 56)) ∨ q = m + 32) → M'.1 q k = M.1 q k := fun q k z => (he q k (fun w => z (hs q k w))).1
  refine Jm.nw h e he (fun q k z => by have := hs _ _ z; omega) ?_ h2 ?_ ?_
  · exact ⟨by rw [h1, t4]; rfl, fun k => by rw [t7]; exact (g _ _ (by omega)).trans (m2.2 k)⟩
  · exact ⟨by rw [t6]; exact (g _ _ (by omega)).trans m4.1, fun k => by rw [t9]; exact (g _ _ (by omega)).trans (m4.2.1 k), fun k => by rw [t9]; exact (g _ _ (by omega)).trans (m4.2.2.1 k), fun k => by rw [t9]; exact (g _ _ (by omega)).trans (m4.2.2.2 k)⟩
  · exact ⟨by rw [tx.1]; exact (g _ _ (by omega)).trans m5.1, by rw [tx.2.1]; exact (g _ _ (by omega)).trans m5.2.1, fun k => by rw [tx.2.2]; exact (g _ _ (by omega)).trans (m5.2.2 k)⟩
theorem t_check {i1 : Nat} (h : Jv Th n b s c M) (K : Jk Th n b c M G) : P10_check 2047 Th n (M.1 b i1) M (fun (v8 : Int32) (M7 : mM) => Th.2.2 (n + 113) = some (.inl 11) ∧ P11_check 2047 Th (n + 113) (M7.1 b i1) M7 (fun (v11 : Int32) (M10 : mM) => if v8 = v11 then G M10 else False)) := by
  have h' := h
  obtain ⟨⟨hT, hT2, hb⟩, hJs, h3, h4⟩ := h
  obtain ⟨c1, c2, c3, c4, c5, c6, c7⟩ := id h3
  obtain ⟨m1, m2, m3, m4, m5⟩ := id h4
  obtain ⟨hG, hO, hL, hLt, hLh, hB⟩ := id hJs
  obtain ⟨z1, r1, e1⟩ := rI_ex (M.1 b i1)
  rw [e1]
  refine s10_check (d := 2007) hT.1 c1.1.1 c3 c5 hG hL r1 (fun hn => ?_) (fun hv => ?_)
  · refine ⟨hT2 0 _ rfl, ?_⟩
    rw [e1]
    refine s11_check (d := 2007) hT2 m1.1 m2 m4 hG hL r1 (fun _ => ?_) (fun hv => absurd hv hn)
    rw [if_pos rfl]
    exact K s c M h' (by omega) (fun _ => rfl)
  · have e7 : Eo (fun q k => q = n + 1 ∧ k = 1) M (m_ui M (n + 1) 1 0) := Eo.rf.ui ⟨rfl, rfl⟩
    have mm : Jm (n + 113) s (m_ui M (n + 1) 1 0) := h4.fr e7 (fun q k z => by omega)
    refine ⟨hT2 0 _ rfl, ?_⟩
    rw [show (m_ui M (n + 1) 1 0).1 b i1 = jI z1 from (m_u_ne (by omega)).trans e1]
    refine s11_check (d := 2007) hT2 mm.1.1 mm.2.1 mm.2.2.2.1 hG hL r1 (fun hn => absurd hv hn) (fun _ => ?_)
    rw [if_pos rfl]
    have e10 : Eo (fun q k => q = n + 113 ∧ k = 12) (m_ui M (n + 1) 1 0) (m_ui (m_ui M (n + 1) 1 0) (n + 113) 12 0) := Eo.rf.ui ⟨rfl, rfl⟩
    have j7 : Jc Th n (tTp s) c (m_ui M (n + 1) 1 0) := Jc.tp hT h3 e7 (by simp [m_u]) (c4.mvq e7 (fun q k z => by simp only [cO1]; omega)) (jEq_Tp s) (fun q k z => by omega) rfl (funext fun _ => rfl) rfl (funext fun _ => rfl) ⟨rfl, rfl, funext fun _ => rfl⟩
    have j10 : Jm (n + 113) (tTp s) (m_ui (m_ui M (n + 1) 1 0) (n + 113) 12 0) := Jm.tp mm e10 (by simp [m_u]) (mm.2.2.1.mvq (fun q k z => (e10 q k (by omega)).1)) (jEq_Tp s) (fun q k z => by omega) rfl (funext fun _ => rfl) rfl (funext fun _ => rfl) ⟨rfl, rfl, funext fun _ => rfl⟩
    obtain ⟨j, a⟩ := h'.two (Js_Tp hJs) j7 e7 (fun q k z => by omega) j10 e10 (fun q k z => by omega)
    exact K _ c _ j (by omega) a
/-! order -/
theorem jEq_Or (s : mS) : jEq s (tTp (sOrd s)) := ⟨⟨rfl, rfl, rfl, rfl, rfl, rfl⟩, funext fun _ => rfl, funext fun _ => rfl, funext fun _ => rfl, funext fun _ => rfl, funext fun _ => rfl, funext fun _ => rfl, funext fun _ => rfl, funext fun _ => rfl⟩
theorem Js_Or (h : Js s) (hv : vOrd s) : Js (tTp (sOrd s)) := by
  obtain ⟨⟨g0, g1, g2, g3, g4, g5, g6, g7, g8, g9⟩, h2, h3, h4, h5, h6⟩ := h
  obtain ⟨v1, v2, v3⟩ := hv
  exact ⟨⟨g0, g1, g2, g3, ⟨by show (0 : Int) ≤ 0; omega, by show (0 : Int) ≤ 220; omega⟩, ⟨by show 0 ≤ s 0 5 + 1; omega, by show s 0 5 + 1 ≤ 5; omega⟩, g6, g7, g8, g9⟩, h2, h3, h4, h5, h6⟩
theorem t_order (h : Jv Th n b s c M) (K : Jk Th n b c M G) : P10_order 2047 Th n M (fun (v8 : Int32) (M7 : mM) => Th.2.2 (n + 113) = some (.inl 11) ∧ P11_order 2047 Th (n + 113) M7 (fun (v11 : Int32) (M10 : mM) => if v8 = v11 then G M10 else False)) := by
  have h' := h
  obtain ⟨⟨hT, hT2, hb⟩, hJs, h3, h4⟩ := h
  obtain ⟨c1, c2, c3, c4, c5, c6, c7⟩ := id h3
  obtain ⟨m1, m2, m3, m4, m5⟩ := id h4
  obtain ⟨hG, hO, hL, hLt, hLh, hB⟩ := id hJs
  refine s10_order (d := 2007) hT.1 c1.1.1 c1.1.2.2.1 c3 c4 hG (fun hn => ?_) (fun hv hbad M7 o7 t7 f7 => ?_) (fun hv hbad M7 o7 t7 f7 => ?_)
  · refine ⟨hT2 0 _ rfl, ?_⟩
    refine s11_order (d := 2007) hT2 m1.1 m1.2.1 m2 m3 hG (fun _ => ?_) (fun hv => absurd hv hn) (fun hv => absurd hv hn)
    rw [if_pos rfl]
    exact K s c M h' (by omega) (fun _ => rfl)
  · have mm : Jm (n + 113) s M7 := h4.fr f7 (fun q k z => by simp only [sOr] at z; omega)
    refine ⟨hT2 0 _ rfl, ?_⟩
    refine s11_order (d := 2007) hT2 mm.1.1 mm.1.2.1 mm.2.1 mm.2.2.1 hG (fun hn => absurd hv hn) (fun _ _ M10 o10 t10 f10 => ?_) (fun _ hg => absurd (hbad.symm.trans hg) (by decide))
    rw [if_pos rfl]
    have j7 : Jc Th n (tTp s) c M7 := Jc.tp hT h3 f7 t7 o7 (jEq_Tp s) (fun q k z => by simp only [sOr] at z; omega) rfl (funext fun _ => rfl) rfl (funext fun _ => rfl) ⟨rfl, rfl, funext fun _ => rfl⟩
    have j10 : Jm (n + 113) (tTp s) M10 := Jm.tp mm f10 t10 o10 (jEq_Tp s) (fun q k z => by simp only [sOm] at z; omega) rfl (funext fun _ => rfl) rfl (funext fun _ => rfl) ⟨rfl, rfl, funext fun _ => rfl⟩
    obtain ⟨j, a⟩ := h'.two (Js_Tp hJs) j7 f7 (fun q k z => by simp only [sOr] at z; omega) j10 f10 (fun q k z => by simp only [sOm] at z; omega)
    exact K _ c _ j (by omega) a
  · have mm : Jm (n + 113) s M7 := h4.fr f7 (fun q k z => by simp only [sOr] at z; omega)
    refine ⟨hT2 0 _ rfl, ?_⟩
    refine s11_order (d := 2007) hT2 mm.1.1 mm.1.2.1 mm.2.1 mm.2.2.1 hG (fun hn => absurd hv hn) (fun _ hg => absurd (hbad.symm.trans hg) (by decide)) (fun _ _ M10 o10 t10 f10 => ?_)
    rw [if_pos rfl]
    have j7 : Jc Th n (tTp (sOrd s)) c M7 := Jc.tp hT h3 f7 t7 o7 (jEq_Or s) (fun q k z => by simp only [sOr] at z; omega) rfl (funext fun _ => rfl) rfl (funext fun _ => rfl) ⟨rfl, rfl, funext fun _ => rfl⟩
    have j10 : Jm (n + 113) (tTp (sOrd s)) M10 := Jm.tp mm f10 t10 o10 (jEq_Or s) (fun q k z => by simp only [sOm] at z; omega) rfl (funext fun _ => rfl) rfl (funext fun _ => rfl) ⟨rfl, rfl, funext fun _ => rfl⟩
    obtain ⟨j, a⟩ := h'.two (Js_Or hJs hv) j7 f7 (fun q k z => by simp only [sOr] at z; omega) j10 f10 (fun q k z => by simp only [sOm] at z; omega)
    exact K _ c _ j (by omega) a
end OPC
