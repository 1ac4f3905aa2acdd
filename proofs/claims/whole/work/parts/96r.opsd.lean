/-! ===== A CALL OF BOTH: feed, went, draw ===== -/
section OPD
variable {Th : mT} {n m b : Nat} {s t : mS} {c : Int} {M M' : mM} {S : Nat → Nat → Prop} {G : mM → Prop}
theorem jEq_Pu (s : mS) (v : Int32) : jEq s (sPut s v) := ⟨⟨rfl, rfl, rfl, rfl, rfl, rfl⟩, funext fun _ => rfl, funext fun _ => rfl, funext fun _ => rfl, funext fun _ => rfl, funext fun _ => rfl, funext fun _ => rfl, funext fun _ => rfl, funext fun _ => rfl⟩
theorem jEq_Fe (s : mS) (x1 x2 x3 x4 x5 : Int32) : jEq s (sFeed s x1 x2 x3 x4 x5) := ((((jEq_Pu s x1).tr (jEq_Pu _ x2)).tr (jEq_Pu _ x3)).tr (jEq_Pu _ x4)).tr (jEq_Pu _ x5)
theorem Js_Pu {v : Int32} (h : Js s) (hl : s 0 4 + 4 ≤ 220) : Js (sPut s v) := by
  obtain ⟨⟨g0, g1, g2, g3, g4, g5, g6, g7, g8, g9, g10, g11, g12, g13, g14, g15, g16⟩, h2, h3, h4, h5, h6⟩ := h
  exact ⟨⟨g0, g1, g2, g3, ⟨by rw [sPut_4]; omega, by rw [sPut_4]; omega⟩, g5, g6, g7, g8, g9, g10, g11, g12, g13, g14, g15, sPut_7 g16⟩, h2, h3, h4, h5, h6⟩
theorem Js_Fe {x1 x2 x3 x4 x5 : Int32} (h : Js s) (hl : s 0 4 ≤ 200) : Js (sFeed s x1 x2 x3 x4 x5) := by
  have f1 := sPut_4 s x1
  have f2 := sPut_4 (sPut s x1) x2
  have f3 := sPut_4 (sPut (sPut s x1) x2) x3
  have f4 := sPut_4 (sPut (sPut (sPut s x1) x2) x3) x4
  exact Js_Pu (Js_Pu (Js_Pu (Js_Pu (Js_Pu h (by omega)) (by omega)) (by omega)) (by omega)) (by omega)
theorem t_feed {i1 i2 i3 i4 i5 : Nat} (h : Jv Th n b s c M) (K : Jk Th n b c M G) : P10_feed 2047 Th n (M.1 b i1) (M.1 b i2) (M.1 b i3) (M.1 b i4) (M.1 b i5) M (fun (v8 : Int32) (M7 : mM) => Th.2.2 (n + 113) = some (.inl 11) ∧ P11_feed 2047 Th (n + 113) (M7.1 b i1) (M7.1 b i2) (M7.1 b i3) (M7.1 b i4) (M7.1 b i5) M7 (fun (v11 : Int32) (M10 : mM) => if v8 = v11 then G M10 else False)) := by
  have h' := h
  obtain ⟨⟨hT, hT2, hb⟩, hJs, h3, h4⟩ := h
  obtain ⟨c1, c2, c3, c4, c5, c6, c7⟩ := id h3
  obtain ⟨m1, m2, m3, m4, m5⟩ := id h4
  obtain ⟨hG, hO, hL, hLt, hLh, hB⟩ := id hJs
  refine s10_feed (d := 2045) hT.1 c1.1.1 c3 hG (fun hn => ?_) (fun hv M7 t7 f7 => ?_)
  · refine ⟨hT2 0 _ rfl, ?_⟩
    refine s11_feed (d := 2045) hT2 m1.1 m2 hG (fun _ => ?_) (fun hv => absurd hv hn)
    rw [if_pos rfl]
    exact K s c M h' (by omega) (fun _ => rfl)
  · have mm : Jm (n + 113) s M7 := h4.fr f7 (fun q k z => by simp only [sTp] at z; omega)
    have a7 : ∀ k, M7.1 b k = M.1 b k := fun k => (f7 _ _ (by simp only [sTp]; omega)).1
    refine ⟨hT2 0 _ rfl, ?_⟩
    rw [a7, a7, a7, a7, a7]
    generalize M.1 b i1 = x1 at *
    generalize M.1 b i2 = x2 at *
    generalize M.1 b i3 = x3 at *
    generalize M.1 b i4 = x4 at *
    generalize M.1 b i5 = x5 at *
    refine s11_feed (d := 2045) hT2 mm.1.1 mm.2.1 hG (fun hn => absurd hv hn) (fun _ M10 t10 f10 => ?_)
    rw [if_pos rfl]
    have j7 : Jc Th n (sFeed s x1 x2 x3 x4 x5) c M7 := by
      refine Jc.nw hT h3 (jEq_Fe s x1 x2 x3 x4 x5) f7 (fun o k v hv z => by simp only [sTp] at z; simp [rsA] at hv; omega) (fun q k z => by simp only [sTp] at z; omega) (fun q k z => by simp only [sTp, cD1, cC1] at z ⊢; omega) t7 ?_ ?_ ?_
      · exact c4.mvq f7 (fun q k z => by simp only [sTp, cO1] at z ⊢; omega)
      · exact c5.mvq f7 (fun q k z => by simp only [sTp, cL1] at z ⊢; omega)
      · exact c6.mvq f7 (fun q k z => by simp only [sTp, cH1] at z ⊢; omega)
    have j10 : Jm (n + 113) (sFeed s x1 x2 x3 x4 x5) M10 := by
      refine Jm.nw mm (jEq_Fe s x1 x2 x3 x4 x5) f10 (fun q k z => by simp only [sTm] at z; omega) t10 ?_ ?_ ?_
      · exact mm.2.2.1.mvq (fun q k z => (f10 q k (by simp only [sTm]; omega)).1)
      · exact mm.2.2.2.1.mvq (fun q k z => (f10 q k (by simp only [sTm]; omega)).1)
      · exact mm.2.2.2.2.mvq (fun q k z => (f10 q k (by simp only [sTm]; omega)).1)
    obtain ⟨j, a⟩ := h'.two (Js_Fe hJs hv) j7 f7 (fun q k z => by simp only [sTp] at z; omega) j10 f10 (fun q k z => by simp only [sTm] at z; omega)
    exact K _ c _ j (by omega) a
/-! went -/
theorem jEq_Ad (s : mS) (x y z : Nat) : jEq s (sAdd s x y z) := ⟨⟨rfl, rfl, rfl, rfl, rfl, rfl⟩, funext fun _ => rfl, funext fun _ => rfl, funext fun _ => rfl, funext fun _ => rfl, funext fun _ => rfl, funext fun _ => rfl, funext fun _ => rfl, funext fun _ => rfl⟩
theorem t_went {i1 i2 i3 : Nat} (h : Jv Th n b s c M) (K : Jk Th n b c M G) : P10_went 2047 Th n (M.1 b i1) (M.1 b i2) (M.1 b i3) M (fun (v8 : Int32) (M7 : mM) => Th.2.2 (n + 113) = some (.inl 11) ∧ P11_went 2047 Th (n + 113) (M7.1 b i1) (M7.1 b i2) (M7.1 b i3) M7 (fun (v11 : Int32) (M10 : mM) => if v8 = v11 then G M10 else False)) := by
  have h' := h
  obtain ⟨⟨hT, hT2, hb⟩, hJs, h3, h4⟩ := h
  obtain ⟨c1, c2, c3, c4, c5, c6, c7⟩ := id h3
  obtain ⟨m1, m2, m3, m4, m5⟩ := id h4
  obtain ⟨hG, hO, hL, hLt, hLh, hB⟩ := id hJs
  obtain ⟨z1, r1, e1⟩ := rI_ex (M.1 b i1)
  obtain ⟨z2, r2, e2⟩ := rI_ex (M.1 b i2)
  obtain ⟨z3, r3, e3⟩ := rI_ex (M.1 b i3)
  have g6 := hG.2.2.2.2.2.2.1
  rw [e1, e2, e3]
  refine s10_went (d := 2042) hT.1 c1.1.1 c1.1.2.2.1 c5 hG hL r1 r2 r3 (fun hn => ?_) (fun hv => ?_)
  · refine ⟨hT2 0 _ rfl, ?_⟩
    rw [e1, e2, e3]
    refine s11_went (d := 2045) hT2 m1.1 m1.2.1 m4 hG hL hLt r1 r2 r3 (fun _ => ?_) (fun hv => absurd hv hn)
    rw [if_pos rfl]
    exact K s c M h' (by omega) (fun _ => rfl)
  · have hv' := hv
    obtain ⟨⟨v1, v2⟩, ⟨v3, v4⟩, ⟨v5, v6⟩, v7, -⟩ := hv'
    obtain ⟨x, rfl⟩ : ∃ x : Nat, z1 = x := ⟨z1.toNat, by omega⟩
    obtain ⟨y, rfl⟩ : ∃ x : Nat, z2 = x := ⟨z2.toNat, by omega⟩
    obtain ⟨t, rfl⟩ : ∃ x : Nat, z3 = x := ⟨z3.toNat, by omega⟩
    obtain ⟨l, hl⟩ : ∃ l : Nat, s 0 6 = l := ⟨(s 0 6).toNat, by omega⟩
    have e7 : Eo (fun q k => q = n + 106 ∨ (q = n + 105 ∧ k = 1)) M (u5_add n M (s 0 6).toNat (jI (x : Int)) (jI (y : Int)) (jI (t : Int))) := (((Eo.rf.ui (Or.inl rfl)).ui (Or.inl rfl)).ui (Or.inl rfl)).ui (Or.inr ⟨rfl, rfl⟩)
    have l7 : cLog n (sAdd s x y t) (u5_add n M (s 0 6).toNat (jI (x : Int)) (jI (y : Int)) (jI (t : Int))) := by
      refine ⟨?_, fun k => ?_⟩
      · show (if n + 105 = n + 105 ∧ 1 = 1 then jI (((s 0 6).toNat : Int) + 1) else _) = jI (s 0 6 + 1)
        rw [if_pos ⟨rfl, rfl⟩]; congr 1; omega
      · rw [sAdd_9, hl, Int.toNat_natCast]
        unfold u5_add
        by_cases k0 : k = 3 * l
        · rw [if_pos k0, k0]; simp [m_u]
        rw [if_neg k0]
        by_cases k1 : k = 3 * l + 1
        · rw [if_pos k1, k1]; simp [m_u]
        rw [if_neg k1]
        by_cases k2 : k = 3 * l + 2
        · rw [if_pos k2, k2]; simp [m_u]
        rw [if_neg k2]
        simp [m_u, k0, k1, k2]
        exact c5.2 k
    generalize hM7 : u5_add n M (s 0 6).toNat (jI (x : Int)) (jI (y : Int)) (jI (t : Int)) = M7 at e7 l7
    have mm : Jm (n + 113) s M7 := h4.fr e7 (fun q k z => by omega)
    have a7 : ∀ k, M7.1 b k = M.1 b k := fun k => (e7 _ _ (by omega)).1
    refine ⟨hT2 0 _ rfl, ?_⟩
    rw [a7, a7, a7, e1, e2, e3]
    refine s11_went (d := 2045) hT2 mm.1.1 mm.1.2.1 mm.2.2.2.1 hG hL hLt r1 r2 r3 (fun hn => absurd hv hn) (fun _ => ?_)
    rw [if_pos rfl]
    have e10 : Eo (fun q k => (n + 113 + 35 ≤ q ∧ q ≤ n + 113 + 37) ∨ (q = n + 113 ∧ k = 60)) M7 (u11_puts (n + 113) M7 (s 0 6).toNat (jI (x : Int)) (jI (y : Int)) (jI (t : Int))) := (((Eo.rf.ui (Or.inl (by omega))).ui (Or.inl (by omega))).ui (Or.inl (by omega))).ui (Or.inr ⟨rfl, rfl⟩)
    have j7 : Jc Th n (sAdd s x y t) c M7 := by
      refine Jc.nw hT h3 (jEq_Ad s x y t) e7 (fun o k v hv z => by simp [rsA] at hv; omega) (fun q k z => by omega) (fun q k z => by simp only [cD1, cC1]; omega) ?_ ?_ l7 ?_
      · exact c3.mvq e7 (fun q k z => by simp only [cT1]; omega)
      · exact c4.mvq e7 (fun q k z => by simp only [cO1]; omega)
      · exact c6.mvq e7 (fun q k z => by simp only [cH1]; omega)
    have j10 : Jm (n + 113) (sAdd s x y t) (u11_puts (n + 113) M7 (s 0 6).toNat (jI (x : Int)) (jI (y : Int)) (jI (t : Int))) := by
      refine Jm.nw mm (jEq_Ad s x y t) e10 (fun q k z => by omega) ?_ ?_ ⟨?_, fun k => ?_, fun k => ?_, fun k => ?_⟩ ?_
      · exact mm.2.1.mvq (fun q k z => (e10 q k (by omega)).1)
      · exact mm.2.2.1.mvq (fun q k z => (e10 q k (by omega)).1)
      · show (if n + 113 = n + 113 ∧ 60 = 60 then jI (((s 0 6).toNat : Int) + 1) else _) = jI (s 0 6 + 1)
        rw [if_pos ⟨rfl, rfl⟩]; congr 1; omega
      · rw [sAdd_9, hl, Int.toNat_natCast]
        unfold u11_puts
        by_cases k0 : k = l
        · rw [if_pos (by omega), k0]; simp [m_u]
        rw [if_neg (by omega), if_neg (by omega), if_neg (by omega)]
        simp [m_u, k0]
        exact mm.2.2.2.1.2.1 k
      · rw [sAdd_9, hl, Int.toNat_natCast]
        unfold u11_puts
        by_cases k0 : k = l
        · rw [if_neg (by omega), if_pos (by omega), k0]; simp [m_u]
        rw [if_neg (by omega), if_neg (by omega), if_neg (by omega)]
        simp [m_u, k0]
        exact mm.2.2.2.1.2.2.1 k
      · rw [sAdd_9, hl, Int.toNat_natCast]
        unfold u11_puts
        by_cases k0 : k = l
        · rw [if_neg (by omega), if_neg (by omega), if_pos (by omega), k0]; simp [m_u]
        rw [if_neg (by omega), if_neg (by omega), if_neg (by omega)]
        simp [m_u, k0]
        exact mm.2.2.2.1.2.2.2 k
      · exact mm.2.2.2.2.mvq (fun q k z => (e10 q k (by omega)).1)
    have la := logs_add (s := s) (b := x) (r := y) (t := t) hG v7 hL hLh hLt (by omega) (by omega) (by omega)
    have js : Js (sAdd s x y t) := ⟨la.1, hO, la.2.1, la.2.2.2, la.2.2.1, hB⟩
    obtain ⟨j, a⟩ := h'.two js j7 e7 (fun q k z => by omega) j10 e10 (fun q k z => by omega)
    exact K _ c _ j (by omega) a
/-! draw -/
def dSm (s t : mS) : Prop := jEq s t ∧ t 0 4 = s 0 4 ∧ t 0 5 = s 0 5 ∧ t 7 = s 7 ∧ t 8 = s 8
theorem dSm.tr {u : mS} (h : dSm s t) (g : dSm t u) : dSm s u := ⟨h.1.tr g.1, g.2.1.trans h.2.1, g.2.2.1.trans h.2.2.1, g.2.2.2.1.trans h.2.2.2.1, g.2.2.2.2.trans h.2.2.2.2⟩
theorem jEq.rf : jEq s s := ⟨⟨rfl, rfl, rfl, rfl, rfl, rfl⟩, rfl, rfl, rfl, rfl, rfl, rfl, rfl, rfl⟩
theorem dSm.rf : dSm s s := ⟨jEq.rf, rfl, rfl, rfl, rfl⟩
theorem dSm_Ad (s : mS) (x y z : Nat) : dSm s (sAdd s x y z) := ⟨jEq_Ad s x y z, rfl, rfl, funext fun _ => rfl, funext fun _ => rfl⟩
theorem dSm_Di (s : mS) : dSm s (sDic s) := ⟨⟨⟨rfl, rfl, rfl, rfl, rfl, rfl⟩, funext fun _ => rfl, funext fun _ => rfl, funext fun _ => rfl, funext fun _ => rfl, funext fun _ => rfl, funext fun _ => rfl, funext fun _ => rfl, funext fun _ => rfl⟩, rfl, rfl, funext fun _ => rfl, funext fun _ => rfl⟩
theorem dSm_Bo (s : mS) (x y : Nat) : dSm s (sBox s x y) := ⟨⟨⟨rfl, rfl, rfl, rfl, rfl, rfl⟩, funext fun _ => rfl, funext fun _ => rfl, funext fun _ => rfl, funext fun _ => rfl, funext fun _ => rfl, funext fun _ => rfl, funext fun _ => rfl, funext fun _ => rfl⟩, rfl, rfl, funext fun _ => rfl, funext fun _ => rfl⟩
theorem dSm_S0 (s : mS) : dSm s (hSt0 s) := ⟨⟨⟨rfl, rfl, rfl, rfl, rfl, rfl⟩, funext fun _ => rfl, funext fun _ => rfl, funext fun _ => rfl, funext fun _ => rfl, funext fun _ => rfl, funext fun _ => rfl, funext fun _ => rfl, funext fun _ => rfl⟩, rfl, rfl, funext fun _ => rfl, funext fun _ => rfl⟩
theorem dSm_s8 (s : mS) (v : Int) : dSm s (s8 s v) := ⟨⟨⟨rfl, rfl, rfl, rfl, rfl, rfl⟩, funext fun _ => rfl, funext fun _ => rfl, funext fun _ => rfl, funext fun _ => rfl, funext fun _ => rfl, funext fun _ => rfl, funext fun _ => rfl, funext fun _ => rfl⟩, rfl, rfl, funext fun _ => rfl, funext fun _ => rfl⟩
theorem dSm_P (s : mS) (z x y : Nat) : dSm s (hmP s z x y).1 := by
  unfold hmP
  split
  · exact dSm.rf
  · split
    · exact dSm_Ad _ _ _ _
    · split
      · exact (dSm_Di s).tr (dSm_Ad _ _ _ _)
      · split
        · exact dSm_Di s
        · exact dSm_Di s
theorem dSm_mv (s : mS) (st : Nat → Nat) (x y : Nat) : dSm s (hmv s st x y).1 := by
  unfold hmv
  split
  · exact dSm.rf
  · show dSm s (if (hmP s (st x) x y).2 = 80 then sBox (hmP s (st x) x y).1 x y else (hmP s (st x) x y).1)
    split
    · exact (dSm_P s _ x y).tr (dSm_Bo _ _ _)
    · exact dSm_P s _ x y
theorem dSm_tk (s : mS) (st : Nat → Nat) (y k : Nat) : dSm s (hTick s st y k).1 := by
  induction k with
  | zero => exact dSm.rf
  | succ k ih => exact ih.tr (dSm_mv _ _ _ _)
theorem dSm_al (s : mS) (k : Nat) : dSm s (hAll s k).1 := by
  induction k with
  | zero => exact dSm_S0 s
  | succ k ih => exact ih.tr (dSm_tk _ _ _ _)
theorem dSm_dr (s : mS) : dSm s (sDrw s) := (dSm_al s 10).tr (dSm_s8 _ _)
/-- no box of a band that is not there -/
theorem box_mv (s : mS) (st : Nat → Nat) (x y k : Nat) (h : k ≠ x) : (hmv s st x y).1 10 k = s 10 k := by
  unfold hmv
  split
  · rfl
  · show (if (hmP s (st x) x y).2 = 80 then sBox (hmP s (st x) x y).1 x y else (hmP s (st x) x y).1) 10 k = s 10 k
    split
    · show (if 10 = 10 ∧ k = x then (y : Int) else (hmP s (st x) x y).1 10 k) = s 10 k
      rw [if_neg (fun q => h q.2), hmP_10]
    · rw [hmP_10]
theorem box_tk (s : mS) (st : Nat → Nat) (y k j : Nat) (h : k ≤ j) : (hTick s st y k).1 10 j = s 10 j := by
  induction k with
  | zero => rfl
  | succ k ih =>
    show (hmv (hTick s st y k).1 (hTick s st y k).2 k y).1 10 j = s 10 j
    rw [box_mv _ _ _ _ _ (by omega), ih (by omega)]
theorem box_al (s : mS) (k j : Nat) (h : (s 0 1).toNat ≤ j) : (hAll s k).1 10 j = 0 := by
  induction k with
  | zero => rfl
  | succ k ih =>
    show (hTick (hAll s k).1 (hAll s k).2 (k + 1) (s 0 1).toNat).1 10 j = 0
    rw [box_tk _ _ _ _ _ h, ih]
theorem Js_dr (h : Js s) (hr : s 0 0 ≠ 0) : Js (sDrw s) := by
  obtain ⟨hG, hO, hL, hLt, hLh, hB⟩ := id h
  have g0 := hG.1
  obtain ⟨q1, q2, q3, q4, q5, -, -⟩ := (hOkk_all hG hO hL (by omega) 10 (by omega)).1
  refine ⟨rG_s8 q1, q2, q3, q5, q4, fun k hk => ?_⟩
  have e := (dSm_dr s).1.1.2.1
  exact box_al s 10 k (by omega)
theorem t_draw (h : Jv Th n b s c M) (K : Jk Th n b c M G) : P10_draw 2047 Th n M (fun (v8 : Int32) (M7 : mM) => Th.2.2 (n + 113) = some (.inl 11) ∧ P11_draw 2047 Th (n + 113) M7 (fun (v11 : Int32) (M10 : mM) => if v8 = v11 then G M10 else False)) := by
  have h' := h
  obtain ⟨⟨hT, hT2, hb⟩, hJs, h3, h4⟩ := h
  obtain ⟨c1, c2, c3, c4, c5, c6, c7⟩ := id h3
  obtain ⟨m1, m2, m3, m4, m5⟩ := id h4
  obtain ⟨hG, hO, hL, hLt, hLh, hB⟩ := id hJs
  refine s10_draw (d := 1996) hT c1 c5 c6 hG hO hL hB (fun hn => ?_) (fun hv1 hv2 M7 k7 l7 u7 f7 => ?_)
  · refine ⟨hT2 0 _ rfl, ?_⟩
    refine s11_draw (d := 2007) hT2 m1 m4 m5 hG hO hL hB (fun _ => ?_) (fun q1 q2 => absurd hn (fun z => by rcases z with z | z; exact q1 z; exact q2 z))
    rw [if_pos rfl]
    exact K s c M h' (by omega) (fun _ => rfl)
  · have mm : Jm (n + 113) s M7 := h4.fr f7 (fun q k z => by simp only [sPl, sSk, sLaw, sHn] at z; omega)
    refine ⟨hT2 0 _ rfl, ?_⟩
    refine s11_draw (d := 2007) hT2 mm.1 mm.2.2.2.1 mm.2.2.2.2 hG hO hL hB (fun z => absurd z (fun z => by rcases z with z | z; exact hv1 z; exact hv2 z)) (fun _ _ M10 k10 l10 u10 f10 => ?_)
    rw [if_pos rfl]
    obtain ⟨d1, d4, d5, d7, d8⟩ := dSm_dr s
    have j7 : Jc Th n (sDrw s) c M7 := by
      refine ⟨k7, cDue_h d1 (c2.mvq f7 (fun q k z => by simp only [sPl, sSk, sLaw, sHn, cD1] at z ⊢; omega)), ?_, ?_, l7, u7, c7.mvq f7 (fun q k z => by simp only [sPl, sSk, sLaw, sHn, cC1] at z ⊢; omega)⟩
      · have := c3.mvq f7 (fun q k z => by simp only [sPl, sSk, sLaw, sHn, cT1] at z ⊢; omega)
        unfold cTape
        rw [d4, d7]
        exact this
      · have := c4.mvq f7 (fun q k z => by simp only [sPl, sSk, sLaw, sHn, cO1] at z ⊢; omega)
        unfold cOrd
        rw [d5, d8, d1.1.1]
        exact this
    have j10 : Jm (n + 113) (sDrw s) M10 := by
      refine ⟨k10, ?_, ?_, l10, u10⟩
      · have := mm.2.1.mvq (M' := M10) (fun q k z => (f10 q k (by simp only [sDr, sHu]; omega)).1)
        unfold mTape
        rw [d4, d7]
        exact this
      · have := mm.2.2.1.mvq (M' := M10) (fun q k z => (f10 q k (by simp only [sDr, sHu]; omega)).1)
        unfold mOrd
        rw [d5, d8]
        exact this
    obtain ⟨j, a⟩ := h'.two (Js_dr hJs hv2) j7 f7 (fun q k z => by simp only [sPl, sSk, sLaw, sHn] at z; omega) j10 f10 (fun q k z => by simp only [sDr, sHu] at z; omega)
    exact K _ c _ j (by omega) a
end OPD
