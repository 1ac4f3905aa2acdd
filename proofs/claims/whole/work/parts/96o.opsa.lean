/-! ===== A CALL OF BOTH: those that change nothing of the state (laid by a program) ===== -/
def Jv (Th : mT) (n b : Nat) (s : mS) (c : Int) (M : mM) : Prop := (gTh Th n ∧ LyM Th (n + 113) ∧ b < n) ∧ Js s ∧ Jc Th n s c M ∧ Jm (n + 113) s M
/-- it goes on from every such state -/
def Jk (Th : mT) (n b : Nat) (c : Int) (M : mM) (G : mM → Prop) : Prop := ∀ s' c' M', Jv Th n b s' c' M' → c' ≤ c + 1 → (∀ k, M'.1 b k = M.1 b k) → G M'
section OPA
variable {Th : mT} {n b : Nat} {s : mS} {c : Int} {M M' : mM} {S : Nat → Nat → Prop} {G : mM → Prop}
theorem Jv.cl (h : Jv Th n b s c M) (hk : KM Th n s c M') (hc : cCh n M') (he : Eo S M M') (hs : ∀ q k, S q k → n ≤ q ∧ q < n + 113 ∧ ¬ (cT1 n q k ∨ cO1 n q k ∨ cL1 n q k ∨ cH1 n q k ∨ cD1 n q k)) : Jv Th n b s c M' ∧ ∀ k, M'.1 b k = M.1 b k := by
  obtain ⟨⟨hT, hT2, hb⟩, h2, h3, h4⟩ := h
  exact ⟨⟨⟨hT, hT2, hb⟩, h2, h3.rest hk hc he (fun q k z => (hs q k z).2.2), h4.fr he (fun q k z => (hs q k z).2.1)⟩, fun k => (he _ _ (fun z => by have := (hs _ _ z).1; omega)).1⟩
theorem Jv.md (h : Jv Th n b s c M) (hk : KT (n + 113) s M') (he : Eo S M M') (hs : ∀ q k, S q k → n + 113 ≤ q ∧ ¬ mR1 (n + 113) q k) : Jv Th n b s c M' ∧ ∀ k, M'.1 b k = M.1 b k := by
  obtain ⟨⟨hT, hT2, hb⟩, h2, h3, h4⟩ := h
  exact ⟨⟨⟨hT, hT2, hb⟩, h2, h3.fr hT he (fun q k z => (hs q k z).1), h4.rest hk he (fun q k z => (hs q k z).2)⟩, fun k => (he _ _ (fun z => by have := (hs _ _ z).1; omega)).1⟩
theorem Jv.ch (h : Jv Th n b s c M) : cCh n M := h.2.2.1.2.2.2.2.2.2
theorem t_chance {i1 i2 i3 i4 : Nat} (h : Jv Th n b s c M) (K : Jk Th n b c M G) : P10_chance 2047 Th n (M.1 b i1) (M.1 b i2) (M.1 b i3) (M.1 b i4) M (fun (v8 : Int32) (M7 : mM) => Th.2.2 (n + 113) = some (.inl 11) ∧ P11_chance 2047 Th (n + 113) (M7.1 b i1) (M7.1 b i2) (M7.1 b i3) (M7.1 b i4) M7 (fun (v11 : Int32) (M10 : mM) => if v8 = v11 then G M10 else False)) := by
  have h' := h
  obtain ⟨⟨hT, hT2, hb⟩, ⟨hG, hO, hL, hLt, hLh, hB⟩, ⟨c1, c2, c3, c4, c5, c6, c7⟩, ⟨m1, m2, m3, m4, m5⟩⟩ := h
  obtain ⟨z1, r1, e1⟩ := rI_ex (M.1 b i1)
  obtain ⟨z2, r2, e2⟩ := rI_ex (M.1 b i2)
  obtain ⟨z3, r3, e3⟩ := rI_ex (M.1 b i3)
  obtain ⟨z4, r4, e4⟩ := rI_ex (M.1 b i4)
  rw [e1, e2, e3, e4]
  refine s10_chance (d := 2007) hT c1 hG hO r1 r2 r3 r4 (fun hn => ?_) (fun hv M7 m7 f7 => ?_)
  · refine ⟨hT2 0 _ rfl, ?_⟩
    rw [e1, e2, e3, e4]
    refine s11_chance (d := 2007) hT2 m1 hG hO r1 r2 r3 r4 (fun _ => ?_) (fun hv => absurd hv hn)
    rw [if_pos rfl]
    exact K s c M h' (by omega) (fun _ => rfl)
  · obtain ⟨j7, a7⟩ := h'.cl m7 (h'.ch.mvq f7 (fun q k z => by simp only [sGv, sWy, sSk, sLaw, sPp, sPa, sFo, sCh, sEd, sLd, sSh, sJo, aSk, cT1, cO1, cL1, cH1, cD1, cC1] at z ⊢; omega)) f7 (fun q k z => by simp only [sGv, sWy, sSk, sLaw, sPp, sPa, sFo, sCh, sEd, sLd, sSh, sJo, aSk, cT1, cO1, cL1, cH1, cD1, cC1] at z ⊢; omega)
    have j7' := j7
    obtain ⟨-, -, -, ⟨k1, k2, k3, k4, k5⟩⟩ := j7'
    refine ⟨hT2 0 _ rfl, ?_⟩
    rw [a7, a7, a7, a7, e1, e2, e3, e4]
    refine s11_chance (d := 2007) hT2 k1 hG hO r1 r2 r3 r4 (fun hn => absurd hv hn) (fun _ M10 m10 f10 => ?_)
    rw [if_pos rfl]
    obtain ⟨j10, a10⟩ := j7.md m10 f10 (fun q k z => by simp only [sTh, sGo, sSt, sRa, sAf, sEm, sBm, sXd, sYd, sXp, sYp, sGm, mR1] at z ⊢; omega)
    exact K s c M10 j10 (by omega) (fun k => (a10 k).trans (a7 k))
theorem t_ways {i1 i2 i3 : Nat} (h : Jv Th n b s c M) (K : Jk Th n b c M G) : P10_ways 2047 Th n (M.1 b i1) (M.1 b i2) (M.1 b i3) M (fun (v8 : Int64) (M7 : mM) => Th.2.2 (n + 113) = some (.inl 11) ∧ P11_ways 2047 Th (n + 113) (M7.1 b i1) (M7.1 b i2) (M7.1 b i3) M7 (fun (v11 : Int64) (M10 : mM) => if (lg_cmp v8 v11) = 0 then G M10 else False)) := by
  have h' := h
  obtain ⟨⟨hT, hT2, hb⟩, ⟨hG, hO, hL, hLt, hLh, hB⟩, ⟨c1, c2, c3, c4, c5, c6, c7⟩, ⟨m1, m2, m3, m4, m5⟩⟩ := h
  obtain ⟨z1, r1, e1⟩ := rI_ex (M.1 b i1)
  obtain ⟨z2, r2, e2⟩ := rI_ex (M.1 b i2)
  obtain ⟨z3, r3, e3⟩ := rI_ex (M.1 b i3)
  rw [e1, e2, e3]
  refine s10_ways (d := 2007) hT c1 hG hO r1 r2 r3 (fun hn => ?_) (fun hv M7 m7 f7 => ?_)
  · refine ⟨hT2 0 _ rfl, ?_⟩
    rw [e1, e2, e3]
    refine s11_ways (d := 2007) hT2 m1 hG hO r1 r2 r3 (fun _ => ?_) (fun hv => absurd hv hn)
    rw [if_pos (by rw [lc_eq])]
    exact K s c M h' (by omega) (fun _ => rfl)
  · obtain ⟨j7, a7⟩ := h'.cl m7 (h'.ch.mvq f7 (fun q k z => by simp only [sGv, sWy, sSk, sLaw, sPp, sPa, sFo, sCh, sEd, sLd, sSh, sJo, aSk, cT1, cO1, cL1, cH1, cD1, cC1] at z ⊢; omega)) f7 (fun q k z => by simp only [sGv, sWy, sSk, sLaw, sPp, sPa, sFo, sCh, sEd, sLd, sSh, sJo, aSk, cT1, cO1, cL1, cH1, cD1, cC1] at z ⊢; omega)
    have j7' := j7
    obtain ⟨-, -, -, ⟨k1, k2, k3, k4, k5⟩⟩ := j7'
    refine ⟨hT2 0 _ rfl, ?_⟩
    rw [a7, a7, a7, e1, e2, e3]
    refine s11_ways (d := 2007) hT2 k1 hG hO r1 r2 r3 (fun hn => absurd hv hn) (fun _ M10 m10 f10 => ?_)
    rw [if_pos (by rw [lc_eq])]
    obtain ⟨j10, a10⟩ := j7.md m10 f10 (fun q k z => by simp only [sTh, sGo, sSt, sRa, sAf, sEm, sBm, sXd, sYd, sXp, sYp, sGm, mR1] at z ⊢; omega)
    exact K s c M10 j10 (by omega) (fun k => (a10 k).trans (a7 k))
theorem t_ahead {i1 i2 i3 : Nat} (h : Jv Th n b s c M) (K : Jk Th n b c M G) : P10_ahead 2047 Th n (M.1 b i1) (M.1 b i2) (M.1 b i3) M (fun (v8 : Int64) (M7 : mM) => Th.2.2 (n + 113) = some (.inl 11) ∧ P11_ahead 2047 Th (n + 113) (M7.1 b i1) (M7.1 b i2) (M7.1 b i3) M7 (fun (v11 : Int64) (M10 : mM) => if (lg_cmp v8 v11) = 0 then G M10 else False)) := by
  have h' := h
  obtain ⟨⟨hT, hT2, hb⟩, ⟨hG, hO, hL, hLt, hLh, hB⟩, ⟨c1, c2, c3, c4, c5, c6, c7⟩, ⟨m1, m2, m3, m4, m5⟩⟩ := h
  obtain ⟨z1, r1, e1⟩ := rI_ex (M.1 b i1)
  obtain ⟨z2, r2, e2⟩ := rI_ex (M.1 b i2)
  obtain ⟨z3, r3, e3⟩ := rI_ex (M.1 b i3)
  rw [e1, e2, e3]
  refine s10_ahead (d := 2007) hT c1 hG hO r1 r2 r3 (fun hn => ?_) (fun hv M7 m7 f7 => ?_)
  · refine ⟨hT2 0 _ rfl, ?_⟩
    rw [e1, e2, e3]
    refine s11_ahead (d := 2007) hT2 m1 hG hO r1 r2 r3 (fun _ => ?_) (fun hv => absurd hv hn)
    rw [if_pos (by rw [lc_eq])]
    exact K s c M h' (by omega) (fun _ => rfl)
  · obtain ⟨j7, a7⟩ := h'.cl m7 (h'.ch.mvq f7 (fun q k z => by simp only [sGv, sWy, sSk, sLaw, sPp, sPa, sFo, sCh, sEd, sLd, sSh, sJo, aSk, cT1, cO1, cL1, cH1, cD1, cC1] at z ⊢; omega)) f7 (fun q k z => by simp only [sGv, sWy, sSk, sLaw, sPp, sPa, sFo, sCh, sEd, sLd, sSh, sJo, aSk, cT1, cO1, cL1, cH1, cD1, cC1] at z ⊢; omega)
    have j7' := j7
    obtain ⟨-, -, -, ⟨k1, k2, k3, k4, k5⟩⟩ := j7'
    refine ⟨hT2 0 _ rfl, ?_⟩
    rw [a7, a7, a7, e1, e2, e3]
    refine s11_ahead (d := 2007) hT2 k1 hG hO r1 r2 r3 (fun hn => absurd hv hn) (fun _ M10 m10 f10 => ?_)
    rw [if_pos (by rw [lc_eq])]
    obtain ⟨j10, a10⟩ := j7.md m10 f10 (fun q k z => by simp only [sTh, sGo, sSt, sRa, sAf, sEm, sBm, sXd, sYd, sXp, sYp, sGm, mR1] at z ⊢; omega)
    exact K s c M10 j10 (by omega) (fun k => (a10 k).trans (a7 k))
theorem t_share {i1 i2 i3 : Nat} (h : Jv Th n b s c M) (K : Jk Th n b c M G) : P10_share 2047 Th n (M.1 b i1) (M.1 b i2) (M.1 b i3) M (fun (v8 : Int64) (M7 : mM) => Th.2.2 (n + 113) = some (.inl 11) ∧ P11_share 2047 Th (n + 113) (M7.1 b i1) (M7.1 b i2) (M7.1 b i3) M7 (fun (v11 : Int64) (M10 : mM) => if (lg_cmp v8 v11) = 0 then G M10 else False)) := by
  have h' := h
  obtain ⟨⟨hT, hT2, hb⟩, ⟨hG, hO, hL, hLt, hLh, hB⟩, ⟨c1, c2, c3, c4, c5, c6, c7⟩, ⟨m1, m2, m3, m4, m5⟩⟩ := h
  obtain ⟨z1, r1, e1⟩ := rI_ex (M.1 b i1)
  obtain ⟨z2, r2, e2⟩ := rI_ex (M.1 b i2)
  obtain ⟨z3, r3, e3⟩ := rI_ex (M.1 b i3)
  rw [e1, e2, e3]
  refine s10_share (d := 2006) hT c1 hG hO r1 r2 r3 (fun hn => ?_) (fun hv M7 m7 f7 => ?_)
  · refine ⟨hT2 0 _ rfl, ?_⟩
    rw [e1, e2, e3]
    refine s11_share (d := 2007) hT2 m1 hG hO r1 r2 r3 (fun _ => ?_) (fun hv => absurd hv hn)
    rw [if_pos (by rw [lc_eq])]
    exact K s c M h' (by omega) (fun _ => rfl)
  · obtain ⟨j7, a7⟩ := h'.cl m7 (h'.ch.mvq f7 (fun q k z => by simp only [sGv, sWy, sSk, sLaw, sPp, sPa, sFo, sCh, sEd, sLd, sSh, sJo, aSk, cT1, cO1, cL1, cH1, cD1, cC1] at z ⊢; omega)) f7 (fun q k z => by simp only [sGv, sWy, sSk, sLaw, sPp, sPa, sFo, sCh, sEd, sLd, sSh, sJo, aSk, cT1, cO1, cL1, cH1, cD1, cC1] at z ⊢; omega)
    have j7' := j7
    obtain ⟨-, -, -, ⟨k1, k2, k3, k4, k5⟩⟩ := j7'
    refine ⟨hT2 0 _ rfl, ?_⟩
    rw [a7, a7, a7, e1, e2, e3]
    refine s11_share (d := 2007) hT2 k1 hG hO r1 r2 r3 (fun hn => absurd hv hn) (fun _ M10 m10 f10 => ?_)
    rw [if_pos (by rw [lc_eq])]
    obtain ⟨j10, a10⟩ := j7.md m10 f10 (fun q k z => by simp only [sTh, sGo, sSt, sRa, sAf, sEm, sBm, sXd, sYd, sXp, sYp, sGm, mR1] at z ⊢; omega)
    exact K s c M10 j10 (by omega) (fun k => (a10 k).trans (a7 k))
theorem t_after {i1 i2 i3 i4 : Nat} (h : Jv Th n b s c M) (K : Jk Th n b c M G) : P10_after 2047 Th n (M.1 b i1) (M.1 b i2) (M.1 b i3) (M.1 b i4) M (fun (v8 : Int64) (M7 : mM) => Th.2.2 (n + 113) = some (.inl 11) ∧ P11_after 2047 Th (n + 113) (M7.1 b i1) (M7.1 b i2) (M7.1 b i3) (M7.1 b i4) M7 (fun (v11 : Int64) (M10 : mM) => if (lg_cmp v8 v11) = 0 then G M10 else False)) := by
  have h' := h
  obtain ⟨⟨hT, hT2, hb⟩, ⟨hG, hO, hL, hLt, hLh, hB⟩, ⟨c1, c2, c3, c4, c5, c6, c7⟩, ⟨m1, m2, m3, m4, m5⟩⟩ := h
  obtain ⟨z1, r1, e1⟩ := rI_ex (M.1 b i1)
  obtain ⟨z2, r2, e2⟩ := rI_ex (M.1 b i2)
  obtain ⟨z3, r3, e3⟩ := rI_ex (M.1 b i3)
  obtain ⟨z4, r4, e4⟩ := rI_ex (M.1 b i4)
  rw [e1, e2, e3, e4]
  refine s10_after (d := 2006) hT c1 c7 hG hO r1 r2 r3 r4 (fun hn => ?_) (fun hv M7 m7 c7' f7 => ?_)
  · refine ⟨hT2 0 _ rfl, ?_⟩
    rw [e1, e2, e3, e4]
    refine s11_after (d := 2006) hT2 m1 hG hO r1 r2 r3 r4 (fun _ => ?_) (fun hv => absurd hv hn)
    rw [if_pos (by rw [lc_eq])]
    exact K s c M h' (by omega) (fun _ => rfl)
  · obtain ⟨j7, a7⟩ := h'.cl m7 c7' f7 (fun q k z => by simp only [sGv, sWy, sSk, sLaw, sPp, sPa, sFo, sCh, sEd, sLd, sSh, sJo, aSk, cT1, cO1, cL1, cH1, cD1, cC1] at z ⊢; omega)
    have j7' := j7
    obtain ⟨-, -, -, ⟨k1, k2, k3, k4, k5⟩⟩ := j7'
    refine ⟨hT2 0 _ rfl, ?_⟩
    rw [a7, a7, a7, a7, e1, e2, e3, e4]
    refine s11_after (d := 2006) hT2 k1 hG hO r1 r2 r3 r4 (fun hn => absurd hv hn) (fun _ M10 m10 f10 => ?_)
    rw [if_pos (by rw [lc_eq])]
    obtain ⟨j10, a10⟩ := j7.md m10 f10 (fun q k z => by simp only [sTh, sGo, sSt, sRa, sAf, sEm, sBm, sXd, sYd, sXp, sYp, sGm, mR1] at z ⊢; omega)
    exact K s c M10 j10 (by omega) (fun k => (a10 k).trans (a7 k))
theorem t_edge {i1 i2 : Nat} (h : Jv Th n b s c M) (K : Jk Th n b c M G) : P10_edge 2047 Th n (M.1 b i1) (M.1 b i2) M (fun (v8 : Int32) (M7 : mM) => Th.2.2 (n + 113) = some (.inl 11) ∧ P11_edge 2047 Th (n + 113) (M7.1 b i1) (M7.1 b i2) M7 (fun (v11 : Int32) (M10 : mM) => if v8 = v11 then G M10 else False)) := by
  have h' := h
  obtain ⟨⟨hT, hT2, hb⟩, ⟨hG, hO, hL, hLt, hLh, hB⟩, ⟨c1, c2, c3, c4, c5, c6, c7⟩, ⟨m1, m2, m3, m4, m5⟩⟩ := h
  obtain ⟨z1, r1, e1⟩ := rI_ex (M.1 b i1)
  obtain ⟨z2, r2, e2⟩ := rI_ex (M.1 b i2)
  rw [e1, e2]
  refine s10_edge (d := 2006) hT c1 c7 hG hO r1 r2 (fun hn => ?_) (fun hv M7 m7 c7' f7 => ?_)
  · refine ⟨hT2 0 _ rfl, ?_⟩
    rw [e1, e2]
    refine s11_edge (d := 2006) hT2 m1 hG hO r1 r2 (fun _ => ?_) (fun hv => absurd hv hn)
    rw [if_pos rfl]
    exact K s c M h' (by omega) (fun _ => rfl)
  · obtain ⟨j7, a7⟩ := h'.cl m7 c7' f7 (fun q k z => by simp only [sGv, sWy, sSk, sLaw, sPp, sPa, sFo, sCh, sEd, sLd, sSh, sJo, aSk, cT1, cO1, cL1, cH1, cD1, cC1] at z ⊢; omega)
    have j7' := j7
    obtain ⟨-, -, -, ⟨k1, k2, k3, k4, k5⟩⟩ := j7'
    refine ⟨hT2 0 _ rfl, ?_⟩
    rw [a7, a7, e1, e2]
    refine s11_edge (d := 2006) hT2 k1 hG hO r1 r2 (fun hn => absurd hv hn) (fun _ M10 m10 f10 => ?_)
    rw [if_pos rfl]
    obtain ⟨j10, a10⟩ := j7.md m10 f10 (fun q k z => by simp only [sTh, sGo, sSt, sRa, sAf, sEm, sBm, sXd, sYd, sXp, sYp, sGm, mR1] at z ⊢; omega)
    exact K s c M10 j10 (by omega) (fun k => (a10 k).trans (a7 k))
theorem t_cleverest {i1 i2 i3 : Nat} (h : Jv Th n b s c M) (K : Jk Th n b c M G) : P10_cleverest 2047 Th n (M.1 b i1) (M.1 b i2) (M.1 b i3) M (fun (v8 : Int64) (M7 : mM) => Th.2.2 (n + 113) = some (.inl 11) ∧ P11_cleverest 2047 Th (n + 113) (M7.1 b i1) (M7.1 b i2) (M7.1 b i3) M7 (fun (v11 : Int64) (M10 : mM) => if (lg_cmp v8 v11) = 0 then G M10 else False)) := by
  have h' := h
  obtain ⟨⟨hT, hT2, hb⟩, ⟨hG, hO, hL, hLt, hLh, hB⟩, ⟨c1, c2, c3, c4, c5, c6, c7⟩, ⟨m1, m2, m3, m4, m5⟩⟩ := h
  obtain ⟨z1, r1, e1⟩ := rI_ex (M.1 b i1)
  obtain ⟨z2, r2, e2⟩ := rI_ex (M.1 b i2)
  obtain ⟨z3, r3, e3⟩ := rI_ex (M.1 b i3)
  rw [e1, e2, e3]
  refine s10_cleverest (d := 2007) hT c1 hG hO r1 r2 r3 (fun hn => ?_) (fun hv M7 m7 f7 => ?_)
  · refine ⟨hT2 0 _ rfl, ?_⟩
    rw [e1, e2, e3]
    refine s11_cleverest (d := 2007) hT2 m1 hG hO r1 r2 r3 (fun _ => ?_) (fun hv => absurd hv hn)
    rw [if_pos (by rw [lc_eq])]
    exact K s c M h' (by omega) (fun _ => rfl)
  · obtain ⟨j7, a7⟩ := h'.cl m7 (h'.ch.mvq f7 (fun q k z => by simp only [sGv, sWy, sSk, sLaw, sPp, sPa, sFo, sCh, sEd, sLd, sSh, sJo, aSk, cT1, cO1, cL1, cH1, cD1, cC1] at z ⊢; omega)) f7 (fun q k z => by simp only [sGv, sWy, sSk, sLaw, sPp, sPa, sFo, sCh, sEd, sLd, sSh, sJo, aSk, cT1, cO1, cL1, cH1, cD1, cC1] at z ⊢; omega)
    have j7' := j7
    obtain ⟨-, -, -, ⟨k1, k2, k3, k4, k5⟩⟩ := j7'
    refine ⟨hT2 0 _ rfl, ?_⟩
    rw [a7, a7, a7, e1, e2, e3]
    refine s11_cleverest (d := 2007) hT2 k1 hG hO r1 r2 r3 (fun hn => absurd hv hn) (fun _ M10 m10 f10 => ?_)
    rw [if_pos (by rw [lc_eq])]
    obtain ⟨j10, a10⟩ := j7.md m10 f10 (fun q k z => by simp only [sTh, sGo, sSt, sRa, sAf, sEm, sBm, sXd, sYd, sXp, sYp, sGm, mR1] at z ⊢; omega)
    exact K s c M10 j10 (by omega) (fun k => (a10 k).trans (a7 k))
theorem t_knew {i1 i2 i3 : Nat} (h : Jv Th n b s c M) (K : Jk Th n b c M G) : P10_knew 2047 Th n (M.1 b i1) (M.1 b i2) (M.1 b i3) M (fun (v8 : Int32) (M7 : mM) => Th.2.2 (n + 113) = some (.inl 11) ∧ P11_knew 2047 Th (n + 113) (M7.1 b i1) (M7.1 b i2) (M7.1 b i3) M7 (fun (v11 : Int32) (M10 : mM) => if v8 = v11 then G M10 else False)) := by
  have h' := h
  obtain ⟨⟨hT, hT2, hb⟩, ⟨hG, hO, hL, hLt, hLh, hB⟩, ⟨c1, c2, c3, c4, c5, c6, c7⟩, ⟨m1, m2, m3, m4, m5⟩⟩ := h
  obtain ⟨z1, r1, e1⟩ := rI_ex (M.1 b i1)
  obtain ⟨z2, r2, e2⟩ := rI_ex (M.1 b i2)
  obtain ⟨z3, r3, e3⟩ := rI_ex (M.1 b i3)
  rw [e1, e2, e3]
  refine s10_knew (d := 2007) hT c1 c5 hG hO hL hLh r1 r2 r3 (fun hn => ?_) (fun hv M7 m7 f7 => ?_)
  · refine ⟨hT2 0 _ rfl, ?_⟩
    rw [e1, e2, e3]
    refine s11_knew (d := 2007) hT2 m1 m4 hG hO hL hLh r1 r2 r3 (fun _ => ?_) (fun hv => absurd hv hn)
    rw [if_pos rfl]
    exact K s c M h' (by omega) (fun _ => rfl)
  · obtain ⟨j7, a7⟩ := h'.cl m7 (h'.ch.mvq f7 (fun q k z => by simp only [sGv, sWy, sSk, sLaw, sPp, sPa, sFo, sCh, sEd, sLd, sSh, sJo, aSk, cT1, cO1, cL1, cH1, cD1, cC1] at z ⊢; omega)) f7 (fun q k z => by simp only [sGv, sWy, sSk, sLaw, sPp, sPa, sFo, sCh, sEd, sLd, sSh, sJo, aSk, cT1, cO1, cL1, cH1, cD1, cC1] at z ⊢; omega)
    have j7' := j7
    obtain ⟨-, -, -, ⟨k1, k2, k3, k4, k5⟩⟩ := j7'
    refine ⟨hT2 0 _ rfl, ?_⟩
    rw [a7, a7, a7, e1, e2, e3]
    refine s11_knew (d := 2007) hT2 k1 k4 hG hO hL hLh r1 r2 r3 (fun hn => absurd hv hn) (fun _ M10 m10 f10 => ?_)
    rw [if_pos rfl]
    obtain ⟨j10, a10⟩ := j7.md m10 f10 (fun q k z => by simp only [sTh, sGo, sSt, sRa, sAf, sEm, sBm, sXd, sYd, sXp, sYp, sGm, mR1] at z ⊢; omega)
    exact K s c M10 j10 (by omega) (fun k => (a10 k).trans (a7 k))
end OPA
