/-! ===== A CALL OF BOTH: the others that change nothing of the state (by a program) ===== -/
section OPB
variable {Th : mT} {n b : Nat} {s : mS} {c : Int} {M M' : mM} {S : Nat → Nat → Prop} {G : mM → Prop}
theorem Jv.du (h : Jv Th n b s c M) (q : qDue Th n s c M M') : ∃ p, Jv Th n b (sP12 s p) c M' ∧ ∀ k, M'.1 b k = M.1 b k := by
  obtain ⟨⟨hT, hT2, hb⟩, h2, ⟨a1, a2, a3, a4, a5, a6, a7⟩, h4⟩ := h
  obtain ⟨p, k1, k2, he⟩ := q
  refine ⟨p, ⟨⟨hT, hT2, hb⟩, h2, ⟨k1, k2, a3.mvq he (fun q k z => ?_), a4.mvq he (fun q k z => ?_), a5.mvq he (fun q k z => ?_), a6.mvq he (fun q k z => ?_), a7.mvq he (fun q k z => ?_)⟩, h4.fr he (fun q k z => ?_)⟩, fun k => (he _ _ (fun z => ?_)).1⟩
  all_goals (simp only [sBeg, sDf, sGv, sSk, sLaw, cT1, cO1, cL1, cH1, cC1] at z ⊢; omega)
theorem t_best {i1 i2 i3 i4 i5 i6 i7 : Nat} (h : Jv Th n b s c M) (K : Jk Th n b c M G) : P10_best 2047 Th n (M.1 b i1) (M.1 b i2) (M.1 b i3) (M.1 b i4) (M.1 b i5) (M.1 b i6) (M.1 b i7) M (fun (v8 : Int64) (M7 : mM) => Th.2.2 (n + 113) = some (.inl 11) ∧ P11_best 2047 Th (n + 113) (M7.1 b i1) (M7.1 b i2) (M7.1 b i3) (M7.1 b i4) (M7.1 b i5) (M7.1 b i6) (M7.1 b i7) M7 (fun (v11 : Int64) (M10 : mM) => if (lg_cmp v8 v11) = 0 then G M10 else False)) := by
  have h' := h
  obtain ⟨⟨hT, hT2, hb⟩, ⟨hG, hO, hL, hLt, hLh, hB⟩, ⟨c1, c2, c3, c4, c5, c6, c7⟩, ⟨m1, m2, m3, m4, m5⟩⟩ := h
  obtain ⟨z1, r1, e1⟩ := rI_ex (M.1 b i1)
  obtain ⟨z2, r2, e2⟩ := rI_ex (M.1 b i2)
  obtain ⟨z3, r3, e3⟩ := rI_ex (M.1 b i3)
  obtain ⟨z4, r4, e4⟩ := rI_ex (M.1 b i4)
  obtain ⟨z5, r5, e5⟩ := rI_ex (M.1 b i5)
  obtain ⟨z6, r6, e6⟩ := rI_ex (M.1 b i6)
  obtain ⟨z7, r7, e7⟩ := rI_ex (M.1 b i7)
  rw [e1, e2, e3, e4, e5, e6, e7]
  refine s10_best (d := 1977) hT c1 c2 hG hO r1 r2 r3 r4 r5 r6 r7 (fun hn M7 q7 => ?_) (fun hv M7 q7 => ?_)
  · obtain ⟨p, j7, a7⟩ := h'.du q7
    have j7' := j7
    obtain ⟨-, -, -, ⟨k1, k2, k3, k4, k5⟩⟩ := j7'
    refine ⟨hT2 0 _ rfl, ?_⟩
    rw [a7, a7, a7, a7, a7, a7, a7, e1, e2, e3, e4, e5, e6, e7]
    refine s11_best (s := s) (d := 2037) hT2 k1 hG hO r1 r2 r3 r4 r5 r6 r7 (fun _ => ?_) (fun hv => absurd hv hn)
    rw [if_pos (by rw [lc_eq])]
    exact K _ c M7 j7 (by omega) a7
  · obtain ⟨p, j7, a7⟩ := h'.du q7
    have j7' := j7
    obtain ⟨-, -, -, ⟨k1, k2, k3, k4, k5⟩⟩ := j7'
    refine ⟨hT2 0 _ rfl, ?_⟩
    rw [a7, a7, a7, a7, a7, a7, a7, e1, e2, e3, e4, e5, e6, e7]
    refine s11_best (s := s) (d := 2037) hT2 k1 hG hO r1 r2 r3 r4 r5 r6 r7 (fun hn => absurd hv hn) (fun _ M10 m10 f10 => ?_)
    rw [if_pos (by rw [lc_eq])]
    obtain ⟨j10, a10⟩ := j7.md (M' := M10) m10 f10 (fun q k z => by simp only [sTh, sBm, sXd, sYd, sXp, sYp, sGm, mR1] at z ⊢; omega)
    exact K _ c M10 j10 (by omega) (fun k => (a10 k).trans (a7 k))
theorem t_without {i1 i2 i3 : Nat} (h : Jv Th n b s c M) (K : Jk Th n b c M G) : P10_without 2047 Th n (M.1 b i1) (M.1 b i2) (M.1 b i3) M (fun (v8 : Int64) (M7 : mM) => Th.2.2 (n + 113) = some (.inl 11) ∧ P11_without 2047 Th (n + 113) (M7.1 b i1) (M7.1 b i2) (M7.1 b i3) M7 (fun (v11 : Int64) (M10 : mM) => if (lg_cmp v8 v11) = 0 then G M10 else False)) := by
  have h' := h
  obtain ⟨⟨hT, hT2, hb⟩, ⟨hG, hO, hL, hLt, hLh, hB⟩, ⟨c1, c2, c3, c4, c5, c6, c7⟩, ⟨m1, m2, m3, m4, m5⟩⟩ := h
  obtain ⟨z1, r1, e1⟩ := rI_ex (M.1 b i1)
  obtain ⟨z2, r2, e2⟩ := rI_ex (M.1 b i2)
  obtain ⟨z3, r3, e3⟩ := rI_ex (M.1 b i3)
  rw [e1, e2, e3]
  refine s10_without (d := 1977) hT c1 c2 hG hO r1 r2 r3 (fun hn M7 q7 => ?_) (fun hv M7 q7 => ?_)
  · obtain ⟨p, j7, a7⟩ := h'.du q7
    have j7' := j7
    obtain ⟨-, -, -, ⟨k1, k2, k3, k4, k5⟩⟩ := j7'
    refine ⟨hT2 0 _ rfl, ?_⟩
    rw [a7, a7, a7, e1, e2, e3]
    refine s11_without (s := s) (d := 2037) hT2 k1 hG hO r1 r2 r3 (fun _ => ?_) (fun hv => absurd hv hn)
    rw [if_pos (by rw [lc_eq])]
    exact K _ c M7 j7 (by omega) a7
  · obtain ⟨p, j7, a7⟩ := h'.du q7
    have j7' := j7
    obtain ⟨-, -, -, ⟨k1, k2, k3, k4, k5⟩⟩ := j7'
    refine ⟨hT2 0 _ rfl, ?_⟩
    rw [a7, a7, a7, e1, e2, e3]
    refine s11_without (s := s) (d := 2037) hT2 k1 hG hO r1 r2 r3 (fun hn => absurd hv hn) (fun _ M10 m10 f10 => ?_)
    rw [if_pos (by rw [lc_eq])]
    obtain ⟨j10, a10⟩ := j7.md (M' := M10) m10 f10 (fun q k z => by simp only [sTh, sBm, sXd, sYd, sXp, sYp, sGm, mR1] at z ⊢; omega)
    exact K _ c M10 j10 (by omega) (fun k => (a10 k).trans (a7 k))
theorem t_waits {i1 i2 i3 i4 i5 : Nat} (h : Jv Th n b s c M) (K : Jk Th n b c M G) : P10_waits 2047 Th n (M.1 b i1) (M.1 b i2) (M.1 b i3) (M.1 b i4) (M.1 b i5) M (fun (v8 : Int32) (M7 : mM) => Th.2.2 (n + 113) = some (.inl 11) ∧ P11_waits 2047 Th (n + 113) (M7.1 b i1) (M7.1 b i2) (M7.1 b i3) (M7.1 b i4) (M7.1 b i5) M7 (fun (v11 : Int32) (M10 : mM) => if v8 = v11 then G M10 else False)) := by
  have h' := h
  obtain ⟨⟨hT, hT2, hb⟩, ⟨hG, hO, hL, hLt, hLh, hB⟩, ⟨c1, c2, c3, c4, c5, c6, c7⟩, ⟨m1, m2, m3, m4, m5⟩⟩ := h
  obtain ⟨z1, r1, e1⟩ := rI_ex (M.1 b i1)
  obtain ⟨z2, r2, e2⟩ := rI_ex (M.1 b i2)
  obtain ⟨z3, r3, e3⟩ := rI_ex (M.1 b i3)
  obtain ⟨z4, r4, e4⟩ := rI_ex (M.1 b i4)
  obtain ⟨z5, r5, e5⟩ := rI_ex (M.1 b i5)
  rw [e1, e2, e3, e4, e5]
  refine s10_waits (d := 1977) hT c1 c2 hG hO r1 r2 r3 r4 r5 (fun hn M7 q7 => ?_) (fun hv M7 q7 => ?_)
  · obtain ⟨p, j7, a7⟩ := h'.du q7
    have j7' := j7
    obtain ⟨-, -, -, ⟨k1, k2, k3, k4, k5⟩⟩ := j7'
    refine ⟨hT2 0 _ rfl, ?_⟩
    rw [a7, a7, a7, a7, a7, e1, e2, e3, e4, e5]
    refine s11_waits (s := s) (d := 2037) hT2 k1 hG hO r1 r2 r3 r4 r5 (fun _ => ?_) (fun hv => absurd hv hn)
    rw [if_pos rfl]
    exact K _ c M7 j7 (by omega) a7
  · obtain ⟨p, j7, a7⟩ := h'.du q7
    have j7' := j7
    obtain ⟨-, -, -, ⟨k1, k2, k3, k4, k5⟩⟩ := j7'
    refine ⟨hT2 0 _ rfl, ?_⟩
    rw [a7, a7, a7, a7, a7, e1, e2, e3, e4, e5]
    refine s11_waits (s := s) (d := 2037) hT2 k1 hG hO r1 r2 r3 r4 r5 (fun hn => absurd hv hn) (fun _ M10 m10 f10 => ?_)
    rw [if_pos rfl]
    obtain ⟨j10, a10⟩ := j7.md (M' := M10) m10 f10 (fun q k z => by simp only [sTh, sBm, sXd, sYd, sXp, sYp, sGm, mR1] at z ⊢; omega)
    exact K _ c M10 j10 (by omega) (fun k => (a10 k).trans (a7 k))
theorem t_walk {i1 i2 : Nat} (h : Jv Th n b s c M) (K : Jk Th n b c M G) : P10_walk 2047 Th n (M.1 b i1) (M.1 b i2) M (fun (v8 : Int32) (M7 : mM) => Th.2.2 (n + 113) = some (.inl 11) ∧ P11_walk 2047 Th (n + 113) (M7.1 b i1) (M7.1 b i2) M7 (fun (v11 : Int32) (M10 : mM) => if v8 = v11 then G M10 else False)) := by
  have h' := h
  obtain ⟨⟨hT, hT2, hb⟩, ⟨hG, hO, hL, hLt, hLh, hB⟩, ⟨c1, c2, c3, c4, c5, c6, c7⟩, ⟨m1, m2, m3, m4, m5⟩⟩ := h
  obtain ⟨z1, r1, e1⟩ := rI_ex (M.1 b i1)
  obtain ⟨z2, r2, e2⟩ := rI_ex (M.1 b i2)
  rw [e1, e2]
  refine s10_walk (d := 2044) hT.1 c1.1.1 c1.1.2.2.1 hG r1 r2 (fun hn => ?_) (fun b' r' x1 x2 x3 x4 => ?_)
  · refine ⟨hT2 0 _ rfl, ?_⟩
    rw [e1, e2]
    refine s11_walk (d := 2044) hT2 m1.1 m1.2.1 hG r1 r2 (fun _ => ?_) (fun b' r' x1 x2 x3 x4 => absurd ⟨⟨by omega, by omega⟩, by omega, by omega⟩ hn)
    rw [if_pos rfl]
    exact K s c M h' (by omega) (fun _ => rfl)
  · refine ⟨hT2 0 _ rfl, ?_⟩
    rw [e1, e2]
    refine s11_walk (d := 2044) hT2 m1.1 m1.2.1 hG r1 r2 (fun hn => absurd ⟨⟨by omega, by omega⟩, by omega, by omega⟩ hn) (fun b'' r'' y1 y2 y3 y4 => ?_)
    have q1 : b'' = b' := by omega
    have q2 : r'' = r' := by omega
    subst q1 q2
    rw [if_pos rfl]
    exact K s c M h' (by omega) (fun _ => rfl)
theorem t_logged {i1 i2 : Nat} (h : Jv Th n b s c M) (K : Jk Th n b c M G) : P10_logged 2047 Th n (M.1 b i1) (M.1 b i2) M (fun (v8 : Int32) (M7 : mM) => Th.2.2 (n + 113) = some (.inl 11) ∧ P11_logged 2047 Th (n + 113) (M7.1 b i1) (M7.1 b i2) M7 (fun (v11 : Int32) (M10 : mM) => if v8 = v11 then G M10 else False)) := by
  have h' := h
  obtain ⟨⟨hT, hT2, hb⟩, ⟨hG, hO, hL, hLt, hLh, hB⟩, ⟨c1, c2, c3, c4, c5, c6, c7⟩, ⟨m1, m2, m3, m4, m5⟩⟩ := h
  obtain ⟨z1, r1, e1⟩ := rI_ex (M.1 b i1)
  obtain ⟨z2, r2, e2⟩ := rI_ex (M.1 b i2)
  rw [e1, e2]
  refine s10_logged (d := 2007) hT.1 c1.1.1 c5 hG r1 r2 ?_
  refine ⟨hT2 0 _ rfl, ?_⟩
  rw [e1, e2]
  refine s11_logged (d := 2007) hT2 m1.1 m4 hG r1 r2 ?_
  rw [if_pos rfl]
  exact K s c M h' (by omega) (fun _ => rfl)
theorem t_count {i1 : Nat} (h : Jv Th n b s c M) (K : Jk Th n b c M G) : P10_count 2047 Th n (M.1 b i1) M (fun (v8 : Int32) (M7 : mM) => Th.2.2 (n + 113) = some (.inl 11) ∧ P11_count 2047 Th (n + 113) (M7.1 b i1) M7 (fun (v11 : Int32) (M10 : mM) => if v8 = v11 then G M10 else False)) := by
  have h' := h
  obtain ⟨⟨hT, hT2, hb⟩, ⟨hG, hO, hL, hLt, hLh, hB⟩, ⟨c1, c2, c3, c4, c5, c6, c7⟩, ⟨m1, m2, m3, m4, m5⟩⟩ := h
  obtain ⟨z1, r1, e1⟩ := rI_ex (M.1 b i1)
  rw [e1]
  refine s10_count (d := 2046) hT.1 c1.1.1 c1.1.2.2.1 c1.1.2.2.2 c3 c4 c5 c6 r1 ?_
  refine ⟨hT2 0 _ rfl, ?_⟩
  rw [e1]
  refine s11_count (d := 2046) hT2 m1.2.1 (m1.2.2.1.trans (congrArg jI hO.2.2.2.symm)) m2 m3 m4 m5 r1 ?_
  rw [if_pos rfl]
  exact K s c M h' (by omega) (fun _ => rfl)
theorem t_had {i1 : Nat} (h : Jv Th n b s c M) (K : Jk Th n b c M G) : P10_had 2047 Th n (M.1 b i1) M (fun (v8 : Int32) (M7 : mM) => Th.2.2 (n + 113) = some (.inl 11) ∧ P11_had 2047 Th (n + 113) (M7.1 b i1) M7 (fun (v11 : Int32) (M10 : mM) => if v8 = v11 then G M10 else False)) := by
  have h' := h
  obtain ⟨⟨hT, hT2, hb⟩, ⟨hG, hO, hL, hLt, hLh, hB⟩, ⟨c1, c2, c3, c4, c5, c6, c7⟩, ⟨m1, m2, m3, m4, m5⟩⟩ := h
  obtain ⟨z1, r1, e1⟩ := rI_ex (M.1 b i1)
  rw [e1]
  have g1 := hG.2.1
  have g8 := hG.2.2.2.2.2.2.2.2.1
  have hR1 : M.1 (n + 3) 1 = jI ((s 0 1).toNat : Int) := by rw [c1.1.2.2.1.2.1]; congr 1; omega
  have hR2 : M.1 (n + 113) 1 = jI ((s 0 1).toNat : Int) := by rw [m1.2.1.2.1]; congr 1; omega
  have hz : (M.1 (n + 107) 9 = 0 ↔ s 0 8 = 0) ∧ (M.1 (n + 113) 61 = 0 ↔ s 0 8 = 0) := by
    rw [c6.2.1, m5.2.1, jq0 (rI_of (by omega) (by omega))]
    exact ⟨Iff.rfl, Iff.rfl⟩
  refine s10_had (d := 2044) hT.1 c1.1.1 hR1 (by omega) r1 (fun hn => ?_) (fun x1 x2 x3 => ?_)
  · refine ⟨hT2 0 _ rfl, ?_⟩
    rw [e1]
    refine s11_had (d := 2045) hT2 m1.1 hR2 (by omega) r1 (fun _ => ?_) (fun y1 y2 y3 => ?_)
    · rw [if_pos rfl]
      exact K s c M h' (by omega) (fun _ => rfl)
    · rcases hn with q | q
      · exact absurd ⟨y1, y2⟩ q
      · exact absurd (hz.2.mpr (hz.1.mp q)) y3
  · refine ⟨hT2 0 _ rfl, ?_⟩
    rw [e1]
    refine s11_had (d := 2045) hT2 m1.1 hR2 (by omega) r1 (fun hn => ?_) (fun y1 y2 y3 => ?_)
    · rcases hn with q | q
      · exact absurd ⟨x1, x2⟩ q
      · exact absurd (hz.1.mpr (hz.2.mp q)) x3
    · rw [c6.2.2, m5.2.2, if_pos rfl]
      exact K s c M h' (by omega) (fun _ => rfl)
theorem t_given {i1 i2 : Nat} (h : Jv Th n b s c M) (K : Jk Th n b c M G) : P10_given 2047 Th n (M.1 b i1) (M.1 b i2) M (fun (v8 : Int32) (M7 : mM) => Th.2.2 (n + 113) = some (.inl 11) ∧ P11_given 2047 Th (n + 113) (M7.1 b i1) (M7.1 b i2) M7 (fun (v11 : Int32) (M10 : mM) => if v8 = v11 then G M10 else False)) := by
  have h' := h
  obtain ⟨⟨hT, hT2, hb⟩, ⟨hG, hO, hL, hLt, hLh, hB⟩, ⟨c1, c2, c3, c4, c5, c6, c7⟩, ⟨m1, m2, m3, m4, m5⟩⟩ := h
  obtain ⟨z1, r1, e1⟩ := rI_ex (M.1 b i1)
  obtain ⟨z2, r2, e2⟩ := rI_ex (M.1 b i2)
  rw [e1, e2]
  refine s10_given (d := 2007) hT.1 c1.1.1 c4 hG r1 r2 (fun hn => ?_) (fun hv M7 f7 => ?_)
  · refine ⟨hT2 0 _ rfl, ?_⟩
    rw [e1, e2]
    refine s11_given (d := 2007) hT2 m1.1 m1.2.1 m3 hG r1 r2 (fun _ => ?_) (fun hv => absurd hv hn)
    rw [if_pos rfl]
    exact K s c M h' (by omega) (fun _ => rfl)
  · have m7 : KM Th n s c M7 := c1.mvS hT f7 (fun o k v hv z => by simp only [sGv] at z; simp [rsA] at hv; omega) (fun q k z => by simp only [sGv] at z; omega)
    obtain ⟨j7, a7⟩ := h'.cl m7 (c7.mvq f7 (fun q k z => by simp only [sGv, cC1] at z ⊢; omega)) f7 (fun q k z => by simp only [sGv, cT1, cO1, cL1, cH1, cD1] at z ⊢; omega)
    have j7' := j7
    obtain ⟨-, -, -, ⟨k1, k2, k3, k4, k5⟩⟩ := j7'
    refine ⟨hT2 0 _ rfl, ?_⟩
    rw [a7, a7, e1, e2]
    refine s11_given (d := 2007) hT2 k1.1 k1.2.1 k3 hG r1 r2 (fun hn => absurd hv hn) (fun _ M10 f10 => ?_)
    rw [if_pos rfl]
    obtain ⟨j10, a10⟩ := j7.md (k1.mv f10 (fun q k z => by simp only [sGm] at z; omega)) f10 (fun q k z => by simp only [sGm, mR1] at z ⊢; omega)
    exact K s c M10 j10 (by omega) (fun k => (a10 k).trans (a7 k))
end OPB
