/-! ===== A CALL OF BOTH: those that change the hill ===== -/
section OPE
variable {Th : mT} {n m b : Nat} {s t : mS} {c : Int} {M M' : mM} {S : Nat → Nat → Prop} {G : mM → Prop}
theorem KM_up (h : KM Th n s c M) (hH : KH Th n t M') (h4 : M'.1 (n + 3) 4 = jI (c + 1)) (hst : ∀ b, b < 5 → M'.1 (aSk n b) 3 = M.1 (aSk n b) 3) (hp : ∀ b, t 12 b = 0) (hc : c < 100000) : KM Th n t (c + 1) M' := by
  obtain ⟨a1, a2, a3, a4⟩ := h
  refine ⟨hH, h4, ⟨by omega, by omega⟩, fun b hb => ?_⟩
  obtain ⟨cb, t1, t2, t3, t4, t5⟩ := a4 b hb
  refine ⟨cb, (hst b hb).trans t1, t2, by omega, fun q => by omega, fun q => ?_⟩
  rw [hp b] at q
  exact absurd q (by decide)
theorem cDue_up (h : cDue n s c M) (he : ∀ k, M'.1 (n + 94) k = M.1 (n + 94) k) : cDue n t (c + 1) M' := by
  obtain ⟨fx, fy, fn, fc, r, ⟨d1, d2, d3, d4⟩, hc, q⟩ := h
  exact ⟨fx, fy, fn, fc, r, ⟨(he _).trans d1, (he _).trans d2, (he _).trans d3, (he _).trans d4⟩, by omega, Or.inr (Or.inl (by omega))⟩
theorem mLaw.mvq {cls : List lC} (h : mLaw m cls M) (he : ∀ q k, (q = m ∧ k = 21) ∨ (m + 14 ≤ q ∧ q ≤ m + 18) → M'.1 q k = M.1 q k) : mLaw m cls M' := by
  obtain ⟨l1, l2, l3⟩ := h
  refine ⟨(he _ _ (by omega)).trans l1, fun k x hx => (he _ _ (by omega)).trans (l2 k x hx), fun j t ht => ?_⟩
  obtain ⟨t1, t2, t3, t4⟩ := l3 j t ht
  exact ⟨(he _ _ (by omega)).trans t1, (he _ _ (by omega)).trans t2, (he _ _ (by omega)).trans t3, (he _ _ (by omega)).trans t4⟩
theorem mHill.mvq (h : mHill m s M) (he : ∀ q k, (q = m ∧ k ≤ 3) ∨ (m + 1 ≤ q ∧ q ≤ m + 6) → M'.1 q k = M.1 q k) : mHill m s M' := by
  obtain ⟨h1, h2, h3, h4, h5, h6, h7, h8, h9, h10⟩ := h
  exact ⟨(he _ _ (by omega)).trans h1, (he _ _ (by omega)).trans h2, (he _ _ (by omega)).trans h3, (he _ _ (by omega)).trans h4, fun k => (he _ _ (by omega)).trans (h5 k), fun k => (he _ _ (by omega)).trans (h6 k), fun k => (he _ _ (by omega)).trans (h7 k), fun k => (he _ _ (by omega)).trans (h8 k), fun k => (he _ _ (by omega)).trans (h9 k), fun k => (he _ _ (by omega)).trans (h10 k)⟩
theorem Jv.up {M7 M10 : mM} {S7 S10 : Nat → Nat → Prop} (h : Jv Th n b s c M) (hs : Js t) (h7 : Jc Th n t (c + 1) M7) (e7 : Eo S7 M M7) (f7 : ∀ q k, S7 q k → n ≤ q ∧ q < n + 113) (hm : Jm (n + 113) t M10) (e10 : Eo S10 M7 M10) (f10 : ∀ q k, S10 q k → n + 113 ≤ q) : Jv Th n b t (c + 1) M10 ∧ ∀ k, M10.1 b k = M.1 b k := by
  obtain ⟨⟨hT, hT2, hb⟩, h2, h3, h4⟩ := h
  exact ⟨⟨⟨hT, hT2, hb⟩, hs, h7.fr hT e10 f10, hm⟩, fun k => ((e10 _ _ (fun z => by have := f10 _ _ z; omega)).1).trans (e7 _ _ (fun z => by have := f7 _ _ z; omega)).1⟩
/-! weather -/
def tWe (s : mS) (z1 z2 : Int) : mS := fun i k => if i = 12 then 0 else if i = 0 ∧ k = 2 then z1 else if i = 0 ∧ k = 3 then z2 else s i k
theorem Js_We {z1 z2 : Int} (h : Js s) (hv : vWeather z1 z2) : Js (tWe s z1 z2) := by
  obtain ⟨⟨g0, g1, g2, g3, g4, g5, g6, g7, g8, g9⟩, h2, h3, h4, h5, h6⟩ := h
  exact ⟨⟨g0, g1, hv.1, (by have h2 := hv.2; show z2 = 0 ∨ z2 = 1; omega), g4, g5, g6, g7, g8, g9⟩, h2, h3, h4, h5, h6⟩
theorem t_weather {i1 i2 : Nat} (hc : c < 100000) (h : Jv Th n b s c M) (K : Jk Th n b c M G) : P10_weather 2047 Th n (M.1 b i1) (M.1 b i2) M (fun (v8 : Int32) (M7 : mM) => Th.2.2 (n + 113) = some (.inl 11) ∧ P11_weather 2047 Th (n + 113) (M7.1 b i1) (M7.1 b i2) M7 (fun (v11 : Int32) (M10 : mM) => if v8 = v11 then G M10 else False)) := by
  have h' := h
  obtain ⟨⟨hT, hT2, hb⟩, hJs, h3, h4⟩ := h
  obtain ⟨c1, c2, c3, c4, c5, c6, c7⟩ := id h3
  obtain ⟨m1, m2, m3, m4, m5⟩ := id h4
  obtain ⟨z1, r1, e1⟩ := rI_ex (M.1 b i1)
  obtain ⟨z2, r2, e2⟩ := rI_ex (M.1 b i2)
  rw [e1, e2]
  refine s10_weather (d := 2045) hT.1 c1.1.1 c1.2.1 r1 r2 (fun hn => ?_) (fun hv => ?_)
  · refine ⟨hT2 0 _ rfl, ?_⟩
    rw [e1, e2]
    refine s11_weather (d := 2045) hT2 r1 r2 (fun _ => ?_) (fun hv => absurd hv hn)
    rw [if_pos rfl]
    exact K s c M h' (by omega) (fun _ => rfl)
  · have e7 : Eo (fun q k => q = n + 3 ∧ 2 ≤ k ∧ k ≤ 4) M (u10_weather n M (jI z1) (jI z2) (jI c)) := ((Eo.rf.ui ⟨rfl, by omega⟩).ui ⟨rfl, by omega⟩).ui ⟨rfl, by omega⟩
    have w2 : (u10_weather n M (jI z1) (jI z2) (jI c)).1 (n + 3) 2 = jI z1 := by unfold u10_weather; simp [m_u]
    have w3 : (u10_weather n M (jI z1) (jI z2) (jI c)).1 (n + 3) 3 = jI z2 := by unfold u10_weather; simp [m_u]
    have w4 : (u10_weather n M (jI z1) (jI z2) (jI c)).1 (n + 3) 4 = jI (c + 1) := by unfold u10_weather; simp [m_u]; rw [kI1, jI_add]
    have wr : (u10_weather n M (jI z1) (jI z2) (jI c)).2.2 = M.2.2 := rfl
    generalize hM7 : u10_weather n M (jI z1) (jI z2) (jI c) = M7 at e7 w2 w3 w4 wr
    have mm : Jm (n + 113) s M7 := h4.fr e7 (fun q k z => by omega)
    have a7 : ∀ k, M7.1 b k = M.1 b k := fun k => (e7 _ _ (by omega)).1
    refine ⟨hT2 0 _ rfl, ?_⟩
    rw [a7, a7, e1, e2]
    refine s11_weather (d := 2045) hT2 r1 r2 (fun hn => absurd hv hn) (fun _ => ?_)
    rw [if_pos rfl]
    have e10 : Eo (fun q k => q = n + 113 ∧ (k = 2 ∨ k = 3)) M7 (m_ui (m_ui M7 (n + 113) 2 (jI z1)) (n + 113) 3 (jI z2)) := (Eo.rf.ui ⟨rfl, Or.inl rfl⟩).ui ⟨rfl, Or.inr rfl⟩
    obtain ⟨p1, p2, p3, p4⟩ := c1.1
    have la := hT.2.1
    have kh : KH Th n (tWe s z1 z2) M7 := by
      refine ⟨fun o k v hv => by rw [wr]; exact p1 o k v hv, fun k hk => ((e7 _ _ (by omega)).1).trans (p2 k hk), ?_, ?_⟩
      · obtain ⟨q1, q2, q3, q4, q5, q6, q7, q8, q9, q10⟩ := p3
        exact ⟨((e7 _ _ (by omega)).1).trans q1, ((e7 _ _ (by omega)).1).trans q2, w2, w3, fun k => ((e7 _ _ (by omega)).1).trans (q5 k), fun k => ((e7 _ _ (by omega)).1).trans (q6 k), fun k => ((e7 _ _ (by omega)).1).trans (q7 k), fun k => ((e7 _ _ (by omega)).1).trans (q8 k), fun k => ((e7 _ _ (by omega)).1).trans (q9 k), fun k => ((e7 _ _ (by omega)).1).trans (q10 k)⟩
      · have := p4.mv (M' := M7) (fun q k z => ⟨(e7 _ _ (by omega)).1, by rw [wr]⟩)
        exact this
    have j7 : Jc Th n (tWe s z1 z2) (c + 1) M7 := by
      refine ⟨KM_up c1 kh w4 (fun b hb => (e7 _ _ (by unfold aSk; omega)).1) (fun _ => rfl) hc, cDue_up c2 (fun k => (e7 _ _ (by omega)).1), ?_, ?_, ?_, ?_, c7.mvq e7 (fun q k z => by simp only [cC1]; omega)⟩
      · exact c3.mvq e7 (fun q k z => by simp only [cT1]; omega)
      · exact c4.mvq e7 (fun q k z => by simp only [cO1]; omega)
      · exact c5.mvq e7 (fun q k z => by simp only [cL1]; omega)
      · exact c6.mvq e7 (fun q k z => by simp only [cH1]; omega)
    have j10 : Jm (n + 113) (tWe s z1 z2) (m_ui (m_ui M7 (n + 113) 2 (jI z1)) (n + 113) 3 (jI z2)) := by
      obtain ⟨⟨o1, o2, o3⟩, m2, m3, m4, m5⟩ := mm
      refine ⟨⟨o1, ?_, o3.mvq (fun q k z => (e10 q k (by omega)).1)⟩, m2.mvq (fun q k z => (e10 q k (by omega)).1), m3.mvq (fun q k z => (e10 q k (by omega)).1), m4.mvq (fun q k z => (e10 q k (by omega)).1), m5.mvq (fun q k z => (e10 q k (by omega)).1)⟩
      obtain ⟨q1, q2, q3, q4, q5, q6, q7, q8, q9, q10⟩ := o2
      exact ⟨((e10 _ _ (by omega)).1).trans q1, ((e10 _ _ (by omega)).1).trans q2, by simp [m_u]; rfl, by simp [m_u]; rfl, fun k => ((e10 _ _ (by omega)).1).trans (q5 k), fun k => ((e10 _ _ (by omega)).1).trans (q6 k), fun k => ((e10 _ _ (by omega)).1).trans (q7 k), fun k => ((e10 _ _ (by omega)).1).trans (q8 k), fun k => ((e10 _ _ (by omega)).1).trans (q9 k), fun k => ((e10 _ _ (by omega)).1).trans (q10 k)⟩
    obtain ⟨j, a⟩ := h'.up (Js_We hJs hv) j7 e7 (fun q k z => by omega) j10 e10 (fun q k z => by omega)
    exact K _ (c + 1) _ j (by omega) a
/-! riddle -/
def tRi (s : mS) (z1 z2 z3 : Int) : mS := fun i k => if i = 12 then 0 else if i = 0 then (if k = 0 then s 0 0 + 1 else if k = 5 ∨ k = 6 ∨ k = 8 then 0 else s 0 k) else if i = 1 then (if k = (s 0 0).toNat then z1 else s 1 k) else if i = 2 then (if k = (s 0 0).toNat + 1 then z2 else s 2 k) else if i = 3 then (if k = (s 0 0).toNat + 1 then z3 else s 3 k) else s i k
theorem Js_Ri {z1 z2 z3 : Int} (h : Js s) (hr : s 0 0 < 5) (hv : vRiddle z1 z2 z3) : Js (tRi s z1 z2 z3) := by
  obtain ⟨⟨g0, g1, g2, g3, g4, g5, g6, g7, g8, g9, g10, g11, g12⟩, h2, h3, h4, h5, h6⟩ := h
  obtain ⟨v1, v2, v3⟩ := hv
  refine ⟨⟨⟨by show 0 ≤ s 0 0 + 1; omega, by show s 0 0 + 1 ≤ 5; omega⟩, g1, g2, g3, g4, ⟨by show (0 : Int) ≤ 0; omega, by show (0 : Int) ≤ 5; omega⟩, ⟨by show (0 : Int) ≤ 0; omega, by show (0 : Int) ≤ 40; omega⟩, g7, Or.inl rfl, fun k => ?_, fun k => ?_, fun k => ?_, g12⟩, h2, h3, fun i hi => ?_, fun i hi => ?_, h6⟩
  · show 0 ≤ (if k = (s 0 0).toNat then z1 else s 1 k) ∧ (if k = (s 0 0).toNat then z1 else s 1 k) ≤ 9
    split
    · exact v1
    · exact g9 k
  · show 0 ≤ (if k = (s 0 0).toNat + 1 then z2 else s 2 k) ∧ (if k = (s 0 0).toNat + 1 then z2 else s 2 k) ≤ 30
    split
    · exact v2
    · exact g10 k
  · show 0 ≤ (if k = (s 0 0).toNat + 1 then z3 else s 3 k) ∧ (if k = (s 0 0).toNat + 1 then z3 else s 3 k) ≤ 30
    split
    · exact v3
    · exact g11 k
  · have : (i : Int) < 0 := hi
    omega
  · have : (i : Int) < 0 := hi
    omega
theorem jI_if {P : Prop} (hP : P ∨ ¬ P) {i1 : Decidable P} {i2 : Decidable P} {x : Int32} {a b : Int} (h : x = jI b) : (@ite Int32 P i1 (jI a) x) = jI (@ite Int P i2 a b) := by
  rcases hP with q | q
  · rw [if_pos q, if_pos q]
  · rw [if_neg q, if_neg q, h]
set_option maxHeartbeats 1000000 in
theorem t_riddle {i1 i2 i3 : Nat} (hc : c < 100000) (h : Jv Th n b s c M) (K : Jk Th n b c M G) : P10_riddle 2047 Th n (M.1 b i1) (M.1 b i2) (M.1 b i3) M (fun (v8 : Int32) (M7 : mM) => Th.2.2 (n + 113) = some (.inl 11) ∧ P11_riddle 2047 Th (n + 113) (M7.1 b i1) (M7.1 b i2) (M7.1 b i3) M7 (fun (v11 : Int32) (M10 : mM) => if v8 = v11 then G M10 else False)) := by
  have h' := h
  obtain ⟨⟨hT, hT2, hb⟩, hJs, h3, h4⟩ := h
  obtain ⟨c1, c2, c3, c4, c5, c6, c7⟩ := id h3
  obtain ⟨m1, m2, m3, m4, m5⟩ := id h4
  have g0 := hJs.1.1
  obtain ⟨z1, r1, e1⟩ := rI_ex (M.1 b i1)
  obtain ⟨z2, r2, e2⟩ := rI_ex (M.1 b i2)
  obtain ⟨z3, r3, e3⟩ := rI_ex (M.1 b i3)
  obtain ⟨r, hr⟩ : ∃ r : Nat, s 0 0 = r := ⟨(s 0 0).toNat, by omega⟩
  have hr0 : M.1 (n + 3) 0 = jI (r : Int) := c1.1.2.2.1.1.trans (congrArg jI hr)
  rw [e1, e2, e3]
  refine s10_riddle (d := 2043) (r := r) hT.1 c1.1.1 hr0 c1.2.1 (by omega) r1 r2 r3 (fun hn => ?_) (fun hv hr5 => ?_)
  · refine ⟨hT2 0 _ rfl, ?_⟩
    rw [e1, e2, e3]
    refine s11_riddle (d := 2045) (r := r) hT2 m1.1 (m1.2.1.1.trans (congrArg jI hr)) m4.1 (by omega) r1 r2 r3 (fun _ => ?_) (fun hv hr5 => absurd ⟨hv, hr5⟩ hn)
    rw [if_pos rfl]
    exact K s c M h' (by omega) (fun _ => rfl)
  · have e7 : Eo (fun q k => (q = n + 100 ∧ k = 5) ∨ (q = n + 105 ∧ k = 1) ∨ (q = n + 107 ∧ k = 9) ∨ (n + 9 ≤ q ∧ q ≤ n + 11) ∨ (q = n + 3 ∧ (k = 0 ∨ k = 4))) M (u10_riddle n M r (jI z1) (jI z2) (jI z3) (jI c)) :=
      (((((((Eo.rf.ui (by omega)).ui (by omega)).ui (by omega)).ui (by omega)).ui (by omega)).ui (by omega)).ui (by omega)).ui (by omega)
    have w0 : (u10_riddle n M r (jI z1) (jI z2) (jI z3) (jI c)).1 (n + 3) 0 = jI ((r : Int) + 1) := by unfold u10_riddle; simp [m_u]
    have w4 : (u10_riddle n M r (jI z1) (jI z2) (jI z3) (jI c)).1 (n + 3) 4 = jI (c + 1) := by unfold u10_riddle; simp [m_u]; rw [kI1, jI_add]
    have w9 : ∀ k, (u10_riddle n M r (jI z1) (jI z2) (jI z3) (jI c)).1 (n + 9) k = if k = r then jI z1 else M.1 (n + 9) k := fun k => by unfold u10_riddle; simp [m_u]
    have w10 : ∀ k, (u10_riddle n M r (jI z1) (jI z2) (jI z3) (jI c)).1 (n + 10) k = if k = r + 1 then jI z2 else M.1 (n + 10) k := fun k => by unfold u10_riddle; simp [m_u]
    have w11 : ∀ k, (u10_riddle n M r (jI z1) (jI z2) (jI z3) (jI c)).1 (n + 11) k = if k = r + 1 then jI z3 else M.1 (n + 11) k := fun k => by unfold u10_riddle; simp [m_u]
    have wo : (u10_riddle n M r (jI z1) (jI z2) (jI z3) (jI c)).1 (n + 100) 5 = 0 := by unfold u10_riddle; simp [m_u]
    have wl : (u10_riddle n M r (jI z1) (jI z2) (jI z3) (jI c)).1 (n + 105) 1 = 0 := by unfold u10_riddle; simp [m_u]
    have wh : (u10_riddle n M r (jI z1) (jI z2) (jI z3) (jI c)).1 (n + 107) 9 = 0 := by unfold u10_riddle; simp [m_u]
    have wr : (u10_riddle n M r (jI z1) (jI z2) (jI z3) (jI c)).2.2 = M.2.2 := rfl
    generalize hM7 : u10_riddle n M r (jI z1) (jI z2) (jI z3) (jI c) = M7 at *
    have mm : Jm (n + 113) s M7 := h4.fr e7 (fun q k z => by omega)
    have a7 : ∀ k, M7.1 b k = M.1 b k := fun k => (e7 _ _ (by omega)).1
    refine ⟨hT2 0 _ rfl, ?_⟩
    rw [a7, a7, a7, e1, e2, e3]
    obtain ⟨⟨o1, o2, o3⟩, m2, m3, m4, m5⟩ := mm
    refine s11_riddle (d := 2045) (r := r) hT2 o1 (o2.1.trans (congrArg jI hr)) m4.1 (by omega) r1 r2 r3 (fun hn => absurd ⟨hv, hr5⟩ hn) (fun _ _ => ?_)
    rw [if_pos rfl]
    have e10 : Eo (fun q k => (n + 113 + 1 ≤ q ∧ q ≤ n + 113 + 3) ∨ (q = n + 113 ∧ (k = 0 ∨ k = 56 ∨ k = 60 ∨ k = 61))) M7 (u11_riddle (n + 113) M7 r (jI z1) (jI z2) (jI z3)) :=
      ((((((Eo.rf.ui (by omega)).ui (by omega)).ui (by omega)).ui (by omega)).ui (by omega)).ui (by omega)).ui (by omega)
    have y0 : (u11_riddle (n + 113) M7 r (jI z1) (jI z2) (jI z3)).1 (n + 113) 0 = jI ((r : Int) + 1) := by unfold u11_riddle; simp [m_u]
    have y1 : ∀ k, (u11_riddle (n + 113) M7 r (jI z1) (jI z2) (jI z3)).1 (n + 113 + 1) k = if k = r then jI z1 else M7.1 (n + 113 + 1) k := fun k => by unfold u11_riddle; simp [m_u]
    have y2 : ∀ k, (u11_riddle (n + 113) M7 r (jI z1) (jI z2) (jI z3)).1 (n + 113 + 2) k = if k = r + 1 then jI z2 else M7.1 (n + 113 + 2) k := fun k => by unfold u11_riddle; simp [m_u]
    have y3 : ∀ k, (u11_riddle (n + 113) M7 r (jI z1) (jI z2) (jI z3)).1 (n + 113 + 3) k = if k = r + 1 then jI z3 else M7.1 (n + 113 + 3) k := fun k => by unfold u11_riddle; simp [m_u]
    have yo : (u11_riddle (n + 113) M7 r (jI z1) (jI z2) (jI z3)).1 (n + 113) 56 = 0 := by unfold u11_riddle; simp [m_u]
    have yl : (u11_riddle (n + 113) M7 r (jI z1) (jI z2) (jI z3)).1 (n + 113) 60 = 0 := by unfold u11_riddle; simp [m_u]
    have yh : (u11_riddle (n + 113) M7 r (jI z1) (jI z2) (jI z3)).1 (n + 113) 61 = 0 := by unfold u11_riddle; simp [m_u]
    have yr : (u11_riddle (n + 113) M7 r (jI z1) (jI z2) (jI z3)).2.2 = M7.2.2 := rfl
    generalize hM10 : u11_riddle (n + 113) M7 r (jI z1) (jI z2) (jI z3) = M10 at *
    obtain ⟨p1, p2, p3, p4⟩ := c1.1
    have la := hT.2.1
    have et : (s 0 0).toNat = r := by omega
    have kh : KH Th n (tRi s z1 z2 z3) M7 := by
      refine ⟨fun o k v hv => by rw [wr]; exact p1 o k v hv, fun k hk => ((e7 _ _ (by omega)).1).trans (p2 k hk), ?_, ?_⟩
      · obtain ⟨q1, q2, q3, q4, q5, q6, q7, q8, q9, q10⟩ := p3
        refine ⟨by rw [w0, ← hr]; rfl, ((e7 _ _ (by omega)).1).trans q2, ((e7 _ _ (by omega)).1).trans q3, ((e7 _ _ (by omega)).1).trans q4, fun k => ?_, fun k => ?_, fun k => ?_, fun k => ((e7 _ _ (by omega)).1).trans (q8 k), fun k => ((e7 _ _ (by omega)).1).trans (q9 k), fun k => ((e7 _ _ (by omega)).1).trans (q10 k)⟩
        · show M7.1 (n + 9) k = jI (if k = (s 0 0).toNat then z1 else s 1 k)
          rw [w9, et]; exact jI_if (Decidable.em _) (q5 k)
        · show M7.1 (n + 10) k = jI (if k = (s 0 0).toNat + 1 then z2 else s 2 k)
          rw [w10, et]; exact jI_if (Decidable.em _) (q6 k)
        · show M7.1 (n + 11) k = jI (if k = (s 0 0).toNat + 1 then z3 else s 3 k)
          rw [w11, et]; exact jI_if (Decidable.em _) (q7 k)
      · have := p4.mv (M' := M7) (fun q k z => ⟨(e7 _ _ (by omega)).1, by rw [wr]⟩)
        exact this
    have j7 : Jc Th n (tRi s z1 z2 z3) (c + 1) M7 := by
      refine ⟨KM_up c1 kh w4 (fun b hb => (e7 _ _ (by unfold aSk; omega)).1) (fun _ => rfl) hc, cDue_up c2 (fun k => (e7 _ _ (by omega)).1), ?_, ?_, ?_, ?_, c7.mvq e7 (fun q k z => by simp only [cC1]; omega)⟩
      · exact c3.mvq e7 (fun q k z => by simp only [cT1]; omega)
      · exact ⟨wo, fun q => absurd q (by show ¬ (0 : Int) < 0; omega), fun k => ((e7 _ _ (by omega)).1).trans (c4.2.2 k)⟩
      · exact ⟨wl, fun k => ((e7 _ _ (by omega)).1).trans (c5.2 k)⟩
      · exact ⟨((e7 _ _ (by omega)).1).trans c6.1, wh, fun k => ((e7 _ _ (by omega)).1).trans (c6.2.2 k)⟩
    have j10 : Jm (n + 113) (tRi s z1 z2 z3) M10 := by
      refine ⟨⟨fun o k v hv => by rw [yr]; exact o1 o k v hv, ?_, o3.mvq (fun q k z => (e10 q k (by omega)).1)⟩, m2.mvq (fun q k z => (e10 q k (by omega)).1), ⟨yo, fun k => ((e10 _ _ (by omega)).1).trans (m3.2 k)⟩, ⟨yl, fun k => ((e10 _ _ (by omega)).1).trans (m4.2.1 k), fun k => ((e10 _ _ (by omega)).1).trans (m4.2.2.1 k), fun k => ((e10 _ _ (by omega)).1).trans (m4.2.2.2 k)⟩, ⟨((e10 _ _ (by omega)).1).trans m5.1, yh, fun k => ((e10 _ _ (by omega)).1).trans (m5.2.2 k)⟩⟩
      obtain ⟨q1, q2, q3, q4, q5, q6, q7, q8, q9, q10⟩ := o2
      refine ⟨by rw [y0, ← hr]; rfl, ((e10 _ _ (by omega)).1).trans q2, ((e10 _ _ (by omega)).1).trans q3, ((e10 _ _ (by omega)).1).trans q4, fun k => ?_, fun k => ?_, fun k => ?_, fun k => ((e10 _ _ (by omega)).1).trans (q8 k), fun k => ((e10 _ _ (by omega)).1).trans (q9 k), fun k => ((e10 _ _ (by omega)).1).trans (q10 k)⟩
      · show M10.1 (n + 113 + 1) k = jI (if k = (s 0 0).toNat then z1 else s 1 k)
        rw [y1, et]; exact jI_if (Decidable.em _) (q5 k)
      · show M10.1 (n + 113 + 2) k = jI (if k = (s 0 0).toNat + 1 then z2 else s 2 k)
        rw [y2, et]; exact jI_if (Decidable.em _) (q6 k)
      · show M10.1 (n + 113 + 3) k = jI (if k = (s 0 0).toNat + 1 then z3 else s 3 k)
        rw [y3, et]; exact jI_if (Decidable.em _) (q7 k)
    obtain ⟨j, a⟩ := h'.up (Js_Ri hJs (by omega) hv) j7 e7 (fun q k z => by omega) j10 e10 (fun q k z => by omega)
    exact K _ (c + 1) _ j (by omega) a
/-! band -/
def tBa (s : mS) (z1 z2 z3 : Int) : mS := fun i k => if i = 12 then 0 else if i = 0 then (if k = 1 then s 0 1 + 1 else if k = 6 ∨ k = 8 then 0 else s 0 k) else if i = 4 then (if k = (s 0 1).toNat then z1 else s 4 k) else if i = 5 then (if k = (s 0 1).toNat then z2 else s 5 k) else if i = 6 then (if k = (s 0 1).toNat then z3 else s 6 k) else s i k
theorem Js_Ba {z1 z2 z3 : Int} (h : Js s) (hr : s 0 1 < 5) (hv : vBand z1 z2 z3) : Js (tBa s z1 z2 z3) := by
  obtain ⟨⟨g0, g1, g2, g3, g4, g5, g6, g7, g8, g9, g10, g11, g12, g13, g14, g15, g16⟩, h2, h3, h4, h5, h6⟩ := h
  obtain ⟨v1, v2, v3⟩ := hv
  refine ⟨⟨g0, ⟨by show 0 ≤ s 0 1 + 1; omega, by show s 0 1 + 1 ≤ 5; omega⟩, g2, g3, g4, g5, ⟨by show (0 : Int) ≤ 0; omega, by show (0 : Int) ≤ 40; omega⟩, g7, Or.inl rfl, g9, g10, g11, fun k => ?_, fun k => ?_, fun k hk => ?_, fun k => ?_, g16⟩, h2, h3, fun i hi => ?_, fun i hi => ?_, fun k hk => ?_⟩
  · show 0 ≤ (if k = (s 0 1).toNat then z1 else s 4 k) ∧ (if k = (s 0 1).toNat then z1 else s 4 k) ≤ 9
    split
    · exact v1
    · exact g12 k
  · show 0 ≤ (if k = (s 0 1).toNat then z2 else s 5 k) ∧ (if k = (s 0 1).toNat then z2 else s 5 k) ≤ 9
    split
    · omega
    · exact g13 k
  · have hk' : (k : Int) < s 0 1 + 1 := hk
    show 1 ≤ (if k = (s 0 1).toNat then z2 else s 5 k)
    split
    · exact v2.1
    · exact g14 k (by omega)
  · show (if k = (s 0 1).toNat then z3 else s 6 k) = 0 ∨ (if k = (s 0 1).toNat then z3 else s 6 k) = 1
    split
    · omega
    · exact g15 k
  · have : (i : Int) < 0 := hi
    omega
  · have : (i : Int) < 0 := hi
    omega
  · have hk' : s 0 1 + 1 ≤ (k : Int) := hk
    exact h6 k (by omega)
set_option maxHeartbeats 1000000 in
theorem t_band {i1 i2 i3 : Nat} (hc : c < 100000) (h : Jv Th n b s c M) (K : Jk Th n b c M G) : P10_band 2047 Th n (M.1 b i1) (M.1 b i2) (M.1 b i3) M (fun (v8 : Int32) (M7 : mM) => Th.2.2 (n + 113) = some (.inl 11) ∧ P11_band 2047 Th (n + 113) (M7.1 b i1) (M7.1 b i2) (M7.1 b i3) M7 (fun (v11 : Int32) (M10 : mM) => if v8 = v11 then G M10 else False)) := by
  have h' := h
  obtain ⟨⟨hT, hT2, hb⟩, hJs, h3, h4⟩ := h
  obtain ⟨c1, c2, c3, c4, c5, c6, c7⟩ := id h3
  obtain ⟨m1, m2, m3, m4, m5⟩ := id h4
  have g1 := hJs.1.2.1
  obtain ⟨z1, r1, e1⟩ := rI_ex (M.1 b i1)
  obtain ⟨z2, r2, e2⟩ := rI_ex (M.1 b i2)
  obtain ⟨z3, r3, e3⟩ := rI_ex (M.1 b i3)
  obtain ⟨r, hr⟩ : ∃ r : Nat, s 0 1 = r := ⟨(s 0 1).toNat, by omega⟩
  have hr0 : M.1 (n + 3) 1 = jI (r : Int) := c1.1.2.2.1.2.1.trans (congrArg jI hr)
  rw [e1, e2, e3]
  refine s10_band (d := 2043) (r := r) hT.1 c1.1.1 hr0 c1.2.1 (by omega) r1 r2 r3 (fun hn => ?_) (fun hv hr5 => ?_)
  · refine ⟨hT2 0 _ rfl, ?_⟩
    rw [e1, e2, e3]
    refine s11_band (d := 2045) (r := r) hT2 m1.1 (m1.2.1.2.1.trans (congrArg jI hr)) m4.1 (by omega) r1 r2 r3 (fun _ => ?_) (fun hv hr5 => absurd ⟨hv, hr5⟩ hn)
    rw [if_pos rfl]
    exact K s c M h' (by omega) (fun _ => rfl)
  · have e7 : Eo (fun q k => (q = n + 105 ∧ k = 1) ∨ (q = n + 107 ∧ k = 9) ∨ (n + 12 ≤ q ∧ q ≤ n + 14) ∨ (q = n + 3 ∧ (k = 1 ∨ k = 4))) M (u10_band n M r (jI z1) (jI z2) (jI z3) (jI c)) :=
      ((((((Eo.rf.ui (by omega)).ui (by omega)).ui (by omega)).ui (by omega)).ui (by omega)).ui (by omega)).ui (by omega)
    have w0 : (u10_band n M r (jI z1) (jI z2) (jI z3) (jI c)).1 (n + 3) 1 = jI ((r : Int) + 1) := by unfold u10_band; simp [m_u]
    have w4 : (u10_band n M r (jI z1) (jI z2) (jI z3) (jI c)).1 (n + 3) 4 = jI (c + 1) := by unfold u10_band; simp [m_u]; rw [kI1, jI_add]
    have w9 : ∀ k, (u10_band n M r (jI z1) (jI z2) (jI z3) (jI c)).1 (n + 12) k = if k = r then jI z1 else M.1 (n + 12) k := fun k => by unfold u10_band; simp [m_u]
    have w10 : ∀ k, (u10_band n M r (jI z1) (jI z2) (jI z3) (jI c)).1 (n + 13) k = if k = r then jI z2 else M.1 (n + 13) k := fun k => by unfold u10_band; simp [m_u]
    have w11 : ∀ k, (u10_band n M r (jI z1) (jI z2) (jI z3) (jI c)).1 (n + 14) k = if k = r then jI z3 else M.1 (n + 14) k := fun k => by unfold u10_band; simp [m_u]
    have wl : (u10_band n M r (jI z1) (jI z2) (jI z3) (jI c)).1 (n + 105) 1 = 0 := by unfold u10_band; simp [m_u]
    have wh : (u10_band n M r (jI z1) (jI z2) (jI z3) (jI c)).1 (n + 107) 9 = 0 := by unfold u10_band; simp [m_u]
    have wr : (u10_band n M r (jI z1) (jI z2) (jI z3) (jI c)).2.2 = M.2.2 := rfl
    generalize hM7 : u10_band n M r (jI z1) (jI z2) (jI z3) (jI c) = M7 at *
    have mm : Jm (n + 113) s M7 := h4.fr e7 (fun q k z => by omega)
    have a7 : ∀ k, M7.1 b k = M.1 b k := fun k => (e7 _ _ (by omega)).1
    refine ⟨hT2 0 _ rfl, ?_⟩
    rw [a7, a7, a7, e1, e2, e3]
    obtain ⟨⟨o1, o2, o3⟩, m2, m3, m4, m5⟩ := mm
    refine s11_band (d := 2045) (r := r) hT2 o1 (o2.2.1.trans (congrArg jI hr)) m4.1 (by omega) r1 r2 r3 (fun hn => absurd ⟨hv, hr5⟩ hn) (fun _ _ => ?_)
    rw [if_pos rfl]
    have e10 : Eo (fun q k => (n + 113 + 4 ≤ q ∧ q ≤ n + 113 + 6) ∨ (q = n + 113 ∧ (k = 1 ∨ k = 60 ∨ k = 61))) M7 (u11_band (n + 113) M7 r (jI z1) (jI z2) (jI z3)) :=
      (((((Eo.rf.ui (by omega)).ui (by omega)).ui (by omega)).ui (by omega)).ui (by omega)).ui (by omega)
    have y0 : (u11_band (n + 113) M7 r (jI z1) (jI z2) (jI z3)).1 (n + 113) 1 = jI ((r : Int) + 1) := by unfold u11_band; simp [m_u]
    have y1 : ∀ k, (u11_band (n + 113) M7 r (jI z1) (jI z2) (jI z3)).1 (n + 113 + 4) k = if k = r then jI z1 else M7.1 (n + 113 + 4) k := fun k => by unfold u11_band; simp [m_u]
    have y2 : ∀ k, (u11_band (n + 113) M7 r (jI z1) (jI z2) (jI z3)).1 (n + 113 + 5) k = if k = r then jI z2 else M7.1 (n + 113 + 5) k := fun k => by unfold u11_band; simp [m_u]
    have y3 : ∀ k, (u11_band (n + 113) M7 r (jI z1) (jI z2) (jI z3)).1 (n + 113 + 6) k = if k = r then jI z3 else M7.1 (n + 113 + 6) k := fun k => by unfold u11_band; simp [m_u]
    have yl : (u11_band (n + 113) M7 r (jI z1) (jI z2) (jI z3)).1 (n + 113) 60 = 0 := by unfold u11_band; simp [m_u]
    have yh : (u11_band (n + 113) M7 r (jI z1) (jI z2) (jI z3)).1 (n + 113) 61 = 0 := by unfold u11_band; simp [m_u]
    have yr : (u11_band (n + 113) M7 r (jI z1) (jI z2) (jI z3)).2.2 = M7.2.2 := rfl
    generalize hM10 : u11_band (n + 113) M7 r (jI z1) (jI z2) (jI z3) = M10 at *
    obtain ⟨p1, p2, p3, p4⟩ := c1.1
    have la := hT.2.1
    have et : (s 0 1).toNat = r := by omega
    have kh : KH Th n (tBa s z1 z2 z3) M7 := by
      refine ⟨fun o k v hv => by rw [wr]; exact p1 o k v hv, fun k hk => ((e7 _ _ (by omega)).1).trans (p2 k hk), ?_, ?_⟩
      · obtain ⟨q1, q2, q3, q4, q5, q6, q7, q8, q9, q10⟩ := p3
        refine ⟨((e7 _ _ (by omega)).1).trans q1, by rw [w0, ← hr]; rfl, ((e7 _ _ (by omega)).1).trans q3, ((e7 _ _ (by omega)).1).trans q4, fun k => ((e7 _ _ (by omega)).1).trans (q5 k), fun k => ((e7 _ _ (by omega)).1).trans (q6 k), fun k => ((e7 _ _ (by omega)).1).trans (q7 k), fun k => ?_, fun k => ?_, fun k => ?_⟩
        · show M7.1 (n + 12) k = jI (if k = (s 0 1).toNat then z1 else s 4 k)
          rw [w9, et]; exact jI_if (Decidable.em _) (q8 k)
        · show M7.1 (n + 13) k = jI (if k = (s 0 1).toNat then z2 else s 5 k)
          rw [w10, et]; exact jI_if (Decidable.em _) (q9 k)
        · show M7.1 (n + 14) k = jI (if k = (s 0 1).toNat then z3 else s 6 k)
          rw [w11, et]; exact jI_if (Decidable.em _) (q10 k)
      · have := p4.mv (M' := M7) (fun q k z => ⟨(e7 _ _ (by omega)).1, by rw [wr]⟩)
        exact this
    have j7 : Jc Th n (tBa s z1 z2 z3) (c + 1) M7 := by
      refine ⟨KM_up c1 kh w4 (fun b hb => (e7 _ _ (by unfold aSk; omega)).1) (fun _ => rfl) hc, cDue_up c2 (fun k => (e7 _ _ (by omega)).1), ?_, ?_, ?_, ?_, c7.mvq e7 (fun q k z => by simp only [cC1]; omega)⟩
      · exact c3.mvq e7 (fun q k z => by simp only [cT1]; omega)
      · exact c4.mvq e7 (fun q k z => by simp only [cO1]; omega)
      · exact ⟨wl, fun k => ((e7 _ _ (by omega)).1).trans (c5.2 k)⟩
      · exact ⟨((e7 _ _ (by omega)).1).trans c6.1, wh, fun k => ((e7 _ _ (by omega)).1).trans (c6.2.2 k)⟩
    have j10 : Jm (n + 113) (tBa s z1 z2 z3) M10 := by
      refine ⟨⟨fun o k v hv => by rw [yr]; exact o1 o k v hv, ?_, o3.mvq (fun q k z => (e10 q k (by omega)).1)⟩, m2.mvq (fun q k z => (e10 q k (by omega)).1), m3.mvq (fun q k z => (e10 q k (by omega)).1), ⟨yl, fun k => ((e10 _ _ (by omega)).1).trans (m4.2.1 k), fun k => ((e10 _ _ (by omega)).1).trans (m4.2.2.1 k), fun k => ((e10 _ _ (by omega)).1).trans (m4.2.2.2 k)⟩, ⟨((e10 _ _ (by omega)).1).trans m5.1, yh, fun k => ((e10 _ _ (by omega)).1).trans (m5.2.2 k)⟩⟩
      obtain ⟨q1, q2, q3, q4, q5, q6, q7, q8, q9, q10⟩ := o2
      refine ⟨((e10 _ _ (by omega)).1).trans q1, by rw [y0, ← hr]; rfl, ((e10 _ _ (by omega)).1).trans q3, ((e10 _ _ (by omega)).1).trans q4, fun k => ((e10 _ _ (by omega)).1).trans (q5 k), fun k => ((e10 _ _ (by omega)).1).trans (q6 k), fun k => ((e10 _ _ (by omega)).1).trans (q7 k), fun k => ?_, fun k => ?_, fun k => ?_⟩
      · show M10.1 (n + 113 + 4) k = jI (if k = (s 0 1).toNat then z1 else s 4 k)
        rw [y1, et]; exact jI_if (Decidable.em _) (q8 k)
      · show M10.1 (n + 113 + 5) k = jI (if k = (s 0 1).toNat then z2 else s 5 k)
        rw [y2, et]; exact jI_if (Decidable.em _) (q9 k)
      · show M10.1 (n + 113 + 6) k = jI (if k = (s 0 1).toNat then z3 else s 6 k)
        rw [y3, et]; exact jI_if (Decidable.em _) (q10 k)
    obtain ⟨j, a⟩ := h'.up (Js_Ba hJs (by omega) hv) j7 e7 (fun q k z => by omega) j10 e10 (fun q k z => by omega)
    exact K _ (c + 1) _ j (by omega) a
/-! law -/
def tLb (s : mS) : mS := fun i k => if i = 12 then 0 else if i = 0 ∧ k = 4 then 0 else s i k
def tLw (s : mS) (L : Nat) : mS := fun i k => if i = 12 then 0 else if i = 0 ∧ k = 4 then 0 else sNew s L i k
theorem Js_Lb (h : Js s) : Js (tLb s) := by
  obtain ⟨⟨g0, g1, g2, g3, g4, g5⟩, h2, h3, h4, h5, h6⟩ := h
  exact ⟨⟨g0, g1, g2, g3, ⟨by show (0 : Int) ≤ 0; omega, by show (0 : Int) ≤ 220; omega⟩, g5⟩, h2, h3, h4, h5, h6⟩
theorem Js_Lw {L : Nat} (h : Js s) (hL : L ≤ 200) (hf : (ltx (s 7) L).1.2 = 0) : Js (tLw s L) := by
  obtain ⟨⟨g0, g1, g2, g3, g4, g5⟩, h2, h3, h4, h5, h6⟩ := h
  have g7 := g5.2.2.2.2.2.2.2.2.2.2.2
  refine ⟨⟨g0, g1, g2, g3, ⟨by show (0 : Int) ≤ 0; omega, by show (0 : Int) ≤ 220; omega⟩, g5⟩, ⟨⟨by show (0 : Int) ≤ (L : Int); omega, by show (L : Int) ≤ 200; omega⟩, g7, Or.inr ?_, ?_⟩, h3, h4, h5, h6⟩
  · show (ltx (s 7) ((L : Int)).toNat).1.2 = 0
    rw [Int.toNat_natCast]; exact hf
  · show ((ltx (s 7) L).2.length : Int) = ((ltx (s 7) ((L : Int)).toNat).2.length : Int)
    rw [Int.toNat_natCast]
set_option maxHeartbeats 1000000 in
theorem t_law {i1 : Nat} (hc : c < 100000) (h : Jv Th n b s c M) (K : Jk Th n b c M G) : P10_law 2047 Th n (M.1 b i1) M (fun (v8 : Int32) (M7 : mM) => Th.2.2 (n + 113) = some (.inl 11) ∧ P11_law 2047 Th (n + 113) (M7.1 b i1) M7 (fun (v11 : Int32) (M10 : mM) => if v8 = v11 then G M10 else False)) := by
  have h' := h
  obtain ⟨⟨hT, hT2, hb⟩, hJs, h3, h4⟩ := h
  obtain ⟨c1, c2, c3, c4, c5, c6, c7⟩ := id h3
  obtain ⟨m1, m2, m3, m4, m5⟩ := id h4
  obtain ⟨z1, r1, e1⟩ := rI_ex (M.1 b i1)
  obtain ⟨hG, hO, hL, hLt, hLh, hB⟩ := id hJs
  obtain ⟨p1, p2, p3, p4⟩ := id c1.1
  have la := hT.2.1
  rw [e1]
  -- the class's, behind
  have cls : ∀ (t : mS) (M7 : mM), Eo (sRl n) M M7 → cLaw n t M7 → M7.1 (n + 3) 4 = jI (c + 1) → M7.1 (n + 1) 1 = 0 → (∀ M0, cHill n s M0 → cHill n t M0) → (∀ b, t 12 b = 0) → t 0 4 = 0 → t 7 = s 7 → (∀ M0, cOrd n s M0 → cOrd n t M0) → (∀ M0, cLog n s M0 → cLog n t M0) → (∀ M0, cHunt n s M0 → cHunt n t M0) → Jc Th n t (c + 1) M7 := by
    intro t M7 e7 l7 q4 q1 th tp t4 t7 to tl tu
    have kh : KH Th n t M7 := by
      refine ⟨p1.mv e7 (fun o k v hv z => by simp only [sRl, sRp] at z; simp [rsA] at hv; omega), fun k hk => ((e7 _ _ (by simp only [sRl, sRp]; omega)).1).trans (p2 k hk), th _ (p3.mv (fun q k z => (e7 _ _ (by simp only [sRl, sRp]; omega)).1)), l7⟩
    refine ⟨KM_up c1 kh q4 (fun b hb => (e7 _ _ (by simp only [sRl, sRp, aSk]; omega)).1) tp hc, cDue_up c2 (fun k => (e7 _ _ (by simp only [sRl, sRp]; omega)).1), ⟨by rw [q1, t4]; rfl, fun k => ?_⟩, to _ (c4.mvq e7 (fun q k z => by simp only [sRl, sRp, cO1] at z ⊢; omega)), tl _ (c5.mvq e7 (fun q k z => by simp only [sRl, sRp, cL1] at z ⊢; omega)), tu _ (c6.mvq e7 (fun q k z => by simp only [sRl, sRp, cH1] at z ⊢; omega)), c7.mvq e7 (fun q k z => by simp only [sRl, sRp, cC1] at z ⊢; omega)⟩
    rw [t7]
    exact ((e7 _ _ (by simp only [sRl, sRp]; omega)).1).trans (c3.2 k)
  refine s10_law (d := 2007) hT p1 p2 c3 hG p4 c1.2.1 r1 (fun hn => ?_) (fun hv hf M7 l7 q4 q1 e7 => ?_) (fun hv hf M7 l7 q4 q1 e7 => ?_)
  · refine ⟨hT2 0 _ rfl, ?_⟩
    rw [e1]
    refine s11_law (d := 2037) hT2 m1.1 m2 hG r1 (fun _ => ?_) (fun hv => absurd hv hn) (fun hv => absurd hv hn)
    rw [if_pos rfl]
    exact K s c M h' (by omega) (fun _ => rfl)
  · have mm : Jm (n + 113) s M7 := h4.fr e7 (fun q k z => by simp only [sRl, sRp] at z; omega)
    have a7 : ∀ k, M7.1 b k = M.1 b k := fun k => (e7 _ _ (by simp only [sRl, sRp]; omega)).1
    refine ⟨hT2 0 _ rfl, ?_⟩
    rw [a7, e1]
    refine s11_law (d := 2037) hT2 mm.1.1 mm.2.1 hG r1 (fun hn => absurd hv hn) (fun _ _ M10 q12 e10 => ?_) (fun _ hg => absurd hg hf)
    rw [if_pos rfl]
    have j7 := cls (tLb s) M7 e7 l7 q4 q1 (fun _ z => z) (fun _ => rfl) rfl (funext fun _ => rfl) (fun _ z => z) (fun _ z => z) (fun _ z => z)
    have j10 : Jm (n + 113) (tLb s) M10 := by
      obtain ⟨k1, m2, m3, m4, m5⟩ := mm
      refine ⟨k1.mv e10 (fun q k z => by simp only [klr] at z; omega), ⟨q12, fun k => ((e10 _ _ (by simp only [klr]; omega)).1).trans (m2.2 k)⟩, m3.mvq (fun q k z => (e10 q k (by simp only [klr]; omega)).1), m4.mvq (fun q k z => (e10 q k (by simp only [klr]; omega)).1), m5.mvq (fun q k z => (e10 q k (by simp only [klr]; omega)).1)⟩
    obtain ⟨j, a⟩ := h'.up (Js_Lb hJs) j7 e7 (fun q k z => by simp only [sRl, sRp] at z; omega) j10 e10 (fun q k z => by simp only [klr] at z; omega)
    exact K _ (c + 1) _ j (by omega) a
  · have mm : Jm (n + 113) s M7 := h4.fr e7 (fun q k z => by simp only [sRl, sRp] at z; omega)
    have a7 : ∀ k, M7.1 b k = M.1 b k := fun k => (e7 _ _ (by simp only [sRl, sRp]; omega)).1
    refine ⟨hT2 0 _ rfl, ?_⟩
    rw [a7, e1]
    refine s11_law (d := 2037) hT2 mm.1.1 mm.2.1 hG r1 (fun hn => absurd hv hn) (fun _ hg => absurd hf hg) (fun _ _ M10 q12 w10 e10 => ?_)
    rw [if_pos rfl]
    have hv' : (1 ≤ z1 ∧ z1 ≤ 200) ∧ z1 ≤ s 0 4 := hv
    have j7 := cls (tLw s z1.toNat) M7 e7 l7 q4 q1 (fun _ z => z) (fun _ => rfl) rfl (funext fun _ => rfl) (fun _ z => z) (fun _ z => z) (fun _ z => z)
    have j10 : Jm (n + 113) (tLw s z1.toNat) M10 := by
      obtain ⟨k1, m2, m3, m4, m5⟩ := mm
      refine ⟨⟨klw_rf k1.1 e10, (k1.2.1.mvq (fun q k z => (e10 q k (by simp only [klw]; omega)).1)), ?_⟩, ⟨q12, fun k => ((e10 _ _ (by simp only [klw]; omega)).1).trans (m2.2 k)⟩, m3.mvq (fun q k z => (e10 q k (by simp only [klw]; omega)).1), m4.mvq (fun q k z => (e10 q k (by simp only [klw]; omega)).1), m5.mvq (fun q k z => (e10 q k (by simp only [klw]; omega)).1)⟩
      have el : lawCl (tLw s z1.toNat) = (ltx (s 7) z1.toNat).2 := by
        show (ltx (s 7) ((z1.toNat : Int)).toNat).2 = _
        rw [Int.toNat_natCast]
      rw [el]
      exact w10
    obtain ⟨j, a⟩ := h'.up (Js_Lw hJs (by omega) hf) j7 e7 (fun q k z => by simp only [sRl, sRp] at z; omega) j10 e10 (fun q k z => by simp only [klw] at z; omega)
    exact K _ (c + 1) _ j (by omega) a
end OPE
