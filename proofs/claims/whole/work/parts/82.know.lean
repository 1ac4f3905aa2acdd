/-! ===== KNEW: both sides ===== -/
section KW
variable {d : Nat} {Th : mT} {M : mM} {n m : Nat} {s : mS} {c : Int}
theorem gKnew_b (s : mS) (i : Nat) : 0 ≤ gKnew s i ∧ gKnew s i ≤ 8 := by
  have := gK_b s (s 4 (gBd s i).toNat) (gBd s i).toNat (gR s i).toNat (lTh s i).toNat
  unfold gKnew
  omega
theorem sSk_log (n : Nat) : ∀ q k, sSk n q k → ¬ (n + 105 ≤ q) := by
  intro q k h
  unfold sSk sLaw at h
  omega
theorem cLog.mv {S : Nat → Nat → Prop} {M' : mM} (h : cLog n s M) (he : Eo S M M') (hS : ∀ q k, S q k → ¬ (q = n + 105 ∨ q = n + 106)) : cLog n s M' :=
  ⟨((he _ _ (fun z => hS _ _ z (Or.inl rfl))).1).trans h.1, fun k => ((he _ _ (fun z => hS _ _ z (Or.inr rfl))).1).trans (h.2 k)⟩
theorem mLog.mv {S : Nat → Nat → Prop} {M' : mM} (h : mLog m s M) (he : Eo S M M') (hS : ∀ q k, S q k → ¬ ((q = m ∧ k = 60) ∨ (m + 35 ≤ q ∧ q ≤ m + 37))) : mLog m s M' :=
  ⟨((he _ _ (fun z => hS _ _ z (Or.inl ⟨rfl, rfl⟩))).1).trans h.1, fun k => ((he _ _ (fun z => hS _ _ z (by omega))).1).trans (h.2.1 k), fun k => ((he _ _ (fun z => hS _ _ z (by omega))).1).trans (h.2.2.1 k), fun k => ((he _ _ (fun z => hS _ _ z (by omega))).1).trans (h.2.2.2 k)⟩
theorem s10_knew {Q : Int32 → mM → Prop} {zi ze zw : Int} (hT : gTh Th n) (hM : KM Th n s c M) (hH : cLog n s M) (hG : rG s) (hO : rLw s) (hL : rLg s) (hLh : rLh s) (hi : rI zi) (he : rI ze) (hw : rI zw)
    (k0 : ¬ vKnew s zi ze zw → Q (-1) M) (k1 : vKnew s zi ze zw → ∀ M', KM Th n s c M' → Eo (sSk n) M M' → Q (jI (aKnew s zi.toNat ze zw)) M') : P10_knew (d + 40) Th n (jI zi) (jI ze) (jI zw) M Q := by
  have g0 := hG.1
  have g1 := hG.2.1
  have g6 := hG.2.2.2.2.2.2.1
  have hR := hM.1.1
  refine e10_knew ⟨hT.1 0 _ rfl, n + 105, hR 0 8 105 (by decide), hT.1 105 _ rfl, ?_⟩
  refine s5_has hT.1 hH hG hi (fun a1 a2 => ?_) (fun a => ?_)
  rotate_left
  · rw [if_pos rfl]; exact k0 (fun h => a h.1)
  rw [if_neg (by decide)]
  refine s_within 1 8 rfl rfl rfl he (rI_of (by omega) (by omega)) (rI_of (by omega) (by omega)) (fun a3 a4 => ?_) (fun a => ?_)
  rotate_left
  · rw [if_pos rfl]; exact k0 (fun h => a h.2.1)
  rw [if_neg (by decide)]
  refine s_within 0 1 rfl rfl rfl hw (rI_of (by omega) (by omega)) (rI_of (by omega) (by omega)) (fun a5 a6 => ?_) (fun a => ?_)
  rotate_left
  · rw [if_pos rfl]; exact k0 (fun h => a h.2.2)
  rw [if_neg (by decide)]
  have v : vKnew s zi ze zw := ⟨⟨a1, a2⟩, ⟨a3, a4⟩, a5, a6⟩
  obtain ⟨i, rfl⟩ : ∃ i : Nat, zi = i := ⟨zi.toNat, by omega⟩
  have kk := k1 v
  rw [Int.toNat_natCast] at kk
  have b0 := hL (3 * i)
  have b1 := hL (3 * i + 1)
  obtain ⟨q1, q2⟩ := hLh i a2
  obtain ⟨b, qb⟩ : ∃ b : Nat, gBd s i = b := ⟨(gBd s i).toNat, by unfold gBd; omega⟩
  obtain ⟨r, qr⟩ : ∃ r : Nat, gR s i = r := ⟨(gR s i).toNat, by unfold gR; omega⟩
  obtain ⟨t, qt⟩ : ∃ t : Nat, lTh s i = t := ⟨(lTh s i).toNat, by have := lTh_b s i; omega⟩
  have tb := lTh_b s i
  have gb := gKnew_b s i
  have gk : gKnew s i = gK s (s 4 b) b r t := by unfold gKnew; rw [qb, qr, qt]; rfl
  refine ⟨n + 3, hR 0 1 3 (by decide), n + 105, hR 0 8 105 (by decide), hT.1 105 _ rfl, ?_⟩
  refine s5_entry (d := d + 37) (w := 0) hT.1 hR hH hG (rI_nat (by omega)) rI0 ?_
  rw [show eLog s (i : Int) 0 = (b : Int) from (eLog_in (w := 0) (by omega) (by omega)).trans qb]
  refine ⟨hT.1 3 _ rfl, ?_⟩
  refine s2_skill (d := d + 38) hT hM hG hO (by omega) (by omega) (fun M1 m1 v1 e1 => ?_)
  have hH1 : cLog n s M1 := hH.mv e1 (fun q k h => by have := sSk_log n q k h; omega)
  have hR1 := m1.1.1
  have L1 : lySk Th (aSk n b) M1 := lySk_of hT.1 m1.1.1 (aSk_q (by omega))
  refine ⟨n + 105, hR1 0 8 105 (by decide), hT.1 105 _ rfl, ?_⟩
  refine s5_entry (d := d + 37) (w := 1) hT.1 hR1 hH1 hG (rI_nat (by omega)) (rI_of (by omega) (by omega)) ?_
  rw [show eLog s (i : Int) 1 = (r : Int) from (eLog_in (w := 1) (by omega) (by omega)).trans qr]
  refine s10_thoughtBefore (d := d + 34) hT.1 hR1 m1.1.2.2.1 hH1 hG hL hLh a2 ?_
  refine ⟨L1.1.1, ?_⟩
  rw [qt]
  refine s8_goodAt (d := d + 37) L1 v1 (by omega) (by omega) (by omega) ?_
  rw [← gk]
  have kk := kk M1 m1 e1
  unfold aKnew at kk
  generalize gKnew s i = G at kk gb ⊢
  have h117 : ∀ B : Int, 0 < B → B ≤ 16 → (if G = 0 then zw else if zw = 0 then fracA G.toNat B.toNat else fracB G.toNat B.toNat) = (if zw = 0 then fracA G.toNat B.toNat else fracB G.toNat B.toNat) → Q (jI (if zw = 0 then fracA G.toNat B.toNat else fracB G.toNat B.toNat)) M1 → H10_knew_117 (d + 40) Th Q (jI zw) (jL B) (jL G) M1 := by
    intro B hB1 hB2 _ kq
    refine h10_knew_117 ?_
    have f := s10_ofFraction (d := d + 38) (Th := Th) (M := M1) (Q := fun (v2 : Int64) (M2 : mM) => Q (Int64.toInt32 v2) M2) (a := G.toNat) (b := B.toNat) (w := jI zw) (by omega) (by omega) (by omega) (euE_le _ _ _ (by omega)) (by
      by_cases w0 : zw = 0
      · rw [if_pos (by rw [w0]; rfl)]
        rw [if_pos w0] at kq
        show Q (Int64.toInt32 (jL (fracA G.toNat B.toNat))) M1
        rw [jL_int32]
        exact kq
      · rw [if_neg (by rw [jq0 hw]; exact w0)]
        rw [if_neg w0] at kq
        show Q (Int64.toInt32 (jL (fracB G.toNat B.toNat))) M1
        rw [jL_int32]
        exact kq)
    rw [show ((G.toNat : Nat) : Int) = G by omega, show ((B.toNat : Nat) : Int) = B by omega] at f
    exact f
  by_cases G0 : G = 0
  · rw [if_pos (by rw [G0]; rfl)]
    refine h10_knew_92 ?_
    rw [if_neg (by decide), G0, if_neg (by decide), show Int32.toInt64 1 = jL 1 from rfl, show Int32.toInt64 (jI 0) = jL 0 from rfl]
    rw [if_pos G0] at kk
    have h := h117 1 (by omega) (by omega)
    rw [G0] at h
    have e : (if zw = 0 then fracA (0 : Int).toNat (1 : Int).toNat else fracB (0 : Int).toNat (1 : Int).toNat) = zw := by
      by_cases w0 : zw = 0
      · rw [if_pos w0, w0]; rfl
      · rw [if_neg w0, show zw = 1 by omega]; rfl
    rw [e] at h
    exact h (by rw [if_pos rfl]) kk
  · rw [if_neg (by rw [jq0 (rI_of (by omega) (by omega))]; exact G0)]
    rw [if_neg G0] at kk
    refine ⟨n + 105, hR1 0 8 105 (by decide), hT.1 105 _ rfl, ?_⟩
    refine s5_seesGoing (d := d + 36) hT.1 hR1 hH1 hG hL a2 (fun hs => ?_) (fun hs => ?_)
    · rw [if_neg (by decide)]
      refine h10_knew_92 ?_
      rw [if_pos rfl, jI_add, jI_long (by omega) (by omega), jI_long (by omega) (by omega)]
      rw [if_pos ((lSeB_k s i i).mpr hs)] at kk
      exact h117 (G + ze) (by omega) (by omega) (by rw [if_neg G0]) kk
    · rw [if_pos rfl]
      refine h10_knew_92 ?_
      rw [if_neg (by decide), jI_max1 (by omega) (by omega), jI_long (by omega) (by omega)]
      rw [if_neg (fun h => hs ((lSeB_k s i i).mp h)), Int.add_zero] at kk
      exact h117 G (by omega) (by omega) (by rw [if_neg G0]) kk
end KW
