/-! ===== KNEW: model ===== -/
section KX
variable {d : Nat} {Th : mT} {M : mM} {n m : Nat} {s : mS} {c : Int}
theorem s11_isAfterOne {Q : Int32 → mM → Prop} {i : Nat} (hT : LyM Th m) (hR : RfM m M) (hH : mLog m s M) (hG : rG s) (hL : rLg s) (hi : (i : Int) < s 0 6) (k1 : lSee s i → Q 1 M) (k0 : ¬ lSee s i → Q 0 M) : P11_isAfterOne (d + 3) Th m (jI i) M Q := by
  have g := hG.2.2.2.2.2.2.1
  have rr : ∀ k, rI (s 9 k) := fun k => by have := hL k; exact rI_of (by omega) (by omega)
  have o35 : ∀ j : Nat, (j : Int) < s 0 6 → m_ok Th (m + 35) .int (jI (j : Int)) := fun j hj => m_ok_jI (hT 35 _ rfl) (by omega) (by omega) (by omega)
  have o36 : ∀ j : Nat, (j : Int) < s 0 6 → m_ok Th (m + 36) .int (jI (j : Int)) := fun j hj => m_ok_jI (hT 36 _ rfl) (by omega) (by omega) (by omega)
  have o37 : ∀ j : Nat, (j : Int) < s 0 6 → m_ok Th (m + 37) .int (jI (j : Int)) := fun j hj => m_ok_jI (hT 37 _ rfl) (by omega) (by omega) (by omega)
  have key : ∀ u j : Nat, j + u = i → (∀ a : Nat, a < j → ¬ (gR s a = gR s i ∧ gBd s a ≠ gBd s i ∧ gTk s i - 2 ≤ gTk s a)) → H11_isAfterOne_2 (d + 3) Th Q m (jI i) (jI j) M := by
    intro u
    induction u with
    | zero =>
      intro j hj hno
      refine h11_isAfterOne_2 ?_
      rw [if_pos (by rw [jIle (rI_nat (by omega)) (rI_nat (by omega))]; omega)]
      exact k0 (fun ⟨a, h1, h2⟩ => hno a (by omega) h2)
    | succ u ih =>
      intro j hj hno
      refine h11_isAfterOne_2 ?_
      rw [if_neg (by rw [jIle (rI_nat (by omega)) (rI_nat (by omega))]; omega)]
      refine ⟨hT 0 _ rfl, m + 36, hR 0 63 36 (by decide), o36 j (by omega), o36 i (by omega), ?_⟩
      have next : ¬ (gR s j = gR s i ∧ gBd s j ≠ gBd s i ∧ gTk s i - 2 ≤ gTk s j) → H11_isAfterOne_2 (d + 3) Th Q m (jI i) (jI (j : Int) + 1) M := by
        intro h
        rw [jI_s]
        refine ih (j + 1) (by omega) (fun a ha => ?_)
        by_cases q : a = j
        · rw [q]; exact h
        · exact hno a (by omega)
      have tj := jInatN j (by omega)
      have ti := jInatN i (by omega)
      simp only [tj, ti, hH.2.2.1, hH.2.1, hH.2.2.2, jIeq (rr (3 * j + 1)) (rr (3 * i + 1)), jIeq (rr (3 * j)) (rr (3 * i))]
      by_cases c : s 9 (3 * j + 1) = s 9 (3 * i + 1)
      · rw [if_pos c]
        refine ⟨m + 35, hR 0 62 35 (by decide), o35 j (by omega), o35 i (by omega), ?_⟩
        simp only [hH.2.1, jIeq (rr (3 * j)) (rr (3 * i))]
        by_cases c2 : s 9 (3 * j) = s 9 (3 * i)
        · rw [if_pos c2]
          exact next (fun q => q.2.1 c2)
        · rw [if_neg c2]
          refine ⟨m + 37, hR 0 64 37 (by decide), o37 j (by omega), o37 i (by omega), ?_⟩
          have b1 := hL (3 * i + 2)
          rw [hH.2.2.2, hH.2.2.2, i2, jI_sub]
          by_cases c3 : s 9 (3 * j + 2) < s 9 (3 * i + 2) - 2
          · rw [if_pos (by rw [jIlt (rr _) (rI_of (by omega) (by omega))]; exact c3)]
            exact next (fun q => by have := q.2.2; unfold gTk at this; omega)
          · rw [if_neg (by rw [jIlt (rr _) (rI_of (by omega) (by omega))]; exact c3)]
            exact k1 ⟨j, by omega, c, c2, by unfold gTk; omega⟩
      · rw [if_neg c]
        exact next (fun q => c q.1)
  exact e11_isAfterOne (key i 0 (by omega) (fun a ha => absurd ha (by omega)))
theorem s11_thoughtOf {Q : Int32 → mM → Prop} {i : Nat} (hT : LyM Th m) (hR : RfM m M) (hI : mHill m s M) (hH : mLog m s M) (hG : rG s) (hL : rLg s) (hLh : rLh s) (hi : (i : Int) < s 0 6) (k : Q (jI (lTh s i)) M) : P11_thoughtOf (d + 5) Th m (jI i) M Q := by
  have g := hG.2.2.2.2.2.2.1
  have rr : ∀ k, rI (s 9 k) := fun k => by have := hL k; exact rI_of (by omega) (by omega)
  have o35 : ∀ j : Nat, (j : Int) < s 0 6 → m_ok Th (m + 35) .int (jI (j : Int)) := fun j hj => m_ok_jI (hT 35 _ rfl) (by omega) (by omega) (by omega)
  have o36 : ∀ j : Nat, (j : Int) < s 0 6 → m_ok Th (m + 36) .int (jI (j : Int)) := fun j hj => m_ok_jI (hT 36 _ rfl) (by omega) (by omega) (by omega)
  have o37 : ∀ j : Nat, (j : Int) < s 0 6 → m_ok Th (m + 37) .int (jI (j : Int)) := fun j hj => m_ok_jI (hT 37 _ rfl) (by omega) (by omega) (by omega)
  have key : ∀ u j : Nat, j + u = i → H11_thoughtOf_4 (d + 5) Th Q m (jI i) (jI (lcame s i j)) (jI j) M := by
    intro u
    induction u with
    | zero =>
      intro j hj
      refine h11_thoughtOf_4 ?_
      rw [if_pos (by rw [jIle (rI_nat (by omega)) (rI_nat (by omega))]; omega), show j = i by omega]
      refine ⟨hT 0 _ rfl, m + 37, hR 0 64 37 (by decide), o37 i (by omega), ?_⟩
      intro v hv
      have b1 := hL (3 * i + 2)
      have b2 := lcame_b hL i i
      rw [jInatN i (by omega), hH.2.2.2, show jI (s 9 (3 * i + 2)) - 1 - jI (lcame s i i) = jI (s 9 (3 * i + 2) - 1 - lcame s i i) by rw [i1, jI_sub, jI_sub]] at hv
      have e : (if 0 ≤ v then (if v ≤ 5 then v else 5) else 0) = jI (lTh s i) := by
        rw [hv]
        have rr : rI (s 9 (3 * i + 2) - 1 - lcame s i i) := rI_of (by omega) (by omega)
        unfold lTh gTk
        generalize s 9 (3 * i + 2) - 1 - lcame s i i = z at rr ⊢
        simp only [jh0 rr, je5 rr]
        by_cases c1 : z < 0
        · rw [if_neg (by omega), if_pos c1]; rfl
        · rw [if_pos (by omega), if_neg c1]
          by_cases c2 : 5 < z
          · rw [if_neg (by omega), if_pos c2]; rfl
          · rw [if_pos (by omega), if_neg c2]
      rw [e]
      exact k
    | succ u ih =>
      intro j hj
      refine h11_thoughtOf_4 ?_
      rw [if_neg (by rw [jIle (rI_nat (by omega)) (rI_nat (by omega))]; omega)]
      refine ⟨hT 0 _ rfl, m + 35, hR 0 62 35 (by decide), o35 j (by omega), o35 i (by omega), ?_⟩
      have q1 := hLh j (by omega)
      have b0 := hL (3 * j)
      have b1 := hL (3 * j + 1)
      have tj := jInatN j (by omega)
      have ti := jInatN i (by omega)
      have h := ih (j + 1) (by omega)
      unfold lcame at h
      simp only [tj, ti, hH.2.1, jIeq (rr (3 * j)) (rr (3 * i)), jI_s]
      by_cases c : s 9 (3 * j) = s 9 (3 * i)
      · rw [if_pos c]
        rw [if_pos (show gBd s j = gBd s i from c)] at h
        refine ⟨m + 37, hR 0 64 37 (by decide), o37 j (by omega), m + 36, hR 0 63 36 (by decide), o36 j (by omega), ?_⟩
        rw [hH.2.2.1, hH.2.2.2]
        unfold gBd gR at h q1
        unfold gTk at h
        obtain ⟨b, qb⟩ : ∃ b : Nat, s 9 (3 * j) = b := ⟨(s 9 (3 * j)).toNat, by omega⟩
        obtain ⟨r, qr⟩ : ∃ r : Nat, s 9 (3 * j + 1) = r := ⟨(s 9 (3 * j + 1)).toNat, by omega⟩
        rw [qb, qr, Int.toNat_natCast, Int.toNat_natCast] at h
        rw [qb, qr] at q1
        rw [qb, qr]
        refine s11_walkOf (d := d + 2) hT hR hI hG q1.1 q1.2 ?_
        intro x hx
        rw [hx, jI_add]
        exact h
      · rw [if_neg c]
        rw [if_neg (show ¬ gBd s j = gBd s i from c)] at h
        exact h
  exact e11_thoughtOf (key i 0 (by omega))
theorem s11_knew {Q : Int32 → mM → Prop} {zi ze zw : Int} (hT : LyM Th m) (hK : KT m s M) (hH : mLog m s M) (hG : rG s) (hO : rLw s) (hL : rLg s) (hLh : rLh s) (hi : rI zi) (he : rI ze) (hw : rI zw)
    (k0 : ¬ vKnew s zi ze zw → Q (-1) M) (k1 : vKnew s zi ze zw → ∀ M', KT m s M' → Eo (sTh m) M M' → Q (jI (aKnew s zi.toNat ze zw)) M') : P11_knew (d + 40) Th m (jI zi) (jI ze) (jI zw) M Q := by
  have g0 := hG.1
  have g1 := hG.2.1
  have g6 := hG.2.2.2.2.2.2.1
  have hR := hK.1
  refine e11_knew ?_
  by_cases c1 : zi < 0
  · rw [if_pos (by rw [jl0 hi]; exact c1)]
    exact k0 (fun h => by have := h.1; omega)
  rw [if_neg (by rw [jl0 hi]; exact c1)]
  refine ⟨hT 0 _ rfl, ?_⟩
  rw [hH.1]
  by_cases c2 : s 0 6 ≤ zi
  · rw [if_pos (by rw [jIle (rI_of (by omega) (by omega)) hi]; exact c2)]
    exact k0 (fun h => by have := h.1; omega)
  rw [if_neg (by rw [jIle (rI_of (by omega) (by omega)) hi]; exact c2)]
  refine s_in 1 8 rfl rfl rfl he (rI_of (by omega) (by omega)) (rI_of (by omega) (by omega)) (fun a3 a4 => ?_) (fun a => ?_)
  rotate_left
  · rw [if_pos rfl]; exact k0 (fun h => a h.2.1)
  rw [if_neg (by decide)]
  refine s_in 0 1 rfl rfl rfl hw (rI_of (by omega) (by omega)) (rI_of (by omega) (by omega)) (fun a5 a6 => ?_) (fun a => ?_)
  rotate_left
  · rw [if_pos rfl]; exact k0 (fun h => a h.2.2)
  rw [if_neg (by decide)]
  have v : vKnew s zi ze zw := ⟨⟨by omega, by omega⟩, ⟨a3, a4⟩, a5, a6⟩
  obtain ⟨i, rfl⟩ : ∃ i : Nat, zi = i := ⟨zi.toNat, by omega⟩
  have kk := k1 v
  rw [Int.toNat_natCast] at kk
  have b0 := hL (3 * i)
  have b1 := hL (3 * i + 1)
  have a2 : (i : Int) < s 0 6 := by omega
  obtain ⟨q1, q2⟩ := hLh i a2
  obtain ⟨b, qb⟩ : ∃ b : Nat, gBd s i = b := ⟨(gBd s i).toNat, by unfold gBd; omega⟩
  obtain ⟨r, qr⟩ : ∃ r : Nat, gR s i = r := ⟨(gR s i).toNat, by unfold gR; omega⟩
  obtain ⟨t, qt⟩ : ∃ t : Nat, lTh s i = t := ⟨(lTh s i).toNat, by have := lTh_b s i; omega⟩
  have tb := lTh_b s i
  have gb := gKnew_b s i
  have gk : gKnew s i = gK s (s 4 b) b r t := by unfold gKnew; rw [qb, qr, qt]; rfl
  have eb : M.1 (m + 35) i = jI (b : Int) := by rw [hH.2.1]; exact congrArg jI qb
  have er : M.1 (m + 36) i = jI (r : Int) := by rw [hH.2.2.1]; exact congrArg jI qr
  refine ⟨m + 35, hR 0 62 35 (by decide), m_ok_jI (hT 35 _ rfl) (by omega) (by omega) (by omega), m + 4, hR 0 8 4 (by decide), ?_⟩
  rw [jInatN i (by omega), eb]
  refine ⟨m_ok_jI (hT 4 _ rfl) (by omega) (by omega) (by omega), m + 36, hR 0 63 36 (by decide), m_ok_jI (hT 36 _ rfl) (by omega) (by omega) (by omega), ?_⟩
  rw [jInatN b (by omega), er, hK.2.1.2.2.2.2.2.2.2.1]
  refine s11_thoughtOf (d := d + 34) hT hR hK.2.1 hH hG hL hLh a2 ?_
  rw [qt]
  refine s11_thinks (d := d + 35) hT hK hG hO (by omega) (by omega) (by omega) (fun M1 m1 h1 h2 e1 => ?_)
  intro x hx
  rw [h1, ← gk] at hx
  rw [← gk] at h1
  have hH1 : mLog m s M1 := hH.mv e1 (fun q k h => by unfold sTh at h; omega)
  have kk := kk M1 m1 e1
  unfold aKnew at kk
  have h92 : ∀ B : Int, (gKnew s i = 0 → B = B) → 0 ≤ B → B ≤ 16 → Q (jI (if gKnew s i = 0 then zw else if zw = 0 then fracA (gKnew s i).toNat B.toNat else fracB (gKnew s i).toNat B.toNat)) M1 → H11_knew_92 (d + 40) Th Q (jI zw) x (jI B) M1 := by
    intro B _ hB1 hB2 kq
    refine h11_knew_92 ?_
    rw [hx]
    generalize gKnew s i = G at kq gb ⊢
    by_cases G0 : G = 0
    · rw [if_pos (by rw [G0]; rfl)]
      rw [if_pos G0] at kq
      exact kq
    · rw [if_neg (by rw [jq0 (rI_of (by omega) (by omega))]; exact G0)]
      rw [if_neg G0] at kq
      obtain ⟨a, rfl⟩ : ∃ a : Nat, G = a := ⟨G.toNat, by omega⟩
      obtain ⟨e, rfl⟩ : ∃ e : Nat, B = e := ⟨B.toNat, by omega⟩
      rw [jI_long (by omega) (by omega), jI_long (by omega) (by omega)]
      refine s11_gcd (by omega) (by omega) ?_
      intro y hy
      rw [jL_int32] at hy
      simp only [Int.toNat_natCast] at kq
      have gp : 0 < Nat.gcd a e := Nat.gcd_pos_of_pos_left _ (by omega)
      have gl : Nat.gcd a e ≤ a := Nat.gcd_le_left _ (by omega)
      have y0 : ¬ y = 0 := by rw [hy, jq0 (rI_nat (by omega))]; omega
      by_cases w0 : zw = 0
      · rw [if_pos (by rw [w0]; rfl)]
        rw [if_pos w0] at kq
        refine ⟨y0, ?_⟩
        rw [hy, jI_div (by omega) (by omega) (by omega) (by omega)]
        exact kq
      · rw [if_neg (by rw [jq0 hw]; exact w0)]
        rw [if_neg w0] at kq
        refine ⟨y0, ?_⟩
        rw [hy, jI_div (by omega) (by omega) (by omega) (by omega)]
        exact kq
  refine s11_isAfterOne (d := d + 36) hT m1.1 hH1 hG hL a2 (fun hs => ?_) (fun hs => ?_)
  · rw [if_neg (by decide), h1, jI_add]
    rw [if_pos ((lSeB_k s i i).mpr hs)] at kk
    exact h92 (gKnew s i + ze) (fun _ => rfl) (by omega) (by omega) kk
  · rw [if_pos rfl, h1]
    rw [if_neg (fun h => hs ((lSeB_k s i i).mp h)), Int.add_zero] at kk
    exact h92 (gKnew s i) (fun _ => rfl) (by omega) (by omega) kk
end KX
