section ED
variable {d : Nat} {Th : mT} {M : mM} {m n : Nat} {s : mS} {c : Int}
/-- the edge: from a CLEVER on -/
def edS (s : mS) (x y : Nat) : Nat → Nat → Nat
  | 0, _ => 10
  | u + 1, k => if jL (bS 8 (hB s (k : Int) x (s 0 0).toNat) 10) ≤ jL (aftS s x y 10 false) then edS s x y u (k + 1) else k
def aEdge (s : mS) (x y : Nat) : Nat := edS s x y 10 0
/-- what asking for the edge writes -/
def sEd (n : Nat) : Nat → Nat → Prop := fun q k => sFo n q k ∨ sLd n (n + 35) q k
theorem sLd35_h : ∀ q k, sLd n (n + 35) q k → n ≤ q ∧ ¬ (q = n + 3 ∧ k ≤ 4) ∧ ¬ (n + 9 ≤ q ∧ q ≤ n + 34) ∧ ¬ (q = n + 4 ∧ 1 ≤ k ∧ k ≤ 4) ∧ q ≠ n + 6 ∧ q ≠ n + 7 := by
  intro q k h
  unfold sLd sLaw at h
  omega
theorem s10_edge {Q : Int32 → mM → Prop} {zx zy : Int} (hT : gTh Th n) (hM : KM Th n s c M) (hC : cCh n M) (hG : rG s) (hO : rLw s) (hzx : rI zx) (hzy : rI zy)
    (k0 : ¬ vHunt s zx zy → Q (-1) M) (k1 : vHunt s zx zy → ∀ M', KM Th n s c M' → cCh n M' → Eo (sEd n) M M' → Q (jI (aEdge s zx.toNat zy.toNat : Int)) M') : P10_edge (d + 41) Th n (jI zx) (jI zy) M Q := by
  have g0 := hG.1
  have g1 := hG.2.1
  have hH := hM.1
  have hHh := hH.2.2.1
  have hR0 : M.1 (n + 3) 0 = jI ((s 0 0).toNat : Int) := by rw [hHh.1]; congr 1; omega
  have hR1 : M.1 (n + 3) 1 = jI ((s 0 1).toNat : Int) := by rw [hHh.2.1]; congr 1; omega
  refine e10_edge ⟨hT.1 0 _ rfl, ?_⟩
  refine s10_canHunt (d := d + 38) hT.1 hH.1 hR0 hR1 (by omega) (by omega) hzx hzy (fun hv => ?_) (fun hv => ?_)
  rotate_left
  · rw [if_pos rfl]; exact k0 hv
  rw [if_neg (by decide)]
  have kk := k1 hv
  obtain ⟨⟨v1, v2⟩, ⟨v3, v4⟩, v5, v6⟩ := hv
  obtain ⟨x, rfl⟩ : ∃ b : Nat, zx = b := ⟨zx.toNat, by omega⟩
  obtain ⟨y, rfl⟩ : ∃ b : Nat, zy = b := ⟨zy.toNat, by omega⟩
  simp only [Int.toNat_natCast] at kk
  rw [kI10]
  refine s10_followed (d := d) (x := x) (y := y) (last := 10) (w := false) hT hM hC hG hO (by omega) (by omega) (by omega) (by omega) ?_
  intro M4 m4 c4 e4
  have loop : ∀ (u k : Nat) (M1 : mM), u + k = 10 → KM Th n s c M1 → cCh n M1 → Eo (sEd n) M M1 → (aEdge s x y = edS s x y u k) → H10_edge_24 (d + 41) Th Q n (jI (x : Int)) (jL (aftS s x y 10 false)) (jI (k : Int)) M1 := by
    intro u
    induction u with
    | zero =>
      intro k M1 hu m1 c1 he ha
      refine h10_edge_24 ?_
      rw [if_pos (by rw [jg9 (rI_nat (by omega))]; omega)]
      have := kk M1 m1 c1 he
      rw [ha] at this
      exact this
    | succ u ih =>
      intro k M1 hu m1 c1 he ha
      refine h10_edge_24 ?_
      rw [if_neg (by rw [jg9 (rI_nat (by omega))]; omega)]
      refine ⟨hT.1 0 _ rfl, n + 3, m1.1.1 0 1 3 (by decide), n + 35, m1.1.1 0 2 35 (by decide), hT.1 3 _ rfl, ?_⟩
      have q35 : qSk n (n + 35) := by unfold qSk; omega
      refine s2_load (d := d + 39) (q := n + 35) (b := x) (cl := (k : Int)) hT m1.1 hG hO q35 (by omega) (by omega) ?_
      intro M6 e6 v6'
      have m6 := m1.mvS hT e6 (sLd_rf q35) sLd35_h
      have c6 : cCh n M6 := by
        have g : ∀ j, M6.2.2 (n + 69) j = M1.2.2 (n + 69) j := fun j => (e6 _ _ (by unfold sLd sLaw; omega)).2.2
        unfold cCh
        rw [g, g]
        exact c1
      refine ⟨n + 39, m6.1.1 0 3 39 (by decide), n + 35, m6.1.1 0 2 35 (by decide), ?_⟩
      have vs : vSk (n + 35) (s 0 0) (gB s (k : Int) x) (eB s (k : Int) x) (fun r => (wN s x r : Int)) M6 := by
        intro r hr
        obtain ⟨h1, h2⟩ := v6' r hr
        exact ⟨by rw [h1, wN_e], h2⟩
      refine s10_goAlone (d := d + 35) (p := n + 39) hT m6.1 hG (Or.inl rfl) (lySk_of hT.1 m6.1.1 q35) vs (by omega) (gB_b s _ x) (wN_b s x) ?_
      intro M13 p13 e13
      have e13' : Eo (sPp n) M6 M13 := e13.mono (fun q k z => Or.inl z)
      have m13 := m6.mvS hT e13' (sPp_rf n) sPp_h
      have c13 : cCh n M13 := by
        have g : ∀ j, M13.2.2 (n + 69) j = M6.2.2 (n + 69) j := fun j => (e13 _ _ (by unfold sPa; omega)).2.2
        unfold cCh
        rw [g, g]
        exact c6
      have hh : M13.1 (n + 3) 0 = jI ((s 0 0).toNat : Int) := by rw [m13.1.2.2.1.1]; congr 1; omega
      refine ⟨n + 39, m13.1.1 0 3 39 (by decide), n + 3, m13.1.1 0 1 3 (by decide), hT.1 3 _ rfl, hT.1 39 _ rfl, ?_⟩
      rw [hh]
      refine s7_comeBy (d := d + 38) (t := 10) (sh := 3) (N := 8) (Z := hB s (k : Int) x (s 0 0).toNat) (lyPa39 hT.1 m13.1.1) p13.1 (Or.inl ⟨rfl, rfl⟩) (by omega) (by omega) (fun j hj => p13.2.2.1 _ (Nat.le_refl _) j hj) ?_
      have ee : Eo (sEd n) M M13 := (he.trans (e6.mono (fun q k z => Or.inr z))).trans (e13'.mono (fun q k z => Or.inl (Or.inl (Or.inr z))))
      rw [edS] at ha
      simp only [lc_le]
      by_cases cc : jL (bS 8 (hB s (k : Int) x (s 0 0).toNat) 10) ≤ jL (aftS s x y 10 false)
      · rw [if_pos cc] at ha ⊢
        rw [jI_s]
        exact ih (k + 1) M13 (by omega) m13 c13 ee ha
      · rw [if_neg cc] at ha ⊢
        have := kk M13 m13 c13 ee
        rw [ha] at this
        exact this
  rw [i0]
  exact loop 10 0 M4 (by omega) m4 c4 (e4.mono (fun q k z => Or.inl z)) rfl
/-- what the model's edge writes -/
def sEm (m : Nat) : Nat → Nat → Prop := fun q k => sAf m q k ∨ sGo m q k
theorem s11_edge {Q : Int32 → mM → Prop} {zx zy : Int} (hT : LyM Th m) (hK : KT m s M) (hG : rG s) (hO : rLw s) (hzx : rI zx) (hzy : rI zy)
    (k0 : ¬ vHunt s zx zy → Q (-1) M) (k1 : vHunt s zx zy → ∀ M', KT m s M' → Eo (sEm m) M M' → Q (jI (aEdge s zx.toNat zy.toNat : Int)) M') : P11_edge (d + 41) Th m (jI zx) (jI zy) M Q := by
  have g0 := hG.1
  have g1 := hG.2.1
  obtain ⟨hR, hH, hL⟩ := id hK
  have hR0 : M.1 m 0 = jI ((s 0 0).toNat : Int) := by rw [hH.1]; congr 1; omega
  have hR1 : M.1 m 1 = jI ((s 0 1).toNat : Int) := by rw [hH.2.1]; congr 1; omega
  refine e11_edge ⟨hT 0 _ rfl, ?_⟩
  refine s11_areTwo (d := d + 38) hT hR0 hR1 (by omega) (by omega) hzx hzy (fun hv => ?_) (fun hv => ?_)
  rotate_left
  · rw [if_pos rfl]; exact k0 hv
  rw [if_neg (by decide)]
  have kk := k1 hv
  obtain ⟨⟨v1, v2⟩, ⟨v3, v4⟩, v5, v6⟩ := hv
  obtain ⟨x, rfl⟩ : ∃ b : Nat, zx = b := ⟨zx.toNat, by omega⟩
  obtain ⟨y, rfl⟩ : ∃ b : Nat, zy = b := ⟨zy.toNat, by omega⟩
  simp only [Int.toNat_natCast] at kk
  rw [kI10]
  refine s11_goesAfter (d := d + 33) (x := x) (y := y) (last := 10) hT hK hG hO (by omega) (by omega) (by omega) (by omega) ?_
  intro M4 k4 r44 r45 e4
  intro lv6 h6
  rw [h6, r44]
  have loop : ∀ (u k : Nat) (M1 : mM), u + k = 10 → KT m s M1 → Eo (sEm m) M M1 → (aEdge s x y = edS s x y u k) → H11_edge_27 (d + 41) Th Q m (jI (x : Int)) (jL (aftS s x y 10 false)) (jI (k : Int)) M1 := by
    intro u
    induction u with
    | zero =>
      intro k M1 hu m1 he ha
      refine h11_edge_27 ?_
      rw [if_pos (by rw [jh10 (rI_nat (by omega))]; omega)]
      have := kk M1 m1 he
      rw [ha] at this
      exact this
    | succ u ih =>
      intro k M1 hu m1 he ha
      refine h11_edge_27 ?_
      rw [if_neg (by rw [jh10 (rI_nat (by omega))]; omega)]
      have hh : M1.1 m 0 = jI ((s 0 0).toNat : Int) := by rw [m1.2.1.1]; congr 1; omega
      refine ⟨hT 0 _ rfl, ?_⟩
      rw [hh, kI10]
      refine s11_goesAlone (d := d + 34) (b := x) (A := (s 0 0).toNat) (T := 10) (cl := (k : Int)) hT m1 hG hO (by omega) (by omega) (by omega) (by omega) ?_
      intro M2 k2 b2 s2 w2 e2
      have ee : Eo (sEm m) M M2 := he.trans (e2.mono (fun q k z => Or.inr z))
      rw [s2]
      rw [edS] at ha
      simp only [lc_le]
      by_cases cc : jL (bS 8 (hB s (k : Int) x (s 0 0).toNat) 10) ≤ jL (aftS s x y 10 false)
      · rw [if_pos cc] at ha ⊢
        rw [jI_s]
        exact ih (k + 1) M2 (by omega) k2 ee ha
      · rw [if_neg cc] at ha ⊢
        have := kk M2 k2 ee
        rw [ha] at this
        exact this
  rw [i0]
  exact loop 10 0 M4 (by omega) k4 (e4.mono (fun q k z => Or.inl z)) rfl
end ED
