/-! ===== DRAW: the ticks, the class ===== -/
theorem rG_s8 {s : mS} (hG : rG s) : rG (s8 s 1) := by
  obtain ⟨h1, h2, h3, h4, h5, h6, h7, h8, h9, h10⟩ := hG
  exact ⟨h1, h2, h3, h4, h5, h6, h7, h8, Or.inr rfl, h10⟩
section HQ
variable {d : Nat} {Th : mT} {M : mM} {n m : Nat} {s : mS} {c : Int}
theorem s3_ticks {Q : Int32 → mM → Prop} (hT : gTh Th n) (hG : rG s) (hO : rLw s) (hL : rLg s) (hR : 0 < s 0 0) (k : ∀ M', cHu Th n (sDrw s) (hAll s 10).2 c M' → Eo (sHn n) M M' → Q (jI (aDrw s : Nat)) M') :
    ∀ u t (M1 : mM), t + u = 10 → cHu Th n (s8 (hAll s t).1 1) (hAll s t).2 c M1 → Eo (sHn n) M M1 → H3_play_74 (d + 10) Th Q (n + 107) (jI ((t + 1 : Nat) : Int)) M1 := by
  have g1 := hG.2.1
  have all := hOkk_all hG hO hL hR
  obtain ⟨B, hBb⟩ : ∃ B : Nat, s 0 1 = B := ⟨(s 0 1).toNat, by omega⟩
  have bands : ∀ t, 1 ≤ t ∧ t ≤ 10 → ∀ u b (M1 : mM), b + u = B → cHu Th n (s8 (hTick (hAll s (t - 1)).1 (hAll s (t - 1)).2 t b).1 1) (hTick (hAll s (t - 1)).1 (hAll s (t - 1)).2 t b).2 c M1 → Eo (sHn n) M M1 → (∀ M2, cHu Th n (s8 (hAll s t).1 1) (hAll s t).2 c M2 → Eo (sHn n) M M2 → H3_play_74 (d + 10) Th Q (n + 107) (jI ((t + 1 : Nat) : Int)) M2) → H3_play_82 (d + 10) Th Q (n + 107) (jI t) (jI b) M1 := by
    intro t ht u
    induction u with
    | zero =>
      intro b M1 hb k1 e nx
      have o := hOkk_tick (all (t - 1) (by omega)) ht b (by omega)
      have hI := k1.1.1.2.2.1
      refine h3_play_82 ⟨hT.1 107 _ rfl, n + 3, k1.1.1.1 107 0 3 (by decide), hT.1 3 _ rfl, ?_⟩
      rw [hI.2.1, show s8 (hTick (hAll s (t - 1)).1 (hAll s (t - 1)).2 t b).1 1 0 1 = s 0 1 from o.2.2.2, hBb, if_pos (by rw [jIle (rI_nat (by omega)) (rI_nat (by omega))]; omega), jI_s]
      refine nx M1 ?_ e
      obtain ⟨t', rfl⟩ : ∃ t', t = t' + 1 := ⟨t - 1, by omega⟩
      show cHu Th n (s8 (hTick (hAll s t').1 (hAll s t').2 (t' + 1) (s 0 1).toNat).1 1) (hTick (hAll s t').1 (hAll s t').2 (t' + 1) (s 0 1).toNat).2 c M1
      rw [hBb, Int.toNat_natCast, show B = b by omega]
      exact k1
    | succ u ih =>
      intro b M1 hb k1 e nx
      have o := hOkk_tick (all (t - 1) (by omega)) ht b (by omega)
      have nxt := hmv_s8 (hTick (hAll s (t - 1)).1 (hAll s (t - 1)).2 t b).1 1 (hTick (hAll s (t - 1)).1 (hAll s (t - 1)).2 t b).2 b t
      have nx2 : hTick (hAll s (t - 1)).1 (hAll s (t - 1)).2 t (b + 1) = hmv (hTick (hAll s (t - 1)).1 (hAll s (t - 1)).2 t b).1 (hTick (hAll s (t - 1)).1 (hAll s (t - 1)).2 t b).2 b t := rfl
      have ihh := ih (b + 1)
      rw [nx2] at ihh
      generalize hTick (hAll s (t - 1)).1 (hAll s (t - 1)).2 t b = P at k1 o nxt ihh
      obtain ⟨S, st⟩ := P
      simp only at k1 o nxt ihh
      obtain ⟨o1, o2, o3, o4⟩ := o
      have lt := hInv_lt o1
      obtain ⟨q1, q2, q3, q4, q5, q6, q7⟩ := o1
      have hI := k1.1.1.2.2.1
      have e1 : s8 S 1 0 1 = s 0 1 := o4
      have step : ∀ M2, cHu Th n (hmv (s8 S 1) st b t).1 (hmv (s8 S 1) st b t).2 c M2 → Eo (sHn n) M1 M2 → H3_play_82 (d + 10) Th Q (n + 107) (jI t) (jI (b : Int) + 1) M2 := by
        intro M2 k2 e2
        rw [nxt] at k2
        rw [jI_s]
        exact ihh M2 (by omega) k2 (e.trans e2) nx
      refine h3_play_82 ⟨hT.1 107 _ rfl, n + 3, k1.1.1.1 107 0 3 (by decide), hT.1 3 _ rfl, ?_⟩
      rw [hI.2.1, e1, hBb, if_neg (by rw [jIle (rI_nat (by omega)) (rI_nat (by omega))]; omega), if_neg (by rw [jh5 (rI_nat (by omega))]; omega)]
      refine s3_move (d := d + 7) hT k1 (rG_s8 q1) (by rw [e1]; omega) (q6 b (by omega)) (fun h80 h5 => ?_) step
      have hzb : ((st b / 16 : Nat) : Int) < S 0 0 := by have := q6 b (by omega); omega
      exact s3_think (d := d) hT k1 (rG_s8 q1) q3 (show S 0 6 < 40 by omega) (by rw [e1]; omega) ht.2 hzb h80 h5 step
  intro u
  induction u with
  | zero =>
    intro t M1 ht k1 e
    have t10 : t = 10 := by omega
    subst t10
    refine h3_play_74 ?_
    rw [if_pos (by decide)]
    refine ⟨hT.1 107 _ rfl, ?_⟩
    have := k1.2.2.2.2.2
    rw [this, show fnd (s8 (hAll s 10).1 1) (hAll s 10).2 = fnd (hAll s 10).1 (hAll s 10).2 from rfl, fnd_draw (all 10 (by omega)).2.2.2]
    exact k M1 k1 e
  | succ u ih =>
    intro t M1 ht k1 e
    refine h3_play_74 ?_
    rw [if_neg (by rw [show (10 : Int32) = jI 10 from rfl, jIlt (rI_of (by omega) (by omega)) (rI_nat (by omega))]; omega), i0]
    exact bands (t + 1) ⟨by omega, by omega⟩ B 0 M1 (by omega) k1 e (fun M2 k2 e2 => ih (t + 1) M2 (by omega) k2 e2)
end HQ
