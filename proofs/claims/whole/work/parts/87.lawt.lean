/-! ===== LAW: the class ===== -/
def sNew (s : mS) (L : Nat) : mS := fun i k => if i = 11 then s 7 k else if i = 0 ∧ k = 10 then (L : Int) else if i = 0 ∧ k = 9 then ((ltx (s 7) L).2.length : Int) else s i k
def sRp (n : Nat) : Nat → Nat → Prop := fun q k => (q = n + 4 ∧ 1 ≤ k) ∨ q = n + 6 ∨ q = n + 7
def vLaw (s : mS) (z : Int) : Prop := (1 ≤ z ∧ z ≤ 200) ∧ z ≤ s 0 4
section LW
variable {d : Nat} {Th : mT} {M : mM} {n m : Nat} {s : mS}
theorem s4_replace {Q : Int32 → mM → Prop} {L : Nat} (hT : gTh Th n) (hR : Rf n M) (hg : gLt Th M) (hH : cTape n s M) (hG : rG s) (hW : cLaw n s M) (hL1 : 1 ≤ L) (hL2 : L ≤ 200) (hL3 : (L : Int) ≤ s 0 4) (hd : 31 ≤ d)
    (k0 : (ltx (s 7) L).1.2 ≠ 0 → ∀ M', cLaw n s M' → Eo (sRp n) M M' → Q (jI (-1000 * ((ltx (s 7) L).1.2 : Int) - ((ltx (s 7) L).1.1 : Int))) M')
    (k1 : (ltx (s 7) L).1.2 = 0 → ∀ M', cLaw n (sNew s L) M' → Eo (sRp n) M M' → Q (jI (ltx (s 7) L).2.length) M') : P4_replace (d + 1) Th (n + 4) (n + 1) (jI L) M Q := by
  have g7 := hG.2.2.2.2.2.2.2.2.2.2.2.2.2.2.2.2
  obtain ⟨ta, da, hta, r1, r2, w3, w4, w5⟩ := hW
  have hk : lOk Th n da (s 7) L := ⟨hT.1, by omega, by omega, g7, hT.2.1, hT.2.2⟩
  obtain ⟨d, rfl⟩ : ∃ d', d = d' + 1 := ⟨d - 1, by omega⟩
  have fill : ∀ u j (M1 : mM), j + u = L → Eo (fun q _ => q = da) M M1 → (∀ k, k < j → M1.1 da k = jI (s 7 k)) → H4_replace_17 (d + 1 + 1) Th Q (n + 4) (n + 1) (jI L) (jI j) M1 := by
    intro u
    induction u with
    | zero =>
      intro j M1 hj e1 h1
      have hjL : j = L := by omega
      subst hjL
      refine h4_replace_17 ?_
      rw [if_pos (by rw [jIle (rI_nat (by omega)) (rI_nat (by omega))]; omega)]
      refine ⟨hT.1 4 _ rfl, da, ((e1 _ _ (by omega)).2.2).trans r2, ?_⟩
      refine s4_start (d := d) hk h1 ?_
      intro M4 a1 a2 a3
      have hn : lIn Th n (fun k => M4.1 (n + 5) k) M4 := by
        refine ⟨fun o k v hv => ?_, fun k _ => rfl, fun k hk' => ?_⟩
        · rw [(a3 _ _ (by unfold lfs; simp [rsA] at hv; omega)).2.2, (e1 _ _ (by simp [rsA] at hv; omega)).2.2]
          exact hR o k v hv
        · have := hT.2.1
          rw [(a3 _ _ (by unfold lfs; omega)).1, (e1 _ _ (by omega)).1]
          exact hg k hk'
      refine s4_readAll (d := d) hk (by omega) a1 hn ?_
      intro v M6 b1 b2 b3 b4 b5
      have e6 : Eo (sRp n) M M6 := (e1.mono (fun q k h => by unfold sRp; omega)).trans ((a3.mono (fun q k h => by unfold lfs at h; unfold sRp; omega)).trans (b5.mono (fun q k h => by unfold lfd at h; unfold sRp; omega)))
      have f6 : ∀ k, k ≤ 4 → M6.1 (n + 4) k = M.1 (n + 4) k ∧ M6.2.2 (n + 4) k = M.2.2 (n + 4) k := fun k hk' => by
        have x1 := b5 (n + 4) k (by unfold lfd; omega)
        have x2 := a3 (n + 4) k (by unfold lfs; omega)
        have x3 := e1 (n + 4) k (by omega)
        exact ⟨(x1.1.trans x2.1).trans x3.1, (x1.2.2.trans x2.2.2).trans x3.2.2⟩
      have t6 : ∀ k, M6.1 ta k = M.1 ta k := fun k => by
        have x1 := b5 ta k (by unfold lfd; omega)
        have x2 := a3 ta k (by unfold lfs; omega)
        have x3 := e1 ta k (by omega)
        exact (x1.1.trans x2.1).trans x3.1
      have c9 := b4.2.2.2.2.2
      rw [c9]
      by_cases f0 : (ltx (s 7) j).1.2 = 0
      · rw [if_pos (by rw [f0]; rfl)]
        refine ⟨ta, (f6 1 (by omega)).2.trans r1, da, (f6 2 (by omega)).2.trans r2, ?_⟩
        intro M12 h12 M13 h13 M14 h14
        rw [b1 f0]
        refine k1 f0 _ ?_ ?_
        · have z10 : sNew s j 0 10 = (j : Int) := rfl
          have z9 : sNew s j 0 9 = ((ltx (s 7) j).2.length : Int) := rfl
          refine ⟨da, ta, by omega, ?_, ?_, ?_, ?_, ?_⟩
          · rw [h14, h13, h12]; simp [m_u]
          · rw [h14, h13, h12]; simp [m_u]
          · rw [h14, h13, h12, z10]; simp [m_u]
          · rw [h14, h13, h12, z9]; simp [m_u]
          · intro k hk'
            rw [z10] at hk'
            have : (m_ui M14 (n + 4) 4 (jI ((ltx (s 7) j).2.length : Int))).1 da k = M6.1 da k := by
              rw [h14, h13, h12]
              have : da ≠ n + 4 := by omega
              simp [m_u, this]
            rw [this]
            exact b4.2.1 k (by omega)
        · rw [h14, h13, h12]
          exact (((e6.ur (Or.inl ⟨rfl, by omega⟩)).ur (Or.inl ⟨rfl, by omega⟩)).ui (Or.inl ⟨rfl, by omega⟩)).ui (Or.inl ⟨rfl, by omega⟩)
      · rw [if_neg (by rw [jq0 (rI_nat (by omega))]; omega)]
        rw [b4.2.2.2.1, show (-1000 : Int32) = jI (-1000) from rfl, jI_mul, jI_sub]
        exact k0 f0 M6 ⟨ta, da, hta, (f6 1 (by omega)).2.trans r1, (f6 2 (by omega)).2.trans r2, (f6 3 (by omega)).1.trans w3, (f6 4 (by omega)).1.trans w4, fun k hk' => (t6 k).trans (w5 k hk')⟩ e6
    | succ u ih =>
      intro j M1 hj e1 h1
      refine h4_replace_17 ?_
      rw [if_neg (by rw [jIle (rI_nat (by omega)) (rI_nat (by omega))]; omega)]
      refine ⟨hT.1 4 _ rfl, da, ((e1 _ _ (by omega)).2.2).trans r2, hT.1 1 _ rfl, ?_⟩
      refine s9_byteAt (d := d) hT.1 (fun o k v hv => by rw [(e1 _ _ (by simp [rsA] at hv; omega)).2.2]; exact hR o k v hv) ((e1 _ _ (by omega)).1.trans hH.1) ((e1 _ _ (by omega)).1.trans (hH.2 j)) hG (by omega) ?_
      refine ⟨m_okw_jI hk.ra (by omega) (by omega) (by omega), ?_⟩
      rw [jInatN j (by omega), jI_s]
      refine ih (j + 1) _ (by omega) (e1.ui rfl) (fun k hk' => ?_)
      show (if da = da ∧ k = j then _ else M1.1 da k) = _
      by_cases c : k = j
      · rw [if_pos ⟨rfl, c⟩, c]
      · rw [if_neg (fun h => c h.2)]; exact h1 k (by omega)
  refine e4_replace ⟨hT.1 4 _ rfl, da, r2, _, _, _, hk.ra, ?_⟩
  intro x hx
  have e : x = jI (L : Int) := by
    rw [hx, show nI 200 = jI 200 from rfl]
    simp only [show ((jI 200 < jI (L : Int)) = ((200 : Int) < L)) from jIlt (rI_of (by omega) (by omega)) (rI_nat (by omega)), if_neg (show ¬ (200 : Int) < L by omega), jg0 (rI_nat (k := L) (by omega)), if_pos (show (0 : Int) < L by omega)]
  rw [e, i0]
  exact fill L 0 M (by omega) Eo.rf (fun k h => absurd h (by omega))
def sRl (n : Nat) : Nat → Nat → Prop := fun q k => sRp n q k ∨ (q = n + 3 ∧ k = 4) ∨ (q = n + 1 ∧ k = 1)
theorem s10_law {Q : Int32 → mM → Prop} {z c : Int} (hT : gTh Th n) (hR : Rf n M) (hg : gLt Th M) (hH : cTape n s M) (hG : rG s) (hW : cLaw n s M) (hc : M.1 (n + 3) 4 = jI c) (hz : rI z)
    (kb : ¬ vLaw s z → Q (-1) M)
    (k0 : vLaw s z → (ltx (s 7) z.toNat).1.2 ≠ 0 → ∀ M', cLaw n s M' → M'.1 (n + 3) 4 = jI (c + 1) → M'.1 (n + 1) 1 = 0 → Eo (sRl n) M M' → Q (jI (-1000 * ((ltx (s 7) z.toNat).1.2 : Int) - ((ltx (s 7) z.toNat).1.1 : Int))) M')
    (k1 : vLaw s z → (ltx (s 7) z.toNat).1.2 = 0 → ∀ M', cLaw n (sNew s z.toNat) M' → M'.1 (n + 3) 4 = jI (c + 1) → M'.1 (n + 1) 1 = 0 → Eo (sRl n) M M' → Q (jI (ltx (s 7) z.toNat).2.length) M') : P10_law (d + 40) Th n (jI z) M Q := by
  have g4 := hG.2.2.2.2.1
  refine e10_law ?_
  refine s_within 1 200 rfl rfl rfl hz (rI_of (by omega) (by omega)) (rI_of (by omega) (by omega)) (fun a1 a2 => ?_) (fun a => ?_)
  rotate_left
  · rw [if_pos rfl]; exact kb (fun h => a h.1)
  rw [if_neg (by decide)]
  refine ⟨hT.1 0 _ rfl, n + 1, hR 0 0 1 (by decide), hT.1 1 _ rfl, ?_⟩
  rw [hH.1]
  by_cases q : z ≤ s 0 4
  rotate_left
  · rw [if_neg (by rw [jIle hz (rI_of (by omega) (by omega))]; exact q)]
    exact kb (fun h => q h.2)
  rw [if_pos (by rw [jIle hz (rI_of (by omega) (by omega))]; exact q)]
  obtain ⟨L, rfl⟩ : ∃ L : Nat, z = L := ⟨z.toNat, by omega⟩
  rw [Int.toNat_natCast] at k0 k1
  refine ⟨n + 3, hR 0 1 3 (by decide), hT.1 3 _ rfl, n + 4, hR 3 5 4 (by decide), hT.1 4 _ rfl, ?_⟩
  have cmv : ∀ (s' : mS) (M1 : mM), cLaw n s' M1 → cLaw n s' (m_ui (m_ui M1 (n + 3) 4 (jI (c + 1))) (n + 1) 1 0) := fun s' M1 ⟨ta, da, h, b1, b2, b3, b4, b5⟩ =>
    ⟨ta, da, h, b1, b2, by simp [m_u, b3], by simp [m_u, b4], fun k hk => by
      have q1 : ta ≠ n + 3 := by omega
      have q2 : ta ≠ n + 1 := by omega
      simp [m_u, q1, q2]
      exact b5 k hk⟩
  have tail : ∀ (v : Int32) (M1 : mM), Eo (sRp n) M M1 → (M1.1 (n + 3) 4 = jI c → Q v (m_ui (m_ui M1 (n + 3) 4 (jI (c + 1))) (n + 1) 1 0)) → ∃ r15, M1.2.2 n 1 = some r15 ∧ (Th.2.2 r15 = some (.inl 2) ∧ (∃ r18, M1.2.2 n 0 = some r18 ∧ (Th.2.2 r18 = some (.inl 9) ∧ P9_drop (d + 39) Th r18 (m_ui M1 r15 4 ((M1.1 r15 4) + 1)) (fun M20 => Q v M20)))) := by
    intro v M1 e1 kq
    have x : ∀ k, M1.2.2 n k = M.2.2 n k := fun k => (e1 _ _ (by unfold sRp; omega)).2.2
    have x4 : M1.1 (n + 3) 4 = jI c := ((e1 _ _ (by unfold sRp; omega)).1).trans hc
    refine ⟨n + 3, (x 1).trans (hR 0 1 3 (by decide)), hT.1 3 _ rfl, n + 1, (x 0).trans (hR 0 0 1 (by decide)), hT.1 1 _ rfl, ?_⟩
    refine e9_drop ⟨hT.1 1 _ rfl, ?_⟩
    rw [x4, i1, jI_add]
    exact kq x4
  have last : ∀ M1 : mM, Eo (sRp n) M M1 → (m_ui (m_ui M1 (n + 3) 4 (jI (c + 1))) (n + 1) 1 0).1 (n + 3) 4 = jI (c + 1) ∧ (m_ui (m_ui M1 (n + 3) 4 (jI (c + 1))) (n + 1) 1 0).1 (n + 1) 1 = 0 ∧ Eo (sRl n) M (m_ui (m_ui M1 (n + 3) 4 (jI (c + 1))) (n + 1) 1 0) := fun M1 e1 =>
    ⟨by simp [m_u], by simp [m_u], Eo.ui (S := sRl n) (Eo.ui (S := sRl n) (Eo.mono (S' := sRl n) e1 (fun _ _ h => Or.inl h)) (Or.inr (Or.inl ⟨rfl, rfl⟩))) (Or.inr (Or.inr ⟨rfl, rfl⟩))⟩
  refine s4_replace (d := d + 38) hT hR hg hH hG hW (by omega) (by omega) q (by omega) (fun f M1 w e1 => ?_) (fun f M1 w e1 => ?_)
  · refine tail _ M1 e1 (fun _ => ?_)
    obtain ⟨l1, l2, l3⟩ := last M1 e1
    exact k0 ⟨⟨a1, a2⟩, q⟩ f _ (cmv s M1 w) l1 l2 l3
  · refine tail _ M1 e1 (fun _ => ?_)
    obtain ⟨l1, l2, l3⟩ := last M1 e1
    exact k1 ⟨⟨a1, a2⟩, q⟩ f _ (cmv _ M1 w) l1 l2 l3
end LW
