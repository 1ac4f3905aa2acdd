/-! ===== DRAW: a band's tick, the class: all but thinking ===== -/
section HP
variable {d : Nat} {Th : mT} {M : mM} {n m : Nat} {s : mS} {c : Int}
theorem s3_move {Q : mM → Prop} {b t : Nat} {st : Nat → Nat} (hT : gTh Th n) (h : cHu Th n s st c M) (hG : rG s) (hb : (b : Int) < s 0 1) (hz : st b = 80 ∨ ((st b / 16 : Nat) : Int) < s 0 0)
    (kT : st b ≠ 80 → st b % 16 ≤ 5 → P3_thinkOrFollow (d + 1) Th (n + 107) (jI b) (jI t) M Q)
    (k : ∀ M', cHu Th n (hmv s st b t).1 (hmv s st b t).2 c M' → Eo (sHn n) M M' → Q M') : P3_move (d + 2) Th (n + 107) (jI b) (jI t) M Q := by
  have g0 := hG.1
  have g1 := hG.2.1
  have tb : Int32.toNatClampNeg (jI (b : Int)) = b := jInatN b (by omega)
  obtain ⟨a1, a2, a3, a4, a5, a6⟩ := id h
  have hR := a1.1.1
  have hI := a1.1.2.2.1
  obtain ⟨r, g, w, x1, x2, x3, x4⟩ := a5 b hb
  refine e3_move ⟨hT.1 107 _ rfl, n + 110, hR 107 4 110 (by decide), m_ok_jI (hT.1 110 _ rfl) (by omega) (by omega) (by omega), ?_⟩
  rw [tb, x2]
  obtain ⟨z, hzz⟩ : ∃ z, st b = z := ⟨_, rfl⟩
  rw [hzz] at x4 kT hz
  have fb : fnd s st ≤ 5 := by
    unfold fnd
    exact Nat.le_trans (sumN_bb (c := 1) (K := 5) (fun j => by split <;> omega) _ (by omega)) (by omega)
  rcases x4 with ⟨z80, g3⟩ | ⟨z80, zr, hh⟩
  · rw [if_neg (by rw [g3]; decide), if_neg (by rw [g3]; decide), if_neg (by rw [g3]; decide)]
    have e : hmv s st b t = (s, st) := by unfold hmv; rw [hzz, if_pos z80]
    rw [e] at k
    exact k M h Eo.rf
  have hr : (r : Int) < s 0 0 := by rw [← zr]; omega
  have hmvE : 5 < z % 16 → hmv s st b t = (if hGo s z = 80 then sBox s b t else s, fun k => if k = b then hGo s z else st k) := fun h5 => by
    unfold hmv
    rw [hzz, if_neg z80]
    have : hmP s z b t = (s, hGo s z) := by unfold hmP; rw [if_pos h5]
    rw [this]
  have moved : ∀ (z' : Nat) (M' : mM), 5 < z % 16 → hGo s z = z' → z' ≠ 80 → Eo (fun q j => (n + 109 ≤ q ∧ q ≤ n + 111) ∧ j = b) M M' → cHb n z' b M' → Q M' := by
    intro z' M' h5 hz' hne e hb'
    have E := hmvE h5
    rw [hz', if_neg hne] at E
    rw [E] at k
    have e' : Eo (sHn n) M M' := e.mono (fun q j hq => by unfold sHn; omega)
    refine k M' (cHu_fin hT hG h e' (fun _ q => q) (fun _ _ q => q) rfl (fun q j h1 h2 h3 => (e q j (fun hq => h3 hq.2)).1) ⟨((e _ _ (by omega)).1).trans a2.1, fun j => ((e _ _ (by omega)).1).trans (a2.2 j)⟩ ⟨((e _ _ (by omega)).1).trans a3.1, ((e _ _ (by omega)).1).trans a3.2.1, fun j => ((e _ _ (by omega)).1).trans (a3.2.2 j)⟩ hb' ?_) e'
    rw [(e _ _ (by omega)).1, a6, fnd_set hb (by rw [hzz]; exact z80), if_neg hne]
    rfl
  rcases hh with ⟨gg, hw, w5⟩ | ⟨gg, hw, w1, w6⟩ | ⟨gg, hw, w1, w4⟩
  · rw [if_pos (by rw [gg]; rfl)]
    exact kT z80 (by omega)
  · rw [if_neg (by rw [gg]; decide), if_pos (by rw [gg]; rfl)]
    refine s3_step (d := d) (s := s) (f := (fnd s st : Nat)) hT.1 hR hI.1 hG (by omega) hr ⟨w1, w6⟩ x1 x3 a6 (fun w2 => ?_) (fun w2 q => ?_) (fun w2 q => ?_)
    · refine moved (z - 1) _ (by omega) ?_ (by omega) (Eo.ui Eo.rf ⟨by omega, rfl⟩) ⟨r, g, w - 1, by simp [m_u, x1], by simp [m_u, x2], by simp [m_u], Or.inr ⟨by omega, by omega, Or.inr (Or.inl ⟨gg, by omega, by omega, by omega⟩)⟩⟩
      unfold hGo kgo
      rw [if_neg (show ¬ z % 16 = 6 by omega), if_neg (show ¬ z % 16 = 12 by omega), if_neg (by omega)]
    · refine moved (16 * (r + 1)) _ (by omega) ?_ (by omega) (Eo.ui (Eo.ui (Eo.ui (Eo.ui Eo.rf ⟨by omega, rfl⟩) ⟨by omega, rfl⟩) ⟨by omega, rfl⟩) ⟨by omega, rfl⟩) ⟨r + 1, 0, 0, by simp [m_u], by simp [m_u]; rfl, by simp [m_u]; rfl, Or.inr ⟨by omega, by omega, Or.inl ⟨rfl, by omega, by omega⟩⟩⟩
      unfold hGo kgo
      rw [if_pos (show z % 16 = 6 by omega), zr, if_neg (by omega)]
    · have h80 : hGo s z = 80 := by
        unfold hGo kgo
        rw [if_pos (show z % 16 = 6 by omega), zr, if_pos (by omega)]
      have E := hmvE (by omega)
      rw [h80, if_pos rfl] at E
      rw [E] at k
      refine k _ (cHu_fin hT hG h ?_ (fun _ q => q) (fun _ _ q => q) rfl ?_ ?_ ?_ ?_ ?_) ?_
      · exact Eo.ui (Eo.ui (Eo.ui (Eo.ui (Eo.ui (Eo.ui (Eo.ui Eo.rf (by unfold sHn; omega)) (by unfold sHn; omega)) (by unfold sHn; omega)) (by unfold sHn; omega)) (by unfold sHn; omega)) (by unfold sHn; omega)) (by unfold sHn; omega)
      · intro q j h1 h2 h3
        have : q ≠ n + 107 := by omega
        have : q ≠ n + 112 := by omega
        simp [m_u, *]
      · exact ⟨by simp [m_u]; exact a2.1, fun j => by simp [m_u]; exact a2.2 j⟩
      · refine ⟨by simp [m_u]; exact a3.1, by simp [m_u]; exact a3.2.1, fun j => ?_⟩
        show _ = jI (if (10 : Nat) = 10 ∧ j = b then (t : Int) else s 10 j)
        by_cases cj : j = b
        · rw [if_pos ⟨rfl, cj⟩, cj]; simp [m_u]
        · rw [if_neg (fun q => cj q.2)]; simp [m_u, cj, a3.2.2 j]
      · exact ⟨r + 1, 3, 0, by simp [m_u], by simp [m_u]; rfl, by simp [m_u]; rfl, Or.inl ⟨rfl, rfl⟩⟩
      · have := fnd_set (st := st) (z' := 80) hb (by rw [hzz]; exact z80)
        rw [show fnd (sBox s b t) (fun k => if k = b then 80 else st k) = fnd s (fun k => if k = b then 80 else st k) from rfl, this, if_pos rfl]
        simp [m_u]
      · exact Eo.ui (Eo.ui (Eo.ui (Eo.ui (Eo.ui (Eo.ui (Eo.ui Eo.rf (by unfold sHn; omega)) (by unfold sHn; omega)) (by unfold sHn; omega)) (by unfold sHn; omega)) (by unfold sHn; omega)) (by unfold sHn; omega)) (by unfold sHn; omega)
  · rw [if_neg (by rw [gg]; decide), if_neg (by rw [gg]; decide), if_pos (by rw [gg]; rfl)]
    refine ⟨n + 111, hR 107 5 111 (by decide), m_ok_jI (hT.1 111 _ rfl) (by omega) (by omega) (by omega), m_okw_jI (hT.1 111 _ rfl) (by omega) (by omega) (by omega), ?_⟩
    intro M13 h13
    rw [x3, show jI (w : Int) - 1 = jI ((w - 1 : Nat) : Int) by rw [i1, jI_sub]; congr 1; omega] at h13
    refine ⟨m_okw_jI (hT.1 110 _ rfl) (by omega) (by omega) (by omega), ?_⟩
    rw [show M13.1 (n + 111) b = jI ((w - 1 : Nat) : Int) by rw [h13]; simp [m_u]]
    by_cases cw : w = 1
    · rw [if_pos (by rw [cw]; rfl), h13]
      refine moved (16 * r) _ (by omega) ?_ (by omega) (Eo.ui (Eo.ui Eo.rf ⟨by omega, rfl⟩) ⟨by omega, rfl⟩) ⟨r, 0, w - 1, by simp [m_u, x1], by simp [m_u]; rfl, by simp [m_u], Or.inr ⟨by omega, by omega, Or.inl ⟨rfl, by omega, by omega⟩⟩⟩
      unfold hGo kgo
      rw [if_neg (show ¬ z % 16 = 6 by omega), if_pos (show z % 16 = 12 by omega), zr, if_neg (by omega)]
    · rw [if_neg (by rw [jq0 (rI_nat (by omega))]; omega), h13]
      refine moved (z - 1) _ (by omega) ?_ (by omega) (Eo.ui (Eo.ui Eo.rf ⟨by omega, rfl⟩) ⟨by omega, rfl⟩) ⟨r, 2, w - 1, by simp [m_u, x1], by simp [m_u]; rfl, by simp [m_u], Or.inr ⟨by omega, by omega, Or.inr (Or.inr ⟨rfl, by omega, by omega, by omega⟩)⟩⟩
      unfold hGo kgo
      rw [if_neg (show ¬ z % 16 = 6 by omega), if_neg (show ¬ z % 16 = 12 by omega), if_neg (by omega)]
end HP
