/-! ===== DRAW: a band's tick, the model, whole ===== -/
section HV
variable {d : Nat} {Th : mT} {M : mM} {n m : Nat} {s : mS}
theorem kHu_set {st : Nat → Nat} {b z : Nat} (h : kHu m s st M) : kHu m s (fun k => if k = b then z else st k) (m_ui M (m + 39) b (jI z)) := by
  obtain ⟨hK, hL, hH, hS⟩ := h
  have e : Eo (sHu m) M (m_ui M (m + 39) b (jI z)) := Eo.ui (S := sHu m) Eo.rf (Or.inr (Or.inr (Or.inr (by omega))))
  refine ⟨hK.mv e sHu_k, ⟨?_, fun k => ?_, fun k => ?_, fun k => ?_⟩, ⟨?_, ?_, fun k => ?_⟩, fun k hk => ?_⟩
  · simp [m_u, hL.1]
  · simp [m_u, hL.2.1]
  · simp [m_u, hL.2.2.1]
  · simp [m_u, hL.2.2.2]
  · simp [m_u, hH.1]
  · simp [m_u, hH.2.1]
  · simp [m_u, hH.2.2]
  · show (if m + 39 = m + 39 ∧ k = b then _ else M.1 (m + 39) k) = jI (((if k = b then z else st k : Nat) : Nat) : Int)
    by_cases c : k = b
    · rw [if_pos ⟨rfl, c⟩, if_pos c]
    · rw [if_neg (fun h => c h.2), if_neg c]; exact hS k hk
theorem kHu_box {st : Nat → Nat} {b t : Nat} (h : kHu m s st M) : kHu m (sBox s b t) st (m_ui M (m + 38) b (jI t)) := by
  obtain ⟨hK, hL, hH, hS⟩ := h
  have e : Eo (sHu m) M (m_ui M (m + 38) b (jI t)) := Eo.ui (S := sHu m) Eo.rf (Or.inr (Or.inr (Or.inr (by omega))))
  refine ⟨hK.mv e sHu_k, ⟨?_, fun k => ?_, fun k => ?_, fun k => ?_⟩, ⟨?_, ?_, fun k => ?_⟩, fun k hk => ?_⟩
  · have := hL.1; simp [m_u]; exact this
  · have := hL.2.1 k; simp [m_u]; exact this
  · have := hL.2.2.1 k; simp [m_u]; exact this
  · have := hL.2.2.2 k; simp [m_u]; exact this
  · have := hH.1; simp [m_u]; exact this
  · have := hH.2.1; simp [m_u]; exact this
  · show (if m + 38 = m + 38 ∧ k = b then _ else M.1 (m + 38) k) = jI (if (10 : Nat) = 10 ∧ k = b then (t : Int) else s 10 k)
    by_cases c : k = b
    · rw [if_pos ⟨rfl, c⟩, if_pos ⟨rfl, c⟩]
    · rw [if_neg (fun h => c h.2), if_neg (fun h => c h.2)]; exact hH.2.2 k
  · simp [m_u, hS k hk]
theorem kHu_dic {st : Nat → Nat} (h : kHu m s st M) (h7 : 0 ≤ s 0 7 ∧ s 0 7 ≤ 65535) : kHu m (sDic s) st (m_ui M m 4 ((((25173 * (M.1 m 4)) + 13849) - ((25173 * (M.1 m 4)) + 13849) / 65536 * 65536))) := by
  obtain ⟨hK, hL, hH, hS⟩ := h
  have ed : (((25173 * (M.1 m 4)) + 13849) - ((25173 * (M.1 m 4)) + 13849) / 65536 * 65536) = jI ((25173 * s 0 7 + 13849) % 65536) := by
    rw [hH.1, show (25173 : Int32) = jI 25173 from rfl, show (13849 : Int32) = jI 13849 from rfl, show (65536 : Int32) = jI 65536 from rfl, jI_mul, jI_add, jI_rem (by omega) (by omega) (by omega) (by omega)]
  rw [ed]
  have e : Eo (sHu m) M (m_ui M m 4 (jI ((25173 * s 0 7 + 13849) % 65536))) := Eo.ui (S := sHu m) Eo.rf (Or.inl ⟨rfl, Or.inl rfl⟩)
  refine ⟨hK.mv e sHu_k, ⟨?_, fun k => ?_, fun k => ?_, fun k => ?_⟩, ⟨?_, ?_, fun k => ?_⟩, fun k hk => ?_⟩
  · have := hL.1; simp [m_u]; exact this
  · have := hL.2.1 k; simp [m_u]; exact this
  · have := hL.2.2.1 k; simp [m_u]; exact this
  · have := hL.2.2.2 k; simp [m_u]; exact this
  · show (if m = m ∧ 4 = 4 then _ else _) = jI ((25173 * s 0 7 + 13849) % 65536)
    rw [if_pos ⟨rfl, rfl⟩]
  · have := hH.2.1; simp [m_u]; exact this
  · have := hH.2.2 k; simp [m_u]; exact this
  · simp [m_u, hS k hk]
theorem s11_hunts {Q : mM → Prop} {b t : Nat} {st : Nat → Nat} (hT : LyM Th m) (hK : kHu m s st M) (hG : rG s) (hO : rLw s) (hL : rLg s) (hLh : rLh s) (hl : s 0 6 < 40) (hb : (b : Int) < s 0 1) (ht : t ≤ 10) (hz : st b = 80 ∨ ((st b / 16 : Nat) : Int) < s 0 0)
    (k : ∀ M', kHu m (hmv s st b t).1 (hmv s st b t).2 M' → Eo (sHu m) M M' → Q M') : P11_hunts (d + 20) Th m (jI b) (jI t) M Q := by
  have g0 := hG.1
  have g1 := hG.2.1
  have g2 := hG.2.2.1
  have g6 := hG.2.2.2.2.2.2.1
  have g7 := hG.2.2.2.2.2.2.2.1
  have hS := hK.2.2.2
  have ok : m_ok Th (m + 39) .int (jI (b : Int)) := m_ok_jI (hT 39 _ rfl) (by omega) (by omega) (by omega)
  have okw : m_okw Th (m + 39) .int (jI (b : Int)) := m_okw_jI (hT 39 _ rfl) (by omega) (by omega) (by omega)
  have tb : Int32.toNatClampNeg (jI (b : Int)) = b := jInatN b (by omega)
  have h119 : ∀ (s' : mS) (z' : Nat) (M2 : mM), kHu m s' st M2 → Eo (sHu m) M M2 → z' ≤ 100 → s' 0 1 = s 0 1 → hmv s st b t = (if z' = 80 then sBox s' b t else s', fun k => if k = b then z' else st k) → H11_hunts_119 (d + 20) Th Q m (jI b) (jI t) (m_ui M2 (m + 39) b (jI z')) := by
    intro s' z' M2 k2 e2 zb h01 he
    have e3 : Eo (sHu m) M (m_ui M2 (m + 39) b (jI z')) := Eo.ui (S := sHu m) e2 (Or.inr (Or.inr (Or.inr (by omega))))
    have k3 := kHu_set (b := b) (z := z') k2
    refine h11_hunts_119 ⟨hT 0 _ rfl, m + 39, k3.1.1 0 66 39 (by decide), ok, ?_⟩
    rw [tb, (k3.2.2.2 b (by omega)).trans (show jI (((if b = b then z' else st b : Nat) : Nat) : Int) = jI (z' : Int) by rw [if_pos rfl])]
    rw [he] at k
    by_cases c : z' = 80
    · rw [if_pos (by rw [c]; rfl)]
      rw [if_pos c] at k
      refine ⟨m + 38, k3.1.1 0 65 38 (by decide), m_okw_jI (hT 38 _ rfl) (by omega) (by omega) (by omega), ?_⟩
      exact k _ (kHu_box k3) (Eo.ui (S := sHu m) e3 (Or.inr (Or.inr (Or.inr (by omega)))))
    · rw [if_neg (by rw [show (80 : Int32) = jI 80 from rfl, jIeq (rI_nat (by omega)) (rI_of (by omega) (by omega))]; omega)]
      rw [if_neg c] at k
      exact k _ k3 e3
  refine e11_hunts ⟨hT 0 _ rfl, m + 39, hK.1.1 0 66 39 (by decide), ok, ?_⟩
  intro x5 h5
  rw [tb, hS b (by omega)] at h5
  obtain ⟨z, hzz⟩ : ∃ z, st b = z := ⟨_, rfl⟩
  rw [hzz] at h5 hz
  have hmvE : hmv s st b t = if z = 80 then (s, st) else (if (hmP s z b t).2 = 80 then sBox (hmP s z b t).1 b t else (hmP s z b t).1, fun k => if k = b then (hmP s z b t).2 else st k) := by unfold hmv; rw [hzz]
  rw [h5]
  by_cases c80 : z = 80
  · rw [if_pos (by rw [c80]; rfl)]
    rw [hmvE, if_pos c80] at k
    exact k M hK Eo.rf
  rw [if_neg (by rw [show (80 : Int32) = jI 80 from rfl, jIeq (rI_nat (by omega)) (rI_of (by omega) (by omega))]; omega)]
  rw [if_neg c80] at hmvE
  have hr : ((z / 16 : Nat) : Int) < s 0 0 := by omega
  intro x6 h6
  rw [jI_div16 (by omega)] at h6
  rw [jI_mod16 (by omega), h6]
  obtain ⟨r, hrr⟩ : ∃ r, z / 16 = r := ⟨_, rfl⟩
  obtain ⟨e, hee⟩ : ∃ e, z % 16 = e := ⟨_, rfl⟩
  rw [hrr] at hr
  have mid : ∀ (s' : mS) (z' : Nat) (M2 : mM), hmP s z b t = (s', z') → kHu m s' st M2 → Eo (sHu m) M M2 → z' ≤ 100 → s' 0 1 = s 0 1 → H11_hunts_119 (d + 20) Th Q m (jI b) (jI t) (m_ui M2 (m + 39) b (jI z')) := by
    intro s' z' M2 hp k2 e2 zb h01
    refine h119 s' z' M2 k2 e2 zb h01 ?_
    rw [hmvE, hp]
  unfold hmP at mid
  rw [hrr, hee] at mid
  rw [hrr, hee]
  by_cases c5 : 5 < e
  · rw [if_neg (by rw [je5 (rI_nat (by omega))]; omega)]
    rw [hK.1.2.1.1, show s 0 0 = ((s 0 0).toNat : Int) by omega]
    refine s11_goesOn (d := d + 18) (by omega) (by omega) (by omega) ?_
    refine ⟨m + 39, hK.1.1 0 66 39 (by decide), okw, ?_⟩
    rw [tb, hK.1.2.1.1]
    have gb : kgo z ≤ 96 := by unfold kgo; split; omega; split <;> omega
    have ev : (if jI ((kgo z : Nat) : Int) = 16 * jI (s 0 0) then (80 : Int32) else jI ((kgo z : Nat) : Int)) = jI ((hGo s z : Nat) : Int) := by
      unfold hGo
      rw [i16, jI_mul]
      by_cases q : ((kgo z : Nat) : Int) = 16 * s 0 0
      · rw [if_pos (by rw [q]), if_pos q]; rfl
      · rw [if_neg (by rw [jIeq (rI_nat (by omega)) (rI_of (by omega) (by omega))]; exact q), if_neg q]
    rw [ev]
    refine mid s (hGo s z) M (by rw [if_pos c5]) hK Eo.rf (by unfold hGo; split <;> omega) rfl
  rw [if_pos (by rw [je5 (rI_nat (by omega))]; omega)]
  rw [if_neg c5] at mid
  refine s11_seesOne (d := d + 17) (z := z) hT hK.1.1 hK.1.2.1 hK.2.1 hG hL hLh hb (by rw [hS b (by omega), hzz]) hrr (by omega) ht (fun hs => ?_) (fun hs => ?_)
  · rw [if_neg (by decide)]
    rw [if_pos (show s 6 b = 1 ∧ s 0 3 = 0 ∧ hSeB s b r ((t : Int) - 1) (s 0 6).toNat = true from hs)] at mid
    refine s11_puts (l := (s 0 6).toNat) (d := d + 18) hT hK.1.1 (by rw [hK.2.1.1]; congr 1; omega) (by omega) ?_
    have kA := kHu_add (b := b) (r := r) (t := t) hK g6.1
    generalize hM2 : u11_puts m M (s 0 6).toNat (jI (b : Int)) (jI (r : Int)) (jI (t : Int)) = M2 at kA ⊢
    have e2 : Eo (sHu m) M M2 := by
      rw [← hM2]
      unfold u11_puts
      exact Eo.ui (S := sHu m) (Eo.ui (S := sHu m) (Eo.ui (S := sHu m) (Eo.ui (S := sHu m) Eo.rf (Or.inr (Or.inr (Or.inr (by omega))))) (Or.inr (Or.inr (Or.inr (by omega))))) (Or.inr (Or.inr (Or.inr (by omega))))) (Or.inl ⟨rfl, Or.inr (Or.inl rfl)⟩)
    have hI2 : mHill m s M2 := kA.1.2.1
    refine ⟨m + 39, kA.1.1 0 66 39 (by decide), ?_⟩
    refine s11_walkOf (d := d + 17) hT kA.1.1 hI2 hG hb hr ?_
    have wb := wK_b s b r
    obtain ⟨w, hw⟩ : ∃ w : Nat, wK s b r - 1 = w := ⟨(wK s b r - 1).toNat, by omega⟩
    rw [show jI (wK s b r) - 1 = jI (w : Int) by rw [i1, jI_sub, hw]]
    rw [show (wK s b r - 1).toNat = w by omega] at mid
    have fin : ∀ v : Int32, v = jI ((hYw s r w : Nat) : Int) → m_okw Th (m + 39) .int (jI b) ∧ H11_hunts_119 (d + 20) Th Q m (jI b) (jI t) (m_ui M2 (m + 39) (Int32.toNatClampNeg (jI (b : Int))) v) := by
      intro v hv
      rw [hv, tb]
      exact ⟨okw, mid _ _ M2 rfl kA e2 (by unfold hYw; split; split <;> omega; omega) rfl⟩
    refine e11_yWalks ?_
    by_cases w0 : w = 0
    · rw [if_pos (by rw [w0]; decide)]
      refine ⟨hT 0 _ rfl, fin _ ?_⟩
      rw [hI2.1, i16, jI_s, jI_mul]
      unfold hYw
      rw [if_pos w0]
      by_cases q : ((r + 1 : Nat) : Int) = s 0 0
      · rw [if_pos (by rw [q]), if_pos q]; rfl
      · rw [if_neg (by rw [jIeq (rI_nat (by omega)) (rI_of (by omega) (by omega))]; exact q), if_neg q]; congr 1
    · rw [if_neg (by rw [je0 (rI_nat (by omega))]; omega)]
      refine fin _ ?_
      rw [i16, i5, jI_mul, jI_add, jI_add]
      unfold hYw
      rw [if_neg w0]
      congr 1
  · rw [if_pos rfl]
    rw [if_neg (show ¬ (s 6 b = 1 ∧ s 0 3 = 0 ∧ hSeB s b r ((t : Int) - 1) (s 0 6).toNat = true) from hs)] at mid
    refine e11_draws ⟨hT 0 _ rfl, m + 4, hK.1.1 0 8 4 (by decide), m_ok_jI (hT 4 _ rfl) (by omega) (by omega) (by omega), ?_⟩
    rw [tb, hK.1.2.1.2.2.2.2.2.2.2.1]
    refine s11_thinks (d := d + 14) hT hK.1 hG hO hb hr (by omega) (fun M5 k5 h35 h36 e5 => ?_)
    intro M7 h7 x8 h8
    have gb := gK_b s (s 4 b) b r e
    have eb := eK_b s (s 4 b) b r e
    have kD0 : kHu m s st M5 := ⟨k5, hK.2.1.mv e5 (fun q k h => by unfold sTh at h; omega), ⟨((e5 _ _ (by unfold sTh; omega)).1).trans hK.2.2.1.1, ((e5 _ _ (by unfold sTh; omega)).1).trans hK.2.2.1.2.1, fun k => ((e5 _ _ (by unfold sTh; omega)).1).trans (hK.2.2.1.2.2 k)⟩, fun k hk => ((e5 _ _ (by unfold sTh; omega)).1).trans (hS k hk)⟩
    have kD := kHu_dic kD0 g7
    rw [← h7] at kD
    have e7 : Eo (sHu m) M M7 := by
      rw [h7]
      exact Eo.ui (S := sHu m) (e5.mono (fun q k h => by unfold sTh at h; unfold sHu; omega)) (Or.inl ⟨rfl, Or.inl rfl⟩)
    have f35 : M7.1 m 35 = jI (gK s (s 4 b) b r e) := by rw [h7]; simp [m_u, h35]
    have f36 : M7.1 m 36 = jI (eK s (s 4 b) b r e) := by rw [h7]; simp [m_u, h36]
    obtain ⟨D, hD⟩ : ∃ D, sDic s 0 7 = D := ⟨_, rfl⟩
    have Db : 0 ≤ D ∧ D < 65536 := by
      rw [← hD]
      show 0 ≤ (25173 * s 0 7 + 13849) % 65536 ∧ (25173 * s 0 7 + 13849) % 65536 < 65536
      omega
    have e8 : x8 = jI (D % 8) := by
      rw [h8, kD.2.2.1.1, hD, i8, jI_rem (by omega) (by omega) (by omega) (by omega)]
    rw [hD] at mid
    rw [f35, f36, e8]
    by_cases q1 : D % 8 < gK s (s 4 b) b r e
    · rw [if_neg (by rw [jIle (rI_of (by omega) (by omega)) (rI_of (by omega) (by omega))]; omega)]
      rw [if_pos q1] at mid
      refine s11_puts (l := (s 0 6).toNat) (d := d + 17) hT kD.1.1 (by rw [kD.2.1.1]; show jI (s 0 6) = _; congr 1; omega) (by omega) ?_
      have kA := kHu_add (b := b) (r := r) (t := t) kD g6.1
      rw [show (sDic s 0 6).toNat = (s 0 6).toNat from rfl] at kA
      generalize hM2 : u11_puts m M7 (s 0 6).toNat (jI (b : Int)) (jI (r : Int)) (jI (t : Int)) = M2 at kA ⊢
      have e2 : Eo (sHu m) M M2 := by
        rw [← hM2]
        unfold u11_puts
        exact Eo.ui (S := sHu m) (Eo.ui (S := sHu m) (Eo.ui (S := sHu m) (Eo.ui (S := sHu m) e7 (Or.inr (Or.inr (Or.inr (by omega))))) (Or.inr (Or.inr (Or.inr (by omega))))) (Or.inr (Or.inr (Or.inr (by omega))))) (Or.inl ⟨rfl, Or.inr (Or.inl rfl)⟩)
      have hI2 : mHill m s M2 := kA.1.2.1
      refine ⟨m + 39, kA.1.1 0 66 39 (by decide), ?_⟩
      refine s11_walkOf (d := d + 16) hT kA.1.1 hI2 hG hb hr ?_
      have wb := wK_b s b r
      refine ⟨okw, ?_⟩
      rw [i16, i5, jI_mul, jI_add, jI_add, show (16 * (r : Int) + 5 + wK s b r) = ((16 * r + 5 + (wK s b r).toNat : Nat) : Int) by omega]
      exact mid _ _ M2 rfl kA e2 (by omega) rfl
    · rw [if_pos (by rw [jIle (rI_of (by omega) (by omega)) (rI_of (by omega) (by omega))]; omega)]
      rw [if_neg q1] at mid
      refine ⟨m + 39, kD0.1.1 0 66 39 (by decide), ?_⟩
      rw [jI_add]
      by_cases q2 : D % 8 < gK s (s 4 b) b r e + eK s (s 4 b) b r e
      · rw [if_neg (by rw [jIle (rI_of (by omega) (by omega)) (rI_of (by omega) (by omega))]; omega)]
        rw [if_pos q2] at mid
        refine ⟨okw, ?_⟩
        have hI7 : mHill m s M7 := kD.1.2.1
        rw [hI7.2.2.1, i16, i11, jI_mul, jI_add, jI_add, show (16 * (r : Int) + 11 + s 0 2) = ((16 * r + 11 + (s 0 2).toNat : Nat) : Int) by omega]
        exact mid _ _ M7 rfl kD e7 (by omega) rfl
      · rw [if_pos (by rw [jIle (rI_of (by omega) (by omega)) (rI_of (by omega) (by omega))]; omega)]
        rw [if_neg q2] at mid
        refine s11_more (d := d + 17) (by omega) ?_
        refine ⟨okw, ?_⟩
        have mb : kmo e ≤ 5 := by unfold kmo; split <;> omega
        rw [i16, jI_mul, jI_add, show (16 * (r : Int) + (kmo e : Int)) = ((16 * r + kmo e : Nat) : Int) by omega]
        exact mid _ _ M7 rfl kD e7 (by omega) rfl
end HV
