section AL
variable {d : Nat} {Th : mT} {M : mM} {m : Nat} {s : mS}
/-- by place p within n ticks, from any state -/
def fV (N : Int) (D : Nat) (g e : Nat → Nat → Int) (st : Nat → Nat) (p n k : Nat) : Int := if k ≤ 16 * p then bS N (fun i => hV N D g e st p i k) n else N ^ n
theorem oV_add {N : Int} {D : Nat} {g e : Nat → Nat → Int} {st : Nat → Nat} {F G : Nat → Int} {c : Int} {k : Nat} : oV N D g e st (fun j => c * F j + G j) k = c * oV N D g e st F k + oV N D g e st G k := by
  unfold oV
  split
  · grind
  · split
    · grind
    · split <;> grind
theorem oV_ext {N : Int} {D : Nat} {g e : Nat → Nat → Int} {st : Nat → Nat} {F G : Nat → Int} {k p : Nat} (hk : k < 16 * p) (hD : D ≤ 4) (hst : ∀ r, st r ≤ 6) (h : ∀ j, j ≤ 16 * p → F j = G j) : oV N D g e st F k = oV N D g e st G k := by
  have hs := hst (k / 16)
  have hm : kmo (k % 16) ≤ 5 := by unfold kmo; split <;> omega
  unfold oV
  split
  · rw [h _ (by omega), h _ (by omega), h _ (by omega)]
  · split
    · rw [h _ (by omega)]
    · split
      · rw [h _ (by omega)]
      · rw [h _ (by omega)]
theorem fV_o {N : Int} {D : Nat} {g e : Nat → Nat → Int} {st : Nat → Nat} {p n k : Nat} (hD : 1 ≤ D ∧ D ≤ 4) (hst : ∀ r, 1 ≤ st r ∧ st r ≤ 6) : oV N D g e st (fV N D g e st p n) k = fV N D g e st p (n + 1) k := by
  by_cases hk : k < 16 * p
  · have key : ∀ n, oV N D g e st (fun j => bS N (fun i => hV N D g e st p i j) n) k = bS N (fun i => hV N D g e st p i k) (n + 1) := by
      intro n
      induction n with
      | zero =>
        show oV N D g e st (fun j => hV N D g e st p 0 j) k = N * hV N D g e st p 0 k + hV N D g e st p 1 k
        rw [hV_o hk]
        have : hV N D g e st p 0 k = 0 := by rw [hV, if_neg (by omega)]
        rw [this]
        grind
      | succ n ih =>
        show oV N D g e st (fun j => N * bS N (fun i => hV N D g e st p i j) n + hV N D g e st p (n + 1) j) k = N * bS N (fun i => hV N D g e st p i k) (n + 1) + hV N D g e st p (n + 1 + 1) k
        rw [oV_add, ih, hV_o hk]
    have e1 : oV N D g e st (fV N D g e st p n) k = oV N D g e st (fun j => bS N (fun i => hV N D g e st p i j) n) k := oV_ext hk hD.2 (fun r => (hst r).2) (fun j hj => if_pos hj)
    rw [e1, key n]
    unfold fV
    rw [if_pos (by omega)]
  · have hup : ∀ j, 16 * p ≤ j → fV N D g e st p n j = N ^ n := by
      intro j hj
      unfold fV
      by_cases c : j ≤ 16 * p
      · rw [if_pos c]
        have hj2 : j = 16 * p := by omega
        subst hj2
        have : ∀ n, bS N (fun i => hV N D g e st p i (16 * p)) n = N ^ n := by
          intro n
          induction n with
          | zero => show hV N D g e st p 0 (16 * p) = N ^ 0; rw [hV_at, if_pos rfl, Int.pow_zero]
          | succ n ih =>
            show N * bS N (fun i => hV N D g e st p i (16 * p)) n + hV N D g e st p (n + 1) (16 * p) = _
            rw [ih, hV_at, if_neg (by omega), Int.pow_succ]
            grind
        exact this n
      · rw [if_neg c]
    have hr : fV N D g e st p (n + 1) k = N ^ (n + 1) := by
      unfold fV
      by_cases c : k ≤ 16 * p
      · rw [if_pos c]
        have hj2 : k = 16 * p := by omega
        subst hj2
        have : ∀ n, bS N (fun i => hV N D g e st p i (16 * p)) n = N ^ n := by
          intro n
          induction n with
          | zero => show hV N D g e st p 0 (16 * p) = N ^ 0; rw [hV_at, if_pos rfl, Int.pow_zero]
          | succ n ih =>
            show N * bS N (fun i => hV N D g e st p i (16 * p)) n + hV N D g e st p (n + 1) (16 * p) = _
            rw [ih, hV_at, if_neg (by omega), Int.pow_succ]
            grind
        exact this (n + 1)
      · rw [if_neg c]
    rw [hr]
    have hs := hst (k / 16)
    unfold oV
    split
    · rw [hup _ (by omega), hup _ (by omega), hup _ (by omega), Int.pow_succ]
      grind
    · split
      · rw [hup _ (by omega), Int.pow_succ]
        grind
      · split
        · rw [hup _ (by omega), Int.pow_succ]
          grind
        · rw [hup _ (by omega), Int.pow_succ]
          grind
/-- what going alone writes -/
def sGo (m : Nat) : Nat → Nat → Prop := fun q k => sSt m q k ∨ q = m + 23 ∨ (q = m ∧ k = 40)
theorem sGo_k {m : Nat} : ∀ q k, sGo m q k → ¬ ((q = m ∧ (k ≤ 3 ∨ (5 ≤ k ∧ k ≤ 11) ∨ (21 ≤ k ∧ k ≤ 34) ∨ (37 ≤ k ∧ k ≤ 39) ∨ k = 41 ∨ (46 ≤ k ∧ k ≤ 52) ∨ (57 ≤ k ∧ k ≤ 59) ∨ 62 ≤ k)) ∨ (m + 1 ≤ q ∧ q ≤ m + 6) ∨ (m + 14 ≤ q ∧ q ≤ m + 18)) := by
  intro q k h
  unfold sGo sSt sTh at h
  omega
/-- ways of a band, by the state -/
def hB (s : mS) (cl : Int) (b p n : Nat) : Int := hV 8 (dN s) (gB s cl b) (eB s cl b) (wN s b) p n 0
set_option maxHeartbeats 1000000 in
theorem s11_goesAlone {Q : mM → Prop} {b A T : Nat} {cl : Int} (hT : LyM Th m) (hK : KT m s M) (hG : rG s) (hO : rLw s) (hb : (b : Int) < s 0 1) (hA : (A : Int) ≤ s 0 0) (hA1 : 1 ≤ A) (hTk : T ≤ 10)
    (K : ∀ M', KT m s M' → (∀ t, 1 ≤ t → t ≤ T → M'.2.1 (m + 23) t = jL (hB s cl b A t)) → M'.2.1 m 40 = jL (bS 8 (hB s cl b A) T) → (∀ p, p < A → M'.2.1 m 40 + sL (16 * A) (fun k => if 16 * p ≤ k then M'.2.1 (m + 21) k else 0) = jL (bS 8 (hB s cl b p) T)) → Eo (sGo m) M M' → Q M') : P11_goesAlone (d + 6) Th m (jI b) (jI cl) (jI A) (jI T) M Q := by
  have g0 := hG.1
  have gd := hG.2.2.1
  have hA5 : A ≤ 5 := by omega
  have hT21 := hT 21 _ rfl
  have hT23 := hT 23 _ rfl
  have e16 : (16 : Int32) * jI (A : Int) = jI ((16 * A : Nat) : Int) := by rw [show (16 : Int32) = jI 16 from rfl, jI_mul]; congr 1
  have hdD : 1 ≤ dN s ∧ dN s ≤ 4 := by unfold dN; omega
  let h : Nat → Nat → Nat → Int := fun p n k => hV 8 (dN s) (gB s cl b) (eB s cl b) (wN s b) p n k
  let f : Nat → Nat → Nat → Int := fun p n k => fV 8 (dN s) (gB s cl b) (eB s cl b) (wN s b) p n k
  have loop : ∀ (u t : Nat) (M1 : mM), u + t = T → KT m s M1 → Eo (sGo m) M M1 → (∀ t', 1 ≤ t' → t' ≤ t → M1.2.1 (m + 23) t' = jL (h A t' 0)) → M1.2.1 m 40 = jL (bS 8 (fun i => h A i 0) t) → (∀ n, 1 ≤ n → sL (16 * A) (fun k => M1.2.1 (m + 21) k * jL (h A n k)) = jL (h A (t + n) 0)) → (∀ p, p ≤ A → ∀ n, sL (16 * A) (fun k => M1.2.1 (m + 21) k * jL (f p n k)) + M1.2.1 m 40 * jL (8 ^ n) = jL (f p (t + n) 0)) → H11_goesAlone_41 (d + 6) Th Q m (jI b) (jI cl) (jI A) (jI T) (jI ((t + 1 : Nat) : Int)) M1 := by
    intro u
    induction u with
    | zero =>
      intro t M1 hu hK1 he h1 h2 h3 h4
      have ht : t = T := by omega
      subst ht
      refine h11_goesAlone_41 ?_
      rw [if_pos (by rw [jIlt (rI_nat (by omega)) (rI_nat (by omega))]; omega)]
      refine K M1 hK1 h1 h2 (fun p hp => ?_) he
      have := h4 p (by omega) 0
      have e1 : sL (16 * A) (fun k => M1.2.1 (m + 21) k * jL (f p 0 k)) = sL (16 * A) (fun k => if 16 * p ≤ k then M1.2.1 (m + 21) k else 0) := sL_ext (fun k _ => by
        show M1.2.1 (m + 21) k * jL (fV 8 (dN s) (gB s cl b) (eB s cl b) (wN s b) p 0 k) = _
        unfold fV
        by_cases c : 16 * p ≤ k
        · rw [if_pos c]
          by_cases c2 : k ≤ 16 * p
          · rw [if_pos c2]
            have : k = 16 * p := by omega
            show M1.2.1 (m + 21) k * jL (hV 8 (dN s) (gB s cl b) (eB s cl b) (wN s b) p 0 k) = _
            rw [this, hV_at, if_pos rfl, jL_1]
            grind
          · rw [if_neg c2, Int.pow_zero, jL_1]
            grind
        · rw [if_neg c, if_pos (by omega)]
          show M1.2.1 (m + 21) k * jL (hV 8 (dN s) (gB s cl b) (eB s cl b) (wN s b) p 0 k) = _
          rw [hV, if_neg (by omega), jL_0]
          grind)
      rw [e1] at this
      have e2 : f p (t + 0) 0 = bS 8 (hB s cl b p) t := by
        show fV 8 (dN s) (gB s cl b) (eB s cl b) (wN s b) p (t + 0) 0 = _
        unfold fV
        rw [if_pos (by omega)]
        rfl
      rw [← e2, ← this, Int.pow_zero, jL_1]
      grind
    | succ u ih =>
      intro t M1 hu hK1 he h1 h2 h3 h4
      refine h11_goesAlone_41 ?_
      rw [if_neg (by rw [jIlt (rI_nat (by omega)) (rI_nat (by omega))]; omega)]
      refine ⟨hT 0 _ rfl, m + 23, hK1.1 0 39 23 (by decide), ?_⟩
      refine s11_steps (d := d) (b := b) (A := A) (cl := cl) hT hK1 hG hO hb hA ?_
      intro M4 k4 p4 c4 e4
      refine ⟨m_okw_jI hT23 (by omega) (by omega) (by omega), ?_⟩
      intro M7 h7
      refine ⟨m + 23, k4.1 0 39 23 (by decide), m_ok_jI hT23 (by omega) (by omega) (by omega), ?_⟩
      rw [jInatN _ (by omega)] at h7 ⊢
      have box : M4.2.1 (m + 22) (16 * A) = jL (h A (t + 1) 0) := by
        have q := p4 (h A 0)
        have e1 : sL (16 * A) (fun k => M1.2.1 (m + 21) k * jL (oV 8 (dN s) (gB s cl b) (eB s cl b) (wN s b) (h A 0) k)) = jL (h A (t + 1) 0) := by
          rw [← h3 1 (by omega)]
          exact sL_ext (fun k hk => by rw [← hV_o hk])
        rw [e1, sL_succ, sL_zero (fun k hk => by
          show M4.2.1 (m + 22) k * jL (hV 8 (dN s) (gB s cl b) (eB s cl b) (wN s b) A 0 k) = 0
          rw [hV, if_neg (by omega), jL_0]
          grind)] at q
        rw [← q]
        show _ = 0 + M4.2.1 (m + 22) (16 * A) * jL (hV 8 (dN s) (gB s cl b) (eB s cl b) (wN s b) A 0 (16 * A))
        rw [hV_at, if_pos rfl, jL_1]
        grind
      have w7 : M7.2.1 (m + 23) (t + 1) = jL (h A (t + 1) 0) := by rw [h7, m_ul_row, if_pos rfl, box]
      have v40 : M7.2.1 m 40 = jL (bS 8 (fun i => h A i 0) t) := by
        rw [h7, m_ul_far (by omega), (e4 _ _ (by unfold sSt sTh; omega)).2.1]
        exact h2
      rw [w7, v40, jI_s]
      have nb : (8 : Int64) * jL (bS 8 (fun i => h A i 0) t) + jL (h A (t + 1) 0) = jL (bS 8 (fun i => h A i 0) (t + 1)) := by
        show _ = jL (8 * bS 8 (fun i => h A i 0) t + h A (t + 1) 0)
        rw [jLa, jLm]
        rfl
      rw [nb]
      have n21 : m + 21 ≠ m := by omega
      have n23 : m + 23 ≠ m := by omega
      have e8 : Eo (sGo m) M1 (m_ul M7 m 40 (jL (bS 8 (fun i => h A i 0) (t + 1)))) := by
        rw [h7]
        exact ((Eo.mono (S' := sGo m) e4 (fun q k z => Or.inl z)).trans (Eo.rf.ul (Or.inr (Or.inl rfl)))).trans (Eo.rf.ul (Or.inr (Or.inr ⟨rfl, rfl⟩)))
      have r21 : ∀ k, k < 16 * A → (m_ul M7 m 40 (jL (bS 8 (fun i => h A i 0) (t + 1)))).2.1 (m + 21) k = M4.2.1 (m + 22) k := by
        intro k hk
        rw [m_ul_far n21, h7, m_ul_far (by omega)]
        exact c4 k hk
      refine ih (t + 1) _ (by omega) (hK1.mv e8 sGo_k) (he.trans e8) ?_ ?_ ?_ ?_
      · intro t' a1 a2
        rw [m_ul_far n23]
        by_cases c : t' = t + 1
        · rw [c]; exact w7
        · rw [h7, m_ul_row, if_neg c, (e4 _ _ (by unfold sSt sTh; omega)).2.1]
          exact h1 t' a1 (by omega)
      · rw [m_ul_row, if_pos rfl]
      · intro n hn
        have q := p4 (h A n)
        rw [sL_succ] at q
        have z : jL (h A n (16 * A)) = 0 := by
          show jL (hV 8 (dN s) (gB s cl b) (eB s cl b) (wN s b) A n (16 * A)) = 0
          rw [hV_at, if_neg (by omega), jL_0]
        rw [z] at q
        have e1 : sL (16 * A) (fun k => M1.2.1 (m + 21) k * jL (oV 8 (dN s) (gB s cl b) (eB s cl b) (wN s b) (h A n) k)) = jL (h A (t + 1 + n) 0) := by
          rw [show t + 1 + n = t + (n + 1) by omega, ← h3 (n + 1) (by omega)]
          exact sL_ext (fun k hk => by rw [← hV_o hk])
        rw [e1] at q
        rw [← q]
        have e2 : sL (16 * A) (fun k => (m_ul M7 m 40 (jL (bS 8 (fun i => h A i 0) (t + 1)))).2.1 (m + 21) k * jL (h A n k)) = sL (16 * A) (fun k => M4.2.1 (m + 22) k * jL (h A n k)) := sL_ext (fun k hk => by rw [r21 k hk])
        rw [e2]
        grind
      · intro p hp n
        have q := p4 (f p n)
        rw [sL_succ] at q
        have e1 : sL (16 * A) (fun k => M1.2.1 (m + 21) k * jL (oV 8 (dN s) (gB s cl b) (eB s cl b) (wN s b) (f p n) k)) = sL (16 * A) (fun k => M1.2.1 (m + 21) k * jL (f p (n + 1) k)) := sL_ext (fun k hk => by
          show M1.2.1 (m + 21) k * jL (oV 8 (dN s) (gB s cl b) (eB s cl b) (wN s b) (fV 8 (dN s) (gB s cl b) (eB s cl b) (wN s b) p n) k) = _
          rw [fV_o hdD (wN_b s b)])
        have h4' := h4 p hp (n + 1)
        rw [e1] at q
        have e2 : sL (16 * A) (fun k => (m_ul M7 m 40 (jL (bS 8 (fun i => h A i 0) (t + 1)))).2.1 (m + 21) k * jL (f p n k)) = sL (16 * A) (fun k => M4.2.1 (m + 22) k * jL (f p n k)) := sL_ext (fun k hk => by rw [r21 k hk])
        have z : f p n (16 * A) = 8 ^ n := by
          show fV 8 (dN s) (gB s cl b) (eB s cl b) (wN s b) p n (16 * A) = 8 ^ n
          unfold fV
          by_cases c : 16 * A ≤ 16 * p
          · rw [if_pos c, show p = A by omega]
            have : ∀ n, bS 8 (fun i => hV 8 (dN s) (gB s cl b) (eB s cl b) (wN s b) A i (16 * A)) n = 8 ^ n := by
              intro n
              induction n with
              | zero => show hV 8 (dN s) (gB s cl b) (eB s cl b) (wN s b) A 0 (16 * A) = 1; rw [hV_at, if_pos rfl]
              | succ n ih =>
                show 8 * bS 8 (fun i => hV 8 (dN s) (gB s cl b) (eB s cl b) (wN s b) A i (16 * A)) n + hV 8 (dN s) (gB s cl b) (eB s cl b) (wN s b) A (n + 1) (16 * A) = _
                rw [ih, hV_at, if_neg (by omega), Int.pow_succ]
                grind
            exact this n
          · rw [if_neg c]
        rw [e2, m_ul_row, if_pos rfl, ← nb, show t + 1 + n = t + (n + 1) by omega, ← h4', ← q, z, box, h2, Int.pow_succ, jLm]
        rw [show jL 8 = 8 from rfl]
        grind
  have wipe : ∀ (u j : Nat) (M1 : mM), u + j = 16 * A + 1 → KT m s M1 → Eo (sGo m) M M1 → (∀ k, k < j → M1.2.1 (m + 21) k = 0) → H11_goesAlone_3 (d + 6) Th Q m (jI b) (jI cl) (jI A) (jI T) (jI j) M1 := by
    intro u
    induction u with
    | zero =>
      intro j M1 hu hK1 he hz
      refine h11_goesAlone_3 ?_
      rw [e16, if_pos (by rw [jIlt (rI_nat (by omega)) (rI_nat (by omega))]; omega)]
      refine ⟨hT 0 _ rfl, m + 21, hK1.1 0 37 21 (by decide), by rw [i0]; exact m_okw_jI hT21 (by omega) (by omega) (by omega), ?_⟩
      rw [show Int32.toNatClampNeg 0 = 0 from rfl]
      intro M5 h5
      have n21 : m + 21 ≠ m := by omega
      have e8 : Eo (sGo m) M1 (m_ul M5 m 40 0) := by
        rw [h5]
        exact (Eo.rf.ul (Or.inl (Or.inr (Or.inl rfl)))).ul (Or.inr (Or.inr ⟨rfl, rfl⟩))
      have row : ∀ k, k < 16 * A → (m_ul M5 m 40 0).2.1 (m + 21) k = if k = 0 then 1 else 0 := fun k hk => by
        rw [m_ul_far n21, h5, m_ul_row]
        by_cases c : k = 0
        · rw [if_pos c, if_pos c]
        · rw [if_neg c, if_neg c]; exact hz k (by omega)
      have one : ∀ F : Nat → Int, sL (16 * A) (fun k => (m_ul M5 m 40 0).2.1 (m + 21) k * jL (F k)) = jL (F 0) := by
        intro F
        rw [sL_one (a := 0) (by omega) (fun k hk hk0 => by
          show (m_ul M5 m 40 0).2.1 (m + 21) k * jL (F k) = 0
          rw [row k hk, if_neg hk0]
          grind)]
        show (m_ul M5 m 40 0).2.1 (m + 21) 0 * jL (F 0) = _
        rw [row 0 (by omega), if_pos rfl]
        grind
      have q := loop T 0 (m_ul M5 m 40 0) (by omega) (hK1.mv e8 sGo_k) (he.trans e8) (fun t' a1 a2 => absurd a1 (by omega)) (by
        rw [m_ul_row, if_pos rfl]
        show 0 = jL (hV 8 (dN s) (gB s cl b) (eB s cl b) (wN s b) A 0 0)
        rw [hV, if_neg (by omega)]
        rfl) (fun n _ => by rw [one, Nat.zero_add]) (fun p hp n => by
        rw [one, m_ul_row, if_pos rfl, Nat.zero_add]
        grind)
      exact q
    | succ u ih =>
      intro j M1 hu hK1 he hz
      refine h11_goesAlone_3 ?_
      rw [e16, if_neg (by rw [jIlt (rI_nat (by omega)) (rI_nat (by omega))]; omega)]
      refine ⟨hT 0 _ rfl, m + 21, hK1.1 0 37 21 (by decide), m_okw_jI hT21 (by omega) (by omega) (by omega), ?_⟩
      rw [jInatN j (by omega), jI_s]
      have e1 : Eo (sGo m) M1 (m_ul M1 (m + 21) j 0) := Eo.rf.ul (Or.inl (Or.inr (Or.inl rfl)))
      refine ih (j + 1) _ (by omega) (hK1.mv e1 sGo_k) (he.trans e1) (fun k hk => ?_)
      rw [m_ul_row]
      by_cases c : k = j
      · rw [if_pos c]
      · rw [if_neg c]; exact hz k (by omega)
  refine e11_goesAlone ?_
  rw [i0]
  exact wipe (16 * A + 1) 0 M (by omega) hK Eo.rf (fun k h => absurd h (by omega))
end AL
