/-! ===== DRAW: the model, whole ===== -/
def hSt0 (s : mS) : mS := fun i k => if i = 10 then 0 else if i = 0 ∧ (k = 6 ∨ k = 8) then 0 else s i k
def s8 (s : mS) (v : Int) : mS := fun i k => if i = 0 ∧ k = 8 then v else s i k
/-- the first k bands' tick -/
def hTick (s : mS) (st : Nat → Nat) (t : Nat) : Nat → mS × (Nat → Nat)
  | 0 => (s, st)
  | k + 1 => hmv (hTick s st t k).1 (hTick s st t k).2 k t
def hAll (s : mS) : Nat → mS × (Nat → Nat)
  | 0 => (hSt0 s, fun _ => 0)
  | t + 1 => hTick (hAll s t).1 (hAll s t).2 (t + 1) (s 0 1).toNat
/-- the state after a hunt -/
def sDrw (s : mS) : mS := s8 (hAll s 10).1 1
def hBox (s : mS) : Prop := ∀ k, 0 ≤ s 10 k ∧ s 10 k ≤ 10
def aDrw (s : mS) : Nat := sumN (fun b => if (hAll s 10).1 10 b ≤ 0 then 0 else 1) (s 0 1).toNat
/-- no box of a band that is not there -/
def rB (s : mS) : Prop := ∀ k : Nat, s 0 1 ≤ (k : Int) → s 10 k = 0
theorem hmP_10 (s : mS) (z b t k : Nat) : (hmP s z b t).1 10 k = s 10 k := by
  unfold hmP
  split
  · rfl
  · split
    · rfl
    · split
      · rfl
      · split <;> rfl
theorem hBox_mv {s : mS} {st : Nat → Nat} {b t : Nat} (h : hBox s) (ht : t ≤ 10) : hBox (hmv s st b t).1 := by
  unfold hmv
  split
  · exact h
  · split
    · intro k
      show 0 ≤ (if (10 : Nat) = 10 ∧ k = b then (t : Int) else (hmP s (st b) b t).1 10 k) ∧ _
      show 0 ≤ (if (10 : Nat) = 10 ∧ k = b then (t : Int) else (hmP s (st b) b t).1 10 k) ∧ (if (10 : Nat) = 10 ∧ k = b then (t : Int) else (hmP s (st b) b t).1 10 k) ≤ 10
      by_cases c : k = b
      · rw [if_pos ⟨rfl, c⟩]; omega
      · rw [if_neg (fun q => c q.2), hmP_10]; exact h k
    · intro k
      show 0 ≤ (hmP s (st b) b t).1 10 k ∧ (hmP s (st b) b t).1 10 k ≤ 10
      rw [hmP_10]; exact h k
def hOkk (s0 s : mS) (st : Nat → Nat) : Prop := hInv s st ∧ hBox s ∧ s 0 0 = s0 0 0 ∧ s 0 1 = s0 0 1
theorem hOkk_tick {s0 s : mS} {st : Nat → Nat} {t : Nat} (h : hOkk s0 s st) (ht : 1 ≤ t ∧ t ≤ 10) (k : Nat) (hk : (k : Int) ≤ s0 0 1) : hOkk s0 (hTick s st t k).1 (hTick s st t k).2 := by
  induction k with
  | zero => exact h
  | succ k ih =>
    obtain ⟨i1, i2, i3, i4⟩ := ih (by omega)
    obtain ⟨j1, j2, j3⟩ := hInv_mv (b := k) i1 (by omega) ht
    exact ⟨j1, hBox_mv i2 ht.2, j2.trans i3, j3.trans i4⟩
theorem hOkk_0 {s : mS} (hG : rG s) (hO : rLw s) (hL : rLg s) (hR : 0 < s 0 0) : hOkk s (hAll s 0).1 (hAll s 0).2 := by
  obtain ⟨h1, h2, h3, h4, h5, h6, h7, h8, h9, h10⟩ := hG
  refine ⟨⟨⟨h1, h2, h3, h4, h5, h6, ⟨by show (0 : Int) ≤ 0; omega, by show (0 : Int) ≤ 40; omega⟩, h8, Or.inl rfl, h10⟩, hO, hL, fun i hi => ?_, fun i hi => ?_, fun b hb => Or.inr ?_, ?_⟩, fun k => ⟨by show (0 : Int) ≤ 0; omega, by show (0 : Int) ≤ 10; omega⟩, rfl, rfl⟩
  · have : (i : Int) < 0 := hi
    omega
  · have : (i : Int) < 0 := hi
    omega
  · show (((0 / 16 : Nat) : Nat) : Int) < s 0 0
    omega
  · show (0 : Int) = (sumN (fun _ => hcnt (hSt0 s) 0) (s 0 1).toNat : Nat)
    have z : ∀ k, sumN (fun _ => hcnt (hSt0 s) 0) k = 0 := by
      intro k
      induction k with
      | zero => rfl
      | succ k ih =>
        show sumN _ k + hcnt (hSt0 s) 0 = 0
        rw [ih]
        rfl
    rw [z]
    rfl
theorem hOkk_all {s : mS} (hG : rG s) (hO : rLw s) (hL : rLg s) (hR : 0 < s 0 0) (t : Nat) (ht : t ≤ 10) : hOkk s (hAll s t).1 (hAll s t).2 := by
  have g1 := hG.2.1
  induction t with
  | zero => exact hOkk_0 hG hO hL hR
  | succ t ih => exact hOkk_tick (ih (by omega)) ⟨by omega, ht⟩ _ (by omega)
section DM
variable {d : Nat} {Th : mT} {M : mM} {n m : Nat} {s : mS}
def sDr (m : Nat) : Nat → Nat → Prop := fun q k => sHu m q k ∨ (q = m ∧ k = 61)
theorem sDr_k : ∀ q k, sDr m q k → ¬ ((q = m ∧ (k ≤ 3 ∨ (5 ≤ k ∧ k ≤ 11) ∨ (21 ≤ k ∧ k ≤ 34) ∨ (37 ≤ k ∧ k ≤ 39) ∨ k = 41 ∨ (46 ≤ k ∧ k ≤ 52) ∨ (57 ≤ k ∧ k ≤ 59) ∨ 62 ≤ k)) ∨ (m + 1 ≤ q ∧ q ≤ m + 6) ∨ (m + 14 ≤ q ∧ q ≤ m + 18)) := by
  intro q k h
  unfold sDr sHu at h
  omega
theorem s11_draw {Q : Int32 → mM → Prop} (hT : LyM Th m) (hK : KT m s M) (hLg : mLog m s M) (hH : mHunt m s M) (hG : rG s) (hO : rLw s) (hL : rLg s) (hB : rB s)
    (kb : s 0 1 = 0 ∨ s 0 0 = 0 → Q (-1) M) (k : s 0 1 ≠ 0 → s 0 0 ≠ 0 → ∀ M', KT m (sDrw s) M' → mLog m (sDrw s) M' → mHunt m (sDrw s) M' → Eo (sDr m) M M' → Q (jI (aDrw s : Nat)) M') : P11_draw (d + 40) Th m M Q := by
  have g0 := hG.1
  have g1 := hG.2.1
  refine e11_draw ⟨hT 0 _ rfl, ?_⟩
  rw [hK.2.1.2.1, hK.2.1.1]
  by_cases c1 : s 0 1 = 0
  · rw [if_pos (by rw [c1]; rfl)]; exact kb (Or.inl c1)
  rw [if_neg (by rw [jq0 (rI_of (by omega) (by omega))]; exact c1)]
  by_cases c0 : s 0 0 = 0
  · rw [if_pos (by rw [c0]; rfl)]; exact kb (Or.inr c0)
  rw [if_neg (by rw [jq0 (rI_of (by omega) (by omega))]; exact c0)]
  have kk := k c1 c0
  obtain ⟨B, hBb⟩ : ∃ B : Nat, s 0 1 = B := ⟨(s 0 1).toNat, by omega⟩
  have all := hOkk_all hG hO hL (by omega)
  -- the count
  have cnt : ∀ u j (M1 : mM), j + u = B → KT m (sDrw s) M1 → mLog m (sDrw s) M1 → mHunt m (sDrw s) M1 → Eo (sDr m) M M1 → H11_draw_96 (d + 40) Th Q m (jI (sumN (fun b => if (hAll s 10).1 10 b ≤ 0 then 0 else 1) j : Nat)) (jI j) M1 := by
    intro u
    have bx := (all 10 (by omega)).2.1
    have e1 : sDrw s 0 1 = s 0 1 := (all 10 (by omega)).2.2.2
    induction u with
    | zero =>
      intro j M1 hj k1 l1 h1 e
      refine h11_draw_96 ⟨hT 0 _ rfl, ?_⟩
      rw [k1.2.1.2.1, e1, hBb, if_pos (by rw [jIle (rI_nat (by omega)) (rI_nat (by omega))]; omega)]
      have := kk M1 k1 l1 h1 e
      unfold aDrw at this
      rw [hBb, Int.toNat_natCast] at this
      rw [show j = B by omega]
      exact this
    | succ u ih =>
      intro j M1 hj k1 l1 h1 e
      refine h11_draw_96 ⟨hT 0 _ rfl, ?_⟩
      rw [k1.2.1.2.1, e1, hBb, if_neg (by rw [jIle (rI_nat (by omega)) (rI_nat (by omega))]; omega)]
      refine ⟨m + 38, k1.1 0 65 38 (by decide), m_ok_jI (hT 38 _ rfl) (by omega) (by omega) (by omega), ?_⟩
      intro x hx
      have bj := bx j
      rw [jInatN j (by omega), h1.2.2 j, show sDrw s 10 j = (hAll s 10).1 10 j from rfl] at hx
      have ex : x = jI (sumN (fun b => if (hAll s 10).1 10 b ≤ 0 then 0 else 1) (j + 1) : Nat) := by
        rw [hx, show sumN (fun b => if (hAll s 10).1 10 b ≤ 0 then 0 else 1) (j + 1) = sumN (fun b => if (hAll s 10).1 10 b ≤ 0 then 0 else 1) j + (if (hAll s 10).1 10 j ≤ 0 then 0 else 1) from rfl]
        by_cases q : (hAll s 10).1 10 j ≤ 0
        · rw [if_pos (by rw [je0 (rI_of (by omega) (by omega))]; exact q), if_pos q, i0, jI_add]; congr 1
        · rw [if_neg (by rw [je0 (rI_of (by omega) (by omega))]; exact q), if_neg q, jI_s]
      rw [ex, jI_s]
      exact ih (j + 1) M1 (by omega) k1 l1 h1 e
  have bands : ∀ (t : Nat) (R : mM → Prop), 1 ≤ t ∧ t ≤ 10 → ∀ u b (M1 : mM), b + u = B → kHu m (hTick (hAll s (t - 1)).1 (hAll s (t - 1)).2 t b).1 (hTick (hAll s (t - 1)).1 (hAll s (t - 1)).2 t b).2 M1 → Eo (sDr m) M M1 → (∀ M2, kHu m (hAll s t).1 (hAll s t).2 M2 → Eo (sDr m) M M2 → H11_draw_53 (d + 40) Th Q m (jI ((t + 1 : Nat) : Int)) M2) → H11_draw_61 (d + 40) Th Q m (jI t) (jI b) M1 := by
    intro t R ht u
    induction u with
    | zero =>
      intro b M1 hb k1 e nx
      have o := hOkk_tick (all (t - 1) (by omega)) ht b (by omega)
      refine h11_draw_61 ⟨hT 0 _ rfl, ?_⟩
      rw [k1.1.2.1.2.1, o.2.2.2, hBb, if_pos (by rw [jIle (rI_nat (by omega)) (rI_nat (by omega))]; omega), jI_s]
      refine nx M1 ?_ e
      obtain ⟨t', rfl⟩ : ∃ t', t = t' + 1 := ⟨t - 1, by omega⟩
      show kHu m (hTick (hAll s t').1 (hAll s t').2 (t' + 1) (s 0 1).toNat).1 (hTick (hAll s t').1 (hAll s t').2 (t' + 1) (s 0 1).toNat).2 M1
      rw [hBb, Int.toNat_natCast, show B = b by omega]
      exact k1
    | succ u ih =>
      intro b M1 hb k1 e nx
      have o := hOkk_tick (all (t - 1) (by omega)) ht b (by omega)
      obtain ⟨o1, o2, o3, o4⟩ := o
      have lt := hInv_lt o1
      obtain ⟨q1, q2, q3, q4, q5, q6, q7⟩ := o1
      refine h11_draw_61 ⟨hT 0 _ rfl, ?_⟩
      rw [k1.1.2.1.2.1, o4, hBb, if_neg (by rw [jIle (rI_nat (by omega)) (rI_nat (by omega))]; omega)]
      refine s11_hunts (d := d + 19) hT k1 q1 q2 q3 q4 (by omega) (by omega) ht.2 (q6 b (by omega)) (fun M2 k2 e2 => ?_)
      rw [jI_s]
      exact ih (b + 1) M2 (by omega) k2 (e.trans (e2.mono (fun _ _ h => Or.inl h))) nx
  have ticks : ∀ u t (M1 : mM), t + u = 10 → kHu m (hAll s t).1 (hAll s t).2 M1 → Eo (sDr m) M M1 → H11_draw_53 (d + 40) Th Q m (jI ((t + 1 : Nat) : Int)) M1 := by
    intro u
    induction u with
    | zero =>
      intro t M1 ht k1 e
      have t10 : t = 10 := by omega
      subst t10
      refine h11_draw_53 ?_
      rw [if_pos (by decide)]
      refine ⟨hT 0 _ rfl, ?_⟩
      obtain ⟨a1, a2, a3, a4⟩ := k1
      have e2 : Eo (sDr m) M (m_ui M1 m 61 1) := Eo.ui (S := sDr m) e (Or.inr ⟨rfl, rfl⟩)
      refine cnt B 0 _ (by omega) ?_ ?_ ?_ e2
      · exact a1.mv (Eo.ui (S := sDr m) (Eo.rf) (Or.inr ⟨rfl, rfl⟩)) sDr_k
      · exact ⟨by have := a2.1; simp [m_u]; exact this, fun k => by have := a2.2.1 k; simp [m_u]; exact this, fun k => by have := a2.2.2.1 k; simp [m_u]; exact this, fun k => by have := a2.2.2.2 k; simp [m_u]; exact this⟩
      · exact ⟨by have := a3.1; simp [m_u]; exact this, by show (if m = m ∧ 61 = 61 then (1 : Int32) else _) = jI 1; rw [if_pos ⟨rfl, rfl⟩]; rfl, fun k => by have := a3.2.2 k; simp [m_u]; exact this⟩
    | succ u ih =>
      intro t M1 ht k1 e
      refine h11_draw_53 ?_
      rw [if_neg (by rw [show (10 : Int32) = jI 10 from rfl, jIlt (rI_of (by omega) (by omega)) (rI_nat (by omega))]; omega), i0]
      refine bands (t + 1) (fun _ => True) ⟨by omega, by omega⟩ B 0 M1 (by omega) k1 e (fun M2 k2 e2 => ih (t + 1) M2 (by omega) k2 e2)
  have init : ∀ u b (M1 : mM), b + u = B → KT m s M1 → M1.1 m 60 = 0 → M1.1 m 61 = 0 → M1.1 m 4 = jI (s 0 7) → (∀ k, M1.1 (m + 35) k = jI (s 9 (3 * k)) ∧ M1.1 (m + 36) k = jI (s 9 (3 * k + 1)) ∧ M1.1 (m + 37) k = jI (s 9 (3 * k + 2))) → (∀ k, k < b → M1.1 (m + 39) k = 0) → (∀ k, M1.1 (m + 38) k = jI (if k < b then 0 else s 10 k)) → Eo (sDr m) M M1 → H11_draw_23 (d + 40) Th Q m (jI b) M1 := by
    intro u
    induction u with
    | zero =>
      intro b M1 hb k1 h60 h61 h4 hlg hst hbx e
      refine h11_draw_23 ⟨hT 0 _ rfl, ?_⟩
      rw [k1.2.1.2.1, hBb, if_pos (by rw [jIle (rI_nat (by omega)) (rI_nat (by omega))]; omega)]
      refine ticks 10 0 M1 (by omega) ?_ e
      refine ⟨k1, ⟨h60, fun k => (hlg k).1, fun k => (hlg k).2.1, fun k => (hlg k).2.2⟩, ⟨h4, h61, fun k => ?_⟩, fun k hk => ?_⟩
      · rw [hbx k]
        show _ = jI 0
        by_cases c : k < b
        · rw [if_pos c]
        · rw [if_neg c, hB k (by omega)]
      · have hk' : (k : Int) < s 0 1 := hk
        rw [hst k (by omega)]
        rfl
    | succ u ih =>
      intro b M1 hb k1 h60 h61 h4 hlg hst hbx e
      refine h11_draw_23 ⟨hT 0 _ rfl, ?_⟩
      rw [k1.2.1.2.1, hBb, if_neg (by rw [jIle (rI_nat (by omega)) (rI_nat (by omega))]; omega)]
      refine ⟨m + 39, k1.1 0 66 39 (by decide), m_okw_jI (hT 39 _ rfl) (by omega) (by omega) (by omega), m + 38, k1.1 0 65 38 (by decide), m_okw_jI (hT 38 _ rfl) (by omega) (by omega) (by omega), ?_⟩
      intro M8 h8
      rw [jInatN b (by omega)] at h8
      rw [jInatN b (by omega), jI_s]
      have e0 : Eo (sDr m) M1 (m_ui M8 (m + 38) b 0) := by
        rw [h8]
        exact Eo.ui (S := sDr m) (Eo.ui (S := sDr m) Eo.rf (Or.inl (Or.inr (Or.inr (Or.inr (by omega)))))) (Or.inl (Or.inr (Or.inr (Or.inr (by omega)))))
      refine ih (b + 1) _ (by omega) (k1.mv e0 sDr_k) ?_ ?_ ?_ (fun k => ?_) (fun k hk => ?_) (fun k => ?_) (e.trans e0)
      · rw [h8]; simp [m_u, h60]
      · rw [h8]; simp [m_u, h61]
      · rw [h8]; simp [m_u, h4]
      · rw [h8]
        have q := hlg k
        exact ⟨by simp [m_u, q.1], by simp [m_u, q.2.1], by simp [m_u, q.2.2]⟩
      · rw [h8]
        show (if m + 39 = m + 38 ∧ k = b then (0 : Int32) else if m + 39 = m + 39 ∧ k = b then 0 else M1.1 (m + 39) k) = 0
        rw [if_neg (by omega)]
        by_cases c : k = b
        · rw [if_pos ⟨rfl, c⟩]
        · rw [if_neg (fun q => c q.2)]; exact hst k (by omega)
      · rw [h8]
        show (if m + 38 = m + 38 ∧ k = b then (0 : Int32) else if m + 38 = m + 39 ∧ k = b then 0 else M1.1 (m + 38) k) = _
        by_cases c : k = b
        · rw [if_pos ⟨rfl, c⟩, if_pos (by omega)]; rfl
        · rw [if_neg (fun q => c q.2), if_neg (by omega), hbx k]
          by_cases c2 : k < b
          · rw [if_pos c2, if_pos (by omega)]
          · rw [if_neg c2, if_neg (by omega)]
  refine s11_clears (z := s 0 6) hT hLg.1 ?_
  have e0 : Eo (sDr m) M (m_ui (m_ui M m 60 0) m 61 0) := Eo.ui (S := sDr m) (Eo.ui (S := sDr m) Eo.rf (Or.inl (Or.inl ⟨rfl, Or.inr (Or.inl rfl)⟩))) (Or.inr ⟨rfl, rfl⟩)
  refine init B 0 _ (by omega) (hK.mv e0 sDr_k) (by simp [m_u]) (by simp [m_u]) (by simp [m_u, hH.1]) (fun k => ⟨by simp [m_u, hLg.2.1], by simp [m_u, hLg.2.2.1], by simp [m_u, hLg.2.2.2]⟩) (fun k h => absurd h (by omega)) (fun k => ?_) e0
  rw [if_neg (by omega)]
  simp [m_u, hH.2.2]
end DM
