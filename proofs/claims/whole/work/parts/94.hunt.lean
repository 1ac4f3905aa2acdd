/-! ===== DRAW: a band's tick, the model ===== -/
/-- a band's tick: what becomes of the state, where it stands then -/
def hmP (s : mS) (z b t : Nat) : mS × Nat :=
  if 5 < z % 16 then (s, hGo s z) else
    if s 6 b = 1 ∧ s 0 3 = 0 ∧ hSeB s b (z / 16) ((t : Int) - 1) (s 0 6).toNat = true then (sAdd s b (z / 16) t, hYw s (z / 16) (wK s b (z / 16) - 1).toNat) else
      if sDic s 0 7 % 8 < gK s (s 4 b) b (z / 16) (z % 16) then (sAdd (sDic s) b (z / 16) t, 16 * (z / 16) + 5 + (wK s b (z / 16)).toNat) else
        if sDic s 0 7 % 8 < gK s (s 4 b) b (z / 16) (z % 16) + eK s (s 4 b) b (z / 16) (z % 16) then (sDic s, 16 * (z / 16) + 11 + (s 0 2).toNat) else (sDic s, 16 * (z / 16) + kmo (z % 16))
def hmv (s : mS) (st : Nat → Nat) (b t : Nat) : mS × (Nat → Nat) :=
  if st b = 80 then (s, st) else (if (hmP s (st b) b t).2 = 80 then sBox (hmP s (st b) b t).1 b t else (hmP s (st b) b t).1, fun k => if k = b then (hmP s (st b) b t).2 else st k)
def sHu (m : Nat) : Nat → Nat → Prop := fun q k => (q = m ∧ (k = 4 ∨ k = 60 ∨ k = 35 ∨ k = 36)) ∨ q = m + 19 ∨ q = m + 20 ∨ (m + 35 ≤ q ∧ q ≤ m + 39)
section HU
variable {d : Nat} {Th : mT} {M : mM} {n m : Nat} {s : mS}
theorem sHu_k : ∀ q k, sHu m q k → ¬ ((q = m ∧ (k ≤ 3 ∨ (5 ≤ k ∧ k ≤ 11) ∨ (21 ≤ k ∧ k ≤ 34) ∨ (37 ≤ k ∧ k ≤ 39) ∨ k = 41 ∨ (46 ≤ k ∧ k ≤ 52) ∨ (57 ≤ k ∧ k ≤ 59) ∨ 62 ≤ k)) ∨ (m + 1 ≤ q ∧ q ≤ m + 6) ∨ (m + 14 ≤ q ∧ q ≤ m + 18)) := by
  intro q k h
  unfold sHu at h
  omega
/-- what the model's hunt knows -/
def kHu (m : Nat) (s : mS) (st : Nat → Nat) (M : mM) : Prop := KT m s M ∧ mLog m s M ∧ mHunt m s M ∧ ∀ k : Nat, (k : Int) < s 0 1 → M.1 (m + 39) k = jI (st k : Int)
theorem kHu_add {st : Nat → Nat} {b r t : Nat} (h : kHu m s st M) (h0 : 0 ≤ s 0 6) : kHu m (sAdd s b r t) st (u11_puts m M (s 0 6).toNat (jI b) (jI r) (jI t)) := by
  obtain ⟨hK, hL, hH, hS⟩ := h
  have e : Eo (sHu m) M (u11_puts m M (s 0 6).toNat (jI b) (jI r) (jI t)) := by
    unfold u11_puts
    exact Eo.ui (S := sHu m) (Eo.ui (S := sHu m) (Eo.ui (S := sHu m) (Eo.ui (S := sHu m) Eo.rf (Or.inr (Or.inr (Or.inr (by omega))))) (Or.inr (Or.inr (Or.inr (by omega))))) (Or.inr (Or.inr (Or.inr (by omega))))) (Or.inl ⟨rfl, Or.inr (Or.inl rfl)⟩)
  refine ⟨hK.mv e sHu_k, ⟨?_, fun k => ?_, fun k => ?_, fun k => ?_⟩, ⟨?_, ?_, fun k => ?_⟩, fun k hk => ?_⟩
  · show _ = jI (s 0 6 + 1)
    unfold u11_puts
    simp [m_u]
    congr 1
    omega
  · have e9 : sAdd s b r t 9 (3 * k) = if k = (s 0 6).toNat then (b : Int) else s 9 (3 * k) := by
      show (if (9 : Nat) = 9 then (if 3 * k = 3 * (s 0 6).toNat then (b : Int) else if 3 * k = 3 * (s 0 6).toNat + 1 then (r : Int) else if 3 * k = 3 * (s 0 6).toNat + 2 then (t : Int) else s 9 (3 * k)) else _) = _
      rw [if_pos rfl]
      by_cases c : k = (s 0 6).toNat
      · rw [if_pos (by omega), if_pos c]
      · rw [if_neg (by omega), if_neg (by omega), if_neg (by omega), if_neg c]
    rw [e9]
    unfold u11_puts
    by_cases c : k = (s 0 6).toNat
    · rw [if_pos c, c]; simp [m_u]
    · rw [if_neg c, ← hL.2.1 k]; simp [m_u, c]
  · have e9 : sAdd s b r t 9 (3 * k + 1) = if k = (s 0 6).toNat then (r : Int) else s 9 (3 * k + 1) := by
      show (if (9 : Nat) = 9 then (if 3 * k + 1 = 3 * (s 0 6).toNat then (b : Int) else if 3 * k + 1 = 3 * (s 0 6).toNat + 1 then (r : Int) else if 3 * k + 1 = 3 * (s 0 6).toNat + 2 then (t : Int) else s 9 (3 * k + 1)) else _) = _
      rw [if_pos rfl, if_neg (by omega)]
      by_cases c : k = (s 0 6).toNat
      · rw [if_pos (by omega), if_pos c]
      · rw [if_neg (by omega), if_neg (by omega), if_neg c]
    rw [e9]
    unfold u11_puts
    by_cases c : k = (s 0 6).toNat
    · rw [if_pos c, c]; simp [m_u]
    · rw [if_neg c, ← hL.2.2.1 k]; simp [m_u, c]
  · have e9 : sAdd s b r t 9 (3 * k + 2) = if k = (s 0 6).toNat then (t : Int) else s 9 (3 * k + 2) := by
      show (if (9 : Nat) = 9 then (if 3 * k + 2 = 3 * (s 0 6).toNat then (b : Int) else if 3 * k + 2 = 3 * (s 0 6).toNat + 1 then (r : Int) else if 3 * k + 2 = 3 * (s 0 6).toNat + 2 then (t : Int) else s 9 (3 * k + 2)) else _) = _
      rw [if_pos rfl, if_neg (by omega), if_neg (by omega)]
      by_cases c : k = (s 0 6).toNat
      · rw [if_pos (by omega), if_pos c]
      · rw [if_neg (by omega), if_neg c]
    rw [e9]
    unfold u11_puts
    by_cases c : k = (s 0 6).toNat
    · rw [if_pos c, c]; simp [m_u]
    · rw [if_neg c, ← hL.2.2.2 k]; simp [m_u, c]
  · have := hH.1
    unfold u11_puts
    simp [m_u]
    exact this
  · have := hH.2.1
    unfold u11_puts
    simp [m_u]
    exact this
  · have := hH.2.2 k
    unfold u11_puts
    simp [m_u]
    exact this
  · have := hS k hk
    unfold u11_puts
    simp [m_u]
    exact this
end HU
