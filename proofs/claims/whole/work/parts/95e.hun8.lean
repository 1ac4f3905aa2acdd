/-! ===== DRAW: whether one was drawn does not matter to a hunt ===== -/
theorem s8_at (s : mS) (v : Int) (i k : Nat) : s8 s v i k = if i = 0 ∧ k = 8 then v else s i k := rfl
theorem sAdd_s8 (s : mS) (v : Int) (b r t : Nat) : sAdd (s8 s v) b r t = s8 (sAdd s b r t) v := by
  funext i k
  rw [s8_at]
  show (if i = 9 then (if k = 3 * (s 0 6).toNat then (b : Int) else if k = 3 * (s 0 6).toNat + 1 then (r : Int) else if k = 3 * (s 0 6).toNat + 2 then (t : Int) else s 9 k) else if i = 0 ∧ k = 6 then s 0 6 + 1 else s8 s v i k) = if i = 0 ∧ k = 8 then v else sAdd s b r t i k
  rw [s8_at]
  unfold sAdd
  by_cases c : i = 9
  · rw [if_pos c, if_pos c, if_neg (show ¬ (i = 0 ∧ k = 8) by omega)]
  · rw [if_neg c, if_neg c]
    by_cases c6 : i = 0 ∧ k = 6
    · rw [if_pos c6, if_neg (by omega), if_pos c6]
    · rw [if_neg c6, if_neg c6]
theorem sDic_s8 (s : mS) (v : Int) : sDic (s8 s v) = s8 (sDic s) v := by
  funext i k
  rw [s8_at]
  show (if i = 0 ∧ k = 7 then (25173 * s 0 7 + 13849) % 65536 else s8 s v i k) = if i = 0 ∧ k = 8 then v else sDic s i k
  rw [s8_at]
  unfold sDic
  by_cases c : i = 0 ∧ k = 7
  · rw [if_pos c, if_neg (by omega), if_pos c]
  · rw [if_neg c, if_neg c]
theorem sBox_s8 (s : mS) (v : Int) (b t : Nat) : sBox (s8 s v) b t = s8 (sBox s b t) v := by
  funext i k
  rw [s8_at]
  show (if i = 10 ∧ k = b then (t : Int) else s8 s v i k) = if i = 0 ∧ k = 8 then v else sBox s b t i k
  rw [s8_at]
  unfold sBox
  by_cases c : i = 10 ∧ k = b
  · rw [if_pos c, if_neg (by omega), if_pos c]
  · rw [if_neg c, if_neg c]
theorem hSeB_s8 (s : mS) (v : Int) (b r : Nat) (t : Int) (k : Nat) : hSeB (s8 s v) b r t k = hSeB s b r t k := by
  induction k with
  | zero => rfl
  | succ k ih =>
    show (hSeB (s8 s v) b r t k || _) = (hSeB s b r t k || _)
    rw [ih]
    rfl
theorem hmP_s8 (s : mS) (v : Int) (z b t : Nat) : hmP (s8 s v) z b t = (s8 (hmP s z b t).1 v, (hmP s z b t).2) := by
  have e1 : sDic (s8 s v) 0 7 = sDic s 0 7 := by rw [sDic_s8]; rfl
  have e2 : ∀ cl b r t, gK (s8 s v) cl b r t = gK s cl b r t := fun _ _ _ _ => rfl
  have e3 : ∀ cl b r t, eK (s8 s v) cl b r t = eK s cl b r t := fun _ _ _ _ => rfl
  have e4 : ∀ b r, wK (s8 s v) b r = wK s b r := fun _ _ => rfl
  have e5 : ∀ r w, hYw (s8 s v) r w = hYw s r w := fun _ _ => rfl
  have e6 : ∀ z, hGo (s8 s v) z = hGo s z := fun _ => rfl
  have e7 : s8 s v 6 b = s 6 b := rfl
  have e8 : s8 s v 0 3 = s 0 3 := rfl
  have e9 : s8 s v 0 6 = s 0 6 := rfl
  have e10 : s8 s v 4 b = s 4 b := rfl
  have e11 : s8 s v 0 2 = s 0 2 := rfl
  unfold hmP
  simp only [e1, e2, e3, e4, e5, e6, e7, e8, e9, e10, e11, hSeB_s8, sAdd_s8, sDic_s8]
  split
  · rfl
  · split
    · rfl
    · split
      · rfl
      · split <;> rfl
theorem hmv_s8 (s : mS) (v : Int) (st : Nat → Nat) (b t : Nat) : hmv (s8 s v) st b t = (s8 (hmv s st b t).1 v, (hmv s st b t).2) := by
  unfold hmv
  rw [hmP_s8]
  by_cases c : st b = 80
  · rw [if_pos c, if_pos c]
  · rw [if_neg c, if_neg c]
    by_cases c2 : (hmP s (st b) b t).2 = 80
    · simp only [if_pos c2, sBox_s8]
    · simp only [if_neg c2]
theorem hTick_s8 (s : mS) (v : Int) (st : Nat → Nat) (t k : Nat) : hTick (s8 s v) st t k = (s8 (hTick s st t k).1 v, (hTick s st t k).2) := by
  induction k with
  | zero => rfl
  | succ k ih =>
    show hmv (hTick (s8 s v) st t k).1 (hTick (s8 s v) st t k).2 k t = _
    rw [ih]
    exact hmv_s8 _ v _ k t
