/-! ===== DRAW: who has the box ===== -/
def hEq (s : mS) (st : Nat → Nat) : Prop := ∀ b : Nat, st b = 80 ↔ 0 < s 10 b
theorem hEq_mv {s : mS} {st : Nat → Nat} {b t : Nat} (h : hEq s st) (ht : 1 ≤ t) : hEq (hmv s st b t).1 (hmv s st b t).2 := by
  unfold hmv
  by_cases c : st b = 80
  · rw [if_pos c]; exact h
  rw [if_neg c]
  intro j
  have hj := h j
  show (if j = b then (hmP s (st b) b t).2 else st j) = 80 ↔ 0 < (if (hmP s (st b) b t).2 = 80 then sBox (hmP s (st b) b t).1 b t else (hmP s (st b) b t).1) 10 j
  by_cases cz : (hmP s (st b) b t).2 = 80
  · rw [if_pos cz]
    show _ ↔ 0 < (if (10 : Nat) = 10 ∧ j = b then (t : Int) else (hmP s (st b) b t).1 10 j)
    by_cases cj : j = b
    · rw [if_pos cj, if_pos ⟨rfl, cj⟩]
      exact ⟨fun _ => by omega, fun _ => cz⟩
    · rw [if_neg cj, if_neg (fun q => cj q.2), hmP_10]; exact hj
  · rw [if_neg cz, hmP_10]
    by_cases cj : j = b
    · rw [if_pos cj]
      rw [cj] at hj ⊢
      exact ⟨fun q => absurd q cz, fun q => absurd (hj.mpr q) c⟩
    · rw [if_neg cj]; exact hj
theorem hEq_tick {s : mS} {st : Nat → Nat} {t : Nat} (h : hEq s st) (ht : 1 ≤ t) (k : Nat) : hEq (hTick s st t k).1 (hTick s st t k).2 := by
  induction k with
  | zero => exact h
  | succ k ih => exact hEq_mv ih ht
theorem hEq_all (s : mS) (t : Nat) : hEq (hAll s t).1 (hAll s t).2 := by
  induction t with
  | zero => exact fun b => ⟨fun q => absurd q (show ¬ (0 : Nat) = 80 by decide), fun q => absurd q (show ¬ (0 : Int) < 0 by decide)⟩
  | succ t ih => exact hEq_tick ih (by omega) _
theorem fnd_draw {s : mS} (h01 : (hAll s 10).1 0 1 = s 0 1) : fnd (hAll s 10).1 (hAll s 10).2 = aDrw s := by
  unfold fnd aDrw
  rw [h01]
  refine sumN_ext (fun i _ => ?_)
  have := hEq_all s 10 i
  by_cases c : (hAll s 10).2 i = 80
  · rw [if_pos c, if_neg (by have := this.mp c; omega)]
  · rw [if_neg c, if_pos (by by_cases q : 0 < (hAll s 10).1 10 i; exact absurd (this.mpr q) c; omega)]
