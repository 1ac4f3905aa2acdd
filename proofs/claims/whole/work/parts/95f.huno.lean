/-! ===== DRAW: what the class's hunt knows ===== -/
def hTri (z r g k : Nat) : Prop := (z = 80 ∧ g = 3) ∨ (z ≠ 80 ∧ z / 16 = r ∧ ((g = 0 ∧ z % 16 = k ∧ k ≤ 5) ∨ (g = 1 ∧ z % 16 = 5 + k ∧ 1 ≤ k ∧ k ≤ 6) ∨ (g = 2 ∧ z % 16 = 11 + k ∧ 1 ≤ k ∧ k ≤ 4)))
def cHb (n z b : Nat) (M : mM) : Prop := ∃ r g k : Nat, M.1 (n + 109) b = jI r ∧ M.1 (n + 110) b = jI g ∧ M.1 (n + 111) b = jI k ∧ hTri z r g k
def fnd (s : mS) (st : Nat → Nat) : Nat := sumN (fun b => if st b = 80 then 1 else 0) (s 0 1).toNat
def sHn (n : Nat) : Nat → Nat → Prop := fun q k => (q = n + 105 ∧ k = 1) ∨ q = n + 106 ∨ (q = n + 107 ∧ (k = 7 ∨ k = 8)) ∨ (n + 109 ≤ q ∧ q ≤ n + 112)
section HO
variable {d : Nat} {Th : mT} {M : mM} {n m : Nat} {s : mS} {c : Int}
def cHu (Th : mT) (n : Nat) (s : mS) (st : Nat → Nat) (c : Int) (M : mM) : Prop := KM Th n s c M ∧ cLog n s M ∧ cHunt n s M ∧ (∀ b : Nat, (b : Int) < s 0 1 → M.2.2 (n + 108) b = some (aSk n b) ∧ vB n s b M) ∧ (∀ b : Nat, (b : Int) < s 0 1 → cHb n (st b) b M) ∧ M.1 (n + 107) 7 = jI (fnd s st : Nat)
theorem sHn_rf (n : Nat) : ∀ o k v, (o, k, v) ∈ rsA → ¬ sHn n (n + o) k := by
  intro o k v hv
  unfold sHn
  simp [rsA] at hv
  omega
theorem sHn_k {n : Nat} : ∀ q k, sHn n q k → n ≤ q ∧ ¬ (q = n + 3 ∧ k ≤ 4) ∧ ¬ (n + 9 ≤ q ∧ q ≤ n + 34) ∧ ¬ (q = n + 4 ∧ 1 ≤ k ∧ k ≤ 4) ∧ q ≠ n + 6 ∧ q ≠ n + 7 := by
  intro q k h
  unfold sHn at h
  omega
/-- a band has moved -/
theorem cHu_fin {s' : mS} {st : Nat → Nat} {b z' : Nat} {M' : mM} (hT : gTh Th n) (hG : rG s) (h : cHu Th n s st c M) (e : Eo (sHn n) M M') (hs : ∀ M1, KM Th n s c M1 → KM Th n s' c M1) (hv : ∀ j M1, vB n s j M1 → vB n s' j M1) (h01 : s' 0 1 = s 0 1)
    (far : ∀ q j, n + 109 ≤ q → q ≤ n + 111 → j ≠ b → M'.1 q j = M.1 q j) (hL : cLog n s' M') (hH : cHunt n s' M') (hb : cHb n z' b M') (hf : M'.1 (n + 107) 7 = jI (fnd s' (fun k => if k = b then z' else st k) : Nat)) : cHu Th n s' (fun k => if k = b then z' else st k) c M' := by
  have g1 := hG.2.1
  obtain ⟨a1, a2, a3, a4, a5, a6⟩ := h
  refine ⟨hs M' (a1.mvS hT e (sHn_rf n) sHn_k), hL, hH, fun j hj => ?_, fun j hj => ?_, hf⟩
  · rw [h01] at hj
    obtain ⟨x1, x2⟩ := a4 j hj
    refine ⟨((e _ _ (by unfold sHn; omega)).2.2).trans x1, hv j M' (vSk.mv x2 (fun q' k p1 p2 => (e _ _ (by unfold sHn; unfold aSk at p1 p2; omega)).1))⟩
  · rw [h01] at hj
    show cHb n (if j = b then z' else st j) j M'
    by_cases q : j = b
    · rw [if_pos q, q]; exact hb
    · rw [if_neg q]
      obtain ⟨r, g, k, x1, x2, x3, x4⟩ := a5 j hj
      exact ⟨r, g, k, (far _ _ (by omega) (by omega) q).trans x1, (far _ _ (by omega) (by omega) q).trans x2, (far _ _ (by omega) (by omega) q).trans x3, x4⟩
/-- how many have it, when one has moved -/
theorem fnd_set {s : mS} {st : Nat → Nat} {b z' : Nat} (hb : (b : Int) < s 0 1) (h80 : st b ≠ 80) : fnd s (fun k => if k = b then z' else st k) = fnd s st + (if z' = 80 then 1 else 0) := by
  have := sumN_set (f := fun k => if (if k = b then z' else st k) = 80 then 1 else 0) (g := fun k => if st k = 80 then 1 else 0) (k := (s 0 1).toNat) (b := b) (by omega) (fun i hi => by show (if (if i = b then z' else st i) = 80 then 1 else 0) = _; rw [if_neg hi])
  simp only [if_pos, if_neg h80, Nat.add_zero] at this
  exact this
end HO
