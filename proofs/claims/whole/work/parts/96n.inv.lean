/-! ===== WHAT HOLDS ALL THE TIME ===== -/
/-- the same hill -/
def jEq (s t : mS) : Prop := (t 0 0 = s 0 0 ∧ t 0 1 = s 0 1 ∧ t 0 2 = s 0 2 ∧ t 0 3 = s 0 3 ∧ t 0 9 = s 0 9 ∧ t 0 10 = s 0 10) ∧ (t 1 = s 1 ∧ t 2 = s 2 ∧ t 3 = s 3 ∧ t 4 = s 4 ∧ t 5 = s 5 ∧ t 6 = s 6 ∧ t 11 = s 11 ∧ t 12 = s 12)
section HQ
variable {s t : mS} {Th : mT} {M : mM} {n m : Nat} {c : Int}
theorem jEq.tr {u : mS} (h : jEq s t) (g : jEq t u) : jEq s u := by
  obtain ⟨⟨a0, a1, a2, a3, a9, a10⟩, b1, b2, b3, b4, b5, b6, b11, b12⟩ := h
  obtain ⟨⟨c0, c1, c2, c3, c9, c10⟩, d1, d2, d3, d4, d5, d6, d11, d12⟩ := g
  exact ⟨⟨c0.trans a0, c1.trans a1, c2.trans a2, c3.trans a3, c9.trans a9, c10.trans a10⟩, d1.trans b1, d2.trans b2, d3.trans b3, d4.trans b4, d5.trans b5, d6.trans b6, d11.trans b11, d12.trans b12⟩
theorem lawCl_h (h : jEq s t) : lawCl t = lawCl s := by
  unfold lawCl; rw [h.1.2.2.2.2.2, h.2.2.2.2.2.2.2.1]
theorem lenv_h (h : jEq s t) (cl : Int) (b r k : Nat) : lenv t cl b r k = lenv s cl b r k := by
  unfold lenv
  rw [h.2.1, h.2.2.2.2.2.1, h.1.1, h.1.2.2.2.1]
theorem gK_h (h : jEq s t) : gK t = gK s := by
  funext cl b r k
  unfold gK
  rw [lawCl_h h, lenv_h h]
theorem eK_h (h : jEq s t) : eK t = eK s := by
  funext cl b r k
  unfold eK
  rw [lawCl_h h, lenv_h h, gK_h h]
theorem wK_h (h : jEq s t) : wK t = wK s := by
  funext b r
  unfold wK
  rw [h.2.2.1, h.2.2.2.1, h.2.2.2.2.2.1]
theorem wN_h (h : jEq s t) : wN t = wN s := by
  funext b r
  unfold wN
  rw [wK_h h]
theorem dN_h (h : jEq s t) : dN t = dN s := by unfold dN; rw [h.1.2.2.1]
theorem uR_h (h : jEq s t) : uR t = uR s := by unfold uR; rw [h.1.1]
theorem uCp_h (h : jEq s t) : uCp t = uCp s := by
  funext y; unfold uCp; rw [h.2.2.2.2.2.2.1, h.1.2.2.2.1]
theorem uMv_h (h : jEq s t) : uMv t = uMv s := by
  funext y z; unfold uMv; rw [uR_h h, wN_h h, dN_h h]
theorem uNx_h (h : jEq s t) : uNx t = uNx s := by
  funext x k z; unfold uNx; rw [uR_h h, wN_h h, dN_h h]
theorem uAg_h (h : jEq s t) : uAg t = uAg s := by
  funext y F z bg; unfold uAg; rw [uR_h h, wN_h h, dN_h h, gK_h h, eK_h h, uCp_h h, uMv_h h, h.2.2.2.2.1]
theorem uDo_h (h : jEq s t) : uDo t = uDo s := by
  funext x y F k zx zy; unfold uDo; rw [dN_h h, gK_h h, eK_h h, uAg_h h, uNx_h h, h.2.2.2.2.1]
theorem uCan_h (h : jEq s t) : uCan t = uCan s := by
  funext nv k zx zy; unfold uCan; rw [h.1.2.2.2.1]
theorem uV_h (h : jEq s t) (x y nv l : Nat) : uV t x y nv l = uV s x y nv l := by
  induction l with
  | zero => rfl
  | succ l ih =>
    funext zx zy
    rw [uV, uV, ih, uDo_h h, uCan_h h]
theorem vB_h (h : jEq s t) {b : Nat} : vB n t b M = vB n s b M := by
  unfold vB; rw [gK_h h, eK_h h, wK_h h, h.1.1, h.2.2.2.2.1]
theorem cHill_h (h : jEq s t) : cHill n t M = cHill n s M := by
  obtain ⟨⟨a0, a1, a2, a3, a9, a10⟩, b1, b2, b3, b4, b5, b6, b11, b12⟩ := h
  unfold cHill; rw [a0, a1, a2, a3, b1, b2, b3, b4, b5, b6]
theorem cLaw_h (h : jEq s t) : cLaw n t M = cLaw n s M := by
  obtain ⟨⟨a0, a1, a2, a3, a9, a10⟩, b1, b2, b3, b4, b5, b6, b11, b12⟩ := h
  unfold cLaw; rw [a9, a10, b11]
theorem KM_h (h : jEq s t) (k : KM Th n s c M) : KM Th n t c M := by
  obtain ⟨⟨a1, a2, a3, a4⟩, b, c1, d⟩ := k
  refine ⟨⟨a1, a2, by rw [cHill_h h]; exact a3, by rw [cLaw_h h]; exact a4⟩, b, c1, fun b hb => ?_⟩
  obtain ⟨cb, t1, t2, t3, t4, t5⟩ := d b hb
  exact ⟨cb, t1, t2, t3, fun q1 q2 => by rw [vB_h h]; exact t4 q1 (by rw [← h.1.2.1]; exact q2), by rw [h.2.2.2.2.2.2.2.2]; exact t5⟩
theorem mHill_h (h : jEq s t) : mHill m t M = mHill m s M := by
  obtain ⟨⟨a0, a1, a2, a3, a9, a10⟩, b1, b2, b3, b4, b5, b6, b11, b12⟩ := h
  unfold mHill; rw [a0, a1, a2, a3, b1, b2, b3, b4, b5, b6]
theorem KT_h (h : jEq s t) (k : KT m s M) : KT m t M := ⟨k.1, by rw [mHill_h h]; exact k.2.1, by rw [lawCl_h h]; exact k.2.2⟩
theorem uVal_h (h : jEq s t) {x y nv : Nat} {V0 V : Nat → Nat → Int64} (k : uVal n s x y nv V0 V) : uVal n t x y nv V0 V := by
  refine ⟨k.1, fun l zx zy h1 h2 h3 h4 => ?_⟩
  rw [uR_h h] at *
  rw [uV_h h]
  exact k.2 l zx zy h1 h2 h3 h4
theorem cDue_h (h : jEq s t) (k : cDue n s c M) : cDue n t c M := by
  obtain ⟨fx, fy, fn, fc, r, d, hc, q⟩ := k
  refine ⟨fx, fy, fn, fc, r, d, hc, ?_⟩
  rcases q with q | q | ⟨x, y, nv, q1, q2, q3, ⟨k1, k2, k3⟩, ⟨k4, k5⟩, k6, k7, k8, k9⟩
  · exact Or.inl q
  · exact Or.inr (Or.inl q)
  · exact Or.inr (Or.inr ⟨x, y, nv, q1, q2, q3, ⟨by rw [h.1.2.1]; exact k1, by rw [h.1.2.1]; exact k2, k3⟩, ⟨by rw [h.2.2.2.2.2.2.2.2]; exact k4, by rw [h.2.2.2.2.2.2.2.2]; exact k5⟩, k6, k7, by rw [uCp_h h]; exact k8, uVal_h h k9⟩)
end HQ
/-- the class's, the model's, the state's -/
def Jc (Th : mT) (n : Nat) (s : mS) (c : Int) (M : mM) : Prop := KM Th n s c M ∧ cDue n s c M ∧ cTape n s M ∧ cOrd n s M ∧ cLog n s M ∧ cHunt n s M ∧ cCh n M
def Jm (m : Nat) (s : mS) (M : mM) : Prop := KT m s M ∧ mTape m s M ∧ mOrd m s M ∧ mLog m s M ∧ mHunt m s M
def Js (s : mS) : Prop := rG s ∧ rLw s ∧ rLg s ∧ rLt s ∧ rLh s ∧ rB s
/-- what the rest of the class stands in -/
def cT1 (n : Nat) : Nat → Nat → Prop := fun q k => (q = n + 1 ∧ k = 1) ∨ q = n + 2
def cO1 (n : Nat) : Nat → Nat → Prop := fun q k => (q = n + 100 ∧ (k = 4 ∨ k = 5)) ∨ q = n + 101
def cL1 (n : Nat) : Nat → Nat → Prop := fun q k => (q = n + 105 ∧ k = 1) ∨ q = n + 106
def cH1 (n : Nat) : Nat → Nat → Prop := fun q k => (q = n + 107 ∧ (k = 8 ∨ k = 9)) ∨ q = n + 112
def cD1 (n : Nat) : Nat → Nat → Prop := fun q _ => q = n + 94 ∨ q = n + 95
def cC1 (n : Nat) : Nat → Nat → Prop := fun q _ => q = n + 69
section FR
variable {s : mS} {Th : mT} {M M' : mM} {n m : Nat} {c : Int} {S : Nat → Nat → Prop}
theorem cTape.mvq (h : cTape n s M) (he : Eo S M M') (hs : ∀ q k, S q k → ¬ cT1 n q k) : cTape n s M' :=
  ⟨((he _ _ (fun z => hs _ _ z (Or.inl ⟨rfl, rfl⟩))).1).trans h.1, fun k => ((he _ _ (fun z => hs _ _ z (Or.inr rfl))).1).trans (h.2 k)⟩
theorem cOrd.mvq (h : cOrd n s M) (he : Eo S M M') (hs : ∀ q k, S q k → ¬ cO1 n q k) : cOrd n s M' :=
  ⟨((he _ _ (fun z => hs _ _ z (Or.inl ⟨rfl, Or.inr rfl⟩))).1).trans h.1, fun q => ((he _ _ (fun z => hs _ _ z (Or.inl ⟨rfl, Or.inl rfl⟩))).1).trans (h.2.1 q), fun k => ((he _ _ (fun z => hs _ _ z (Or.inr rfl))).1).trans (h.2.2 k)⟩
theorem cLog.mvq (h : cLog n s M) (he : Eo S M M') (hs : ∀ q k, S q k → ¬ cL1 n q k) : cLog n s M' :=
  ⟨((he _ _ (fun z => hs _ _ z (Or.inl ⟨rfl, rfl⟩))).1).trans h.1, fun k => ((he _ _ (fun z => hs _ _ z (Or.inr rfl))).1).trans (h.2 k)⟩
theorem cHunt.mvq (h : cHunt n s M) (he : Eo S M M') (hs : ∀ q k, S q k → ¬ cH1 n q k) : cHunt n s M' :=
  ⟨((he _ _ (fun z => hs _ _ z (Or.inl ⟨rfl, Or.inl rfl⟩))).1).trans h.1, ((he _ _ (fun z => hs _ _ z (Or.inl ⟨rfl, Or.inr rfl⟩))).1).trans h.2.1, fun k => ((he _ _ (fun z => hs _ _ z (Or.inr rfl))).1).trans (h.2.2 k)⟩
theorem cCh.mvq (h : cCh n M) (he : Eo S M M') (hs : ∀ q k, S q k → ¬ cC1 n q k) : cCh n M' := by
  unfold cCh
  rw [(he _ _ (fun z => hs _ _ z rfl)).2.2, (he _ _ (fun z => hs _ _ z rfl)).2.2]
  exact h
theorem cDue.mvq (h : cDue n s c M) (he : Eo S M M') (hs : ∀ q k, S q k → ¬ cD1 n q k) : cDue n s c M' := by
  have f4 : ∀ k, M'.1 (n + 94) k = M.1 (n + 94) k := fun k => (he _ _ (fun z => hs _ _ z (Or.inl rfl))).1
  have r4 : ∀ k, M'.2.2 (n + 94) k = M.2.2 (n + 94) k := fun k => (he _ _ (fun z => hs _ _ z (Or.inl rfl))).2.2
  have l5 : ∀ k, M'.2.1 (n + 95) k = M.2.1 (n + 95) k := fun k => (he _ _ (fun z => hs _ _ z (Or.inr rfl))).2.1
  obtain ⟨fx, fy, fn, fc, r, ⟨d1, d2, d3, d4⟩, hc, q⟩ := h
  refine ⟨fx, fy, fn, fc, r, ⟨(f4 _).trans d1, (f4 _).trans d2, (f4 _).trans d3, (f4 _).trans d4⟩, hc, ?_⟩
  rcases q with q | q | ⟨x, y, nv, q1, q2, q3, k1, k2, k6, k7, k8, k9⟩
  · exact Or.inl q
  · exact Or.inr (Or.inl q)
  · refine Or.inr (Or.inr ⟨x, y, nv, q1, q2, q3, k1, k2, (r4 _).trans k6, (r4 _).trans k7, (f4 _).trans k8, fun _ _ _ => rfl, fun l zx zy h1 h2 h3 h4 => ?_⟩)
    rw [l5]
    exact k9.2 l zx zy h1 h2 h3 h4
/-- what does not touch the class leaves it -/
theorem Jc.fr (hT : gTh Th n) (h : Jc Th n s c M) (he : Eo S M M') (hs : ∀ q k, S q k → n + 113 ≤ q) : Jc Th n s c M' := by
  obtain ⟨a1, a2, a3, a4, a5, a6, a7⟩ := h
  refine ⟨a1.mvS hT he (fun o k v hv z => ?_) (fun q k z => ?_), a2.mvq he (fun q k z => ?_), a3.mvq he (fun q k z => ?_), a4.mvq he (fun q k z => ?_), a5.mvq he (fun q k z => ?_), a6.mvq he (fun q k z => ?_), a7.mvq he (fun q k z => ?_)⟩
  · have := hs _ _ z
    simp [rsA] at hv
    omega
  all_goals (have := hs _ _ z; first | omega | (simp only [cT1, cO1, cL1, cH1, cD1, cC1]; omega))
/-- the model's rest -/
def mR1 (m : Nat) : Nat → Nat → Prop := fun q k => (q = m ∧ (k = 12 ∨ k = 56 ∨ k = 60 ∨ k = 4 ∨ k = 61)) ∨ q = m + 7 ∨ q = m + 32 ∨ (m + 35 ≤ q ∧ q ≤ m + 38)
theorem mTape.mvq (h : mTape m s M) (he : ∀ q k, (q = m ∧ k = 12) ∨ q = m + 7 → M'.1 q k = M.1 q k) : mTape m s M' :=
  ⟨(he _ _ (Or.inl ⟨rfl, rfl⟩)).trans h.1, fun k => (he _ _ (Or.inr rfl)).trans (h.2 k)⟩
theorem mOrd.mvq (h : mOrd m s M) (he : ∀ q k, (q = m ∧ k = 56) ∨ q = m + 32 → M'.1 q k = M.1 q k) : mOrd m s M' :=
  ⟨(he _ _ (Or.inl ⟨rfl, rfl⟩)).trans h.1, fun k => (he _ _ (Or.inr rfl)).trans (h.2 k)⟩
theorem mLog.mvq (h : mLog m s M) (he : ∀ q k, (q = m ∧ k = 60) ∨ q = m + 35 ∨ q = m + 36 ∨ q = m + 37 → M'.1 q k = M.1 q k) : mLog m s M' :=
  ⟨(he _ _ (Or.inl ⟨rfl, rfl⟩)).trans h.1, fun k => (he _ _ (by omega)).trans (h.2.1 k), fun k => (he _ _ (by omega)).trans (h.2.2.1 k), fun k => (he _ _ (by omega)).trans (h.2.2.2 k)⟩
theorem mHunt.mvq (h : mHunt m s M) (he : ∀ q k, (q = m ∧ (k = 4 ∨ k = 61)) ∨ q = m + 38 → M'.1 q k = M.1 q k) : mHunt m s M' :=
  ⟨(he _ _ (by omega)).trans h.1, (he _ _ (by omega)).trans h.2.1, fun k => (he _ _ (by omega)).trans (h.2.2 k)⟩
theorem Jm.rest (h : Jm m s M) (hk : KT m s M') (he : Eo S M M') (hs : ∀ q k, S q k → ¬ mR1 m q k) : Jm m s M' := by
  obtain ⟨a1, a2, a3, a4, a5⟩ := h
  have g : ∀ q k, mR1 m q k → M'.1 q k = M.1 q k := fun q k z => (he _ _ (fun w => hs _ _ w z)).1
  exact ⟨hk, a2.mvq (fun q k z => g q k (by unfold mR1; omega)), a3.mvq (fun q k z => g q k (by unfold mR1; omega)), a4.mvq (fun q k z => g q k (by unfold mR1; omega)), a5.mvq (fun q k z => g q k (by unfold mR1; omega))⟩
theorem Jm.fr (h : Jm m s M) (he : Eo S M M') (hs : ∀ q k, S q k → q < m) : Jm m s M' :=
  h.rest (h.1.mv he (fun q k z => by have := hs _ _ z; omega)) he (fun q k z => by have := hs _ _ z; unfold mR1; omega)
theorem Jm.pin (p : Nat → Int) (h : Jm m s M) : Jm m (sP12 s p) M := h
theorem Js.pin (p : Nat → Int) (h : Js s) : Js (sP12 s p) := h
/-- nothing of the rest is touched -/
theorem Jc.rest (h : Jc Th n s c M) (hk : KM Th n s c M') (hc : cCh n M') (he : Eo S M M') (hs : ∀ q k, S q k → ¬ (cT1 n q k ∨ cO1 n q k ∨ cL1 n q k ∨ cH1 n q k ∨ cD1 n q k)) : Jc Th n s c M' := by
  obtain ⟨a1, a2, a3, a4, a5, a6, a7⟩ := h
  exact ⟨hk, a2.mvq he (fun q k z w => hs q k z (Or.inr (Or.inr (Or.inr (Or.inr w))))), a3.mvq he (fun q k z w => hs q k z (Or.inl w)), a4.mvq he (fun q k z w => hs q k z (Or.inr (Or.inl w))), a5.mvq he (fun q k z w => hs q k z (Or.inr (Or.inr (Or.inl w)))), a6.mvq he (fun q k z w => hs q k z (Or.inr (Or.inr (Or.inr (Or.inl w))))), hc⟩
end FR
