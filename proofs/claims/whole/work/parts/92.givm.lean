/-! ===== GIVEN: the model ===== -/
theorem mtN_s (s : mS) (a b p : Nat) : mtN s a b p = mtN s b a p := by
  induction p with
  | zero => rfl
  | succ p ih =>
    show mtN s a b p + _ = mtN s b a p + _
    rw [ih]
    by_cases c : jI (s 8 (5 * a + (p + 1))) = jI (s 8 (5 * b + (p + 1)))
    · rw [if_pos c, if_pos c.symm]
    · rw [if_neg c, if_neg (fun h => c h.symm)]
theorem mt_s (s : mS) (a b : Nat) : mt s a b = mt s b a := mtN_s _ _ _ _
def mtQ (s : mS) (n : Nat) (f : Nat → Nat) : Nat := sumN (fun i => sumN (fun j => mt s (f i) (f j)) i) n
theorem mtQ_R (s : mS) (n : Nat) (hn : n ≤ 5) (f : Nat → Nat) : mtQ s n f = mtR s n f := by
  match n, hn with
  | 0, _ => rfl
  | 1, _ => rfl
  | 2, _ => simp [mtQ, mtR, sumN]; exact mt_s _ _ _
  | 3, _ =>
    simp [mtQ, mtR, sumN, mt_s s (f 1) (f 0), mt_s s (f 2) (f 0), mt_s s (f 2) (f 1)]
    omega
  | 4, _ =>
    simp [mtQ, mtR, sumN, mt_s s (f 1) (f 0), mt_s s (f 2) (f 0), mt_s s (f 2) (f 1), mt_s s (f 3) (f 0), mt_s s (f 3) (f 1), mt_s s (f 3) (f 2)]
    omega
  | 5, _ =>
    simp [mtQ, mtR, sumN, mt_s s (f 1) (f 0), mt_s s (f 2) (f 0), mt_s s (f 2) (f 1), mt_s s (f 3) (f 0), mt_s s (f 3) (f 1), mt_s s (f 3) (f 2), mt_s s (f 4) (f 0), mt_s s (f 4) (f 1), mt_s s (f 4) (f 2), mt_s s (f 4) (f 3)]
    omega
def sGm (m : Nat) : Nat → Nat → Prop := fun q _ => q = m + 33 ∨ q = m + 34
section GM
variable {d : Nat} {Th : mT} {M : mM} {n m : Nat} {s : mS}
/-- what giving knows -/
def kGv (m : Nat) (s : mS) (R S : Nat) (M : mM) : Prop := RfM m M ∧ M.1 m 56 = jI (S : Int) ∧ M.1 m 0 = jI (R : Int) ∧ ∀ k, M.1 (m + 32) k = jI (s 8 k)
theorem kGv.mv {R S : Nat} {M' : mM} (h : kGv m s R S M) (he : Eo (sGm m) M M') : kGv m s R S M' :=
  ⟨fun o k v hv => by rw [(he _ _ (by unfold sGm; simp [rsM] at hv; omega)).2.2]; exact h.1 o k v hv, ((he _ _ (by unfold sGm; omega)).1).trans h.2.1, ((he _ _ (by unfold sGm; omega)).1).trans h.2.2.1, fun k => ((he _ _ (by unfold sGm; omega)).1).trans (h.2.2.2 k)⟩
theorem s11_meetings {Q : Int32 → mM → Prop} {R S N : Nat} {f : Nat → Nat} (hT : LyM Th m) (hC : kGv m s R S M) (hG : rG s) (hR : (s 0 0).toNat = R) (hR5 : R ≤ 5) (hS5 : S ≤ 5) (hN : N ≤ 5) (hf : ∀ i, f i < S)
    (hr : ∀ i, i < N → M.1 (m + 33) i = jI (f i : Nat)) (k : Q (jI (mtR s N f : Nat)) M) : P11_meetings (d + 1) Th m (jI N) M Q := by
  obtain ⟨c1, c2, c3, c4⟩ := hC
  rw [← mtQ_R s N hN f] at k
  have places : ∀ u p i j A, p + 1 + u = max R 1 → i < N → j < i → (H11_meetings_12 (d + 1) Th Q m (jI N) (jI (A + mt s (f i) (f j) : Nat)) (jI i) (jI ((j + 1 : Nat) : Int)) M) →
      H11_meetings_21 (d + 1) Th Q m (jI N) (jI (A + mtN s (f i) (f j) p : Nat)) (jI i) (jI j) (jI ((p + 1 : Nat) : Int)) M := by
    intro u
    induction u with
    | zero =>
      intro p i j A hp hi hj kk
      refine h11_meetings_21 ⟨hT 0 _ rfl, ?_⟩
      rw [c3, if_pos (by rw [jIle (rI_nat (by omega)) (rI_nat (by omega))]; omega), jI_s]
      unfold mt at kk
      rw [hR] at kk
      rw [show p = R - 1 by omega]
      exact kk
    | succ u ih =>
      intro p i j A hp hi hj kk
      have fi := hf i
      have fj := hf j
      refine h11_meetings_21 ⟨hT 0 _ rfl, ?_⟩
      rw [c3, if_neg (by rw [jIle (rI_nat (by omega)) (rI_nat (by omega))]; omega)]
      refine ⟨m + 32, c1 0 57 32 (by decide), m + 33, c1 0 58 33 (by decide), m_ok_jI (hT 33 _ rfl) (by omega) (by omega) (by omega), ?_⟩
      rw [jInatN i (by omega), jInatN j (by omega), hr i hi, hr j (by omega)]
      rw [show 5 * jI (f i : Nat) + jI ((p + 1 : Nat) : Int) = jI ((5 * f i + (p + 1) : Nat) : Int) by rw [i5, jI_mul, jI_add]; congr 1]
      rw [show 5 * jI (f j : Nat) + jI ((p + 1 : Nat) : Int) = jI ((5 * f j + (p + 1) : Nat) : Int) by rw [i5, jI_mul, jI_add]; congr 1]
      refine ⟨m_ok_jI (hT 32 _ rfl) (by omega) (by omega) (by omega), m_ok_jI (hT 33 _ rfl) (by omega) (by omega) (by omega), m_ok_jI (hT 32 _ rfl) (by omega) (by omega) (by omega), ?_⟩
      intro x hx
      rw [jInatN _ (by omega), jInatN _ (by omega), c4, c4] at hx
      have ex : x = jI (A + mtN s (f i) (f j) (p + 1) : Nat) := by
        rw [hx, show mtN s (f i) (f j) (p + 1) = mtN s (f i) (f j) p + (if jI (s 8 (5 * f i + (p + 1))) = jI (s 8 (5 * f j + (p + 1))) then 1 else 0) from rfl]
        split
        · rw [jI_s, Nat.add_assoc]
        · rw [i0, jI_add, Nat.add_zero, Int.add_zero]
      rw [ex, jI_s]
      exact ih (p + 1) i j A (by omega) hi hj kk
  have inner : ∀ u j i, j + u = i → i < N → (H11_meetings_4 (d + 1) Th Q m (jI N) (jI (sumN (fun i => sumN (fun j => mt s (f i) (f j)) i) (i + 1) : Nat)) (jI ((i + 1 : Nat) : Int)) M) →
      H11_meetings_12 (d + 1) Th Q m (jI N) (jI (sumN (fun i => sumN (fun j => mt s (f i) (f j)) i) i + sumN (fun j => mt s (f i) (f j)) j : Nat)) (jI i) (jI j) M := by
    intro u
    induction u with
    | zero =>
      intro j i hj hi kk
      refine h11_meetings_12 ?_
      rw [if_pos (by rw [jIle (rI_nat (by omega)) (rI_nat (by omega))]; omega), jI_s, show j = i by omega]
      exact kk
    | succ u ih =>
      intro j i hj hi kk
      refine h11_meetings_12 ?_
      rw [if_neg (by rw [jIle (rI_nat (by omega)) (rI_nat (by omega))]; omega)]
      have h := ih (j + 1) i (by omega) hi kk
      rw [show sumN (fun j => mt s (f i) (f j)) (j + 1) = sumN (fun j => mt s (f i) (f j)) j + mt s (f i) (f j) from rfl, ← Nat.add_assoc] at h
      exact places (max R 1 - 1) 0 i j _ (by omega) hi (by omega) h
  have outer : ∀ u i, i + u = N → H11_meetings_4 (d + 1) Th Q m (jI N) (jI (sumN (fun i => sumN (fun j => mt s (f i) (f j)) i) i : Nat)) (jI i) M := by
    intro u
    induction u with
    | zero =>
      intro i hi
      refine h11_meetings_4 ?_
      rw [if_pos (by rw [jIle (rI_nat (by omega)) (rI_nat (by omega))]; omega)]
      rw [show i = N by omega]
      exact k
    | succ u ih =>
      intro i hi
      refine h11_meetings_4 ?_
      rw [if_neg (by rw [jIle (rI_nat (by omega)) (rI_nat (by omega))]; omega)]
      exact inner i 0 i (by omega) (by omega) (ih (i + 1) (by omega))
  exact e11_meetings (outer N 0 (by omega))
theorem s11_given {Q : Int32 → mM → Prop} {zn zw : Int} (hT : LyM Th m) (hR : RfM m M) (hI : mHill m s M) (hO : mOrd m s M) (hG : rG s) (hn : rI zn) (hw : rI zw)
    (k0 : ¬ vGiv s zn zw → Q (-1) M) (k1 : vGiv s zn zw → ∀ M', Eo (sGm m) M M' → Q (jI (aGiv s zn.toNat zw)) M') : P11_given (d + 40) Th m (jI zn) (jI zw) M Q := by
  have g0 := hG.1
  have g5 := hG.2.2.2.2.2.1
  refine e11_given ?_
  refine s_in 2 5 rfl rfl rfl hn (rI_of (by omega) (by omega)) (rI_of (by omega) (by omega)) (fun a1 a2 => ?_) (fun a => ?_)
  rotate_left
  · rw [if_pos rfl]; exact k0 (fun h => a h.1)
  rw [if_neg (by decide)]
  refine ⟨hT 0 _ rfl, ?_⟩
  rw [hO.1]
  by_cases c : s 0 5 = 0
  · rw [if_pos (by rw [c]; rfl)]; exact k0 (fun h => h.2.2 c)
  rw [if_neg (by rw [jq0 (rI_of (by omega) (by omega))]; exact c)]
  refine s_in (-1) (zn - 1) rfl rfl (by rw [i1, jI_sub]) hw (rI_of (by omega) (by omega)) (rI_of (by omega) (by omega)) (fun a3 a4 => ?_) (fun a => ?_)
  rotate_left
  · rw [if_pos rfl]; exact k0 (fun h => a h.2.1)
  rw [if_neg (by decide)]
  have kk := k1 ⟨⟨a1, a2⟩, ⟨a3, a4⟩, c⟩
  obtain ⟨N, rfl⟩ : ∃ N : Nat, zn = N := ⟨zn.toNat, by omega⟩
  obtain ⟨S, hS⟩ : ∃ S : Nat, s 0 5 = S := ⟨(s 0 5).toNat, by omega⟩
  obtain ⟨R, hRr⟩ : ∃ R : Nat, s 0 0 = R := ⟨(s 0 0).toNat, by omega⟩
  have C : kGv m s R S M := ⟨hR, by rw [hO.1, hS], by rw [hI.1, hRr], hO.2⟩
  have hN : N ≤ 5 := by omega
  have hS5 : S ≤ 5 := by omega
  have hS0 : 0 < S := by omega
  have hp : 1 ≤ S ^ N := Nat.pow_pos hS0
  have p5 : S ^ N ≤ 3125 := Nat.le_trans (Nat.pow_le_pow_left hS5 N) (Nat.pow_le_pow_right (n := 5) (by omega) hN)
  unfold aGiv at kk
  rw [Int.toNat_natCast, show (s 0 5).toNat = S by omega] at kk
  have body : ∀ u code (M1 : mM), code + u = S ^ N → Eo (sGm m) M M1 → ((gBst s S N code).1 ≠ -1 → ∀ i, i < N → M1.1 (m + 34) i = jI (drw S N (gBst s S N code).2 i : Nat)) → H11_given_59 (d + 40) Th Q m (jI N) (jI zw) (jI ((S ^ N : Nat) : Int)) (jI (gBst s S N code).1) (jI code) M1 := by
    intro u
    induction u with
    | zero =>
      intro code M1 hcd e1 hb
      refine h11_given_59 ?_
      have hcd' : code = S ^ N := by omega
      rw [if_pos (by rw [jIle (rI_nat (by omega)) (rI_nat (by omega))]; omega)]
      have kk := kk M1 e1
      subst hcd'
      by_cases w : zw = -1
      · rw [if_pos (by rw [w]; rfl)]
        rw [if_pos w] at kk
        exact kk
      · rw [if_neg (by rw [jqN hw]; exact w)]
        rw [if_neg w] at kk
        refine ⟨hT 0 _ rfl, m + 34, (C.mv e1).1 0 59 34 (by decide), m_ok_jI (hT 34 _ rfl) (by omega) (by omega) (by omega), ?_⟩
        rw [jInat hw, hb (by rw [show S ^ N = (S ^ N - 1) + 1 by omega]; exact gBst_ne _ _ _ _) zw.toNat (by omega)]
        exact kk
    | succ u ih =>
      intro code M1 hcd e1 hb
      have mb := mtR_b hG hN (drw S N code)
      have bb := gBst_b hG (S := S) hN code
      have eB : gBst s S N (code + 1) = (if (gBst s S N code).1 = -1 ∨ (mtR s N (drw S N code) : Int) < (gBst s S N code).1 then ((mtR s N (drw S N code) : Int), code) else gBst s S N code) := rfl
      have decd : ∀ v (M2 : mM), v ≤ N → Eo (fun q _ => q = m + 33) M1 M2 → (∀ i, v ≤ i → i < N → M2.1 (m + 33) i = jI (drw S N code i : Nat)) → H11_given_74 (d + 40) Th Q m (jI N) (jI zw) (jI ((S ^ N : Nat) : Int)) (jI (gBst s S N code).1) (jI code) (jI ((code / S ^ (N - v) : Nat) : Int)) (jI ((v : Int) - 1)) M2 := by
        intro v
        induction v with
        | zero =>
          intro M2 hv e2 hr
          have e12 : Eo (sGm m) M M2 := e1.trans (e2.mono (fun q k h => by unfold sGm; omega))
          have C2 := C.mv e12
          refine h11_given_74 ?_
          rw [if_pos (by rw [jl0 (rI_of (by omega) (by omega))]; omega)]
          refine ⟨hT 0 _ rfl, ?_⟩
          refine s11_meetings (f := drw S N code) (d := d + 38) hT C2 hG (by omega) (by omega) hS5 hN (fun i => drw_lt hS0) (fun i hi => hr i (by omega) hi) ?_
          have copy : ((gBst s S N code).1 = -1 ∨ (mtR s N (drw S N code) : Int) < (gBst s S N code).1) → ∀ w j (M3 : mM), j + w = N → Eo (fun q _ => q = m + 34) M2 M3 → (∀ i, i < j → M3.1 (m + 34) i = jI (drw S N code i : Nat)) → H11_given_138 (d + 40) Th Q m (jI N) (jI zw) (jI ((S ^ N : Nat) : Int)) (jI (mtR s N (drw S N code) : Nat)) (jI code) (jI j) M3 := by
            intro hc w
            rw [if_pos hc] at eB
            induction w with
            | zero =>
              intro j M3 hj e3 h3
              refine h11_given_138 ?_
              rw [if_pos (by rw [jIle (rI_nat (by omega)) (rI_nat (by omega))]; omega), jI_s]
              have h := ih (code + 1) M3 (by omega) (e12.trans (e3.mono (fun q k h => by unfold sGm; omega))) (fun _ i hi => by rw [eB]; exact h3 i (by omega))
              rw [eB] at h
              exact h
            | succ w ihw =>
              intro j M3 hj e3 h3
              have e13 : Eo (sGm m) M M3 := e12.trans (e3.mono (fun q k h => by unfold sGm; omega))
              refine h11_given_138 ?_
              rw [if_neg (by rw [jIle (rI_nat (by omega)) (rI_nat (by omega))]; omega)]
              refine ⟨hT 0 _ rfl, m + 34, (C.mv e13).1 0 59 34 (by decide), m + 33, (C.mv e13).1 0 58 33 (by decide), m_ok_jI (hT 33 _ rfl) (by omega) (by omega) (by omega), m_okw_jI (hT 34 _ rfl) (by omega) (by omega) (by omega), ?_⟩
              rw [jInatN j (by omega), jI_s]
              refine ihw (j + 1) _ (by omega) (e3.ui rfl) (fun i hi => ?_)
              show (if m + 34 = m + 34 ∧ i = j then _ else M3.1 (m + 34) i) = _
              by_cases q : i = j
              · rw [if_pos ⟨rfl, q⟩, (e3 _ _ (by omega)).1, q]; exact hr j (by omega) (by omega)
              · rw [if_neg (fun h => q h.2)]; exact h3 i (by omega)
          by_cases c1 : (gBst s S N code).1 = -1
          · rw [if_pos (by rw [c1]; rfl), i0]
            exact copy (Or.inl c1) N 0 M2 (by omega) Eo.rf (fun i h => absurd h (by omega))
          · rw [if_neg (by rw [jqN (rI_of (by omega) (by omega))]; exact c1)]
            by_cases c2 : (mtR s N (drw S N code) : Int) < (gBst s S N code).1
            · rw [if_pos (by rw [jIlt (rI_nat (by omega)) (rI_of (by omega) (by omega))]; exact c2), i0]
              exact copy (Or.inr c2) N 0 M2 (by omega) Eo.rf (fun i h => absurd h (by omega))
            · rw [if_neg (by rw [jIlt (rI_nat (by omega)) (rI_of (by omega) (by omega))]; exact c2), jI_s]
              rw [if_neg (by omega)] at eB
              have h := ih (code + 1) M2 (by omega) e12 (fun hne i hi => by
                rw [eB] at hne ⊢
                rw [(e2 _ _ (by omega)).1]
                exact hb hne i hi)
              rw [eB] at h
              exact h
        | succ v ihv =>
          intro M2 hv e2 hr
          have e12 : Eo (sGm m) M M2 := e1.trans (e2.mono (fun q k h => by unfold sGm; omega))
          have C2 := C.mv e12
          have dl : code / S ^ (N - (v + 1)) ≤ 3125 := Nat.le_trans (Nat.div_le_self _ _) (by omega)
          obtain ⟨q, hq⟩ : ∃ q, code / S ^ (N - (v + 1)) = q := ⟨_, rfl⟩
          rw [hq] at dl
          rw [show ((v + 1 : Nat) : Int) - 1 = (v : Int) by omega, hq]
          refine h11_given_74 ?_
          rw [if_neg (by rw [jl0 (rI_nat (by omega))]; omega)]
          refine ⟨hT 0 _ rfl, m + 33, C2.1 0 58 33 (by decide), by rw [C2.2.1, jq0 (rI_nat (by omega))]; omega, m_okw_jI (hT 33 _ rfl) (by omega) (by omega) (by omega), ?_⟩
          intro M9 h9
          rw [jInatN v (by omega), C2.2.1, jI_rem (by omega) (by omega) (by omega) (by omega)] at h9
          have e9 : Eo (fun q _ => q = m + 33) M1 M9 := by rw [h9]; exact e2.ui rfl
          have C9 := C.mv (e1.trans (e9.mono (fun q k h => by unfold sGm; omega)))
          refine ⟨by rw [C9.2.1, jq0 (rI_nat (by omega))]; omega, ?_⟩
          intro x hx
          rw [C9.2.1, jI_div (by omega) (by omega) (by omega) (by omega)] at hx
          rw [hx, show jI (v : Int) + (-1) = jI ((v : Int) - 1) by rw [iN, jI_add]; congr 1]
          rw [show ((q : Int) / (S : Int)) = ((code / S ^ (N - v) : Nat) : Int) by rw [show N - v = N - (v + 1) + 1 by omega, ← dgt_div, hq]; rfl]
          refine ihv M9 (by omega) e9 (fun i hi1 hi2 => ?_)
          rw [h9]
          show (if m + 33 = m + 33 ∧ i = v then _ else M2.1 (m + 33) i) = _
          by_cases qi : i = v
          · rw [if_pos ⟨rfl, qi⟩, qi]
            unfold drw dgt
            rw [show N - 1 - v = N - (v + 1) by omega, hq]
            rfl
          · rw [if_neg (fun h => qi h.2)]; exact hr i (by omega) hi2
      refine h11_given_59 ?_
      rw [if_neg (by rw [jIle (rI_nat (by omega)) (rI_nat (by omega))]; omega)]
      intro x hx
      rw [hx, i1, jI_sub]
      have h := decd N M1 (Nat.le_refl _) Eo.rf (fun i h1 h2 => by omega)
      rw [Nat.sub_self, Nat.pow_zero, Nat.div_one] at h
      exact h
  have init : ∀ u i, i + u = N → H11_given_34 (d + 40) Th Q m (jI N) (jI zw) (jI ((S ^ i : Nat) : Int)) (jI i) M := by
    intro u
    induction u with
    | zero =>
      intro i hi
      have hiN : i = N := by omega
      subst hiN
      refine h11_given_34 ?_
      rw [if_pos (by rw [jIle (rI_nat (by omega)) (rI_nat (by omega))]; omega)]
      exact body (S ^ i) 0 M (by omega) Eo.rf (fun h => absurd rfl h)
    | succ u ih =>
      intro i hi
      refine h11_given_34 ?_
      rw [if_neg (by rw [jIle (rI_nat (by omega)) (rI_nat (by omega))]; omega)]
      refine ⟨hT 0 _ rfl, ?_⟩
      intro x hx
      rw [C.2.1, jI_mul] at hx
      rw [hx, jI_s, show ((S ^ i : Nat) : Int) * (S : Int) = ((S ^ (i + 1) : Nat) : Int) by rw [Nat.pow_succ]; push_cast; rfl]
      exact ih (i + 1) (by omega)
  exact init N 0 (by omega)
end GM
