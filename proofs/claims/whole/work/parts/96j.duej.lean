/-! ===== BEST in the model: all states that may come ===== -/
section MJ
variable {d : Nat} {Th : mT} {M : mM} {m : Nat} {s : mS}
/-- the marked states are some -/
def jWf (m : Nat) (s : mS) (L : Nat) (M : mM) : Prop := ∀ l k, 1 ≤ l → l ≤ L → k < 25200 → M.1 (m + 25) (25200 * l + k) ≠ 0 → k / 3 / 80 < 21 * uR s ∧ k / 3 % 80 < 16 * uR s
/-- what may come of a state is marked -/
def jCl (m : Nat) (s : mS) (x y nv l k : Nat) (M : mM) : Prop := uSuc s x y nv (l - 1) (k / 3 / 80) (k / 3 % 80) (k % 3) (fun i => M.1 (m + 25) i ≠ 0)
/-- a state's value and act are kept -/
def jVa (m : Nat) (s : mS) (x y nv l k : Nat) (M : mM) : Prop := M.2.1 (m + 26) (25200 * l + k) = jL (uV s x y nv l (k / 3 / 80) (uZy s y (k / 3 % 80) (k % 3))) ∧ M.1 (m + 27) (25200 * l + k) = jI (uAct s x y nv (l - 1) (k / 3 / 80) (uZy s y (k / 3 % 80) (k % 3)))
theorem pl_k {l t t' b : Nat} (h1 : t < 105) (h2 : t' < 80) (h3 : b ≤ 2) : ∃ k, k < 25200 ∧ pl l t t' b = 25200 * l + k ∧ k / 3 / 80 = t ∧ k / 3 % 80 = t' ∧ k % 3 = b := ⟨3 * (80 * t + t') + b, by omega, by unfold pl; omega, by omega, by omega, by omega⟩
set_option maxHeartbeats 2000000 in
theorem s11_bestOf {Q : Int64 → mM → Prop} {x y nv L xs ys b : Nat} (hT : LyM Th m) (hK : KT m s M) (hG : rG s) (hO : rLw s) (hxb : (x : Int) < s 0 1) (hyb : (y : Int) < s 0 1) (hn : nv ≤ 7) (hL : L ≤ 10) (hx : xs < 21 * uR s) (hy : ys < 16 * uR s) (hb : b ≤ 2)
    (K : ∀ M', KT m s M' → Eo (sBm m) M M' → (1 ≤ L → M'.1 (m + 27) (pl L xs ys b) = jI (uAct s x y nv (L - 1) xs (uZy s y ys b))) → Q (jL (uV s x y nv L xs (uZy s y ys b))) M') : P11_bestOf (d + 9) Th m (jI (x : Nat)) (jI (y : Nat)) (jI (L : Nat)) (jI (xs : Nat)) (jI (ys : Nat)) (jI (b : Nat)) (jI (nv : Nat)) M Q := by
  obtain ⟨e0, eR, eD, eD1, eD4⟩ := uR_e hG
  have zv := uZy_v (y := y) (b := b) eR hy
  have hT25 := hT 25 _ rfl
  refine e11_bestOf ?_
  simp only [jq0 (z := (L : Int)) (rI_nat (by omega))]
  by_cases hL0 : L = 0
  · rw [if_pos (by omega)]
    subst hL0
    have := K M hK Eo.rf (fun q => absurd q (by omega))
    rw [uV_0 (by omega) zv.2.2.2] at this
    exact this
  rw [if_neg (by omega)]
  obtain ⟨k0, k0b, k0e, k0x, k0y, k0z⟩ := pl_k (l := L) (t := xs) (t' := ys) (b := b) (by omega) (by omega) hb
  have hpl := pl_b (l := L) (x := xs) (y := ys) (b := b) hL (by omega) (by omega) hb
  -- the values, in order
  have vals : ∀ u j (M1 : mM), j + u = L + 1 → 1 ≤ j → KT m s M1 → Eo (sBm m) M M1 → jWf m s L M1 → (∀ l k, 2 ≤ l → l ≤ L → k < 25200 → M1.1 (m + 25) (25200 * l + k) ≠ 0 → jCl m s x y nv l k M1) → M1.1 (m + 25) (25200 * L + k0) ≠ 0 → (∀ l k, 1 ≤ l → l < j → k < 25200 → M1.1 (m + 25) (25200 * l + k) ≠ 0 → jVa m s x y nv l k M1) → H11_bestOf_116 (d + 9) Th Q m (jI (x : Nat)) (jI (y : Nat)) (jI (L : Nat)) (jI (xs : Nat)) (jI (ys : Nat)) (jI (b : Nat)) (jI (nv : Nat)) (jI (j : Nat)) M1 := by
    intro u
    induction u with
    | zero =>
      intro j M1 hj j1 k1 e1 wf cl st va
      refine h11_bestOf_116 ?_
      rw [if_pos (by rw [jIlt (rI_nat (by omega)) (rI_nat (by omega))]; omega)]
      refine ⟨hT 0 _ rfl, m + 26, k1.1 0 47 26 (by decide), ?_⟩
      refine s11_placeIn (d := d + 7) ?_
      refine ⟨m_ok_jI (hT 26 _ rfl) (by omega) (by omega) (by omega), ?_⟩
      rw [jInatN _ (by omega), k0e]
      have := va L k0 (by omega) (by omega) k0b st
      unfold jVa at this
      rw [k0x, k0y, k0z] at this
      rw [this.1]
      exact K M1 k1 e1 (fun _ => by rw [k0e]; exact this.2)
    | succ u ih =>
      intro j M1 hj j1 k1 e1 wf cl st va
      refine h11_bestOf_116 ?_
      rw [if_neg (by rw [jIlt (rI_nat (by omega)) (rI_nat (by omega))]; omega)]
      obtain ⟨l, rfl⟩ : ∃ l, j = l + 1 := ⟨j - 1, by omega⟩
      have inner : ∀ v k (M2 : mM), k + v = 25200 → KT m s M2 → Eo (sBm m) M M2 → jWf m s L M2 → (∀ l k, 2 ≤ l → l ≤ L → k < 25200 → M2.1 (m + 25) (25200 * l + k) ≠ 0 → jCl m s x y nv l k M2) → M2.1 (m + 25) (25200 * L + k0) ≠ 0 → (∀ l' k', 1 ≤ l' → (l' < l + 1 ∨ (l' = l + 1 ∧ k' < k)) → k' < 25200 → M2.1 (m + 25) (25200 * l' + k') ≠ 0 → jVa m s x y nv l' k' M2) → H11_bestOf_125 (d + 9) Th Q m (jI (x : Nat)) (jI (y : Nat)) (jI (L : Nat)) (jI (xs : Nat)) (jI (ys : Nat)) (jI (b : Nat)) (jI (nv : Nat)) (jI ((l + 1 : Nat) : Int)) (jI (k : Nat)) M2 := by
        intro v
        induction v with
        | zero =>
          intro k M2 hk k2 e2 wf2 cl2 st2 va2
          refine h11_bestOf_125 ?_
          rw [if_pos (by rw [jh25200 (rI_nat (by omega))]; omega), jI_s]
          exact ih (l + 1 + 1) M2 (by omega) (by omega) k2 e2 wf2 cl2 st2 (fun l' k' h1 h2 h3 h4 => va2 l' k' h1 (by omega) h3 h4)
        | succ v ihv =>
          intro k M2 hk k2 e2 wf2 cl2 st2 va2
          refine h11_bestOf_125 ?_
          rw [if_neg (by rw [jh25200 (rI_nat (by omega))]; omega)]
          have eix : (25200 : Int32) * jI ((l + 1 : Nat) : Int) + jI (k : Int) = jI ((25200 * (l + 1) + k : Nat) : Int) := by
            rw [kI25200, jI_mul, jI_add]; congr 1
          refine ⟨hT 0 _ rfl, m + 25, k2.1 0 46 25 (by decide), by rw [eix]; exact m_ok_jI hT25 (by omega) (by omega) (by omega), ?_⟩
          rw [eix, jInatN _ (by omega), jI_s]
          by_cases c : M2.1 (m + 25) (25200 * (l + 1) + k) = 0
          · rw [if_pos c]
            refine ihv (k + 1) M2 (by omega) k2 e2 wf2 cl2 st2 (fun l' k' h1 h2 h3 h4 => va2 l' k' h1 ?_ h3 h4)
            by_cases q : l' = l + 1 ∧ k' = k
            · rw [q.1, q.2] at h4
              exact absurd c h4
            · omega
          rw [if_neg c]
          obtain ⟨w1, w2⟩ := wf2 (l + 1) k (by omega) (by omega) (by omega) c
          refine s11_actsV (d := d) hT k2 hG hO hxb hyb hn (by omega) (by omega) w1 w2 (fun hl1 a ha hq t w t' w' z1 z2 z3 z4 => ?_) (fun M5 k5 e5 v5 a5 => ?_)
          · have sc := cl2 (l + 1) k (by omega) (by omega) (by omega) c a ha hq t w t' w' z1 z2 z3 z4
            have v1 := (lX_v hG w1 z1).1
            have v2 := (lY_v hG w2 z2).1
            have vb : bgA a (k / 3 / 80) (k / 3 % 80) t' ≤ 2 := bgf_b xBg_b
            obtain ⟨k', kb', ke', kx', ky', kz'⟩ := pl_k (l := l) (t := t) (t' := t') (b := bgA a (k / 3 / 80) (k / 3 % 80) t') (by unfold uX at v1; omega) (by unfold yOk at v2; omega) vb
            have sc' : M2.1 (m + 25) (pl l t t' (bgA a (k / 3 / 80) (k / 3 % 80) t')) ≠ 0 := sc
            rw [ke'] at sc' ⊢
            have := (va2 l k' hl1 (by omega) kb' sc').1
            rw [kx', ky', kz'] at this
            exact this
          · have e25 : ∀ i, M5.1 (m + 25) i = M2.1 (m + 25) i := e5.2.1
            refine ihv (k + 1) M5 (by omega) k5 (e2.trans e5.1) (fun l' k' h1 h2 h3 h4 => wf2 l' k' h1 h2 h3 (by rw [← e25]; exact h4)) (fun l' k' h1 h2 h3 h4 => ?_) (by rw [e25]; exact st2) (fun l' k' h1 h2 h3 h4 => ?_)
            · have q := cl2 l' k' h1 h2 h3 (by rw [← e25]; exact h4)
              intro a ha hq t w t' w' z1 z2 z3 z4
              have := q a ha hq t w t' w' z1 z2 z3 z4
              show M5.1 (m + 25) _ ≠ 0
              rw [e25]; exact this
            · by_cases q : l' = l + 1 ∧ k' = k
              · rw [q.1, q.2]
                exact ⟨v5, a5⟩
              · have hne : 25200 * l' + k' ≠ 25200 * (l + 1) + k := by omega
                have := va2 l' k' h1 (by omega) h3 (by rw [← e25]; exact h4)
                obtain ⟨g1, g2⟩ := e5.2.2 _ hne
                exact ⟨g1.trans this.1, g2.trans this.2⟩
      rw [show (0 : Int32) = jI ((0 : Nat) : Int) from rfl]
      exact inner 25200 0 M1 (by omega) k1 e1 wf cl st (fun l' k' h1 h2 h3 h4 => va l' k' h1 (by omega) h3 h4)
  -- the marks
  have marks : ∀ j (M1 : mM), 1 ≤ j → j ≤ L → KT m s M1 → Eo (sBm m) M M1 → jWf m s L M1 → (∀ l k, j < l → l ≤ L → k < 25200 → M1.1 (m + 25) (25200 * l + k) ≠ 0 → jCl m s x y nv l k M1) → M1.1 (m + 25) (25200 * L + k0) ≠ 0 → H11_bestOf_54 (d + 9) Th Q m (jI (x : Nat)) (jI (y : Nat)) (jI (L : Nat)) (jI (xs : Nat)) (jI (ys : Nat)) (jI (b : Nat)) (jI (nv : Nat)) (jI (j : Nat)) M1 := by
    intro j
    induction j with
    | zero => intro M1 h1; omega
    | succ l ih =>
      intro M1 j1 jL' k1 e1 wf cl st
      refine h11_bestOf_54 ?_
      simp only [je1 (z := ((l + 1 : Nat) : Int)) (rI_nat (by omega))]
      by_cases l0 : l = 0
      · rw [if_pos (by omega), show (1 : Int32) = jI ((1 : Nat) : Int) from rfl]
        exact vals L 1 M1 (by omega) (by omega) k1 e1 wf (fun l' k' h1 h2 h3 h4 => cl l' k' (by omega) h2 h3 h4) st (fun l' k' h1 h2 => absurd h2 (by omega))
      rw [if_neg (by omega)]
      have inner : ∀ v k (M2 : mM), k + v = 25200 → KT m s M2 → Eo (sBm m) M M2 → jWf m s L M2 → (∀ l' k', (l + 1 < l' ∨ (l' = l + 1 ∧ k' < k)) → l' ≤ L → k' < 25200 → M2.1 (m + 25) (25200 * l' + k') ≠ 0 → jCl m s x y nv l' k' M2) → M2.1 (m + 25) (25200 * L + k0) ≠ 0 → H11_bestOf_63 (d + 9) Th Q m (jI (x : Nat)) (jI (y : Nat)) (jI (L : Nat)) (jI (xs : Nat)) (jI (ys : Nat)) (jI (b : Nat)) (jI (nv : Nat)) (jI ((l + 1 : Nat) : Int)) (jI (k : Nat)) M2 := by
        intro v
        induction v with
        | zero =>
          intro k M2 hk k2 e2 wf2 cl2 st2
          refine h11_bestOf_63 ?_
          rw [if_pos (by rw [jh25200 (rI_nat (by omega))]; omega)]
          rw [show jI ((l + 1 : Nat) : Int) + -1 = jI (l : Int) by rw [show (-1 : Int32) = jI (-1) from rfl, jI_add]; congr 1; omega]
          exact ih M2 (by omega) (by omega) k2 e2 wf2 (fun l' k' h1 h2 h3 h4 => cl2 l' k' (by omega) h2 h3 h4) st2
        | succ v ihv =>
          intro k M2 hk k2 e2 wf2 cl2 st2
          refine h11_bestOf_63 ?_
          rw [if_neg (by rw [jh25200 (rI_nat (by omega))]; omega)]
          have eix : (25200 : Int32) * jI ((l + 1 : Nat) : Int) + jI (k : Int) = jI ((25200 * (l + 1) + k : Nat) : Int) := by
            rw [kI25200, jI_mul, jI_add]; congr 1
          refine ⟨hT 0 _ rfl, m + 25, k2.1 0 46 25 (by decide), by rw [eix]; exact m_ok_jI hT25 (by omega) (by omega) (by omega), ?_⟩
          rw [eix, jInatN _ (by omega), jI_s]
          by_cases c : M2.1 (m + 25) (25200 * (l + 1) + k) = 0
          · rw [if_pos c]
            refine ihv (k + 1) M2 (by omega) k2 e2 wf2 (fun l' k' h1 h2 h3 h4 => ?_) st2
            by_cases q : l' = l + 1 ∧ k' = k
            · rw [q.1, q.2] at h4
              exact absurd c h4
            · exact cl2 l' k' (by omega) h2 h3 h4
          rw [if_neg c]
          obtain ⟨w1, w2⟩ := wf2 (l + 1) k (by omega) (by omega) (by omega) c
          refine s11_actsM (d := d) hT k2 hG hO hxb hyb hn (by omega) (by omega) (by omega) w1 w2 (fun M5 k5 e5 g5 => ?_)
          have old : ∀ l' k', l + 1 ≤ l' → M5.1 (m + 25) (25200 * l' + k') = M2.1 (m + 25) (25200 * l' + k') := by
            intro l' k' h1
            rcases e5.2 (25200 * l' + k') with q | ⟨q1, t, t', b', q2, q3, q4, q5⟩
            · exact q
            · unfold pl at q2; omega
          refine ihv (k + 1) M5 (by omega) k5 (e2.trans e5.1) (fun l' k' h1 h2 h3 h4 => ?_) (fun l' k' h1 h2 h3 h4 => ?_) (e5.nz st2)
          · rcases e5.2 (25200 * l' + k') with q | ⟨q1, t, t', b', q2, q3, q4, q5⟩
            · exact wf2 l' k' h1 h2 h3 (by rw [← q]; exact h4)
            · obtain ⟨k'', kb', ke', kx', ky', kz'⟩ := pl_k (l := l) (t := t) (t' := t') (b := b') (by omega) (by omega) q5
              have : k' = k'' := by omega
              rw [this, kx', ky']
              exact ⟨q3, q4⟩
          · by_cases q : l' = l + 1 ∧ k' = k
            · rw [q.1, q.2]
              exact g5
            · have h5 : l + 1 ≤ l' := by omega
              rw [old l' k' h5] at h4
              have q := cl2 l' k' (by omega) h2 h3 h4
              intro a ha hq t w t' w' z1 z2 z3 z4
              exact e5.nz (q a ha hq t w t' w' z1 z2 z3 z4)
      rw [show (0 : Int32) = jI ((0 : Nat) : Int) from rfl]
      exact inner 25200 0 M1 (by omega) k1 e1 wf (fun l' k' h1 h2 h3 h4 => cl l' k' (by omega) h2 h3 h4) st
  -- all is wiped first
  have wipe : ∀ u j (M1 : mM), j + u = 25200 * (L + 1) → KT m s M1 → Eo (sBm m) M M1 → (∀ i, i < j → M1.1 (m + 25) i = 0) → H11_bestOf_9 (d + 9) Th Q m (jI (x : Nat)) (jI (y : Nat)) (jI (L : Nat)) (jI (xs : Nat)) (jI (ys : Nat)) (jI (b : Nat)) (jI (nv : Nat)) (jI (j : Nat)) M1 := by
    have ew : (25200 : Int32) * (jI (L : Int) + 1) = jI ((25200 * (L + 1) : Nat) : Int) := by
      rw [jI_s, kI25200, jI_mul]; congr 1
    intro u
    induction u with
    | zero =>
      intro j M1 hj k1 e1 hz
      refine h11_bestOf_9 ?_
      rw [ew, if_pos (by rw [jIle (rI_of' (by omega) (by omega)) (rI_of' (by omega) (by omega))]; omega)]
      refine ⟨hT 0 _ rfl, m + 25, k1.1 0 46 25 (by decide), ?_⟩
      refine s11_placeIn (d := d + 7) ?_
      refine ⟨m_okw_jI hT25 (by omega) (by omega) (by omega), ?_⟩
      rw [jInatN _ (by omega), show ((1 : Int32) &&& 1) = 1 from rfl]
      have e2 : Eo (sBm m) M1 (m_ui M1 (m + 25) (pl L xs ys b) 1) := Eo.ui Eo.rf (by unfold sBm; omega)
      refine marks L _ (by omega) (by omega) (k1.mv e2 sBm_k) (e1.trans e2) (fun l k h1 h2 h3 h4 => ?_) (fun l k h1 h2 => absurd h2 (by omega)) ?_
      · by_cases c : 25200 * l + k = pl L xs ys b
        · have : k = k0 := by omega
          rw [this, k0x, k0y]
          exact ⟨hx, hy⟩
        · refine absurd ?_ h4
          have := hz (25200 * l + k) (by omega)
          simp [m_u, c, this]
      · rw [k0e]; simp [m_u]
    | succ u ih =>
      intro j M1 hj k1 e1 hz
      refine h11_bestOf_9 ?_
      rw [ew, if_neg (by rw [jIle (rI_of' (by omega) (by omega)) (rI_of' (by omega) (by omega))]; omega)]
      refine ⟨hT 0 _ rfl, m + 25, k1.1 0 46 25 (by decide), m_okw_jI hT25 (by omega) (by omega) (by omega), ?_⟩
      rw [jInatN _ (by omega), jI_s, show ((0 : Int32) &&& 1) = 0 from rfl]
      have e2 : Eo (sBm m) M1 (m_ui M1 (m + 25) j 0) := Eo.ui Eo.rf (by unfold sBm; omega)
      refine ih (j + 1) _ (by omega) (k1.mv e2 sBm_k) (e1.trans e2) (fun i hi => ?_)
      by_cases c : i = j
      · rw [c]; simp [m_u]
      · have := hz i (by omega)
        simp [m_u, c, this]
  rw [show (0 : Int32) = jI ((0 : Nat) : Int) from rfl]
  exact wipe _ 0 M (Nat.zero_add _) hK Eo.rf (fun i hi => absurd hi (by omega))
end MJ
