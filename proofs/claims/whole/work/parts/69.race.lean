/-! ===== ahead, cleverest ===== -/
theorem hB_nn (s : mS) (cl : Int) (b p n : Nat) : 0 ≤ hB s cl b p n := hV_nn (by omega) (gB_b s cl b) n 0
theorem hB_le {s : mS} (hG : rG s) (cl : Int) (b p n : Nat) : bS 8 (hB s cl b p) n ≤ 8 ^ n := by
  have gd := hG.2.2.1
  have h := fV_le (N := 8) (D := dN s) (g := gB s cl b) (e := eB s cl b) (st := wN s b) (p := p) (by omega) (gB_b s cl b) (by unfold dN; omega) (wN_b s b) n 0
  unfold fV at h
  rw [if_pos (by omega)] at h
  exact h
theorem hB_0 (s : mS) (cl : Int) (b : Nat) {p : Nat} (hp : 1 ≤ p) : hB s cl b p 0 = 0 := by
  unfold hB
  rw [hV, if_neg (by omega)]
theorem aS_b {Zx Zy : Nat → Int} (hx0 : ∀ t, 0 ≤ Zx t) (hy0 : ∀ t, 0 ≤ Zy t) (hx : ∀ t, bS 8 Zx t ≤ 8 ^ t) (hy : ∀ t, bS 8 Zy t ≤ 8 ^ t) : ∀ t, t ≤ 10 → 0 ≤ aS Zx Zy t ∧ aS Zx Zy t ≤ bS 8 Zx t * 8 ^ (10 - t) * 8 ^ 10 ∧ 0 ≤ lS Zx Zy t ∧ lS Zx Zy t ≤ bS 8 Zx t * 8 ^ (10 - t) * 8 ^ 10 := by
  have p8 : ∀ k : Nat, (0 : Int) ≤ 8 ^ k := fun k => Int.pow_nonneg (by omega)
  have split : ∀ t, t ≤ 10 → (8 : Int) ^ t * 8 ^ (10 - t) = 8 ^ 10 := fun t ht => by rw [← Int.pow_add]; congr 1; omega
  intro t
  induction t with
  | zero =>
    intro _
    have a : 0 ≤ bS 8 Zx 0 * 8 ^ (10 - 0) * 8 ^ 10 := Int.mul_nonneg (Int.mul_nonneg (hx0 0) (p8 _)) (p8 _)
    exact ⟨Int.le_refl _, a, Int.le_refl _, a⟩
  | succ t ih =>
    intro ht
    obtain ⟨i1, i2, i3, i4⟩ := ih (by omega)
    have yb : bS 8 Zy (t + 1) * 8 ^ (10 - (t + 1)) ≤ 8 ^ 10 := by
      rw [← split (t + 1) ht]
      exact Int.mul_le_mul_of_nonneg_right (hy (t + 1)) (p8 _)
    have yn : 0 ≤ bS 8 Zy (t + 1) * 8 ^ (10 - (t + 1)) := Int.mul_nonneg (bS_nn (by omega) hy0 _) (p8 _)
    have zy : Zy (t + 1) ≤ bS 8 Zy (t + 1) := by
      show Zy (t + 1) ≤ 8 * bS 8 Zy t + Zy (t + 1)
      have := bS_nn (N := 8) (by omega) hy0 t
      omega
    have zyb : Zy (t + 1) * 8 ^ (10 - (t + 1)) ≤ 8 ^ 10 := Int.le_trans (Int.mul_le_mul_of_nonneg_right zy (p8 _)) yb
    have zyn : 0 ≤ Zy (t + 1) * 8 ^ (10 - (t + 1)) := Int.mul_nonneg (hy0 _) (p8 _)
    have xn : 0 ≤ Zx (t + 1) * 8 ^ (10 - (t + 1)) := Int.mul_nonneg (hx0 _) (p8 _)
    have e : bS 8 Zx (t + 1) * 8 ^ (10 - (t + 1)) * 8 ^ 10 = bS 8 Zx t * 8 ^ (10 - t) * 8 ^ 10 + Zx (t + 1) * 8 ^ (10 - (t + 1)) * 8 ^ 10 := by
      show (8 * bS 8 Zx t + Zx (t + 1)) * 8 ^ (10 - (t + 1)) * 8 ^ 10 = _
      rw [show 10 - t = 10 - (t + 1) + 1 by omega, Int.pow_succ]
      grind
    have s1 : 0 ≤ Zx (t + 1) * 8 ^ (10 - (t + 1)) * (8 ^ 10 - bS 8 Zy (t + 1) * 8 ^ (10 - (t + 1))) := Int.mul_nonneg xn (by omega)
    have s2 : Zx (t + 1) * 8 ^ (10 - (t + 1)) * (8 ^ 10 - bS 8 Zy (t + 1) * 8 ^ (10 - (t + 1))) ≤ Zx (t + 1) * 8 ^ (10 - (t + 1)) * 8 ^ 10 := Int.mul_le_mul_of_nonneg_left (by omega) xn
    have s3 : 0 ≤ Zx (t + 1) * 8 ^ (10 - (t + 1)) * (Zy (t + 1) * 8 ^ (10 - (t + 1))) := Int.mul_nonneg xn zyn
    have s4 : Zx (t + 1) * 8 ^ (10 - (t + 1)) * (Zy (t + 1) * 8 ^ (10 - (t + 1))) ≤ Zx (t + 1) * 8 ^ (10 - (t + 1)) * 8 ^ 10 := Int.mul_le_mul_of_nonneg_left zyb xn
    refine ⟨?_, ?_, ?_, ?_⟩
    · show 0 ≤ aS Zx Zy t + _
      omega
    · show aS Zx Zy t + _ ≤ _
      rw [e]
      omega
    · show 0 ≤ lS Zx Zy t + _
      omega
    · show lS Zx Zy t + _ ≤ _
      rw [e]
      omega
/-- ahead and like, of the state -/
def aheadS (s : mS) (x y p : Nat) : Int := aS (hB s (s 4 x) x p) (hB s (s 4 y) y p) 10
def likeS (s : mS) (x y p : Nat) : Int := lS (hB s (s 4 x) x p) (hB s (s 4 y) y p) 10
theorem ahead_b {s : mS} (hG : rG s) (x y p : Nat) : (0 ≤ aheadS s x y p ∧ aheadS s x y p ≤ 1152921504606846976) ∧ 0 ≤ likeS s x y p ∧ likeS s x y p ≤ 1152921504606846976 := by
  have h := aS_b (Zx := hB s (s 4 x) x p) (Zy := hB s (s 4 y) y p) (hB_nn s _ x p) (hB_nn s _ y p) (hB_le hG _ x p) (hB_le hG _ y p) 10 (by omega)
  have c : bS 8 (hB s (s 4 x) x p) 10 * 8 ^ (10 - 10) * 8 ^ 10 ≤ 1152921504606846976 := by
    have := hB_le hG (s 4 x) x p 10
    have e : (8 : Int) ^ 10 = 1073741824 := by decide
    rw [e] at this ⊢
    rw [show (8 : Int) ^ (10 - 10) = 1 from rfl]
    omega
  unfold aheadS likeS
  omega
section RC
variable {d : Nat} {Th : mT} {M : mM} {m : Nat} {s : mS}
def sRa (m : Nat) : Nat → Nat → Prop := fun q k => sGo m q k ∨ q = m + 24 ∨ (q = m ∧ (k = 42 ∨ k = 43))
theorem sRa_k {m : Nat} : ∀ q k, sRa m q k → ¬ ((q = m ∧ (k ≤ 3 ∨ (5 ≤ k ∧ k ≤ 11) ∨ (21 ≤ k ∧ k ≤ 34) ∨ (37 ≤ k ∧ k ≤ 39) ∨ k = 41 ∨ (46 ≤ k ∧ k ≤ 52) ∨ (57 ≤ k ∧ k ≤ 59) ∨ 62 ≤ k)) ∨ (m + 1 ≤ q ∧ q ≤ m + 6) ∨ (m + 14 ≤ q ∧ q ≤ m + 18)) := by
  intro q k h
  unfold sRa sGo sSt sTh at h
  omega
set_option maxHeartbeats 1000000 in
theorem s11_races {Q : mM → Prop} {x y A : Nat} (hT : LyM Th m) (hK : KT m s M) (hG : rG s) (hO : rLw s) (hx : (x : Int) < s 0 1) (hy : (y : Int) < s 0 1) (hA : (A : Int) ≤ s 0 0) (hA1 : 1 ≤ A)
    (K : ∀ M', KT m s M' → M'.2.1 m 42 = jL (aheadS s x y A) → M'.2.1 m 43 = jL (likeS s x y A) → Eo (sRa m) M M' → Q M') : P11_races (d + 7) Th m (jI x) (jI y) (jI A) M Q := by
  have g0 := hG.1
  have g1 := hG.2.1
  have hT23 := hT 23 _ rfl
  have hT24 := hT 24 _ rfl
  have e8 : ∀ t : Nat, t ≤ 10 → (10 : Int32) - jI (t : Int) = jI ((10 - t : Nat) : Int) := fun t ht => by rw [kI10, jI_sub]; congr 1; omega
  have last : ∀ (u t : Nat) (M1 : mM), u + t = 10 → KT m s M1 → Eo (sRa m) M M1 → (∀ t', 1 ≤ t' → t' ≤ 10 → M1.2.1 (m + 24) t' = jL (hB s (s 4 x) x A t' * 8 ^ (10 - t'))) → (∀ t', 1 ≤ t' → t' ≤ 10 → M1.2.1 (m + 23) t' = jL (hB s (s 4 y) y A t')) → M1.2.1 m 42 = jL (aS (hB s (s 4 x) x A) (hB s (s 4 y) y A) t) → M1.2.1 m 43 = jL (lS (hB s (s 4 x) x A) (hB s (s 4 y) y A) t) → H11_races_87 (d + 7) Th Q m (jL (8 ^ 10 - bS 8 (hB s (s 4 y) y A) t * 8 ^ (10 - t))) (jI ((t + 1 : Nat) : Int)) M1 := by
    intro u
    induction u with
    | zero =>
      intro t M1 hu hK1 he hm hb h42 h43
      have ht : t = 10 := by omega
      subst ht
      refine h11_races_87 ?_
      rw [if_pos (by rw [jg10 (rI_nat (by omega))]; omega)]
      exact K M1 hK1 h42 h43 he
    | succ u ih =>
      intro t M1 hu hK1 he hm hb h42 h43
      refine h11_races_87 ?_
      rw [if_neg (by rw [jg10 (rI_nat (by omega))]; omega)]
      refine ⟨hT 0 _ rfl, m + 23, hK1.1 0 39 23 (by decide), m_ok_jI hT23 (by omega) (by omega) (by omega), ?_⟩
      rw [e8 (t + 1) (by omega)]
      refine s11_eights (by omega) ?_
      intro lv7 h7 lv8 h8
      rw [jInatN _ (by omega), hb (t + 1) (by omega) (by omega), jL_mul] at h7
      rw [h7, jL_sub] at h8
      refine ⟨m + 24, hK1.1 0 41 24 (by decide), m_ok_jI hT24 (by omega) (by omega) (by omega), ?_⟩
      rw [jInatN _ (by omega), hm (t + 1) (by omega) (by omega), h42]
      intro M12 h12
      have n24 : m + 24 ≠ m := by omega
      have n23 : m + 23 ≠ m := by omega
      have z24 : ∀ k, M12.2.1 (m + 24) k = M1.2.1 (m + 24) k := fun k => by rw [h12, m_ul_far n24]
      have z43 : M12.2.1 m 43 = jL (lS (hB s (s 4 x) x A) (hB s (s 4 y) y A) t) := by rw [h12, m_ul_row, if_neg (by omega)]; exact h43
      rw [z24, hm (t + 1) (by omega) (by omega), z43, jI_s, h7, h8]
      rw [h8] at h12
      have elat : (8 : Int) ^ 10 - bS 8 (hB s (s 4 y) y A) t * 8 ^ (10 - t) - hB s (s 4 y) y A (t + 1) * 8 ^ (10 - (t + 1)) = 8 ^ 10 - bS 8 (hB s (s 4 y) y A) (t + 1) * 8 ^ (10 - (t + 1)) := by
        show _ = 8 ^ 10 - (8 * bS 8 (hB s (s 4 y) y A) t + hB s (s 4 y) y A (t + 1)) * 8 ^ (10 - (t + 1))
        rw [show 10 - t = 10 - (t + 1) + 1 by omega, Int.pow_succ]
        grind
      rw [elat] at h12 ⊢
      have e9 : Eo (sRa m) M1 (m_ul M12 m 43 (jL (lS (hB s (s 4 x) x A) (hB s (s 4 y) y A) t) + jL (hB s (s 4 x) x A (t + 1) * 8 ^ (10 - (t + 1))) * jL (hB s (s 4 y) y A (t + 1) * 8 ^ (10 - (t + 1))))) := by
        rw [h12]
        exact (Eo.rf.ul (Or.inr (Or.inr ⟨rfl, Or.inl rfl⟩))).ul (Or.inr (Or.inr ⟨rfl, Or.inr rfl⟩))
      refine ih (t + 1) _ (by omega) (hK1.mv e9 sRa_k) (he.trans e9) ?_ ?_ ?_ ?_
      · intro t' a1 a2
        rw [m_ul_far n24, z24]
        exact hm t' a1 a2
      · intro t' a1 a2
        rw [m_ul_far n23, h12, m_ul_far n23]
        exact hb t' a1 a2
      · rw [m_ul_row, if_neg (by omega), h12, m_ul_row, if_pos rfl, jL_mul, jL_add]
        rfl
      · rw [m_ul_row, if_pos rfl, jL_mul, jL_add]
        rfl
  have mid : ∀ (u t : Nat) (M1 : mM), u + t = 10 → KT m s M1 → Eo (sRa m) M M1 → (∀ t', 1 ≤ t' → t' ≤ 10 → M1.2.1 (m + 23) t' = jL (hB s (s 4 x) x A t')) → (∀ t', 1 ≤ t' → t' ≤ t → M1.2.1 (m + 24) t' = jL (hB s (s 4 x) x A t' * 8 ^ (10 - t'))) → H11_races_17 (d + 7) Th Q m (jI y) (jI A) (jI ((t + 1 : Nat) : Int)) M1 := by
    intro u
    induction u with
    | zero =>
      intro t M1 hu hK1 he hb hm
      refine h11_races_17 ?_
      rw [if_pos (by rw [jg10 (rI_nat (by omega))]; omega)]
      refine ⟨hT 0 _ rfl, m + 4, hK1.1 0 8 4 (by decide), m_ok_jI (hT 4 _ rfl) (by omega) (by omega) (by omega), ?_⟩
      rw [jInatN y (by omega), hK1.2.1.2.2.2.2.2.2.2.1 y, kI10]
      refine s11_goesAlone (d := d) (b := y) (A := A) (T := 10) (cl := s 4 y) hT hK1 hG hO hy hA hA1 (by omega) ?_
      intro M5 k5 b5 s5 w5 e5
      intro M7 h7
      refine s11_eights (k := 10) (by omega) ?_
      have n24 : m + 24 ≠ m := by omega
      have n23 : m + 23 ≠ m := by omega
      have e9 : Eo (sRa m) M1 (m_ul M7 m 43 0) := by
        rw [h7]
        exact ((Eo.mono (S' := sRa m) e5 (fun q k z => Or.inl z)).trans (Eo.rf.ul (Or.inr (Or.inr ⟨rfl, Or.inl rfl⟩)))).trans (Eo.rf.ul (Or.inr (Or.inr ⟨rfl, Or.inr rfl⟩)))
      have q := last 10 0 (m_ul M7 m 43 0) (by omega) (hK1.mv e9 sRa_k) (he.trans e9) (fun t' a1 a2 => by
        rw [m_ul_far n24, h7, m_ul_far n24, (e5 _ _ (by unfold sGo sSt sTh; omega)).2.1]
        exact hm t' a1 (by omega)) (fun t' a1 a2 => by
        rw [m_ul_far n23, h7, m_ul_far n23]
        exact b5 t' a1 a2) (by rw [m_ul_row, if_neg (by omega), h7, m_ul_row, if_pos rfl]; rfl) (by rw [m_ul_row, if_pos rfl]; rfl)
      have e0 : (8 : Int) ^ 10 - bS 8 (hB s (s 4 y) y A) 0 * 8 ^ (10 - 0) = 8 ^ 10 := by
        have : bS 8 (hB s (s 4 y) y A) 0 = 0 := hB_0 s (s 4 y) y hA1
        rw [this]
        omega
      rw [e0] at q
      exact q
    | succ u ih =>
      intro t M1 hu hK1 he hb hm
      refine h11_races_17 ?_
      rw [if_neg (by rw [jg10 (rI_nat (by omega))]; omega)]
      refine ⟨hT 0 _ rfl, m + 24, hK1.1 0 41 24 (by decide), m + 23, hK1.1 0 39 23 (by decide), m_ok_jI hT23 (by omega) (by omega) (by omega), ?_⟩
      rw [e8 (t + 1) (by omega)]
      refine s11_eights (by omega) ?_
      refine ⟨m_okw_jI hT24 (by omega) (by omega) (by omega), ?_⟩
      rw [jInatN _ (by omega), hb (t + 1) (by omega) (by omega), jL_mul, jI_s]
      have e1 : Eo (sRa m) M1 (m_ul M1 (m + 24) (t + 1) (jL (hB s (s 4 x) x A (t + 1) * 8 ^ (10 - (t + 1))))) := Eo.rf.ul (Or.inr (Or.inl rfl))
      refine ih (t + 1) _ (by omega) (hK1.mv e1 sRa_k) (he.trans e1) (fun t' a1 a2 => by rw [m_ul_far (show m + 23 ≠ m + 24 by omega)]; exact hb t' a1 a2) (fun t' a1 a2 => ?_)
      rw [m_ul_row]
      by_cases c : t' = t + 1
      · rw [if_pos c, c]
      · rw [if_neg c]; exact hm t' a1 (by omega)
  refine e11_races ⟨hT 0 _ rfl, m + 4, hK.1 0 8 4 (by decide), m_ok_jI (hT 4 _ rfl) (by omega) (by omega) (by omega), ?_⟩
  rw [jInatN x (by omega), hK.2.1.2.2.2.2.2.2.2.1 x, kI10]
  refine s11_goesAlone (d := d) (b := x) (A := A) (T := 10) (cl := s 4 x) hT hK hG hO hx hA hA1 (by omega) ?_
  intro M5 k5 b5 s5 w5 e5
  exact mid 10 0 M5 (by omega) k5 (e5.mono (fun q k z => Or.inl z)) b5 (fun t' a1 a2 => absurd a1 (by omega))
end RC
