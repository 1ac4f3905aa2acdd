/-! ===== AFTER, in the model ===== -/
section AF
variable {d : Nat} {Th : mT} {M : mM} {m : Nat} {s : mS}
def sAf (m : Nat) : Nat → Nat → Prop := fun q k => sTh m q k ∨ q = m + 21 ∨ q = m + 22 ∨ (q = m ∧ (k = 44 ∨ k = 45))
theorem sAf_k {m : Nat} : ∀ q k, sAf m q k → ¬ ((q = m ∧ (k ≤ 3 ∨ (5 ≤ k ∧ k ≤ 11) ∨ (21 ≤ k ∧ k ≤ 34) ∨ (37 ≤ k ∧ k ≤ 39) ∨ k = 41 ∨ (46 ≤ k ∧ k ≤ 52) ∨ (57 ≤ k ∧ k ≤ 59) ∨ 62 ≤ k)) ∨ (m + 1 ≤ q ∧ q ≤ m + 6) ∨ (m + 14 ≤ q ∧ q ≤ m + 18)) := by
  intro q k h
  unfold sAf sTh at h
  omega
/-- what is reckoned: all, or ahead alone -/
def accM (m : Nat) (w : Bool) (M : mM) : Int64 := M.2.1 m (if w then 45 else 44)
def phiM (m : Nat) (w : Bool) (F : Nat → Nat → Int) (M : mM) : Int64 := sL 1040 (fun j => M.2.1 (m + 22) j * jL (F (j / 13) (j % 13))) + accM m w M
theorem phi_upd {F : Nat → Nat → Int} {k late : Nat} {w : Bool} {v : Int64} (hl : late < 13) (h : 13 * k + late < 1040 ∨ F k late = 0) : phiM m w F (m_ul M (m + 22) (13 * k + late) (M.2.1 (m + 22) (13 * k + late) + v)) = phiM m w F M + v * jL (F k late) := by
  unfold phiM accM
  have e1 : sL 1040 (fun j => (m_ul M (m + 22) (13 * k + late) (M.2.1 (m + 22) (13 * k + late) + v)).2.1 (m + 22) j * jL (F (j / 13) (j % 13))) = sL 1040 (fun j => (if j = 13 * k + late then M.2.1 (m + 22) (13 * k + late) + v else M.2.1 (m + 22) j) * jL (F (j / 13) (j % 13))) := sL_ext (fun j _ => by rw [m_ul_row])
  have ek : (13 * k + late) / 13 = k := by omega
  have el : (13 * k + late) % 13 = late := by omega
  have := sL_upd' (n := 1040) (f := fun j => M.2.1 (m + 22) j) (X := fun j => jL (F (j / 13) (j % 13))) (a := 13 * k + late) (v := v) (by
    rcases h with h | h
    · exact Or.inl h
    · right; show jL (F ((13 * k + late) / 13) ((13 * k + late) % 13)) = 0; rw [ek, el, h, jL_0])
  rw [e1, this, m_ul_far (show m ≠ m + 22 by omega)]
  show _ + v * jL (F ((13 * k + late) / 13) ((13 * k + late) % 13)) + _ = _
  rw [ek, el]
  grind
theorem phi_mv {F : Nat → Nat → Int} {w : Bool} {M' : mM} (h22 : ∀ j, M'.2.1 (m + 22) j = M.2.1 (m + 22) j) (h44 : M'.2.1 m 44 = M.2.1 m 44) (h45 : M'.2.1 m 45 = M.2.1 m 45) : phiM m w F M' = phiM m w F M := by
  unfold phiM accM
  have : sL 1040 (fun j => M'.2.1 (m + 22) j * jL (F (j / 13) (j % 13))) = sL 1040 (fun j => M.2.1 (m + 22) j * jL (F (j / 13) (j % 13))) := sL_ext (fun j _ => by rw [h22])
  rw [this]
  cases w
  · simp [h44]
  · simp [h45]
theorem s11_solvesAfter {Q : mM → Prop} {x y r tick late last : Nat} {ways : Int64} {F : Bool → Nat → Nat → Int} (hT : LyM Th m) (hK : KT m s M) (hG : rG s) (hx : (x : Int) < s 0 1) (hy : (y : Int) < s 0 1) (hr : (r : Int) < s 0 0) (htk : 1 ≤ tick ∧ tick ≤ last) (hl : last ≤ 10) (hlate : late < 13)
    (K : ∀ M', KT m s M' → (∀ w, phiM m w (F w) M' = phiM m w (F w) M + ways * jL (aSo (wN s y) (wN s x) (s 0 0).toNat last w (F w) (last - tick) r late)) → (∀ k, M'.2.1 (m + 21) k = M.2.1 (m + 21) k) → M'.1 = M.1 → Eo (sAf m) M M' → Q M') : P11_solvesAfter (d + 4) Th m (jI x) (jI y) (jI r) (jI tick) (jI late) (jI last) ways M Q := by
  have g0 := hG.1
  have g1 := hG.2.1
  have hT22 := hT 22 _ rfl
  have hwx := wN_b s x r
  have hwy := wN_b s y r
  have etk : last - (last - tick) = tick := by omega
  refine e11_solvesAfter ⟨hT 0 _ rfl, ?_⟩
  refine s11_walkOf (d := d + 1) (b := x) (r := r) hT hK.1 hK.2.1 hG hx hr ?_
  intro xv4 h4
  have hx4 : xv4 = jI ((max tick late + wN s x r : Nat) : Int) := by
    rw [h4, wN_e]
    simp only [jIle (rI_nat (k := tick) (by omega)) (rI_nat (k := late) (by omega))]
    by_cases c : (tick : Int) ≤ late
    · rw [if_pos c, jI_add, show max tick late = late by omega]; rfl
    · rw [if_neg c, jI_add, show max tick late = tick by omega]; rfl
  subst hx4
  have hr0 : M.1 m 0 = jI ((s 0 0).toNat : Int) := by rw [hK.2.1.1]; congr 1; omega
  rw [hr0, jI_s]
  by_cases cr : r + 1 < (s 0 0).toNat
  · rw [if_neg (by rw [jIle (rI_nat (by omega)) (rI_nat (by omega))]; omega)]
    refine s11_walkOf (d := d + 1) (b := y) (r := r) hT hK.1 hK.2.1 hG hy hr ?_
    intro xv13 h13
    have hx13 : xv13 = jI ((13 * (16 * r + 5 + wN s y r) + min 12 (max tick late + wN s x r) : Nat) : Int) := by
      rw [h13, wN_e]
      simp only [je12 (z := ((max tick late + wN s x r : Nat) : Int)) (rI_nat (by omega))]
      rw [show (13 : Int32) = jI 13 from rfl, show (16 : Int32) = jI 16 from rfl, kI5, jI_mul, jI_add, jI_add, jI_mul]
      by_cases c : ((max tick late + wN s x r : Nat) : Int) ≤ 12
      · rw [if_pos c, jI_add]; congr 1; omega
      · rw [if_neg c, kI12, jI_add]; congr 1; omega
    subst hx13
    refine ⟨m + 22, hK.1 0 38 22 (by decide), m_ok_jI hT22 (by omega) (by omega) (by omega), m_okw_jI hT22 (by omega) (by omega) (by omega), ?_⟩
    rw [jInatN _ (by omega)]
    have e1 : Eo (sAf m) M (m_ul M (m + 22) (13 * (16 * r + 5 + wN s y r) + min 12 (max tick late + wN s x r)) (M.2.1 (m + 22) (13 * (16 * r + 5 + wN s y r) + min 12 (max tick late + wN s x r)) + ways)) := Eo.rf.ul (Or.inr (Or.inr (Or.inl rfl)))
    refine K _ (hK.mv e1 sAf_k) (fun w => ?_) (fun k => by rw [m_ul_far (show m + 21 ≠ m + 22 by omega)]) rfl e1
    rw [phi_upd (by omega) (Or.inl (by omega))]
    unfold aSo
    rw [if_pos cr, etk]
  · rw [if_pos (by rw [jIle (rI_nat (by omega)) (rI_nat (by omega))]; omega)]
    by_cases cl : max tick late + wN s x r ≤ last
    · rw [if_pos (by rw [jIle (rI_nat (by omega)) (rI_nat (by omega))]; omega)]
      rw [jI_sub, show (last : Int) - (tick : Int) = ((last - tick : Nat) : Int) by omega]
      refine s11_eights (by omega) ?_
      intro lv7 h7 M8 h8
      have e8 : Eo (sAf m) M M8 := by rw [h8]; exact Eo.rf.ul (Or.inr (Or.inr (Or.inr ⟨rfl, Or.inl rfl⟩)))
      have k8 := hK.mv e8 sAf_k
      refine s11_walkOf (d := d + 1) (b := y) (r := r) hT k8.1 k8.2.1 hG hy hr ?_
      rw [wN_e, jI_add, show (tick : Int) + (wN s y r : Int) = ((tick + wN s y r : Nat) : Int) by omega]
      simp only [jIle (rI_nat (k := tick + wN s y r) (by omega)) (rI_nat (k := max tick late + wN s x r) (by omega))]
      have e9 : ∀ v, Eo (sAf m) M (m_ul M8 m 45 v) := fun v => e8.trans (Eo.rf.ul (Or.inr (Or.inr (Or.inr ⟨rfl, Or.inr rfl⟩))))
      refine K _ (hK.mv (e9 _) sAf_k) (fun w => ?_) (fun k => by rw [m_ul_far (show m + 21 ≠ m by omega), h8, m_ul_far (show m + 21 ≠ m by omega)]) (by rw [h8]) (e9 _)
      have hrow : ∀ v, sL 1040 (fun j => (m_ul M8 m 45 v).2.1 (m + 22) j * jL (F w (j / 13) (j % 13))) = sL 1040 (fun j => M.2.1 (m + 22) j * jL (F w (j / 13) (j % 13))) := fun v => sL_ext (fun j _ => by rw [m_ul_far (show m + 22 ≠ m by omega), h8, m_ul_far (show m + 22 ≠ m by omega)])
      unfold phiM accM aSo
      rw [hrow, if_neg cr, etk]
      have v45 : M8.2.1 m 45 = M.2.1 m 45 := by rw [h8, m_ul_row, if_neg (by omega)]
      have v44 : M8.2.1 m 44 = M.2.1 m 44 + lv7 := by rw [h8, m_ul_row, if_pos rfl]
      cases w with
      | false =>
        simp only [Bool.false_eq_true, if_false]
        rw [m_u_nk (show (44 : Nat) ≠ 45 by omega), v44, h7, if_pos ⟨cl, fun z => z.elim⟩]
        grind
      | true =>
        simp only [if_true]
        rw [m_u_eq, v45, h7]
        by_cases ca : max tick late + wN s x r < tick + wN s y r
        · rw [if_neg (by omega), if_pos ⟨cl, fun _ => ca⟩]
          grind
        · rw [if_pos (by omega), if_neg (fun z => ca (z.2 trivial)), jL_0]
          grind
    · rw [if_neg (by rw [jIle (rI_nat (by omega)) (rI_nat (by omega))]; omega)]
      refine K M hK (fun w => ?_) (fun _ => rfl) rfl Eo.rf
      unfold aSo
      rw [if_neg cr, etk, if_neg (fun z => cl z.1), jL_0]
      grind
theorem jI_div13 {k : Nat} (hk : k ≤ 100000) : jI (k : Int) / 13 = jI ((k / 13 : Nat) : Int) := by
  rw [show (13 : Int32) = jI 13 from rfl, jI_div (by omega) (by omega) (by omega) (by omega)]; congr 1
theorem jI_mod13 {k : Nat} (hk : k ≤ 100000) : jI (k : Int) - jI (k : Int) / 13 * 13 = jI ((k % 13 : Nat) : Int) := by
  rw [show (13 : Int32) = jI 13 from rfl, jI_rem (by omega) (by omega) (by omega) (by omega)]; congr 1
def aW (s : mS) (x y last : Nat) (w : Bool) : Nat → Nat → Nat → Int := aV (dN s) (gB s (s 4 y) y) (eB s (s 4 y) y) (wN s y) (wN s x) (s 0 0).toNat last w
set_option maxHeartbeats 2000000 in
theorem s11_afterTick {Q : mM → Prop} {x y tick last : Nat} (hT : LyM Th m) (hK : KT m s M) (hG : rG s) (hO : rLw s) (hx : (x : Int) < s 0 1) (hy : (y : Int) < s 0 1) (htk : 1 ≤ tick ∧ tick ≤ last) (hl : last ≤ 10)
    (K : ∀ M', KT m s M' → (∀ w, accM m w M' + sL 1040 (fun j => M'.2.1 (m + 21) j * jL (aW s x y last w (last - tick) (j / 13) (j % 13))) = accM m w M + sL 1040 (fun j => M.2.1 (m + 21) j * jL (aW s x y last w (last - tick + 1) (j / 13) (j % 13)))) → Eo (sAf m) M M' → Q M') : P11_afterTick (d + 6) Th m (jI x) (jI y) (jI tick) (jI last) M Q := by
  have g0 := hG.1
  have g1 := hG.2.1
  have gd := hG.2.2.1
  have hT21 := hT 21 _ rfl
  have hT22 := hT 22 _ rfl
  have hdD : 1 ≤ dN s ∧ dN s ≤ 4 := by unfold dN; omega
  have hde : s 0 2 = (dN s : Int) := by unfold dN; omega
  let R := (s 0 0).toNat
  have hRe : s 0 0 = (R : Int) := by show s 0 0 = ((s 0 0).toNat : Int); omega
  have hR5 : R ≤ 5 := by omega
  let F : Bool → Nat → Nat → Int := fun w => aW s x y last w (last - tick)
  have e208 : (208 : Int32) * jI (s 0 0) = jI ((208 * R : Nat) : Int) := by rw [show (208 : Int32) = jI 208 from rfl, jI_mul, hRe]; congr 1
  let O : Bool → Nat → Int := fun w k => aOp (dN s) (gB s (s 4 y) y) (eB s (s 4 y) y) (wN s y) (wN s x) R last w (F w) (last - tick) (k / 13) (k % 13)
  -- the end of the tick
  have copy : ∀ (u j : Nat) (M1 : mM), u + j = 1040 → KT m s M1 → Eo (sAf m) M M1 → (∀ w, phiM m w (F w) M1 = accM m w M + sL (208 * R) (fun k => M.2.1 (m + 21) k * jL (O w k))) → (∀ k, k < j → M1.2.1 (m + 21) k = M1.2.1 (m + 22) k) → H11_afterTick_297 (d + 6) Th Q m (jI j) M1 := by
    intro u
    induction u with
    | zero =>
      intro j M1 hu hK1 he hI hc
      refine h11_afterTick_297 ?_
      rw [if_pos (by rw [jh1040 (rI_nat (by omega))]; omega)]
      refine K M1 hK1 (fun w => ?_) he
      have e1 : sL 1040 (fun j => M1.2.1 (m + 21) j * jL (aW s x y last w (last - tick) (j / 13) (j % 13))) = sL 1040 (fun j => M1.2.1 (m + 22) j * jL (F w (j / 13) (j % 13))) := sL_ext (fun k hk => by rw [hc k (by omega)])
      have e2 : sL 1040 (fun j => M.2.1 (m + 21) j * jL (aW s x y last w (last - tick + 1) (j / 13) (j % 13))) = sL (208 * R) (fun k => M.2.1 (m + 21) k * jL (O w k)) := by
        rw [sL_split (n := 208 * R) (by omega) (fun k h1 h2 => by
          show M.2.1 (m + 21) k * jL (aV (dN s) (gB s (s 4 y) y) (eB s (s 4 y) y) (wN s y) (wN s x) R last w (last - tick + 1) (k / 13) (k % 13)) = 0
          rw [aV_box (by omega), jL_0]
          grind)]
        refine sL_ext (fun k hk => ?_)
        show M.2.1 (m + 21) k * jL (aV (dN s) (gB s (s 4 y) y) (eB s (s 4 y) y) (wN s y) (wN s x) R last w (last - tick + 1) (k / 13) (k % 13)) = _
        rw [aV, if_neg (by omega)]
        rfl
      rw [e1, e2, ← hI w]
      unfold phiM
      grind
    | succ u ih =>
      intro j M1 hu hK1 he hI hc
      refine h11_afterTick_297 ?_
      rw [if_neg (by rw [jh1040 (rI_nat (by omega))]; omega)]
      refine ⟨hT 0 _ rfl, m + 21, hK1.1 0 37 21 (by decide), m + 22, hK1.1 0 38 22 (by decide), m_ok_jI hT22 (by omega) (by omega) (by omega), m_okw_jI hT21 (by omega) (by omega) (by omega), ?_⟩
      rw [jInatN j (by omega), jI_s]
      have e1 : Eo (sAf m) M1 (m_ul M1 (m + 21) j (M1.2.1 (m + 22) j)) := Eo.rf.ul (Or.inr (Or.inl rfl))
      refine ih (j + 1) _ (by omega) (hK1.mv e1 sAf_k) (he.trans e1) (fun w => ?_) (fun k hk => ?_)
      · rw [← hI w]
        exact phi_mv (fun j' => by rw [m_ul_far (show m + 22 ≠ m + 21 by omega)]) (by rw [m_ul_far (show m ≠ m + 21 by omega)]) (by rw [m_ul_far (show m ≠ m + 21 by omega)])
      · rw [m_ul_far (show m + 22 ≠ m + 21 by omega), m_ul_row]
        by_cases c : k = j
        · rw [if_pos c, c]
        · rw [if_neg c]; exact hc k (by omega)
  have push : ∀ (u j : Nat) (M1 : mM), u + j = 208 * R → KT m s M1 → Eo (sAf m) M M1 → (∀ k, M1.2.1 (m + 21) k = M.2.1 (m + 21) k) → (∀ w, phiM m w (F w) M1 = accM m w M + sL j (fun k => M.2.1 (m + 21) k * jL (O w k))) → H11_afterTick_28 (d + 6) Th Q m (jI x) (jI y) (jI tick) (jI last) (jI j) M1 := by
    intro u
    induction u with
    | zero =>
      intro j M1 hu hK1 he hn hI
      refine h11_afterTick_28 ⟨hT 0 _ rfl, ?_⟩
      rw [hK1.2.1.1, e208, if_pos (by rw [jIle (rI_nat (by omega)) (rI_nat (by omega))]; omega), i0]
      exact copy 1040 0 M1 (by omega) hK1 he (fun w => by rw [hI w, show j = 208 * R by omega]) (fun k h => absurd h (by omega))
    | succ u ih =>
      intro j M1 hu hK1 he hn hI
      refine h11_afterTick_28 ⟨hT 0 _ rfl, ?_⟩
      rw [hK1.2.1.1, e208, if_neg (by rw [jIle (rI_nat (by omega)) (rI_nat (by omega))]; omega)]
      refine ⟨m + 21, hK1.1 0 37 21 (by decide), m_ok_jI hT21 (by omega) (by omega) (by omega), ?_⟩
      rw [jInatN j (by omega), hn]
      by_cases hz : M.2.1 (m + 21) j = 0
      · rw [if_pos (by rw [lc_eq]; exact hz), jI_s]
        refine ih (j + 1) M1 (by omega) hK1 he hn (fun w => ?_)
        rw [hI w, sL_succ, hz]
        grind
      rw [if_neg (by rw [lc_eq]; exact hz)]
      intro xv5 h5 xv6 h6 xv7 h7 xv8 h8
      rw [jI_div13 (by omega)] at h5
      rw [jI_mod13 (by omega)] at h6
      subst h5 h6
      rw [jI_div16 (by omega)] at h7
      rw [jI_mod16 (by omega)] at h8
      subst h7 h8
      have hpl : j / 13 < 16 * R := by omega
      generalize hpe : j / 13 = p at *
      generalize hle : j % 13 = late at *
      have hlate : late < 13 := by omega
      simp only [je5 (z := ((p % 16 : Nat) : Int)) (rI_nat (by omega))]
      by_cases c5 : p % 16 ≤ 5
      · rw [if_pos (by omega)]
        refine ⟨m + 4, hK1.1 0 8 4 (by decide), m_ok_jI (hT 4 _ rfl) (by omega) (by omega) (by omega), ?_⟩
        rw [jInatN y (by omega), hK1.2.1.2.2.2.2.2.2.2.1]
        refine s11_thinks (d := d + 1) (b := y) (r := p / 16) (t := p % 16) (cl := s 4 y) hT hK1 hG hO hy (by omega) c5 ?_
        intro M12 k12 g35 g36 e12
        intro xv14 h14
        have hdl : M12.1 m 2 = jI (s 0 2) := k12.2.1.2.2.1
        rw [hdl, hde, show (13 : Int32) = jI 13 from rfl, show (16 : Int32) = jI 16 from rfl, kI11, jI_mul, jI_add, jI_add, jI_mul, jI_add] at h14
        have ex14 : xv14 = jI ((13 * (16 * (p / 16) + 11 + dN s) + late : Nat) : Int) := by rw [h14]; congr 1
        subst ex14
        refine s11_more (d := d + 4) c5 ?_
        intro xv17 h17
        rw [show (13 : Int32) = jI 13 from rfl, show (16 : Int32) = jI 16 from rfl, jI_mul, jI_add, jI_mul, jI_add] at h17
        have ex17 : xv17 = jI ((13 * (16 * (p / 16) + kmo (p % 16)) + late : Nat) : Int) := by rw [h17]; congr 1
        subst ex17
        have hkm : kmo (p % 16) ≤ 5 := by unfold kmo; split <;> omega
        have o2 : m_ok Th (m + 22) .long (jI ((13 * (16 * (p / 16) + 11 + dN s) + late : Nat) : Int)) := m_ok_jI hT22 (by omega) (by omega) (by omega)
        have o2w : m_okw Th (m + 22) .long (jI ((13 * (16 * (p / 16) + 11 + dN s) + late : Nat) : Int)) := m_okw_jI hT22 (by omega) (by omega) (by omega)
        have o3 : m_ok Th (m + 22) .long (jI ((13 * (16 * (p / 16) + kmo (p % 16)) + late : Nat) : Int)) := m_ok_jI hT22 (by omega) (by omega) (by omega)
        have o3w : m_okw Th (m + 22) .long (jI ((13 * (16 * (p / 16) + kmo (p % 16)) + late : Nat) : Int)) := m_okw_jI hT22 (by omega) (by omega) (by omega)
        have oj : m_ok Th (m + 21) .long (jI (j : Int)) := m_ok_jI hT21 (by omega) (by omega) (by omega)
        refine ⟨m + 22, k12.1 0 38 22 (by decide), o2, m + 21, k12.1 0 37 21 (by decide), oj, o2w, o3, ?_⟩
        rw [jInatN _ (by omega), g36, jInatN _ (by omega)]
        intro M26 h26
        refine ⟨o3w, ?_⟩
        intro M28 h28
        have gb := gK_b s (s 4 y) y (p / 16) (p % 16)
        have eb := eK_b s (s 4 y) y (p / 16) (p % 16)
        have n12 : m + 21 ≠ m + 22 := by omega
        have v12 : ∀ k, M12.2.1 (m + 21) k = M.2.1 (m + 21) k := fun k => ((e12 _ _ (by unfold sTh; omega)).2.1).trans (hn k)
        have x35 : M26.1 m 35 = jI (gK s (s 4 y) y (p / 16) (p % 16)) := by rw [h26]; exact g35
        have x36 : M26.1 m 36 = jI (eK s (s 4 y) y (p / 16) (p % 16)) := by rw [h26]; exact g36
        have y35 : M28.1 m 35 = jI (gK s (s 4 y) y (p / 16) (p % 16)) := by rw [h28]; exact x35
        have v26 : ∀ k, M26.2.1 (m + 21) k = M.2.1 (m + 21) k := fun k => by rw [h26, m_ul_far n12]; exact v12 k
        have v28 : ∀ k, M28.2.1 (m + 21) k = M.2.1 (m + 21) k := fun k => by rw [h28, m_ul_far n12]; exact v26 k
        rw [y35, v28, jI_long (by omega) (by omega), jI_s]
        rw [x35, x36, i8, jI_sub, jI_sub, jI_long (by omega) (by omega), v26] at h28
        rw [jI_long (by omega) (by omega), v12] at h26
        have e28 : Eo (sAf m) M1 M28 := by
          rw [h28, h26]
          exact ((Eo.mono (S' := sAf m) e12 (fun q k z => Or.inl z)).trans (Eo.rf.ul (Or.inr (Or.inr (Or.inl rfl))))).trans (Eo.rf.ul (Or.inr (Or.inr (Or.inl rfl))))
        have k28 := hK1.mv e28 sAf_k
        have ph28 : ∀ w, phiM m w (F w) M28 = phiM m w (F w) M1 + jL (eK s (s 4 y) y (p / 16) (p % 16)) * M.2.1 (m + 21) j * jL (F w (16 * (p / 16) + 11 + dN s) late) + jL (8 - gK s (s 4 y) y (p / 16) (p % 16) - eK s (s 4 y) y (p / 16) (p % 16)) * M.2.1 (m + 21) j * jL (F w (16 * (p / 16) + kmo (p % 16)) late) := by
          intro w
          rw [h28, phi_upd hlate (Or.inl (by omega)), h26, phi_upd hlate (Or.inl (by omega))]
          have : phiM m w (F w) M12 = phiM m w (F w) M1 := phi_mv (fun j' => (e12 _ _ (by unfold sTh; omega)).2.1) (e12 _ _ (by unfold sTh; omega)).2.1 (e12 _ _ (by unfold sTh; omega)).2.1
          rw [this]
        have eO : ∀ w, O w j = gK s (s 4 y) y (p / 16) (p % 16) * aSo (wN s y) (wN s x) R last w (F w) (last - tick) (p / 16) late + eK s (s 4 y) y (p / 16) (p % 16) * F w (16 * (p / 16) + 11 + dN s) late + (8 - gK s (s 4 y) y (p / 16) (p % 16) - eK s (s 4 y) y (p / 16) (p % 16)) * F w (16 * (p / 16) + kmo (p % 16)) late := by
          intro w
          show aOp (dN s) (gB s (s 4 y) y) (eB s (s 4 y) y) (wN s y) (wN s x) R last w (F w) (last - tick) (j / 13) (j % 13) = _
          rw [hpe, hle]
          unfold aOp
          rw [if_pos c5]
          rfl
        simp only [je0 (z := gK s (s 4 y) y (p / 16) (p % 16)) (rI_of (by omega) (by omega))]
        by_cases cg : gK s (s 4 y) y (p / 16) (p % 16) ≤ 0
        · rw [if_pos cg]
          refine ih (j + 1) M28 (by omega) k28 (he.trans e28) v28 (fun w => ?_)
          rw [ph28, hI w, sL_succ, eO w, show gK s (s 4 y) y (p / 16) (p % 16) = 0 by omega, jLa, jLa, jLm, jLm, jLm, jL_0]
          grind
        · rw [if_neg cg]
          refine s11_solvesAfter (d := d + 1) (F := F) hT k28 hG hx hy (by omega) htk hl hlate ?_
          intro M29 k29 ph29 v29 i29 e29
          refine ih (j + 1) M29 (by omega) k29 ((he.trans e28).trans e29) (fun k => (v29 k).trans (v28 k)) (fun w => ?_)
          rw [ph29 w, ph28, hI w, sL_succ, eO w, jLa, jLa, jLm, jLm, jLm]
          grind
      · rw [if_neg (by omega)]
        have hrR : jI (s 0 0) = jI (R : Int) := by rw [← hRe]
        rw [hrR]
        refine s11_goesOn (d := d + 4) (k := p) (A := R) (by omega) hR5 (by omega) ?_
        intro xv33 h33
        rw [show (13 : Int32) = jI 13 from rfl, jI_mul, jI_add] at h33
        have ex33 : xv33 = jI ((13 * kgo p + late : Nat) : Int) := by rw [h33]; congr 1
        subst ex33
        have hgl := kgo_lt (k := p) (A := R) (by omega) (by omega)
        refine ⟨m + 22, hK1.1 0 38 22 (by decide), m_ok_jI hT22 (by omega) (by omega) (by omega), m + 21, hK1.1 0 37 21 (by decide), m_ok_jI hT21 (by omega) (by omega) (by omega), m_okw_jI hT22 (by omega) (by omega) (by omega), ?_⟩
        rw [jInatN _ (by omega), hn, jI_s]
        have n12 : m + 21 ≠ m + 22 := by omega
        have e1 : Eo (sAf m) M1 (m_ul M1 (m + 22) (13 * kgo p + late) (M1.2.1 (m + 22) (13 * kgo p + late) + 8 * M.2.1 (m + 21) j)) := Eo.rf.ul (Or.inr (Or.inr (Or.inl rfl)))
        refine ih (j + 1) _ (by omega) (hK1.mv e1 sAf_k) (he.trans e1) (fun k => by rw [m_ul_far n12]; exact hn k) (fun w => ?_)
        rw [phi_upd hlate (by
          by_cases cb : kgo p = 16 * R
          · right
            show aV (dN s) (gB s (s 4 y) y) (eB s (s 4 y) y) (wN s y) (wN s x) R last w (last - tick) (kgo p) late = 0
            exact aV_box (by omega)
          · left; omega), hI w, sL_succ]
        have eO : O w j = 8 * F w (kgo p) late := by
          show aOp (dN s) (gB s (s 4 y) y) (eB s (s 4 y) y) (wN s y) (wN s x) R last w (F w) (last - tick) (j / 13) (j % 13) = _
          rw [hpe, hle]
          unfold aOp
          rw [if_neg c5]
        rw [eO, jLm, show jL 8 = 8 from rfl]
        grind
  have wipe : ∀ (u j : Nat) (M1 : mM), u + j = 1040 → KT m s M1 → Eo (sAf m) M M1 → (∀ k, M1.2.1 (m + 21) k = M.2.1 (m + 21) k) → (∀ w, accM m w M1 = accM m w M) → (∀ k, k < j → M1.2.1 (m + 22) k = 0) → H11_afterTick_3 (d + 6) Th Q m (jI x) (jI y) (jI tick) (jI last) (jI j) M1 := by
    intro u
    induction u with
    | zero =>
      intro j M1 hu hK1 he hn ha hz
      refine h11_afterTick_3 ?_
      rw [if_pos (by rw [jh1040 (rI_nat (by omega))]; omega), i0]
      refine push (208 * R) 0 M1 (by omega) hK1 he hn (fun w => ?_)
      unfold phiM
      rw [sL_zero (fun k hk => by rw [hz k (by omega)]; grind), ha w]
      show 0 + _ = _ + 0
      grind
    | succ u ih =>
      intro j M1 hu hK1 he hn ha hz
      refine h11_afterTick_3 ?_
      rw [if_neg (by rw [jh1040 (rI_nat (by omega))]; omega)]
      refine ⟨hT 0 _ rfl, m + 22, hK1.1 0 38 22 (by decide), m_okw_jI hT22 (by omega) (by omega) (by omega), ?_⟩
      rw [jInatN j (by omega), jI_s]
      have e1 : Eo (sAf m) M1 (m_ul M1 (m + 22) j 0) := Eo.rf.ul (Or.inr (Or.inr (Or.inl rfl)))
      refine ih (j + 1) _ (by omega) (hK1.mv e1 sAf_k) (he.trans e1) (fun k => by rw [m_ul_far (show m + 21 ≠ m + 22 by omega)]; exact hn k) (fun w => ?_) (fun k hk => ?_)
      · unfold accM
        rw [m_ul_far (show m ≠ m + 22 by omega)]
        exact ha w
      · rw [m_ul_row]
        by_cases c : k = j
        · rw [if_pos c]
        · rw [if_neg c]; exact hz k (by omega)
  refine e11_afterTick ?_
  rw [i0]
  exact wipe 1040 0 M (by omega) hK Eo.rf (fun _ => rfl) (fun _ => rfl) (fun k h => absurd h (by omega))
end AF
