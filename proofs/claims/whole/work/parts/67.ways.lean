/-! ===== ways ===== -/
theorem rsA_out {n : Nat} {S : Nat → Nat → Prop} (h : ∀ o k, S (n + o) k → ¬ ((o, k) ∈ rsA.map (fun t => (t.1, t.2.1)))) : ∀ o k v, (o, k, v) ∈ rsA → ¬ S (n + o) k := by
  intro o k v hv hs
  exact h o k hs (List.mem_map.mpr ⟨_, hv, rfl⟩)
section WY
variable {d : Nat} {Th : mT} {M : mM} {n : Nat} {s : mS} {c : Int}
theorem lyPa39 (hT : Ly Th n) (hR : Rf n M) : lyPa Th (n + 39) M := by
  refine ⟨⟨hT 39 _ rfl, hT 40 _ rfl, hT 41 _ rfl, fun r hr => ?_, hT 47 _ rfl, fun r hr => ?_⟩, hR 39 0 40 (by decide), hR 39 1 41 (by decide), hR 39 2 47 (by decide), fun r hr => ?_, fun r hr => ?_⟩
  · have : r = 0 ∨ r = 1 ∨ r = 2 ∨ r = 3 ∨ r = 4 := by omega
    rcases this with z | z | z | z | z <;> subst z
    · exact hT 42 _ rfl
    · exact hT 43 _ rfl
    · exact hT 44 _ rfl
    · exact hT 45 _ rfl
    · exact hT 46 _ rfl
  · have : r = 0 ∨ r = 1 ∨ r = 2 ∨ r = 3 ∨ r = 4 ∨ r = 5 := by omega
    rcases this with z | z | z | z | z | z <;> subst z
    · exact hT 48 _ rfl
    · exact hT 49 _ rfl
    · exact hT 50 _ rfl
    · exact hT 51 _ rfl
    · exact hT 52 _ rfl
    · exact hT 53 _ rfl
  · have : r = 0 ∨ r = 1 ∨ r = 2 ∨ r = 3 ∨ r = 4 := by omega
    rcases this with z | z | z | z | z <;> subst z
    · exact hR 41 0 42 (by decide)
    · exact hR 41 1 43 (by decide)
    · exact hR 41 2 44 (by decide)
    · exact hR 41 3 45 (by decide)
    · exact hR 41 4 46 (by decide)
  · have : r = 0 ∨ r = 1 ∨ r = 2 ∨ r = 3 ∨ r = 4 ∨ r = 5 := by omega
    rcases this with z | z | z | z | z | z <;> subst z
    · exact hR 47 0 48 (by decide)
    · exact hR 47 1 49 (by decide)
    · exact hR 47 2 50 (by decide)
    · exact hR 47 3 51 (by decide)
    · exact hR 47 4 52 (by decide)
    · exact hR 47 5 53 (by decide)
theorem lyPa54 (hT : Ly Th n) (hR : Rf n M) : lyPa Th (n + 54) M := by
  refine ⟨⟨hT 54 _ rfl, hT 55 _ rfl, hT 56 _ rfl, fun r hr => ?_, hT 62 _ rfl, fun r hr => ?_⟩, hR 54 0 55 (by decide), hR 54 1 56 (by decide), hR 54 2 62 (by decide), fun r hr => ?_, fun r hr => ?_⟩
  · have : r = 0 ∨ r = 1 ∨ r = 2 ∨ r = 3 ∨ r = 4 := by omega
    rcases this with z | z | z | z | z <;> subst z
    · exact hT 57 _ rfl
    · exact hT 58 _ rfl
    · exact hT 59 _ rfl
    · exact hT 60 _ rfl
    · exact hT 61 _ rfl
  · have : r = 0 ∨ r = 1 ∨ r = 2 ∨ r = 3 ∨ r = 4 ∨ r = 5 := by omega
    rcases this with z | z | z | z | z | z <;> subst z
    · exact hT 63 _ rfl
    · exact hT 64 _ rfl
    · exact hT 65 _ rfl
    · exact hT 66 _ rfl
    · exact hT 67 _ rfl
    · exact hT 68 _ rfl
  · have : r = 0 ∨ r = 1 ∨ r = 2 ∨ r = 3 ∨ r = 4 := by omega
    rcases this with z | z | z | z | z <;> subst z
    · exact hR 56 0 57 (by decide)
    · exact hR 56 1 58 (by decide)
    · exact hR 56 2 59 (by decide)
    · exact hR 56 3 60 (by decide)
    · exact hR 56 4 61 (by decide)
  · have : r = 0 ∨ r = 1 ∨ r = 2 ∨ r = 3 ∨ r = 4 ∨ r = 5 := by omega
    rcases this with z | z | z | z | z | z <;> subst z
    · exact hR 62 0 63 (by decide)
    · exact hR 62 1 64 (by decide)
    · exact hR 62 2 65 (by decide)
    · exact hR 62 3 66 (by decide)
    · exact hR 62 4 67 (by decide)
    · exact hR 62 5 68 (by decide)
/-- both paces' scratch -/
def sPp (n : Nat) : Nat → Nat → Prop := fun q k => sPa (n + 39) q k ∨ sPa (n + 54) q k
theorem sPp_rf (n : Nat) : ∀ o k v, (o, k, v) ∈ rsA → ¬ sPp n (n + o) k := by
  intro o k v hv h
  unfold sPp sPa at h
  simp [rsA] at hv
  omega
theorem KM.mvS {S : Nat → Nat → Prop} {M' : mM} (hT : gTh Th n) (h : KM Th n s c M) (he : Eo S M M') (h1 : ∀ o k v, (o, k, v) ∈ rsA → ¬ S (n + o) k) (h2 : ∀ q k, S q k → n ≤ q ∧ ¬ (q = n + 3 ∧ k ≤ 4) ∧ ¬ (n + 9 ≤ q ∧ q ≤ n + 34) ∧ ¬ (q = n + 4 ∧ 1 ≤ k ∧ k ≤ 4) ∧ q ≠ n + 6 ∧ q ≠ n + 7) : KM Th n s c M' := by
  obtain ⟨a1, a2, a3, a4⟩ := h
  refine ⟨a1.mvS hT he h1 (fun q k hq => ?_), ((he _ _ (fun z => (h2 _ _ z).2.1 ⟨rfl, by omega⟩)).1).trans a2, a3, fun b hb => ?_⟩
  · have := h2 q k hq
    refine ⟨this.1, ?_, ?_⟩
    · rintro (z | z)
      · exact this.2.1 ⟨z.1, by omega⟩
      · exact this.2.2.1 ⟨z.1, by omega⟩
    · rintro (z | z | z)
      · exact this.2.2.2.1 z
      · exact this.2.2.2.2.1 z
      · exact this.2.2.2.2.2 z
  · obtain ⟨cb, t1, t2, t3, t4, t5⟩ := a4 b hb
    have far : ∀ q' k, aSk n b ≤ q' → q' ≤ aSk n b + 3 → M'.1 q' k = M.1 q' k := fun q' k x1 x2 => (he _ _ (fun z => (h2 _ _ z).2.2.1 (by unfold aSk at *; omega))).1
    exact ⟨cb, (far _ _ (by omega) (by omega)).trans t1, t2, t3, fun x1 x2 => vSk.mv (t4 x1 x2) (fun q' k a1 a2 => far q' k (by omega) (by omega)), t5⟩
theorem sPp_h : ∀ q k, sPp n q k → n ≤ q ∧ ¬ (q = n + 3 ∧ k ≤ 4) ∧ ¬ (n + 9 ≤ q ∧ q ≤ n + 34) ∧ ¬ (q = n + 4 ∧ 1 ≤ k ∧ k ≤ 4) ∧ q ≠ n + 6 ∧ q ≠ n + 7 := by
  intro q k h
  unfold sPp sPa at h
  omega
/-- what asking for ways writes -/
def sWy (n : Nat) : Nat → Nat → Prop := fun q k => sSk n q k ∨ sPp n q k
/-- a band goes alone, in a pace -/
theorem s10_goAlone {Q : mM → Prop} {p q : Nat} {g e : Nat → Nat → Int} {st : Nat → Nat} (hT : gTh Th n) (hH : KH Th n s M) (hG : rG s) (hp : p = n + 39 ∨ p = n + 54) (hq : lySk Th q M) (hv : vSk q (s 0 0) g e (fun r => (st r : Int)) M) (hqq : q + 3 < n + 39) (hb : ∀ r t, 0 ≤ g r t ∧ 0 ≤ e r t ∧ g r t + e r t ≤ 8) (hst : ∀ r, 1 ≤ st r ∧ st r ≤ 6)
    (K : ∀ M', vPa p 3 8 (dN s) g e st (s 0 0).toNat M' → Eo (sPa p) M M' → Q M') : P10_goAlone (d + 5) Th n p q M Q := by
  have g0 := hG.1
  have gd := hG.2.2.1
  have hly : lyPa Th p M := by
    rcases hp with z | z <;> subst z
    · exact lyPa39 hT.1 hH.1
    · exact lyPa54 hT.1 hH.1
  have hR : s 0 0 = ((s 0 0).toNat : Int) := by omega
  have hD : s 0 2 = (dN s : Int) := by unfold dN; omega
  have hd2 : 1 ≤ dN s ∧ dN s ≤ 4 := by unfold dN; omega
  refine e10_goAlone ⟨hT.1 0 _ rfl, n + 3, hH.1 0 1 3 (by decide), hT.1 3 _ rfl, hly.1.1, ?_⟩
  have hHh := hH.2.2.1
  have hhv := hHh.1
  have hhd := hHh.2.2.1
  rw [hhv, hhd, hD, hR, kI3]
  refine s7_reckon (d := d) (sh := 3) (N := 8) hly hq (by rw [← hR]; exact hv) (by omega) (Or.inl ⟨rfl, rfl⟩) (by omega) hd2 hb hst ?_
  exact K
theorem vB_n {b : Nat} (h : vB n s b M) : vSk (aSk n b) (s 0 0) (gB s (s 4 b) b) (eB s (s 4 b) b) (fun r => (wN s b r : Int)) M := by
  intro r hr
  obtain ⟨h1, h2⟩ := h r hr
  exact ⟨by rw [h1, wN_e], h2⟩
theorem gB_b (s : mS) (cl : Int) (b : Nat) : ∀ r t, 0 ≤ gB s cl b r t ∧ 0 ≤ eB s cl b r t ∧ gB s cl b r t + eB s cl b r t ≤ 8 := fun r t => by
  have h1 := gK_b s cl b r t
  have h2 := eK_b s cl b r t
  unfold gB eB
  omega
def vWays (s : mS) (zb zt zw : Int) : Prop := (0 ≤ zb ∧ zb < s 0 1) ∧ s 0 0 ≠ 0 ∧ (1 ≤ zt ∧ zt ≤ 10) ∧ (0 ≤ zw ∧ zw ≤ 6) ∧ (zw < 5 → zw < s 0 0)
def aWays (s : mS) (b t w : Nat) : Int := if w < 5 then bS 8 (hB s (s 4 b) b w) t else if w = 5 then bS 8 (hB s (s 4 b) b (s 0 0).toNat) t else hB s (s 4 b) b (s 0 0).toNat t
theorem s10_ways {Q : Int64 → mM → Prop} {zb zt zw : Int} (hT : gTh Th n) (hM : KM Th n s c M) (hG : rG s) (hO : rLw s) (hzb : rI zb) (hzt : rI zt) (hzw : rI zw)
    (k0 : ¬ vWays s zb zt zw → Q (-1) M) (k1 : vWays s zb zt zw → ∀ M', KM Th n s c M' → Eo (sWy n) M M' → Q (jL (aWays s zb.toNat zt.toNat zw.toNat)) M') : P10_ways (d + 40) Th n (jI zb) (jI zt) (jI zw) M Q := by
  have g0 := hG.1
  have g1 := hG.2.1
  obtain ⟨hH, hc, hcb, hS⟩ := id hM
  have hHh := hH.2.2.1
  have hR0 : M.1 (n + 3) 0 = jI ((s 0 0).toNat : Int) := by rw [hHh.1]; congr 1; omega
  have hR1 : M.1 (n + 3) 1 = jI ((s 0 1).toNat : Int) := by rw [hHh.2.1]; congr 1; omega
  have h65 : vWays s zb zt zw → H10_ways_65 (d + 40) Th Q n (jI zb) (jI zt) (jI zw) M := by
    intro hv
    have kk := k1 hv
    obtain ⟨⟨v1, v2⟩, v3, ⟨v4, v5⟩, ⟨v6, v7⟩, v8⟩ := hv
    obtain ⟨b, rfl⟩ : ∃ b : Nat, zb = b := ⟨zb.toNat, by omega⟩
    obtain ⟨t, rfl⟩ : ∃ t : Nat, zt = t := ⟨zt.toNat, by omega⟩
    obtain ⟨w, rfl⟩ : ∃ w : Nat, zw = w := ⟨zw.toNat, by omega⟩
    simp only [Int.toNat_natCast] at kk
    refine h10_ways_65 ⟨hT.1 0 _ rfl, n + 39, hH.1 0 3 39 (by decide), n + 3, hH.1 0 1 3 (by decide), hT.1 3 _ rfl, ?_⟩
    refine s2_skill (d := d + 38) (b := b) hT hM hG hO v2 (by omega) ?_
    intro M6 m6 b6 e6
    have hb5 : b < 5 := by omega
    refine s10_goAlone (d := d + 34) (p := n + 39) hT m6.1 hG (Or.inl rfl) (lySk_of hT.1 m6.1.1 (aSk_q hb5)) (vB_n b6) (by unfold aSk; omega) (gB_b s _ b) (wN_b s b) ?_
    intro M9 p9 e9
    have e9' : Eo (sPp n) M6 M9 := e9.mono (fun q k z => Or.inl z)
    have m9 := m6.mvS hT e9' (sPp_rf n) sPp_h
    have kf := kk M9 m9 ((e6.mono (fun q k z => Or.inl z)).trans (e9'.mono (fun q k z => Or.inr z)))
    have hly9 := lyPa39 hT.1 m9.1.1
    obtain ⟨p1, p2, p3, p4⟩ := p9
    have hh9 : M9.1 (n + 3) 0 = jI ((s 0 0).toNat : Int) := by rw [m9.1.2.2.1.1]; congr 1; omega
    unfold aWays at kf
    by_cases c5 : w < 5
    · rw [if_pos c5] at kf
      rw [if_neg (by rw [jh5 hzw]; omega)]
      refine ⟨n + 39, m9.1.1 0 3 39 (by decide), hT.1 39 _ rfl, ?_⟩
      refine s7_comeBy (d := d + 37) (sh := 3) (N := 8) (Z := hB s (s 4 b) b w) hly9 p1 (Or.inl ⟨rfl, rfl⟩) (by omega) (by omega) (fun k hk => p3 w (by omega) k hk) kf
    · rw [if_neg c5] at kf
      rw [if_pos (by rw [jh5 hzw]; omega)]
      by_cases c6 : w = 5
      · rw [if_pos c6] at kf
        rw [if_pos (by rw [c6]; rfl)]
        refine ⟨n + 39, m9.1.1 0 3 39 (by decide), n + 3, m9.1.1 0 1 3 (by decide), hT.1 3 _ rfl, hT.1 39 _ rfl, ?_⟩
        rw [hh9]
        exact s7_comeBy (d := d + 37) (sh := 3) (N := 8) (Z := hB s (s 4 b) b (s 0 0).toNat) hly9 p1 (Or.inl ⟨rfl, rfl⟩) (by omega) (by omega) (fun k hk => p3 _ (Nat.le_refl _) k hk) kf
      · rw [if_neg c6] at kf
        rw [if_neg (by rw [jq5 hzw]; omega)]
        refine ⟨n + 39, m9.1.1 0 3 39 (by decide), n + 3, m9.1.1 0 1 3 (by decide), hT.1 3 _ rfl, hT.1 39 _ rfl, ?_⟩
        rw [hh9]
        refine s7_comeAt (d := d + 38) hly9 (by omega) (by omega) ?_
        rw [p3 _ (Nat.le_refl _) t (by omega)]
        exact kf
  refine e10_ways ⟨hT.1 0 _ rfl, n + 3, hH.1 0 1 3 (by decide), hT.1 3 _ rfl, ?_⟩
  refine s2_hasBand (d := d + 38) hT.1 hR1 (by omega) hzb (fun a1 a2 => ?_) (fun a => ?_)
  rotate_left
  · rw [if_pos rfl]; exact k0 (fun h => a (by have := h.1; omega))
  rw [if_neg (by decide)]
  refine ⟨n + 3, hH.1 0 1 3 (by decide), hT.1 3 _ rfl, ?_⟩
  rw [hR0]
  by_cases r0 : (s 0 0).toNat = 0
  · rw [if_pos (by rw [r0]; rfl)]; exact k0 (fun h => h.2.1 (by omega))
  rw [if_neg (by rw [jq0 (rI_nat (by omega))]; omega)]
  refine s_within 1 10 rfl rfl rfl hzt (rI_of (by omega) (by omega)) (rI_of (by omega) (by omega)) (fun a3 a4 => ?_) (fun a => ?_)
  rotate_left
  · rw [if_pos rfl]; exact k0 (fun h => a h.2.2.1)
  rw [if_neg (by decide)]
  refine s_within 0 6 rfl rfl rfl hzw (rI_of (by omega) (by omega)) (rI_of (by omega) (by omega)) (fun a5 a6 => ?_) (fun a => ?_)
  rotate_left
  · rw [if_pos rfl]; exact k0 (fun h => a h.2.2.2.1)
  rw [if_neg (by decide)]
  simp only [jh5 hzw]
  by_cases c5 : 5 ≤ zw
  · rw [if_pos c5]
    exact h65 ⟨⟨a1, by omega⟩, by omega, ⟨a3, a4⟩, ⟨a5, a6⟩, fun h => absurd h (by omega)⟩
  rw [if_neg c5]
  refine ⟨n + 3, hH.1 0 1 3 (by decide), hT.1 3 _ rfl, ?_⟩
  refine s2_hasRiddle (d := d + 38) hT.1 hR0 (by omega) hzw (fun a7 a8 => ?_) (fun a => ?_)
  rotate_left
  · rw [if_pos rfl]; exact k0 (fun h => a (by have := h.2.2.2.2 (by omega); omega))
  rw [if_neg (by decide)]
  exact h65 ⟨⟨a1, by omega⟩, by omega, ⟨a3, a4⟩, ⟨a5, a6⟩, fun h => by omega⟩
end WY
section WM
variable {d : Nat} {Th : mT} {M : mM} {m : Nat} {s : mS}
theorem s11_ways {Q : Int64 → mM → Prop} {zb zt zw : Int} (hT : LyM Th m) (hK : KT m s M) (hG : rG s) (hO : rLw s) (hzb : rI zb) (hzt : rI zt) (hzw : rI zw)
    (k0 : ¬ vWays s zb zt zw → Q (-1) M) (k1 : vWays s zb zt zw → ∀ M', KT m s M' → Eo (sGo m) M M' → Q (jL (aWays s zb.toNat zt.toNat zw.toNat)) M') : P11_ways (d + 40) Th m (jI zb) (jI zt) (jI zw) M Q := by
  have g0 := hG.1
  have g1 := hG.2.1
  obtain ⟨hR, hH, hL⟩ := id hK
  have hR0 : M.1 m 0 = jI ((s 0 0).toNat : Int) := by rw [hH.1]; congr 1; omega
  have hR1 : M.1 m 1 = jI ((s 0 1).toNat : Int) := by rw [hH.2.1]; congr 1; omega
  have h52 : vWays s zb zt zw → H11_ways_52 (d + 40) Th Q m (jI zb) (jI zt) (jI zw) M := by
    intro hv
    have kk := k1 hv
    obtain ⟨⟨v1, v2⟩, v3, ⟨v4, v5⟩, ⟨v6, v7⟩, v8⟩ := hv
    obtain ⟨b, rfl⟩ : ∃ b : Nat, zb = b := ⟨zb.toNat, by omega⟩
    obtain ⟨t, rfl⟩ : ∃ t : Nat, zt = t := ⟨zt.toNat, by omega⟩
    obtain ⟨w, rfl⟩ : ∃ w : Nat, zw = w := ⟨zw.toNat, by omega⟩
    simp only [Int.toNat_natCast] at kk
    refine h11_ways_52 ⟨hT 0 _ rfl, m + 4, hR 0 8 4 (by decide), m_ok_jI (hT 4 _ rfl) (by omega) (by omega) (by omega), ?_⟩
    rw [jInatN b (by omega), hH.2.2.2.2.2.2.2.1, hR0]
    refine s11_goesAlone (d := d + 33) (b := b) (A := (s 0 0).toNat) (T := t) (cl := s 4 b) hT hK hG hO v2 (by omega) (by omega) (by omega) ?_
    intro M5 k5 b5 s5 w5 e5
    have kf := kk M5 k5 e5
    unfold aWays at kf
    simp only [je4 (z := (w : Int)) (rI_nat (by omega)), jq5 (z := (w : Int)) (rI_nat (by omega))]
    by_cases c5 : w < 5
    · rw [if_pos c5] at kf
      rw [if_pos (by omega)]
      intro lv7 h7 xv8 h8
      rw [show (16 : Int32) = jI 16 from rfl, jI_mul] at h8
      have hx8 : xv8 = jI ((16 * w : Nat) : Int) := by rw [h8]; congr 1
      subst hx8
      have hr5 : M5.1 m 0 = jI ((s 0 0).toNat : Int) := by rw [k5.2.1.1]; congr 1; omega
      have e16 : (16 : Int32) * jI ((s 0 0).toNat : Int) = jI ((16 * (s 0 0).toNat : Nat) : Int) := by rw [show (16 : Int32) = jI 16 from rfl, jI_mul]; congr 1
      have loop : ∀ (u j : Nat) (l : Int64), u + j = 16 * (s 0 0).toNat → l + sL (16 * (s 0 0).toNat) (fun k => if j ≤ k then M5.2.1 (m + 21) k else 0) = jL (bS 8 (hB s (s 4 b) b w) t) → H11_ways_104 (d + 40) Th Q m l (jI (j : Int)) M5 := by
        intro u
        induction u with
        | zero =>
          intro j l hu hl
          refine h11_ways_104 ⟨hT 0 _ rfl, ?_⟩
          rw [hr5, e16, if_pos (by rw [jIle (rI_nat (by omega)) (rI_nat (by omega))]; omega)]
          rw [sL_zero (fun k hk => if_neg (by omega))] at hl
          rw [show l = l + 0 by grind, hl]
          exact kf
        | succ u ih =>
          intro j l hu hl
          refine h11_ways_104 ⟨hT 0 _ rfl, ?_⟩
          rw [hr5, e16, if_neg (by rw [jIle (rI_nat (by omega)) (rI_nat (by omega))]; omega)]
          refine ⟨m + 21, k5.1 0 37 21 (by decide), m_ok_jI (hT 21 _ rfl) (by omega) (by omega) (by omega), ?_⟩
          intro lv5 h5
          rw [jInatN j (by omega)] at h5
          rw [jI_s]
          refine ih (j + 1) lv5 (by omega) ?_
          rw [← hl, sL_from (i := j) (by omega), h5]
          grind
      exact loop (16 * (s 0 0).toNat - 16 * w) (16 * w) lv7 (by omega) (by rw [h7]; exact w5 w (by omega))
    · rw [if_neg c5] at kf
      rw [if_neg (by omega)]
      by_cases c6 : w = 5
      · rw [if_pos c6] at kf
        rw [if_pos (by omega), s5]
        exact kf
      · rw [if_neg c6] at kf
        rw [if_neg (by omega)]
        refine ⟨m + 23, k5.1 0 39 23 (by decide), m_ok_jI (hT 23 _ rfl) (by omega) (by omega) (by omega), ?_⟩
        rw [jInatN t (by omega), b5 t (by omega) (Nat.le_refl _)]
        exact kf
  refine e11_ways ⟨hT 0 _ rfl, ?_⟩
  refine s11_isBand (d := d + 38) hT hR1 (by omega) hzb (fun a1 a2 => ?_) (fun a => ?_)
  rotate_left
  · rw [if_pos rfl]; exact k0 (fun h => a (by have := h.1; omega))
  rw [if_neg (by decide), hR0]
  by_cases r0 : (s 0 0).toNat = 0
  · rw [if_pos (by rw [r0]; rfl)]; exact k0 (fun h => h.2.1 (by omega))
  rw [if_neg (by rw [jq0 (rI_nat (by omega))]; omega)]
  refine s_in 1 10 rfl rfl rfl hzt (rI_of (by omega) (by omega)) (rI_of (by omega) (by omega)) (fun a3 a4 => ?_) (fun a => ?_)
  rotate_left
  · rw [if_pos rfl]; exact k0 (fun h => a h.2.2.1)
  rw [if_neg (by decide)]
  refine s_in 0 6 rfl rfl rfl hzw (rI_of (by omega) (by omega)) (rI_of (by omega) (by omega)) (fun a5 a6 => ?_) (fun a => ?_)
  rotate_left
  · rw [if_pos rfl]; exact k0 (fun h => a h.2.2.2.1)
  rw [if_neg (by decide)]
  simp only [jh5 hzw]
  by_cases c5 : 5 ≤ zw
  · rw [if_pos c5]
    exact h52 ⟨⟨a1, by omega⟩, by omega, ⟨a3, a4⟩, ⟨a5, a6⟩, fun h => absurd h (by omega)⟩
  rw [if_neg c5]
  refine s11_isRiddle (d := d + 38) hT hR0 (by omega) hzw (fun a7 a8 => ?_) (fun a => ?_)
  rotate_left
  · rw [if_pos rfl]; exact k0 (fun h => a (by have := h.2.2.2.2 (by omega); omega))
  rw [if_neg (by decide)]
  exact h52 ⟨⟨a1, by omega⟩, by omega, ⟨a3, a4⟩, ⟨a5, a6⟩, fun h => by omega⟩
end WM
