/-! ===== best, without, waits in the class ===== -/
/-- behind such a call -/
def qDue (Th : mT) (n : Nat) (s : mS) (c : Int) (M M' : mM) : Prop := ∃ p, KM Th n (sP12 s p) c M' ∧ cDue n (sP12 s p) c M' ∧ Eo (sBeg n) M M'
section UM
variable {d : Nat} {Th : mT} {M : mM} {n : Nat} {s : mS} {c : Int}
theorem qDue.rf (hM : KM Th n s c M) (hD : cDue n s c M) : qDue Th n s c M M := ⟨s 12, by rw [sP12_s]; exact hM, by rw [sP12_s]; exact hD, Eo.rf⟩
/-- what stands behind the beginning stays while values are kept -/
theorem qDue_of {x y nv : Nat} {A : Nat → Nat → Int32} {B : Nat → Nat → Option Nat} {V V' : Nat → Nat → Int64} (hT : gTh Th n) (hM : KM Th n (sP12 s (p12 x y)) c (A, V, B)) (hU : uOk Th n (sP12 s (p12 x y)) x y nv A B) (hV : uVal n (sP12 s (p12 x y)) x y nv V V') (hf : A (n + 94) 4 = jI (x : Int) ∧ A (n + 94) 5 = jI (y : Int) ∧ A (n + 94) 7 = jI c) (he : Eo (sBeg n) M (A, V, B)) : qDue Th n s c M (A, V', B) := by
  have e1 : Eo (sDf n) (A, V, B) (A, V', B) := fun q k hq => ⟨rfl, hV.1 q k (fun z => hq (Or.inr z)), rfl⟩
  have m1 := hM.mvS hT e1 (sDf_rf n) sDf_h
  have hc := hM.2.2.1
  have hU' := hU
  obtain ⟨u1, u2, ⟨u3, u4, u5⟩, ⟨u6, u7, u8, u9⟩, ⟨u10, u11, u12, u13, u14⟩, u15⟩ := hU
  have g1 := u2.2.1
  refine ⟨p12 x y, m1, ⟨x, y, nv, c, ⟨rI_nat (by omega), rI_nat (by omega), rI_nat (by omega), rI_of (by omega) (by omega)⟩, ⟨hf.1, hf.2.1, u13, hf.2.2⟩, Int.le_refl _, Or.inr (Or.inr ⟨x, y, nv, rfl, rfl, rfl, ⟨u3, u4, u5⟩, ⟨?_, ?_⟩, u7, u8, u14, ⟨fun _ _ _ => rfl, hV.2⟩⟩)⟩, he.trans (e1.mono (fun _ _ h => Or.inr h))⟩
  · unfold sP12 p12; rw [if_pos rfl, if_pos (Or.inl rfl)]
  · unfold sP12 p12; rw [if_pos rfl, if_pos (Or.inr rfl)]
theorem s1_modeOf {Q : Int32 → mM → Prop} {z : Int} (hz : rI z) (k : Q (jI (mdX z)) M) : P1_modeOf (d + 2) Th (jI z) M Q := by
  have r1 : ∀ a : Int, -1000 ≤ a → a ≤ 1000 → rI a := fun a h1 h2 => rI_of (by omega) (by omega)
  refine e1_modeOf ?_
  unfold mdX at k
  refine s_within 0 5 rfl rfl rfl hz (r1 _ (by omega) (by omega)) (r1 _ (by omega) (by omega)) (fun b1 b2 => ?_) (fun b => ?_)
  · rw [if_pos ⟨b1, b2⟩] at k
    rw [if_neg (by decide)]; exact k
  rw [if_neg b] at k
  rw [if_pos rfl]
  refine s_within 10 16 rfl rfl rfl hz (r1 _ (by omega) (by omega)) (r1 _ (by omega) (by omega)) (fun b1 b2 => ?_) (fun b' => ?_)
  · rw [if_pos ⟨b1, b2⟩] at k
    rw [if_neg (by decide), kI10, jI_sub, kI6, jI_add, show z - 10 + 6 = z - 4 by omega]; exact k
  rw [if_neg b'] at k
  rw [if_pos rfl]
  refine s_within 21 24 rfl rfl rfl hz (r1 _ (by omega) (by omega)) (r1 _ (by omega) (by omega)) (fun b1 b2 => ?_) (fun b'' => ?_)
  · rw [if_pos ⟨b1, b2⟩] at k
    rw [if_neg (by decide), kI20, jI_sub, kI12, jI_add, show z - 20 + 12 = z - 8 by omega]; exact k
  rw [if_neg b''] at k
  rw [if_pos rfl]
  refine s_within 31 34 rfl rfl rfl hz (r1 _ (by omega) (by omega)) (r1 _ (by omega) (by omega)) (fun b1 b2 => ?_) (fun b3 => ?_)
  · rw [if_pos ⟨b1, b2⟩] at k
    rw [if_neg (by decide), show (30 : Int32) = jI 30 from rfl, jI_sub, kI16, jI_add, show z - 30 + 16 = z - 14 by omega]; exact k
  · rw [if_neg b3] at k
    rw [if_pos rfl]; exact k
theorem s1_stateOfX {Q : Int32 → mM → Prop} {z : Int} (hT : Ly Th n) (hR : Rf n M) (h0 : M.1 (n + 3) 0 = jI (uR s : Int)) (hR5 : uR s ≤ 5) (hz : rI z) (k : Q (jI (tX (uR s) z)) M) : P1_stateOfX (d + 3) Th (n + 94) (jI z) M Q := by
  have hq := hz.2
  refine e1_stateOfX ?_
  simp only [jh0 hz]
  by_cases c0 : 0 ≤ z
  · rw [if_pos c0]
    refine h1_stateOfX_12 ?_
    rw [jI_mod100 c0 hz, jI_div100 c0 hz]
    refine s1_modeOf (d := d) (rI_of (by omega) (by omega)) ?_
    refine ⟨hT 94 _ rfl, n + 3, hR 94 0 3 (by decide), hT 3 _ rfl, ?_⟩
    have mb := mdX_b (z % 100)
    refine s2_hasRiddle (d := d + 1) hT h0 hR5 ⟨by omega, by omega⟩ (fun a1 a2 => ?_) (fun a => ?_)
    · rw [if_neg (by decide)]
      simp only [jqN (z := mdX (z % 100)) (rI_of (by omega) (by omega))]
      unfold tX at k
      by_cases c : mdX (z % 100) = -1
      · rw [if_neg (fun q => q.2.2 c)] at k
        rw [if_pos c]; exact k
      · rw [if_pos ⟨c0, a2, c⟩] at k
        rw [if_neg c, show (21 : Int32) = jI 21 from rfl, jI_mul, jI_add, Int.mul_comm (z / 100) 21]; exact k
    · rw [if_pos rfl]
      unfold tX at k
      rw [if_neg (fun q => a ⟨by omega, q.2.1⟩)] at k
      exact k
  · rw [if_neg c0]
    refine h1_stateOfX_12 ?_
    obtain ⟨v, hv⟩ : ∃ v, v = jI z - jI z / 100 * 100 := ⟨_, rfl⟩
    rw [← hv]
    obtain ⟨w, rw', hw⟩ := rI_ex v
    rw [hw]
    refine s1_modeOf (d := d) rw' ?_
    refine ⟨hT 94 _ rfl, n + 3, hR 94 0 3 (by decide), hT 3 _ rfl, ?_⟩
    rw [show (-1 : Int32) = jI (-1) from rfl]
    refine s2_hasRiddle (d := d + 1) hT h0 hR5 (rI_of (by omega) (by omega)) (fun a1 a2 => ?_) (fun a => ?_)
    · omega
    · rw [if_pos rfl]
      unfold tX at k
      rw [if_neg (fun q => c0 q.1)] at k
      exact k
/-- a number of y's, by the model's -/
theorem tXY {R : Nat} {z : Int} (hR : R ≤ 5) : (tY R z = -1 ↔ (tX R z = -1 ∨ tX R z % 21 = 6 ∨ 16 < tX R z % 21)) ∧ (tY R z ≠ -1 → (uYc (tY R z).toNat : Int) = tX R z) := by
  unfold tX tY
  by_cases c : 0 ≤ z ∧ z / 100 < (R : Int)
  rotate_left
  · rw [if_neg (fun q => c ⟨q.1, q.2.1⟩), if_neg (fun q => c ⟨q.1, q.2.1⟩)]
    exact ⟨⟨fun _ => Or.inl rfl, fun _ => rfl⟩, fun q => absurd rfl q⟩
  have mx := mdX_b (z % 100)
  have my := mdY_b (z % 100)
  have key : (mdY (z % 100) = -1 ∧ (mdX (z % 100) = -1 ∨ mdX (z % 100) = 6 ∨ 16 < mdX (z % 100))) ∨ (mdY (z % 100) ≠ -1 ∧ mdX (z % 100) = (if mdY (z % 100) ≤ 5 then mdY (z % 100) else mdY (z % 100) + 1) ∧ mdX (z % 100) ≠ 6 ∧ mdX (z % 100) ≤ 16) := by
    generalize z % 100 = w
    unfold mdX mdY
    by_cases a1 : 0 ≤ w ∧ w ≤ 5
    · rw [if_pos a1, if_pos a1]; right; rw [if_pos (by omega)]; omega
    rw [if_neg a1, if_neg a1]
    by_cases a2 : 11 ≤ w ∧ w ≤ 16
    · rw [if_pos a2, if_pos (by omega)]; right; rw [if_neg (by omega)]; omega
    rw [if_neg a2]
    by_cases a3 : 10 ≤ w ∧ w ≤ 16
    · rw [if_pos a3, if_neg (by omega)]; left; omega
    rw [if_neg a3]
    by_cases a4 : 21 ≤ w ∧ w ≤ 24
    · rw [if_pos a4, if_pos a4]; right; rw [if_neg (by omega)]; omega
    rw [if_neg a4, if_neg a4]
    left
    refine ⟨rfl, ?_⟩
    split <;> omega
  generalize mdX (z % 100) = a at *
  generalize mdY (z % 100) = b at *
  rcases key with ⟨k1, k2⟩ | ⟨k1, k2, k3, k4⟩
  · rw [if_neg (fun q => q.2.2 k1)]
    refine ⟨⟨fun _ => ?_, fun _ => rfl⟩, fun q => absurd rfl q⟩
    split <;> omega
  · have ha : a ≠ -1 := by split at k2 <;> omega
    rw [if_pos ⟨c.1, c.2, k1⟩, if_pos ⟨c.1, c.2, ha⟩]
    refine ⟨⟨fun q => by omega, fun q => by omega⟩, fun _ => ?_⟩
    have e : (16 * (z / 100) + b).toNat = 16 * (z / 100).toNat + b.toNat := by omega
    rw [e]
    unfold uYc
    rw [if_neg (by omega)]
    split at k2
    · rw [if_pos (by omega)]; omega
    · rw [if_neg (by omega)]; omega
theorem s1_stateOfY {Q : Int32 → mM → Prop} {z : Int} {b x y nv : Nat} {A : Nat → Nat → Int32} {B : Nat → Nat → Option Nat} {V : Nat → Nat → Int64} (hU : uOk Th n s x y nv A B) (hR : Rf n (A, V, B)) (hz : rI z) (hb : b ≤ 2) (k0 : tY (uR s) z = -1 → Q (-1) (A, V, B)) (k1 : tY (uR s) z ≠ -1 → Q (jI (uZy s y (tY (uR s) z).toNat b : Nat)) (A, V, B)) : P1_stateOfY (d + 4) Th (n + 94) (jI z) (jI b) (A, V, B) Q := by
  obtain ⟨e0, eR, eD, eD1, eD4⟩ := uOk_R hU
  have hT := hU.1
  have h0 : A (n + 3) 0 = jI (uR s : Int) := hU.2.2.2.2.1.1.trans (congrArg jI e0)
  have bx := tX_b (uR s) z
  obtain ⟨t1, t2⟩ := tXY (R := uR s) (z := z) eR
  refine e1_stateOfY ⟨hT 94 _ rfl, ?_⟩
  refine s1_stateOfX (s := s) (d := d) hT hR h0 eR hz ?_
  simp only [jqN (z := tX (uR s) z) (rI_of (by omega) (by omega))]
  by_cases c : tX (uR s) z = -1
  · rw [if_pos c]
    refine h1_stateOfY_19 ?_
    rw [if_neg (by decide), if_pos (by decide), c, if_pos (show jI (-1) = -1 from rfl)]
    exact k0 (t1.mpr (Or.inl c))
  rw [if_neg c]
  obtain ⟨X, hX⟩ : ∃ X : Nat, tX (uR s) z = X := ⟨(tX (uR s) z).toNat, by omega⟩
  rw [hX, jI_mod21 (by omega)]
  refine h1_stateOfY_19 ?_
  simp only [jq6 (z := ((X % 21 : Nat) : Int)) (rI_nat (by omega)), je16 (z := ((X % 21 : Nat) : Int)) (rI_nat (by omega)), jqN (z := (X : Int)) (rI_nat (by omega))]
  by_cases c6 : X % 21 = 6
  · rw [if_pos (by omega)]
    exact k0 (t1.mpr (by omega))
  rw [if_neg (by omega)]
  by_cases c16 : X % 21 ≤ 16
  rotate_left
  · rw [if_neg (by omega)]
    exact k0 (t1.mpr (by omega))
  rw [if_pos (by omega), if_neg (by omega)]
  have hy : tY (uR s) z ≠ -1 := fun q => by have := t1.mp q; omega
  refine ⟨hT 94 _ rfl, ?_⟩
  have ex : X = uYc (tY (uR s) z).toNat := by have := t2 hy; omega
  refine u1_seeing (d := d + 2) hU (by omega) hb ?_
  rw [ex]
  exact k1 hy
set_option maxHeartbeats 2000000 in
theorem s10_best {Q : Int64 → mM → Prop} {zx zy zl zsx zsy zb zw : Int} (hT : gTh Th n) (hM : KM Th n s c M) (hD : cDue n s c M) (hG : rG s) (hO : rLw s) (hzx : rI zx) (hzy : rI zy) (hzl : rI zl) (hzsx : rI zsx) (hzsy : rI zsy) (hzb : rI zb) (hzw : rI zw)
    (k0 : ¬ vBest s zx zy zl zsx zsy zb zw → ∀ M', qDue Th n s c M M' → Q (-1) M') (k1 : vBest s zx zy zl zsx zsy zb zw → ∀ M', qDue Th n s c M M' → Q (jL (aBest s zx.toNat zy.toNat zl.toNat (tX (uR s) zsx).toNat (tY (uR s) zsy).toNat zb.toNat zw)) M') : P10_best (d + 70) Th n (jI zx) (jI zy) (jI zl) (jI zsx) (jI zsy) (jI zb) (jI zw) M Q := by
  obtain ⟨e0, eR, -, -, -⟩ := uR_e hG
  have g0 := hG.1
  have g1 := hG.2.1
  have hHh := hM.1.2.2.1
  have hR0 : M.1 (n + 3) 0 = jI ((s 0 0).toNat : Int) := hHh.1.trans (congrArg jI e0)
  have hR1 : M.1 (n + 3) 1 = jI ((s 0 1).toNat : Int) := by rw [hHh.2.1]; congr 1; omega
  have r1 : ∀ a : Int, -1000 ≤ a → a ≤ 1000 → rI a := fun a h1 h2 => rI_of (by omega) (by omega)
  have bx := tX_b (uR s) zsx
  have by' := tY_b (uR s) zsy
  refine e10_best ⟨hT.1 0 _ rfl, ?_⟩
  refine s10_canHunt (d := d + 67) hT.1 hM.1.1 hR0 hR1 (by omega) (by omega) hzx hzy (fun hv => ?_) (fun hv => ?_)
  rotate_left
  · rw [if_pos rfl]; exact k0 (fun h => hv h.1) M (qDue.rf hM hD)
  rw [if_neg (by decide)]
  refine s_within 0 10 rfl rfl rfl hzl (r1 _ (by omega) (by omega)) (r1 _ (by omega) (by omega)) (fun a1 a2 => ?_) (fun a => ?_)
  rotate_left
  · rw [if_pos rfl]; exact k0 (fun h => a h.2.1) M (qDue.rf hM hD)
  rw [if_neg (by decide)]
  refine s_within 0 2 rfl rfl rfl hzb (r1 _ (by omega) (by omega)) (r1 _ (by omega) (by omega)) (fun b1 b2 => ?_) (fun a => ?_)
  rotate_left
  · rw [if_pos rfl]; exact k0 (fun h => a h.2.2.1) M (qDue.rf hM hD)
  rw [if_neg (by decide)]
  refine s_within 0 1 rfl rfl rfl hzw (r1 _ (by omega) (by omega)) (r1 _ (by omega) (by omega)) (fun c1 c2 => ?_) (fun a => ?_)
  rotate_left
  · rw [if_pos rfl]; exact k0 (fun h => a h.2.2.2.1) M (qDue.rf hM hD)
  rw [if_neg (by decide)]
  have hv' := hv
  obtain ⟨⟨v1, v2⟩, ⟨v3, v4⟩, v5, v6⟩ := hv
  obtain ⟨x, rfl⟩ : ∃ b : Nat, zx = b := ⟨zx.toNat, by omega⟩
  obtain ⟨y, rfl⟩ : ∃ b : Nat, zy = b := ⟨zy.toNat, by omega⟩
  obtain ⟨l, rfl⟩ : ∃ b : Nat, zl = b := ⟨zl.toNat, by omega⟩
  obtain ⟨b, rfl⟩ : ∃ b' : Nat, zb = b' := ⟨zb.toNat, by omega⟩
  simp only [Int.toNat_natCast] at k1
  refine ⟨n + 94, hM.1.1 0 6 94 (by decide), hT.1 94 _ rfl, ?_⟩
  rw [show (0 : Int32) = jI ((0 : Nat) : Int) from rfl]
  refine s1_begin (d := d + 34) (nv := 0) hT hM hD hG hO (by omega) (by omega) (by omega) (fun M12 m12 u12 w12 f12 e12 => ?_)
  obtain ⟨A, V, B⟩ := M12
  rw [show jI ((0 : Nat) : Int) = (0 : Int32) from rfl]
  have fin : ∀ V', uVal n (sP12 s (p12 x y)) x y 0 V V' → qDue Th n s c M (A, V', B) := fun V' hV' => qDue_of hT m12 u12 hV' f12 e12
  have h0 : A (n + 3) 0 = jI (uR s : Int) := m12.1.2.2.1.1.trans (congrArg jI e0)
  refine ⟨n + 94, m12.1.1 0 6 94 (by decide), hT.1 94 _ rfl, ?_⟩
  refine s1_stateOfX (s := s) (d := d + 66) hT.1 m12.1.1 h0 eR hzsx ?_
  refine ⟨n + 94, m12.1.1 0 6 94 (by decide), hT.1 94 _ rfl, ?_⟩
  refine s1_stateOfY (d := d + 65) u12 m12.1.1 hzsy (by omega) (fun ty => ?_) (fun ty => ?_)
  · simp only [jqN (z := tX (uR s) zsx) (rI_of (by omega) (by omega))]
    have no : ¬ vBest s x y l zsx zsy b zw := fun h => h.2.2.2.2.2 ty
    by_cases cx : tX (uR s) zsx = -1
    · rw [if_pos cx]; exact k0 no _ (fin V w12)
    · rw [if_neg cx]
      first
        | rw [if_pos trivial]; exact k0 no _ (fin V w12)
        | rw [if_pos rfl]; exact k0 no _ (fin V w12)
        | exact k0 no _ (fin V w12)
  simp only [jqN (z := tX (uR s) zsx) (rI_of (by omega) (by omega))]
  by_cases cx : tX (uR s) zsx = -1
  · rw [if_pos cx]; exact k0 (fun h => h.2.2.2.2.1 cx) _ (fin V w12)
  rw [if_neg cx]
  have ty' : tY (uR s) zsy ≠ -1 := ty
  have kk := k1 ⟨hv', ⟨a1, a2⟩, ⟨b1, b2⟩, ⟨c1, c2⟩, cx, ty'⟩
  obtain ⟨sx, hsx⟩ : ∃ b : Nat, tX (uR s) zsx = b := ⟨(tX (uR s) zsx).toNat, by omega⟩
  obtain ⟨sy, hsy⟩ : ∃ b : Nat, tY (uR s) zsy = b := ⟨(tY (uR s) zsy).toNat, by omega⟩
  rw [hsx, hsy] at kk
  have ez : uZy (sP12 s (p12 x y)) y (tY (uR (sP12 s (p12 x y))) zsy).toNat b = uZy s y sy b := by
    show uZy s y (tY (uR s) zsy).toNat b = _
    rw [hsy, Int.toNat_natCast]
  rw [hsx, ez]
  simp only [Int.toNat_natCast] at kk
  have zv := uZy_v (y := y) (ys := sy) (b := b) eR (by omega)
  rw [if_neg (by rw [jqN (rI_nat (by omega))]; omega)]
  simp only [jq0 hzw]
  unfold aBest at kk
  by_cases w0 : zw = 0
  · rw [if_pos w0] at kk
    rw [if_pos w0]
    refine ⟨n + 94, m12.1.1 0 6 94 (by decide), hT.1 94 _ rfl, ?_⟩
    refine e1_worthOf ⟨hT.1 94 _ rfl, ?_⟩
    refine u1_value u12 l (by omega) (d + 68) (by omega) _ V sx _ (Or.inr ?_) (Or.inr ?_) w12 (fun V' hV' => ?_)
    · show sx < 21 * uR s; omega
    · show uZy s y sy b < 21 * uR s ∧ uZy s y sy b % 21 ≤ 17; omega
    · rw [uV_pin]
      exact kk _ (fin V' hV')
  rw [if_neg w0] at kk
  rw [if_neg w0]
  refine ⟨n + 94, m12.1.1 0 6 94 (by decide), hT.1 94 _ rfl, ?_⟩
  by_cases l0 : l = 0
  · rw [if_pos l0] at kk
    subst l0
    refine u1_choice0 (d := d + 68) ?_
    exact kk _ (fin V w12)
  rw [if_neg l0] at kk
  obtain ⟨l', rfl⟩ : ∃ l', l = l' + 1 := ⟨l - 1, by omega⟩
  refine u1_choice (d1 := d + 62) u12 (by omega) (by omega) w12 ?_ ?_ zv.2.1 (fun V' hV' => ?_)
  · show sx < 21 * uR s; omega
  · show uZy s y sy b < 21 * uR s; omega
  · have ab := uAct_b (sP12 s (p12 x y)) x y 0 l' sx (uZy s y sy b)
    rw [jI_long (by omega) (by omega), uAct_pin]
    have := kk _ (fin V' hV')
    rw [Nat.add_sub_cancel] at this
    exact this
set_option maxHeartbeats 2000000 in
theorem s10_without {Q : Int64 → mM → Prop} {zx zy zn : Int} (hT : gTh Th n) (hM : KM Th n s c M) (hD : cDue n s c M) (hG : rG s) (hO : rLw s) (hzx : rI zx) (hzy : rI zy) (hzn : rI zn)
    (k0 : ¬ vWith s zx zy zn → ∀ M', qDue Th n s c M M' → Q 1 M') (k1 : vWith s zx zy zn → ∀ M', qDue Th n s c M M' → Q (jL (aWith s zx.toNat zy.toNat zn.toNat)) M') : P10_without (d + 70) Th n (jI zx) (jI zy) (jI zn) M Q := by
  obtain ⟨e0, eR, -, -, -⟩ := uR_e hG
  have g0 := hG.1
  have g1 := hG.2.1
  have hHh := hM.1.2.2.1
  have hR0 : M.1 (n + 3) 0 = jI ((s 0 0).toNat : Int) := hHh.1.trans (congrArg jI e0)
  have hR1 : M.1 (n + 3) 1 = jI ((s 0 1).toNat : Int) := by rw [hHh.2.1]; congr 1; omega
  have r1 : ∀ a : Int, -1000 ≤ a → a ≤ 1000 → rI a := fun a h1 h2 => rI_of (by omega) (by omega)
  refine e10_without ⟨hT.1 0 _ rfl, ?_⟩
  refine s10_canHunt (d := d + 67) hT.1 hM.1.1 hR0 hR1 (by omega) (by omega) hzx hzy (fun hv => ?_) (fun hv => ?_)
  rotate_left
  · rw [if_pos rfl]; exact k0 (fun h => hv h.1) M (qDue.rf hM hD)
  rw [if_neg (by decide)]
  refine s_within 1 7 rfl rfl rfl hzn (r1 _ (by omega) (by omega)) (r1 _ (by omega) (by omega)) (fun a1 a2 => ?_) (fun a => ?_)
  rotate_left
  · rw [if_pos rfl]; exact k0 (fun h => a h.2) M (qDue.rf hM hD)
  rw [if_neg (by decide)]
  have kk := k1 ⟨hv, a1, a2⟩
  obtain ⟨⟨v1, v2⟩, ⟨v3, v4⟩, v5, v6⟩ := hv
  obtain ⟨x, rfl⟩ : ∃ b : Nat, zx = b := ⟨zx.toNat, by omega⟩
  obtain ⟨y, rfl⟩ : ∃ b : Nat, zy = b := ⟨zy.toNat, by omega⟩
  obtain ⟨nv, rfl⟩ : ∃ b : Nat, zn = b := ⟨zn.toNat, by omega⟩
  simp only [Int.toNat_natCast] at kk
  have hRp : 0 < uR s := by omega
  refine ⟨n + 94, hM.1.1 0 6 94 (by decide), hT.1 94 _ rfl, ?_⟩
  refine s1_begin (d := d + 34) (nv := 0) hT hM hD hG hO (by omega) (by omega) (by omega) (fun M8 m8 u8 w8 f8 e8 => ?_)
  obtain ⟨A, V, B⟩ := M8
  refine ⟨n + 94, m8.1.1 0 6 94 (by decide), hT.1 94 _ rfl, ?_⟩
  refine e1_worthOf ⟨hT.1 94 _ rfl, ?_⟩
  refine u1_value u8 10 (by omega) (d + 68) (by omega) _ V 0 0 (Or.inr ?_) (Or.inr ?_) w8 (fun V' hV' => ?_)
  · show 0 < 21 * uR s; omega
  · show 0 < 21 * uR s ∧ 0 % 21 ≤ 17; omega
  have q8 := qDue_of hT m8 u8 hV' f8 e8
  obtain ⟨p, m13, d13, e13⟩ := q8
  refine ⟨n + 94, m13.1.1 0 6 94 (by decide), hT.1 94 _ rfl, ?_⟩
  refine s1_begin (d := d + 34) (s := sP12 s p) (nv := nv) hT m13 d13 hG hO (by show (x : Int) < s 0 1; omega) (by show (y : Int) < s 0 1; omega) (by omega) (fun M18 m18 u18 w18 f18 e18 => ?_)
  obtain ⟨A', W, B'⟩ := M18
  refine ⟨n + 94, m18.1.1 0 6 94 (by decide), hT.1 94 _ rfl, ?_⟩
  refine e1_worthOf ⟨hT.1 94 _ rfl, ?_⟩
  refine u1_value u18 10 (by omega) (d + 68) (by omega) _ W 0 0 (Or.inr ?_) (Or.inr ?_) w18 (fun W' hW' => ?_)
  · show 0 < 21 * uR s; omega
  · show 0 < 21 * uR s ∧ 0 % 21 ≤ 17; omega
  have q18 := qDue_of hT m18 u18 hW' f18 e18
  obtain ⟨p', m23, d23, e23⟩ := q18
  rw [sP12_2] at m23 d23
  rw [uV_pin, uV_pin, uV_pin, jL_sub]
  exact kk _ ⟨p', m23, d23, e13.trans e23⟩
set_option maxHeartbeats 2000000 in
theorem s10_waits {Q : Int32 → mM → Prop} {zx zy zr zl zt : Int} (hT : gTh Th n) (hM : KM Th n s c M) (hD : cDue n s c M) (hG : rG s) (hO : rLw s) (hzx : rI zx) (hzy : rI zy) (hzr : rI zr) (hzl : rI zl) (hzt : rI zt)
    (k0 : ¬ vWait s zx zy zr zl zt → ∀ M', qDue Th n s c M M' → Q (-1) M') (k1 : vWait s zx zy zr zl zt → ∀ M', qDue Th n s c M M' → Q (jI (uWt s zx.toNat zy.toNat zr.toNat zt.toNat zl.toNat 0 : Nat)) M') : P10_waits (d + 70) Th n (jI zx) (jI zy) (jI zr) (jI zl) (jI zt) M Q := by
  obtain ⟨e0, eR, -, -, -⟩ := uR_e hG
  have g0 := hG.1
  have g1 := hG.2.1
  have hHh := hM.1.2.2.1
  have hR0 : M.1 (n + 3) 0 = jI ((s 0 0).toNat : Int) := hHh.1.trans (congrArg jI e0)
  have hR1 : M.1 (n + 3) 1 = jI ((s 0 1).toNat : Int) := by rw [hHh.2.1]; congr 1; omega
  have r1 : ∀ a : Int, -1000 ≤ a → a ≤ 1000 → rI a := fun a h1 h2 => rI_of (by omega) (by omega)
  refine e10_waits ⟨hT.1 0 _ rfl, ?_⟩
  refine s10_canHunt (d := d + 67) hT.1 hM.1.1 hR0 hR1 (by omega) (by omega) hzx hzy (fun hv => ?_) (fun hv => ?_)
  rotate_left
  · rw [if_pos rfl]; exact k0 (fun h => hv h.1) M (qDue.rf hM hD)
  rw [if_neg (by decide)]
  refine ⟨n + 3, hM.1.1 0 1 3 (by decide), hT.1 3 _ rfl, ?_⟩
  refine s2_hasRiddle (d := d + 68) (b := uR s) hT.1 hR0 eR hzr (fun a1 a2 => ?_) (fun a => ?_)
  rotate_left
  · rw [if_pos rfl]; exact k0 (fun h => a h.2.1) M (qDue.rf hM hD)
  rw [if_neg (by decide)]
  refine s_within 1 10 rfl rfl rfl hzl (r1 _ (by omega) (by omega)) (r1 _ (by omega) (by omega)) (fun b1 b2 => ?_) (fun a => ?_)
  rotate_left
  · rw [if_pos rfl]; exact k0 (fun h => a h.2.2.1) M (qDue.rf hM hD)
  rw [if_neg (by decide)]
  refine s_within 0 5 rfl rfl rfl hzt (r1 _ (by omega) (by omega)) (r1 _ (by omega) (by omega)) (fun c1 c2 => ?_) (fun a => ?_)
  rotate_left
  · rw [if_pos rfl]; exact k0 (fun h => a h.2.2.2) M (qDue.rf hM hD)
  rw [if_neg (by decide)]
  have kk := k1 ⟨hv, ⟨a1, a2⟩, ⟨b1, b2⟩, c1, c2⟩
  obtain ⟨⟨v1, v2⟩, ⟨v3, v4⟩, v5, v6⟩ := hv
  obtain ⟨x, rfl⟩ : ∃ b : Nat, zx = b := ⟨zx.toNat, by omega⟩
  obtain ⟨y, rfl⟩ : ∃ b : Nat, zy = b := ⟨zy.toNat, by omega⟩
  obtain ⟨r, rfl⟩ : ∃ b : Nat, zr = b := ⟨zr.toNat, by omega⟩
  obtain ⟨l, rfl⟩ : ∃ b : Nat, zl = b := ⟨zl.toNat, by omega⟩
  obtain ⟨t, rfl⟩ : ∃ b : Nat, zt = b := ⟨zt.toNat, by omega⟩
  simp only [Int.toNat_natCast] at kk
  refine ⟨n + 94, hM.1.1 0 6 94 (by decide), hT.1 94 _ rfl, ?_⟩
  refine s1_begin (d := d + 34) (nv := 0) hT hM hD hG hO (by omega) (by omega) (by omega) (fun M15 m15 u15 w15 f15 e15 => ?_)
  obtain ⟨A, V, B⟩ := M15
  refine ⟨n + 94, m15.1.1 0 6 94 (by decide), hT.1 94 _ rfl, ?_⟩
  refine u1_waitsFrom (d := d + 11) u15 w15 ?_ (by omega) (by omega) (fun V' hV' => ?_)
  · show r < uR s; omega
  · rw [uWt_pin]
    exact kk _ (qDue_of hT m15 u15 hV' f15 e15)
end UM
