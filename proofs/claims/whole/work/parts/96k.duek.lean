/-! ===== BEST: states by numbers; best, without, waits in the model ===== -/
def mdX (d : Int) : Int := if 0 ≤ d ∧ d ≤ 5 then d else if 10 ≤ d ∧ d ≤ 16 then d - 4 else if 21 ≤ d ∧ d ≤ 24 then d - 8 else if 31 ≤ d ∧ d ≤ 34 then d - 14 else -1
def mdY (d : Int) : Int := if 0 ≤ d ∧ d ≤ 5 then d else if 11 ≤ d ∧ d ≤ 16 then d - 5 else if 21 ≤ d ∧ d ≤ 24 then d - 9 else -1
def tX (R : Nat) (z : Int) : Int := if 0 ≤ z ∧ z / 100 < (R : Int) ∧ mdX (z % 100) ≠ -1 then 21 * (z / 100) + mdX (z % 100) else -1
def tY (R : Nat) (z : Int) : Int := if 0 ≤ z ∧ z / 100 < (R : Int) ∧ mdY (z % 100) ≠ -1 then 16 * (z / 100) + mdY (z % 100) else -1
theorem mdX_b (d : Int) : mdX d = -1 ∨ (0 ≤ mdX d ∧ mdX d ≤ 20) := by
  unfold mdX
  split
  · omega
  · split
    · omega
    · split
      · omega
      · split <;> omega
theorem mdY_b (d : Int) : mdY d = -1 ∨ (0 ≤ mdY d ∧ mdY d ≤ 15) := by
  unfold mdY
  split
  · omega
  · split
    · omega
    · split <;> omega
theorem tX_b (R : Nat) (z : Int) : tX R z = -1 ∨ (0 ≤ tX R z ∧ tX R z < 21 * (R : Int)) := by
  have := mdX_b (z % 100)
  unfold tX
  split
  · right; omega
  · left; rfl
theorem tY_b (R : Nat) (z : Int) : tY R z = -1 ∨ (0 ≤ tY R z ∧ tY R z < 16 * (R : Int)) := by
  have := mdY_b (z % 100)
  unfold tY
  split
  · right; omega
  · left; rfl
/-- the best deed's answer -/
def aBest (s : mS) (x y l sx sy b : Nat) (w : Int) : Int := if w = 0 then uV s x y 0 l sx (uZy s y sy b) else if l = 0 then -1 else uAct s x y 0 (l - 1) sx (uZy s y sy b)
def vBest (s : mS) (zx zy zl zsx zsy zb zw : Int) : Prop := vHunt s zx zy ∧ (0 ≤ zl ∧ zl ≤ 10) ∧ (0 ≤ zb ∧ zb ≤ 2) ∧ (0 ≤ zw ∧ zw ≤ 1) ∧ tX (uR s) zsx ≠ -1 ∧ tY (uR s) zsy ≠ -1
def vWith (s : mS) (zx zy zn : Int) : Prop := vHunt s zx zy ∧ (1 ≤ zn ∧ zn ≤ 7)
def aWith (s : mS) (x y nv : Nat) : Int := uV s x y nv 10 0 0 - uV s x y 0 10 0 0
def vWait (s : mS) (zx zy zr zl zt : Int) : Prop := vHunt s zx zy ∧ (0 ≤ zr ∧ zr < (uR s : Int)) ∧ (1 ≤ zl ∧ zl ≤ 10) ∧ (0 ≤ zt ∧ zt ≤ 5)
section MK
variable {d : Nat} {Th : mT} {M : mM} {m : Nat} {s : mS}
theorem jI_div100 {z : Int} (h : 0 ≤ z) (h2 : rI z) : jI z / 100 = jI (z / 100) := by
  rw [kI100, jI_div h h2.2 (by omega) (by omega)]
theorem jI_mod100 {z : Int} (h : 0 ≤ z) (h2 : rI z) : jI z - jI z / 100 * 100 = jI (z % 100) := by
  rw [kI100, jI_rem h h2.2 (by omega) (by omega)]
theorem s11_takenX {Q : Int32 → mM → Prop} {z : Int} (hT : LyM Th m) (h0 : M.1 m 0 = jI (s 0 0)) (hG : rG s) (hz : rI z) (k : Q (jI (tX (uR s) z)) M) : P11_takenX (d + 2) Th m (jI z) M Q := by
  obtain ⟨e0, eR, -, -, -⟩ := uR_e hG
  refine e11_takenX ?_
  intro xv1 h1 xv2 h2
  simp only [jl0 hz]
  by_cases c0 : z < 0
  · rw [if_pos c0]
    unfold tX at k
    rw [if_neg (by omega)] at k
    exact k
  rw [if_neg c0]
  rw [jI_div100 (by omega) hz] at h1
  rw [jI_mod100 (by omega) hz] at h2
  subst h1 h2
  have hq := hz.2
  have rq : rI (z / 100) := ⟨by omega, by omega⟩
  have rm : rI (z % 100) := rI_of (by omega) (by omega)
  refine ⟨hT 0 _ rfl, ?_⟩
  refine s11_isRiddle (d := d) hT (h0.trans (by rw [e0])) eR rq (fun a1 a2 => ?_) (fun a => ?_)
  rotate_left
  · rw [if_pos rfl]
    unfold tX at k
    rw [if_neg (by omega)] at k
    exact k
  rw [if_neg (by decide)]
  unfold tX at k
  have fin : ∀ v : Int, -1 ≤ v → v ≤ 20 → mdX (z % 100) = v → H11_takenX_102 (d + 2) Th Q (jI (z / 100)) (jI v) M := by
    intro v v1 v2 hv
    refine h11_takenX_102 ?_
    simp only [jqN (z := v) (rI_of (by omega) (by omega))]
    rw [hv] at k
    by_cases c : v = -1
    · rw [if_neg (by omega)] at k
      rw [if_pos c]; exact k
    · rw [if_pos ⟨by omega, by omega, c⟩] at k
      rw [if_neg c, show (21 : Int32) = jI 21 from rfl, jI_mul, jI_add]; exact k
  have r1 : ∀ a : Int, -1000 ≤ a → a ≤ 1000 → rI a := fun a h1 h2 => rI_of (by omega) (by omega)
  refine s_in 0 5 rfl rfl rfl rm (r1 _ (by omega) (by omega)) (r1 _ (by omega) (by omega)) (fun b1 b2 => ?_) (fun b => ?_)
  · rw [if_neg (by decide)]
    exact fin _ (by omega) (by omega) (by unfold mdX; rw [if_pos ⟨b1, b2⟩])
  rw [if_pos rfl]
  simp only [jq10 rm]
  by_cases c10 : z % 100 = 10
  · rw [if_pos c10]
    exact fin 6 (by omega) (by omega) (by unfold mdX; rw [if_neg b, if_pos (by omega)]; omega)
  rw [if_neg c10]
  refine s_in 11 16 rfl rfl rfl rm (r1 _ (by omega) (by omega)) (r1 _ (by omega) (by omega)) (fun b1 b2 => ?_) (fun b' => ?_)
  · rw [if_neg (by decide), kI4, jI_sub]
    exact fin _ (by omega) (by omega) (by unfold mdX; rw [if_neg b, if_pos (by omega)])
  rw [if_pos rfl]
  refine s_in 21 24 rfl rfl rfl rm (r1 _ (by omega) (by omega)) (r1 _ (by omega) (by omega)) (fun b1 b2 => ?_) (fun b'' => ?_)
  · rw [if_neg (by decide), kI8, jI_sub]
    exact fin _ (by omega) (by omega) (by unfold mdX; rw [if_neg b, if_neg (by omega), if_pos (by omega)])
  rw [if_pos rfl]
  refine s_in 31 34 rfl rfl rfl rm (r1 _ (by omega) (by omega)) (r1 _ (by omega) (by omega)) (fun b1 b2 => ?_) (fun b3 => ?_)
  · rw [if_neg (by decide), kI14, jI_sub]
    exact fin _ (by omega) (by omega) (by unfold mdX; rw [if_neg b, if_neg (by omega), if_neg (by omega), if_pos (by omega)])
  rw [if_pos rfl]
  exact fin (-1) (by omega) (by omega) (by unfold mdX; rw [if_neg b, if_neg (by omega), if_neg (by omega), if_neg (by omega)])
theorem s11_takenY {Q : Int32 → mM → Prop} {z : Int} (hT : LyM Th m) (h0 : M.1 m 0 = jI (s 0 0)) (hG : rG s) (hz : rI z) (k : Q (jI (tY (uR s) z)) M) : P11_takenY (d + 2) Th m (jI z) M Q := by
  obtain ⟨e0, eR, -, -, -⟩ := uR_e hG
  refine e11_takenY ?_
  intro xv1 h1 xv2 h2
  simp only [jl0 hz]
  by_cases c0 : z < 0
  · rw [if_pos c0]
    unfold tY at k
    rw [if_neg (by omega)] at k
    exact k
  rw [if_neg c0]
  rw [jI_div100 (by omega) hz] at h1
  rw [jI_mod100 (by omega) hz] at h2
  subst h1 h2
  have hq := hz.2
  have rq : rI (z / 100) := ⟨by omega, by omega⟩
  have rm : rI (z % 100) := rI_of (by omega) (by omega)
  refine ⟨hT 0 _ rfl, ?_⟩
  refine s11_isRiddle (d := d) hT (h0.trans (by rw [e0])) eR rq (fun a1 a2 => ?_) (fun a => ?_)
  rotate_left
  · rw [if_pos rfl]
    unfold tY at k
    rw [if_neg (by omega)] at k
    exact k
  rw [if_neg (by decide)]
  unfold tY at k
  have fin : ∀ v : Int, -1 ≤ v → v ≤ 20 → mdY (z % 100) = v → H11_takenY_73 (d + 2) Th Q (jI (z / 100)) (jI v) M := by
    intro v v1 v2 hv
    refine h11_takenY_73 ?_
    simp only [jqN (z := v) (rI_of (by omega) (by omega))]
    rw [hv] at k
    by_cases c : v = -1
    · rw [if_neg (by omega)] at k
      rw [if_pos c]; exact k
    · rw [if_pos ⟨by omega, by omega, c⟩] at k
      rw [if_neg c, show (16 : Int32) = jI 16 from rfl, jI_mul, jI_add]; exact k
  have r1 : ∀ a : Int, -1000 ≤ a → a ≤ 1000 → rI a := fun a h1 h2 => rI_of (by omega) (by omega)
  refine s_in 0 5 rfl rfl rfl rm (r1 _ (by omega) (by omega)) (r1 _ (by omega) (by omega)) (fun b1 b2 => ?_) (fun b => ?_)
  · rw [if_neg (by decide)]
    exact fin _ (by omega) (by omega) (by unfold mdY; rw [if_pos ⟨b1, b2⟩])
  rw [if_pos rfl]
  refine s_in 11 16 rfl rfl rfl rm (r1 _ (by omega) (by omega)) (r1 _ (by omega) (by omega)) (fun b1 b2 => ?_) (fun b' => ?_)
  · rw [if_neg (by decide), kI5, jI_sub]
    exact fin _ (by omega) (by omega) (by unfold mdY; rw [if_neg b, if_pos (by omega)])
  rw [if_pos rfl]
  refine s_in 21 24 rfl rfl rfl rm (r1 _ (by omega) (by omega)) (r1 _ (by omega) (by omega)) (fun b1 b2 => ?_) (fun b'' => ?_)
  · rw [if_neg (by decide), kI9, jI_sub]
    exact fin _ (by omega) (by omega) (by unfold mdY; rw [if_neg b, if_neg (by omega), if_pos (by omega)])
  rw [if_pos rfl]
  exact fin (-1) (by omega) (by omega) (by unfold mdY; rw [if_neg b, if_neg (by omega), if_neg (by omega)])
set_option maxHeartbeats 1000000 in
theorem s11_best {Q : Int64 → mM → Prop} {zx zy zl zsx zsy zb zw : Int} (hT : LyM Th m) (hK : KT m s M) (hG : rG s) (hO : rLw s) (hzx : rI zx) (hzy : rI zy) (hzl : rI zl) (hzsx : rI zsx) (hzsy : rI zsy) (hzb : rI zb) (hzw : rI zw)
    (k0 : ¬ vBest s zx zy zl zsx zsy zb zw → Q (-1) M) (k1 : vBest s zx zy zl zsx zsy zb zw → ∀ M', KT m s M' → Eo (sBm m) M M' → Q (jL (aBest s zx.toNat zy.toNat zl.toNat (tX (uR s) zsx).toNat (tY (uR s) zsy).toNat zb.toNat zw)) M') : P11_best (d + 10) Th m (jI zx) (jI zy) (jI zl) (jI zsx) (jI zsy) (jI zb) (jI zw) M Q := by
  obtain ⟨e0, eR, -, -, -⟩ := uR_e hG
  have g0 := hG.1
  have g1 := hG.2.1
  obtain ⟨hR, hH, hL⟩ := id hK
  have hR0 : M.1 m 0 = jI ((s 0 0).toNat : Int) := hH.1.trans (congrArg jI e0)
  have hR1 : M.1 m 1 = jI ((s 0 1).toNat : Int) := by rw [hH.2.1]; congr 1; omega
  have r1 : ∀ a : Int, -1000 ≤ a → a ≤ 1000 → rI a := fun a h1 h2 => rI_of (by omega) (by omega)
  have bx := tX_b (uR s) zsx
  have by' := tY_b (uR s) zsy
  refine e11_best ⟨hT 0 _ rfl, ?_⟩
  refine s11_areTwo (d := d + 7) hT hR0 hR1 (by omega) (by omega) hzx hzy (fun hv => ?_) (fun hv => ?_)
  rotate_left
  · rw [if_pos rfl]; exact k0 (fun h => hv h.1)
  rw [if_neg (by decide)]
  refine s_in 0 10 rfl rfl rfl hzl (r1 _ (by omega) (by omega)) (r1 _ (by omega) (by omega)) (fun a1 a2 => ?_) (fun a => ?_)
  rotate_left
  · rw [if_pos rfl]; exact k0 (fun h => a h.2.1)
  rw [if_neg (by decide)]
  refine s_in 0 2 rfl rfl rfl hzb (r1 _ (by omega) (by omega)) (r1 _ (by omega) (by omega)) (fun b1 b2 => ?_) (fun a => ?_)
  rotate_left
  · rw [if_pos rfl]; exact k0 (fun h => a h.2.2.1)
  rw [if_neg (by decide)]
  refine s_in 0 1 rfl rfl rfl hzw (r1 _ (by omega) (by omega)) (r1 _ (by omega) (by omega)) (fun c1 c2 => ?_) (fun a => ?_)
  rotate_left
  · rw [if_pos rfl]; exact k0 (fun h => a h.2.2.2.1)
  rw [if_neg (by decide)]
  refine s11_takenX (d := d + 7) hT hH.1 hG hzsx ?_
  refine s11_takenY (d := d + 7) hT hH.1 hG hzsy ?_
  simp only [jqN (z := tX (uR s) zsx) (rI_of (by omega) (by omega)), jqN (z := tY (uR s) zsy) (rI_of (by omega) (by omega))]
  by_cases cx : tX (uR s) zsx = -1
  · rw [if_pos cx]; exact k0 (fun h => h.2.2.2.2.1 cx)
  rw [if_neg cx]
  by_cases cy : tY (uR s) zsy = -1
  · rw [if_pos cy]; exact k0 (fun h => h.2.2.2.2.2 cy)
  rw [if_neg cy]
  have kk := k1 ⟨hv, ⟨a1, a2⟩, ⟨b1, b2⟩, ⟨c1, c2⟩, cx, cy⟩
  obtain ⟨⟨v1, v2⟩, ⟨v3, v4⟩, v5, v6⟩ := hv
  obtain ⟨x, rfl⟩ : ∃ b : Nat, zx = b := ⟨zx.toNat, by omega⟩
  obtain ⟨y, rfl⟩ : ∃ b : Nat, zy = b := ⟨zy.toNat, by omega⟩
  obtain ⟨l, rfl⟩ : ∃ b : Nat, zl = b := ⟨zl.toNat, by omega⟩
  obtain ⟨b, rfl⟩ : ∃ b' : Nat, zb = b' := ⟨zb.toNat, by omega⟩
  obtain ⟨sx, hsx⟩ : ∃ b : Nat, tX (uR s) zsx = b := ⟨(tX (uR s) zsx).toNat, by omega⟩
  obtain ⟨sy, hsy⟩ : ∃ b : Nat, tY (uR s) zsy = b := ⟨(tY (uR s) zsy).toNat, by omega⟩
  rw [hsx, hsy] at kk ⊢
  simp only [Int.toNat_natCast] at kk
  have hpl := pl_b (l := l) (x := sx) (y := sy) (b := b) (by omega) (by omega) (by omega) (by omega)
  rw [show (0 : Int32) = jI ((0 : Nat) : Int) from rfl]
  refine s11_bestOf (d := d) (nv := 0) hT hK hG hO (by omega) (by omega) (by omega) (by omega) (by omega) (by omega) (by omega) (fun M' k' e' g' => ?_)
  have kf := kk M' k' e'
  unfold aBest at kf
  rw [show jI ((0 : Nat) : Int) = (0 : Int32) from rfl]
  simp only [jq0 hzw, jq0 (z := (l : Int)) (rI_nat (by omega))]
  by_cases w0 : zw = 0
  · rw [if_pos w0] at kf
    rw [if_pos w0]; exact kf
  rw [if_neg w0] at kf
  rw [if_neg w0]
  by_cases l0 : l = 0
  · rw [if_pos l0] at kf
    rw [if_pos (by omega)]; exact kf
  rw [if_neg l0] at kf
  rw [if_neg (by omega)]
  refine ⟨m + 27, k'.1 0 48 27 (by decide), ?_⟩
  refine s11_placeIn (d := d + 8) ?_
  refine ⟨m_ok_jI (hT 27 _ rfl) (by omega) (by omega) (by omega), ?_⟩
  have ab := uAct_b s x y 0 (l - 1) sx (uZy s y sy b)
  rw [jInatN _ (by omega), g' (by omega), jI_long (by omega) (by omega)]
  exact kf
theorem uZy_00 {y : Nat} : uZy s y 0 0 = 0 := by
  unfold uZy
  rw [show uYc 0 = 0 from rfl]
  unfold uSee
  rw [if_neg (show ¬ (uCp s y = true ∧ 0 ≠ 0 ∧ 0 % 21 < 6 ∧ 0 < 105) from fun q => q.2.1 rfl)]
theorem s11_without {Q : Int64 → mM → Prop} {zx zy zn : Int} (hT : LyM Th m) (hK : KT m s M) (hG : rG s) (hO : rLw s) (hzx : rI zx) (hzy : rI zy) (hzn : rI zn)
    (k0 : ¬ vWith s zx zy zn → Q 1 M) (k1 : vWith s zx zy zn → ∀ M', KT m s M' → Eo (sBm m) M M' → Q (jL (aWith s zx.toNat zy.toNat zn.toNat)) M') : P11_without (d + 10) Th m (jI zx) (jI zy) (jI zn) M Q := by
  obtain ⟨e0, eR, -, -, -⟩ := uR_e hG
  have g0 := hG.1
  have g1 := hG.2.1
  obtain ⟨hR, hH, hL⟩ := id hK
  have hR0 : M.1 m 0 = jI ((s 0 0).toNat : Int) := hH.1.trans (congrArg jI e0)
  have hR1 : M.1 m 1 = jI ((s 0 1).toNat : Int) := by rw [hH.2.1]; congr 1; omega
  have r1 : ∀ a : Int, -1000 ≤ a → a ≤ 1000 → rI a := fun a h1 h2 => rI_of (by omega) (by omega)
  refine e11_without ⟨hT 0 _ rfl, ?_⟩
  refine s11_areTwo (d := d + 7) hT hR0 hR1 (by omega) (by omega) hzx hzy (fun hv => ?_) (fun hv => ?_)
  rotate_left
  · rw [if_pos rfl]; exact k0 (fun h => hv h.1)
  rw [if_neg (by decide)]
  refine s_in 1 7 rfl rfl rfl hzn (r1 _ (by omega) (by omega)) (r1 _ (by omega) (by omega)) (fun a1 a2 => ?_) (fun a => ?_)
  rotate_left
  · rw [if_pos rfl]; exact k0 (fun h => a h.2)
  rw [if_neg (by decide)]
  have kk := k1 ⟨hv, a1, a2⟩
  obtain ⟨⟨v1, v2⟩, ⟨v3, v4⟩, v5, v6⟩ := hv
  obtain ⟨x, rfl⟩ : ∃ b : Nat, zx = b := ⟨zx.toNat, by omega⟩
  obtain ⟨y, rfl⟩ : ∃ b : Nat, zy = b := ⟨zy.toNat, by omega⟩
  obtain ⟨nv, rfl⟩ : ∃ b : Nat, zn = b := ⟨zn.toNat, by omega⟩
  simp only [Int.toNat_natCast] at kk
  refine s11_bestOf (d := d) (L := 10) (xs := 0) (ys := 0) (b := 0) (nv := nv) hT hK hG hO (by omega) (by omega) (by omega) (by omega) (by omega) (by omega) (by omega) (fun M6 k6 e6 _ => ?_)
  refine s11_bestOf (d := d) (L := 10) (xs := 0) (ys := 0) (b := 0) (nv := 0) hT k6 hG hO (by omega) (by omega) (by omega) (by omega) (by omega) (by omega) (by omega) (fun M8 k8 e8 _ => ?_)
  rw [uZy_00, jL_sub]
  exact kk M8 k8 (e6.trans e8)
theorem uZy_th {y r t : Nat} (hr : r < 5) (ht : t ≤ 5) : uZy s y (16 * r + t) 0 = 21 * r + t := by
  unfold uZy
  rw [yTh_c hr ht]
  unfold uSee
  rw [if_neg (fun q => q.2.1 rfl)]
set_option maxHeartbeats 1000000 in
theorem s11_waits {Q : Int32 → mM → Prop} {zx zy zr zl zt : Int} (hT : LyM Th m) (hK : KT m s M) (hG : rG s) (hO : rLw s) (hzx : rI zx) (hzy : rI zy) (hzr : rI zr) (hzl : rI zl) (hzt : rI zt)
    (k0 : ¬ vWait s zx zy zr zl zt → Q (-1) M) (k1 : vWait s zx zy zr zl zt → ∀ M', KT m s M' → Eo (sBm m) M M' → Q (jI (uWt s zx.toNat zy.toNat zr.toNat zt.toNat zl.toNat 0 : Nat)) M') : P11_waits (d + 10) Th m (jI zx) (jI zy) (jI zr) (jI zl) (jI zt) M Q := by
  obtain ⟨e0, eR, -, -, -⟩ := uR_e hG
  have g0 := hG.1
  have g1 := hG.2.1
  obtain ⟨hR, hH, hL⟩ := id hK
  have hR0 : M.1 m 0 = jI ((s 0 0).toNat : Int) := hH.1.trans (congrArg jI e0)
  have hR1 : M.1 m 1 = jI ((s 0 1).toNat : Int) := by rw [hH.2.1]; congr 1; omega
  have r1 : ∀ a : Int, -1000 ≤ a → a ≤ 1000 → rI a := fun a h1 h2 => rI_of (by omega) (by omega)
  refine e11_waits ⟨hT 0 _ rfl, ?_⟩
  refine s11_areTwo (d := d + 7) hT hR0 hR1 (by omega) (by omega) hzx hzy (fun hv => ?_) (fun hv => ?_)
  rotate_left
  · rw [if_pos rfl]; exact k0 (fun h => hv h.1)
  rw [if_neg (by decide)]
  refine s11_isRiddle (d := d + 8) (b := uR s) hT hR0 eR hzr (fun a1 a2 => ?_) (fun a => ?_)
  rotate_left
  · rw [if_pos rfl]; exact k0 (fun h => a h.2.1)
  rw [if_neg (by decide)]
  refine s_in 1 10 rfl rfl rfl hzl (r1 _ (by omega) (by omega)) (r1 _ (by omega) (by omega)) (fun b1 b2 => ?_) (fun a => ?_)
  rotate_left
  · rw [if_pos rfl]; exact k0 (fun h => a h.2.2.1)
  rw [if_neg (by decide)]
  refine s_in 0 5 rfl rfl rfl hzt (r1 _ (by omega) (by omega)) (r1 _ (by omega) (by omega)) (fun c1 c2 => ?_) (fun a => ?_)
  rotate_left
  · rw [if_pos rfl]; exact k0 (fun h => a h.2.2.2)
  rw [if_neg (by decide)]
  have kk := k1 ⟨hv, ⟨a1, a2⟩, ⟨b1, b2⟩, c1, c2⟩
  obtain ⟨⟨v1, v2⟩, ⟨v3, v4⟩, v5, v6⟩ := hv
  obtain ⟨x, rfl⟩ : ∃ b : Nat, zx = b := ⟨zx.toNat, by omega⟩
  obtain ⟨y, rfl⟩ : ∃ b : Nat, zy = b := ⟨zy.toNat, by omega⟩
  obtain ⟨r, rfl⟩ : ∃ b : Nat, zr = b := ⟨zr.toNat, by omega⟩
  obtain ⟨l, rfl⟩ : ∃ b : Nat, zl = b := ⟨zl.toNat, by omega⟩
  obtain ⟨t, rfl⟩ : ∃ b : Nat, zt = b := ⟨zt.toNat, by omega⟩
  simp only [Int.toNat_natCast] at kk
  intro xv10 h10
  rw [show (21 : Int32) = jI 21 from rfl, kI6, jI_mul, jI_add] at h10
  have e10 : xv10 = jI ((21 * r + 6 : Nat) : Int) := by rw [h10]; congr 1
  subst e10
  have loop : ∀ u k (M1 : mM), k + u = l → KT m s M1 → Eo (sBm m) M M1 → uWt s x y r t u k = uWt s x y r t l 0 → H11_waits_56 (d + 10) Th Q m (jI (x : Nat)) (jI (y : Nat)) (jI (r : Nat)) (jI (l : Nat)) (jI ((21 * r + 6 : Nat) : Int)) (jI (k : Nat)) (jI ((if t + k < 5 then t + k else 5 : Nat) : Int)) M1 := by
    intro u
    induction u with
    | zero =>
      intro k M1 hk k1' e1 hw
      refine h11_waits_56 ?_
      rw [if_pos (by rw [jIle (rI_nat (by omega)) (rI_nat (by omega))]; omega)]
      have := kk M1 k1' e1
      rw [← hw] at this
      exact this
    | succ u ih =>
      intro k M1 hk k1' e1 hw
      refine h11_waits_56 ?_
      rw [if_neg (by rw [jIle (rI_nat (by omega)) (rI_nat (by omega))]; omega)]
      refine ⟨hT 0 _ rfl, ?_⟩
      have bmin : (if t + k < 5 then t + k else 5) ≤ 5 := by split <;> omega
      have hkm : kmo (if t + k < 5 then t + k else 5) = (if t + (k + 1) < 5 then t + (k + 1) else 5) := by
        unfold kmo
        by_cases c : t + k < 5
        · rw [if_pos c, if_pos c]
          by_cases c2 : t + (k + 1) < 5
          · rw [if_pos c2]; omega
          · rw [if_neg c2]; omega
        · rw [if_neg c, if_neg (by omega), if_neg (by omega)]
      rw [uWt] at hw
      generalize htk : (if t + k < 5 then t + k else 5) = tk at bmin hw hkm ⊢
      have hpl := pl_b (l := u + 1) (x := 21 * r + 6) (y := 16 * r + tk) (b := 0) (by omega) (by omega) (by omega) (by omega)
      rw [jI_sub, show (l : Int) - (k : Int) = ((u + 1 : Nat) : Int) by omega, show (16 : Int32) * jI (r : Int) + jI (tk : Int) = jI ((16 * r + tk : Nat) : Int) by rw [show (16 : Int32) = jI 16 from rfl, jI_mul, jI_add]; congr 1]
      refine s11_bestOf (d := d) (L := u + 1) (xs := 21 * r + 6) (ys := 16 * r + tk) (b := 0) (nv := 0) hT k1' hG hO (by omega) (by omega) (by omega) (by omega) (by omega) (by omega) (by omega) (fun M2 k2 e2 g2 => ?_)
      refine ⟨m + 27, k2.1 0 48 27 (by decide), ?_⟩
      refine s11_placeIn (d := d + 8) (b := 0) ?_
      refine ⟨m_ok_jI (hT 27 _ rfl) (by omega) (by omega) (by omega), ?_⟩
      have ab := uAct_b s x y 0 u (21 * r + 6) (21 * r + tk)
      rw [jInatN _ (by omega), g2 (by omega), uZy_th (by omega) bmin, Nat.add_sub_cancel]
      simp only [jq2 (z := uAct s x y 0 u (21 * r + 6) (21 * r + tk)) (rI_of (by omega) (by omega))]
      by_cases c : uAct s x y 0 u (21 * r + 6) (21 * r + tk) = 2
      · rw [if_pos c] at hw
        rw [if_pos c]
        intro xv9 h9
        rw [jI_s] at h9
        subst h9
        refine s11_more (d := d + 8) bmin ?_
        rw [hkm]
        exact ih (k + 1) M2 (by omega) k2 (e1.trans e2) hw
      · rw [if_neg c] at hw
        rw [if_neg c]
        have := kk M2 k2 (e1.trans e2)
        rw [← hw] at this
        exact this
  have e5 : (if t + 0 < 5 then t + 0 else 5) = t := by split <;> omega
  have := loop l 0 M (by omega) hK Eo.rf rfl
  rw [e5] at this
  exact this
end MK
