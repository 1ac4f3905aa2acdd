/-! ===== BEST in the model: one state's acts ===== -/
/-- what reckoning writes -/
def sBm (m : Nat) : Nat → Nat → Prop := fun q k => sXd m q k ∨ sYd m q k ∨ q = m + 25 ∨ q = m + 26 ∨ q = m + 27
theorem sBm_k {m : Nat} : ∀ q k, sBm m q k → ¬ ((q = m ∧ (k ≤ 3 ∨ (5 ≤ k ∧ k ≤ 11) ∨ (21 ≤ k ∧ k ≤ 34) ∨ (37 ≤ k ∧ k ≤ 39) ∨ k = 41 ∨ (46 ≤ k ∧ k ≤ 52) ∨ (57 ≤ k ∧ k ≤ 59) ∨ 62 ≤ k)) ∨ (m + 1 ≤ q ∧ q ≤ m + 6) ∨ (m + 14 ≤ q ∧ q ≤ m + 18)) := by
  intro q k h
  unfold sBm sXd sYd sTh sXp sYp at h
  omega
def cDo (s : mS) (k xs ys : Nat) : Bool := if k = 0 then decide (xs % 21 ≠ 6) else if k = 3 then decide (s 0 3 = 0 ∧ ys / 16 = xs / 21 ∧ 6 ≤ ys % 16 ∧ ys % 16 ≤ 11) else if k = 4 then true else decide (xs % 21 = 6)
theorem uZy_m {s : mS} {y ys b : Nat} (hR : uR s ≤ 5) (h : ys < 16 * uR s) : (7 ≤ uZy s y ys b % 21 ∧ uZy s y ys b % 21 ≤ 12) ↔ (6 ≤ ys % 16 ∧ ys % 16 ≤ 11) := by
  unfold uZy uSee uYc
  rw [if_neg (show ¬ ys = 80 by omega)]
  by_cases c : ys % 16 ≤ 5
  · rw [if_pos c]
    split
    · split <;> omega
    · omega
  · rw [if_neg c, if_neg (by omega)]
    omega
theorem uCan_z {s : mS} {y nv k xs ys b : Nat} (hR : uR s ≤ 5) (h : ys < 16 * uR s) : uCan s nv k xs (uZy s y ys b) = (uLet nv k && cDo s k xs ys) := by
  unfold uCan cDo
  congr 1
  by_cases k0 : k = 0
  · rw [if_pos k0, if_pos k0]
  rw [if_neg k0, if_neg k0]
  by_cases k3 : k = 3
  · rw [if_pos k3, if_pos k3]
    have e1 := (uZy_v (y := y) (b := b) hR h).2.2.1
    have e2 := uZy_m (y := y) (b := b) hR h
    rw [e1]
    by_cases q : s 0 3 = 0 ∧ ys / 16 = xs / 21 ∧ 6 ≤ ys % 16 ∧ ys % 16 ≤ 11
    · rw [decide_eq_true q, decide_eq_true ⟨q.1, q.2.1.symm, e2.mpr q.2.2⟩]
    · rw [decide_eq_false q, decide_eq_false (fun z => q ⟨z.1, z.2.1.symm, e2.mp z.2.2⟩)]
  · rw [if_neg k3, if_neg k3]
theorem u_let : ∀ (v : Fin 8) (k : Fin 5), (((jI (v.val : Int) >>> ((jI (k.val : Int) - 2) &&& 31)) &&& 1 = 0) = (v.val / 2 ^ (k.val - 2) % 2 = 0)) ∨ k.val < 2 := by decide +kernel
theorem u_byte (v : Bool) (k : Fin 5) : (Int32.toInt8 (((if jB v = 0 then (-1) else jI (k.val : Int)) : Int32).toInt8.toInt32)).toInt32 = jI (if v = true then (k.val : Int) else -1) := by
  have : ∀ k : Fin 5, (Int32.toInt8 ((jI (k.val : Int)).toInt8.toInt32)).toInt32 = jI (k.val : Int) := by decide +kernel
  cases v
  · rfl
  · rw [if_neg (by decide), if_pos rfl]; exact this k
section MH
variable {d : Nat} {Th : mT} {M : mM} {m : Nat} {s : mS}
theorem s11_isFree {Q : Int32 → mM → Prop} {xs : Nat} (hx : xs ≤ 105) (k : Q (jB (decide (xs % 21 < 7))) M) : P11_isFree (d + 1) Th (jI xs) M Q := by
  refine e11_isFree ?_
  rw [jI_mod21 (by omega)]
  have e : (if 7 ≤ jI ((xs % 21 : Nat) : Int) then (0 : Int32) else 1) = jB (decide (xs % 21 < 7)) := by
    simp only [jh7 (z := ((xs % 21 : Nat) : Int)) (rI_nat (by omega))]
    by_cases c : xs % 21 < 7
    · rw [if_neg (by omega), decide_eq_true c]; rfl
    · rw [if_pos (by omega), decide_eq_false c]; rfl
  rw [e]
  exact ⟨jB_bool _, k⟩
theorem s11_isLet {Q : Int32 → mM → Prop} {nv k : Nat} (hn : nv ≤ 7) (hk : k < 5) (kk : Q (jB (uLet nv k)) M) : P11_isLet (d + 1) Th m (jI k) (jI nv) M Q := by
  refine e11_isLet ?_
  simp only [jl2 (z := (k : Int)) (rI_nat (by omega))]
  unfold uLet at kk
  by_cases c : k < 2
  · rw [decide_eq_true (Or.inl c)] at kk
    rw [if_pos (by omega)]; exact kk
  rw [if_neg (by omega)]
  have ul := u_let ⟨nv, by omega⟩ ⟨k, hk⟩
  rcases ul with ul | ul
  rotate_left
  · exact absurd ul c
  have e : (if ((jI (nv : Int) >>> ((jI (k : Int) - 2) &&& 31)) &&& 1) = 0 then (1 : Int32) else 0) = jB (decide (k < 2 ∨ nv / 2 ^ (k - 2) % 2 = 0)) := by
    simp only [ul]
    by_cases q : nv / 2 ^ (k - 2) % 2 = 0
    · rw [if_pos q, decide_eq_true (Or.inr q)]; rfl
    · rw [if_neg q, decide_eq_false (by omega)]; rfl
  rw [e]
  exact ⟨jB_bool _, kk⟩
theorem s11_canDo {Q : Int32 → mM → Prop} {k xs ys : Nat} (hT : LyM Th m) (h3 : M.1 m 3 = jI (s 0 3)) (hG : rG s) (hx : xs ≤ 105) (hy : ys ≤ 80) (hk : k < 5) (kk : Q (jB (cDo s k xs ys)) M) : P11_canDo (d + 2) Th m (jI xs) (jI ys) (jI k) M Q := by
  have g3 := hG.2.2.2.1
  refine e11_canDo ?_
  intro xv1 h1
  rw [jI_mod21 (by omega)] at h1
  simp only [jq6 (z := ((xs % 21 : Nat) : Int)) (rI_nat (by omega))] at h1
  have e1 : xv1 = jB (decide (xs % 21 = 6)) := by
    rw [h1]
    by_cases c : xs % 21 = 6
    · rw [if_pos (by omega), decide_eq_true c]; rfl
    · rw [if_neg (by omega), decide_eq_false c]; rfl
  subst e1
  simp only [jq0 (z := (k : Int)) (rI_nat (by omega)), jq1 (z := (k : Int)) (rI_nat (by omega)), jq2 (z := (k : Int)) (rI_nat (by omega)), jq3 (z := (k : Int)) (rI_nat (by omega))]
  unfold cDo at kk
  by_cases k0 : k = 0
  · rw [if_pos k0] at kk
    rw [if_pos (by omega)]
    have e : (if jB (decide (xs % 21 = 6)) = 0 then (1 : Int32) else 0) = jB (decide (xs % 21 ≠ 6)) := by
      by_cases c : xs % 21 = 6
      · rw [decide_eq_true c, decide_eq_false (by omega)]; rfl
      · rw [decide_eq_false c, decide_eq_true c]; rfl
    rw [e]
    exact ⟨jB_bool _, kk⟩
  rw [if_neg k0] at kk
  rw [if_neg (by omega)]
  by_cases k1 : k = 1
  · rw [if_neg (by omega), if_neg (by omega)] at kk
    rw [if_pos (by omega)]
    exact ⟨jB_bool _, kk⟩
  rw [if_neg (by omega)]
  by_cases k2 : k = 2
  · rw [if_neg (by omega), if_neg (by omega)] at kk
    rw [if_pos (by omega)]
    exact ⟨jB_bool _, kk⟩
  rw [if_neg (by omega)]
  by_cases k3 : k = 3
  rotate_left
  · rw [if_neg k3, if_pos (by omega)] at kk
    rw [if_neg (by omega)]
    exact kk
  rw [if_pos k3] at kk
  rw [if_pos (by omega)]
  refine ⟨hT 0 _ rfl, ?_⟩
  rw [h3, jI_mod16 (k := ys) (by omega), jI_div21 (by omega), jI_div16 (by omega)]
  simp only [jq0 (z := s 0 3) (rI_of (by omega) (by omega)), jIeq (rI_nat (k := ys / 16) (by omega)) (rI_nat (k := xs / 21) (by omega))]
  by_cases f : s 0 3 = 0
  rotate_left
  · rw [decide_eq_false (fun q => f q.1)] at kk
    rw [if_neg f]; exact kk
  rw [if_pos f]
  by_cases w : ys / 16 = xs / 21
  rotate_left
  · rw [decide_eq_false (fun q => w q.2.1)] at kk
    rw [if_neg (by omega)]; exact kk
  rw [if_pos (by omega)]
  refine s_in 6 11 rfl rfl rfl (rI_nat (by omega)) (rI_of (by omega) (by omega)) (rI_of (by omega) (by omega)) (fun p1 p2 => ?_) (fun p => ?_)
  · rw [decide_eq_true ⟨f, w, by omega, by omega⟩] at kk
    rw [if_neg (by decide)]
    exact ⟨mb1, kk⟩
  · rw [decide_eq_false (fun q => p (by omega))] at kk
    rw [if_pos rfl]
    exact ⟨mb0, kk⟩
/-- one act: whether it is tried -/
theorem s11_tries {Q : mM → Prop} {x y l nv xs ys b at' sm k : Nat} {mk : Int32} (hT : LyM Th m) (hK : KT m s M) (hG : rG s) (hx : xs < 21 * uR s) (hy : ys < 16 * uR s) (hk : k < 5) (hn : nv ≤ 7)
    (K0 : qC s nv xs (uZy s y ys b) k = false → H11_acts_40 (d + 3) Th Q m (jI (x : Nat)) (jI (y : Nat)) (jI (l : Nat)) (jI (nv : Nat)) mk (jI (b : Nat)) (jI (xs : Nat)) (jI (ys : Nat)) (jI (at' : Nat)) (jI (sm : Nat)) (jI ((k + 1 : Nat) : Int)) M)
    (K1 : qC s nv xs (uZy s y ys b) k = true → H11_acts_89 (d + 3) Th Q m (jI (x : Nat)) (jI (y : Nat)) (jI (l : Nat)) (jI (nv : Nat)) mk (jI (b : Nat)) (jI (xs : Nat)) (jI (ys : Nat)) (jI (at' : Nat)) (jI (sm : Nat)) (jI (k : Nat)) M) : H11_acts_40 (d + 3) Th Q m (jI (x : Nat)) (jI (y : Nat)) (jI (l : Nat)) (jI (nv : Nat)) mk (jI (b : Nat)) (jI (xs : Nat)) (jI (ys : Nat)) (jI (at' : Nat)) (jI (sm : Nat)) (jI (k : Nat)) M := by
  obtain ⟨e0, eR, eD, eD1, eD4⟩ := uR_e hG
  refine h11_acts_40 ?_
  rw [if_neg (by rw [jh5 (rI_nat (by omega))]; omega)]
  refine s11_isFree (d := d + 1) (by omega) ?_
  rw [jI_s]
  unfold qC at K0 K1
  by_cases c7 : 7 ≤ xs % 21
  · rw [if_pos c7] at K0 K1
    rw [decide_eq_false (by omega), if_pos jBf]
    simp only [je0 (z := (k : Int)) (rI_nat (by omega))]
    by_cases k0 : k = 0
    · rw [if_pos (by omega)]; exact K1 (decide_eq_true k0)
    · rw [if_neg (by omega)]; exact K0 (decide_eq_false k0)
  rw [if_neg c7, uCan_z eR hy] at K0 K1
  rw [decide_eq_true (by omega), if_neg (by decide)]
  refine ⟨hT 0 _ rfl, ?_⟩
  refine s11_canDo (d := d) hT hK.2.1.2.2.2.1 hG (by omega) (by omega) hk ?_
  cases hc : cDo s k xs ys
  · rw [if_pos jBf]
    exact K0 (by rw [hc, Bool.and_false])
  rw [if_neg (by decide)]
  refine s11_isLet (d := d + 1) hn hk ?_
  cases hl : uLet nv k
  · rw [if_pos jBf]
    exact K0 (by rw [hl, Bool.false_and])
  rw [if_neg (by decide)]
  exact K1 (by rw [hc, hl]; rfl)
/-- the lists' states are some -/
theorem lX_v {x k z t : Nat} {w : Int} (hG : rG s) (hz : z < 21 * uR s) (h : (t, w) ∈ lX s x k z) : uX (uR s) t ∧ -100 ≤ w ∧ w ≤ 100 := by
  obtain ⟨e0, eR, eD, eD1, eD4⟩ := uR_e hG
  unfold lX at h
  by_cases c7 : 7 ≤ z % 21
  · rw [if_pos c7] at h
    have := List.mem_singleton.mp h
    have e1 : t = uGq (uR s) z := congrArg Prod.fst this
    have e2 : w = 8 := congrArg Prod.snd this
    rw [e1, e2]
    exact ⟨uGq_v hz c7, by omega, by omega⟩
  rw [if_neg c7] at h
  by_cases k0 : k = 0
  · rw [if_pos k0] at h
    have gb := gK_b s (s 4 x) x (z / 21) (z % 21)
    have eb := eK_b s (s 4 x) x (z / 21) (z % 21)
    rcases l3_mem h with q | q | q
    · exact ⟨by rw [q.1]; right; omega, by omega⟩
    · exact ⟨by rw [q.1]; exact uSt_v (by omega) eD4, by omega⟩
    · exact ⟨by rw [q.1]; exact uY_x (uTh_v hz), by omega⟩
  · rw [if_neg k0] at h
    have := List.mem_singleton.mp h
    have e1 : t = uNx s x k z := congrArg Prod.fst this
    have e2 : w = 8 := congrArg Prod.snd this
    rw [e1, e2]
    refine ⟨?_, by omega, by omega⟩
    have hw := wN_b s x (z / 21)
    unfold uNx
    split
    · exact uY_x (uWk_v (by omega) (by omega))
    · split
      · exact uSt_v (by omega) (by omega)
      · split
        · right; exact hz
        · unfold uGq
          rw [if_pos (by omega)]
          exact uY_x (uWk_v (by omega) (by omega))
theorem lX_l {x k z : Nat} : (lX s x k z).length ≤ 3 := by
  unfold lX
  split
  · show 1 ≤ 3; omega
  · split
    · exact l3_len
    · show 1 ≤ 3; omega
theorem lY_l {y z b : Nat} : (lY s y z b).length ≤ 3 := by
  unfold lY
  split
  · show 1 ≤ 3; omega
  · split
    · show 1 ≤ 3; omega
    · split
      · show 1 ≤ 3; omega
      · exact l3_len
theorem lY_v {y z b t : Nat} {w : Int} (hG : rG s) (hz : z < 16 * uR s) (h : (t, w) ∈ lY s y z b) : yOk (uR s) t ∧ -100 ≤ w ∧ w ≤ 100 := by
  obtain ⟨e0, eR, eD, eD1, eD4⟩ := uR_e hG
  have hw := wN_b s y (z / 16)
  have one : ∀ a, (t, w) ∈ [(a, (8 : Int))] → yOk (uR s) a → yOk (uR s) t ∧ -100 ≤ w ∧ w ≤ 100 := by
    intro a h hv
    have := List.mem_singleton.mp h
    have e1 : t = a := congrArg Prod.fst this
    have e2 : w = 8 := congrArg Prod.snd this
    rw [e1, e2]
    exact ⟨hv, by omega, by omega⟩
  unfold lY at h
  by_cases c12 : 12 ≤ z % 16
  · rw [if_pos c12] at h
    exact one _ h (ySt_v (by omega) (by omega))
  rw [if_neg c12] at h
  by_cases c6 : 6 ≤ z % 16
  · rw [if_pos c6] at h
    exact one _ h (yWk_v (by omega) (by omega))
  rw [if_neg c6] at h
  by_cases cc : 0 < b ∧ uCp s y = true
  · rw [if_pos cc] at h
    refine one _ h ?_
    split
    · exact yWk_v (by omega) (by omega)
    · exact ySt_v (by omega) (by omega)
  rw [if_neg cc] at h
  have gb := gK_b s (s 4 y) y (z / 16) (z % 16)
  have eb := eK_b s (s 4 y) y (z / 16) (z % 16)
  have k5 := kmo_5 (z % 16)
  rcases l3_mem h with q | q | q
  · exact ⟨by rw [q.1]; right; omega, by omega⟩
  · exact ⟨by rw [q.1]; exact ySt_v (by omega) eD4, by omega⟩
  · exact ⟨by rw [q.1]; right; omega, by omega⟩
theorem bgA_f {k xs ys ny : Nat} : bgA k xs ys ny = bgf xs ys (xBg k xs) ny := rfl
theorem xBg_b {k z : Nat} : xBg k z ≤ 2 := by
  unfold xBg
  split
  · omega
  · split
    · omega
    · split <;> omega
end MH
