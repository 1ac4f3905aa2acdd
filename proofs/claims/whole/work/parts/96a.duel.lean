/-! ===== BEST: its value by the ticks left and both states, pure (21 modes a riddle, 105: has the box; of y 6 and 17: it does what x began) ===== -/
def uWk (R r left : Nat) : Nat := if 0 < left then 21 * r + 6 + left else if r + 1 < R then 21 * (r + 1) else 105
def uSt (r left : Nat) (kn : Bool) : Nat := if 0 < left then 21 * r + (if kn = true then 16 else 12) + left else 21 * r + (if kn = true then 6 else 0)
def uGq (R z : Nat) : Nat := if z % 21 ≤ 12 then uWk R (z / 21) (z % 21 - 7) else if z % 21 ≤ 16 then uSt (z / 21) (z % 21 - 13) false else uSt (z / 21) (z % 21 - 17) true
def uCp (s : mS) (y : Nat) : Bool := decide (s 6 y = 1 ∧ s 0 3 = 0)
def uSee (cp : Bool) (z bg : Nat) : Nat := if cp = true ∧ bg ≠ 0 ∧ z % 21 < 6 ∧ z < 105 then 21 * (z / 21) + (if bg = 1 then 6 else 17) else z
def uR (s : mS) : Nat := (s 0 0).toNat
def uMv (s : mS) (y z : Nat) : Nat := if z % 21 = 6 then uWk (uR s) (z / 21) (wN s y (z / 21) - 1) else if z % 21 = 17 then uSt (z / 21) (dN s - 1) false else uGq (uR s) z
def uSn (cp : Bool) (F : Nat → Int) (r z bg : Nat) : Int := F (if z / 21 = r then uSee cp z bg else z)
/-- three that may be, of eight -/
def u3 (g e a b c : Int) : Int := g * a + e * b + (8 - g - e) * c
def uAg (s : mS) (y : Nat) (F : Nat → Int) (z bg : Nat) : Int :=
  if 6 ≤ z % 21 then 8 * uSn (uCp s y) F (z / 21) (uMv s y z) bg
  else u3 (gK s (s 4 y) y (z / 21) (z % 21)) (eK s (s 4 y) y (z / 21) (z % 21)) (uSn (uCp s y) F (z / 21) (uWk (uR s) (z / 21) (wN s y (z / 21))) bg) (uSn (uCp s y) F (z / 21) (uSt (z / 21) (dN s) false) bg) (uSn (uCp s y) F (z / 21) (21 * (z / 21) + kmo (z % 21)) bg)
def uNx (s : mS) (x k z : Nat) : Nat := if k = 1 ∨ k = 3 then uWk (uR s) (z / 21) (wN s x (z / 21) - 1) else if k = 4 then uSt (z / 21) (dN s - 1) (decide (z % 21 = 6)) else if k = 2 then z else uGq (uR s) z
def uBg (k zx zy : Nat) : Nat := if zx / 21 = zy / 21 then (if k = 1 ∨ k = 3 then 1 else if k = 4 then 2 else 0) else 0
/-- one deed: 0 think, 1 go, 2 wait, 3 follow, 4 lead, 5 go on -/
def uDo (s : mS) (x y : Nat) (F : Nat → Nat → Int) (k zx zy : Nat) : Int :=
  if k = 0 then u3 (gK s (s 4 x) x (zx / 21) (zx % 21)) (eK s (s 4 x) x (zx / 21) (zx % 21)) (uAg s y (F (21 * (zx / 21) + 6)) zy 0) (uAg s y (F (uSt (zx / 21) (dN s) false)) zy 0) (uAg s y (F (21 * (zx / 21) + kmo (zx % 21))) zy 0)
  else 8 * uAg s y (F (uNx s x k zx)) zy (uBg k zx zy)
def uLet (nv k : Nat) : Bool := decide (k < 2 ∨ nv / 2 ^ (k - 2) % 2 = 0)
def uCan (s : mS) (nv k zx zy : Nat) : Bool := uLet nv k && (if k = 0 then decide (zx % 21 ≠ 6) else if k = 3 then decide (s 0 3 = 0 ∧ zx / 21 = zy / 21 ∧ 7 ≤ zy % 21 ∧ zy % 21 ≤ 12) else if k = 4 then true else decide (zx % 21 = 6))
/-- the greatest of those that can be, and which: the least of like ones -/
def uMx (f : Nat → Int) (c : Nat → Bool) : Nat → Int
  | 0 => -1
  | k + 1 => if c k = true ∧ uMx f c k < f k then f k else uMx f c k
def uCh (f : Nat → Int) (c : Nat → Bool) : Nat → Int
  | 0 => -1
  | k + 1 => if c k = true ∧ uMx f c k < f k then (k : Int) else uCh f c k
def uV (s : mS) (x y nv : Nat) : Nat → Nat → Nat → Int
  | 0, zx, zy => if zx = 105 then (if zy = 105 then 1 else 2) else if zy = 105 then 0 else 1
  | l + 1, zx, zy => if zx = 105 then (if zy = 105 then 64 ^ (l + 1) else 2 * 64 ^ (l + 1)) else if zy = 105 then 0 else if 7 ≤ zx % 21 then uDo s x y (fun a b => uV s x y nv l a b) 5 zx zy else uMx (fun k => uDo s x y (fun a b => uV s x y nv l a b) k zx zy) (fun k => uCan s nv k zx zy) 5
/-- what x does -/
def uAct (s : mS) (x y nv l zx zy : Nat) : Int := if 7 ≤ zx % 21 then -1 else uCh (fun k => uDo s x y (fun a b => uV s x y nv l a b) k zx zy) (fun k => uCan s nv k zx zy) 5
/-- states that are -/
def uX (R z : Nat) : Prop := z = 105 ∨ z < 21 * R
def uY (R z : Nat) : Prop := z = 105 ∨ (z < 21 * R ∧ z % 21 ≤ 17)
theorem uWk_v {R r left : Nat} (hr : r < R) (hl : left ≤ 6) : uY R (uWk R r left) := by
  unfold uY uWk
  split
  · right; omega
  · split
    · right; omega
    · left; rfl
theorem uSt_v {R r left : Nat} {kn : Bool} (hr : r < R) (hl : left ≤ 4) : uX R (uSt r left kn) := by
  unfold uX uSt
  cases kn
  · simp only [Bool.false_eq_true, if_false]; split <;> (right; omega)
  · simp only [if_true]; split <;> (right; omega)
theorem uSt_w {R r left : Nat} (hr : r < R) (hl : left ≤ 4) : uY R (uSt r left false) := by
  unfold uY uSt
  simp only [Bool.false_eq_true, if_false]; split <;> (right; omega)
theorem uY_x {R z : Nat} (h : uY R z) : uX R z := by
  unfold uX; unfold uY at h; omega
theorem uGq_v {R z : Nat} (h : z < 21 * R) (h7 : 7 ≤ z % 21) : uX R (uGq R z) := by
  unfold uGq
  split
  · exact uY_x (uWk_v (by omega) (by omega))
  · split
    · exact uSt_v (by omega) (by omega)
    · exact uSt_v (by omega) (by omega)
theorem uGq_w {R z : Nat} (h : z < 21 * R) (h7 : 7 ≤ z % 21) (h16 : z % 21 ≤ 16) : uY R (uGq R z) := by
  unfold uGq
  split
  · exact uWk_v (by omega) (by omega)
  · exact uSt_w (by omega) (by omega)
theorem uSee_v {R z bg : Nat} {cp : Bool} (hR : R ≤ 5) (h : uY R z) : uY R (uSee cp z bg) := by
  unfold uSee
  split
  · rename_i q
    unfold uY at *
    split <;> (right; omega)
  · exact h
theorem uMv_v {s : mS} {y z : Nat} (hD : dN s ≤ 4) (h : z < 21 * uR s) (h6 : 6 ≤ z % 21) (h17 : z % 21 ≤ 17) : uY (uR s) (uMv s y z) := by
  have hw := wN_b s y (z / 21)
  unfold uMv
  split
  · exact uWk_v (by omega) (by omega)
  · split
    · exact uSt_w (by omega) (by omega)
    · exact uGq_w h (by omega) (by omega)
theorem uNx_v {s : mS} {x k z : Nat} (hD : dN s ≤ 4) (h : z < 21 * uR s) (hk : (k = 1 ∨ k = 2 ∨ k = 3 ∨ k = 4) ∨ 7 ≤ z % 21) : uX (uR s) (uNx s x k z) := by
  have hw := wN_b s x (z / 21)
  unfold uNx
  split
  · exact uY_x (uWk_v (by omega) (by omega))
  · split
    · exact uSt_v (by omega) (by omega)
    · split
      · right; exact h
      · exact uGq_v h (by omega)
theorem uTh_v {R z : Nat} (h : z < 21 * R) : uY R (21 * (z / 21) + kmo (z % 21)) := by
  right
  have : kmo (z % 21) ≤ 5 := by unfold kmo; split <;> omega
  omega
/-! bounds -/
theorem u3_b {g e a b c B : Int} (hg : 0 ≤ g) (he : 0 ≤ e) (hge : g + e ≤ 8) (ha : 0 ≤ a ∧ a ≤ B) (hb : 0 ≤ b ∧ b ≤ B) (hc : 0 ≤ c ∧ c ≤ B) : 0 ≤ u3 g e a b c ∧ u3 g e a b c ≤ 8 * B := by
  unfold u3
  have q : 0 ≤ 8 - g - e := by omega
  have a1 := Int.mul_nonneg hg ha.1
  have a2 := Int.mul_nonneg he hb.1
  have a3 := Int.mul_nonneg q hc.1
  have b1 := Int.mul_le_mul_of_nonneg_left ha.2 hg
  have b2 := Int.mul_le_mul_of_nonneg_left hb.2 he
  have b3 := Int.mul_le_mul_of_nonneg_left hc.2 q
  have e1 : g * B + e * B + (8 - g - e) * B = 8 * B := by grind
  omega
theorem uAg_b {s : mS} {y z bg : Nat} {F : Nat → Int} {B : Int} (hF : ∀ a, 0 ≤ F a ∧ F a ≤ B) : 0 ≤ uAg s y F z bg ∧ uAg s y F z bg ≤ 8 * B := by
  unfold uAg uSn
  split
  · have := hF (if uMv s y z / 21 = z / 21 then uSee (uCp s y) (uMv s y z) bg else uMv s y z)
    omega
  · have g := gK_b s (s 4 y) y (z / 21) (z % 21)
    have e := eK_b s (s 4 y) y (z / 21) (z % 21)
    exact u3_b g.1 e.1 (by omega) (hF _) (hF _) (hF _)
theorem uDo_b {s : mS} {x y k zx zy : Nat} {F : Nat → Nat → Int} {B : Int} (hF : ∀ a b, 0 ≤ F a b ∧ F a b ≤ B) : 0 ≤ uDo s x y F k zx zy ∧ uDo s x y F k zx zy ≤ 64 * B := by
  unfold uDo
  split
  · have g := gK_b s (s 4 x) x (zx / 21) (zx % 21)
    have e := eK_b s (s 4 x) x (zx / 21) (zx % 21)
    have := u3_b g.1 e.1 (by omega) (uAg_b (s := s) (y := y) (z := zy) (bg := 0) (hF (21 * (zx / 21) + 6))) (uAg_b (s := s) (y := y) (z := zy) (bg := 0) (hF (uSt (zx / 21) (dN s) false))) (uAg_b (s := s) (y := y) (z := zy) (bg := 0) (hF (21 * (zx / 21) + kmo (zx % 21))))
    omega
  · have := uAg_b (s := s) (y := y) (z := zy) (bg := uBg k zx zy) (hF (uNx s x k zx))
    omega
theorem uMx_b {f : Nat → Int} {c : Nat → Bool} {B : Int} (hB : -1 ≤ B) (hf : ∀ k, 0 ≤ f k ∧ f k ≤ B) (k : Nat) : -1 ≤ uMx f c k ∧ uMx f c k ≤ B := by
  induction k with
  | zero => exact ⟨by show (-1 : Int) ≤ -1; omega, hB⟩
  | succ k ih =>
    rw [uMx]
    have := hf k
    split <;> omega
theorem uMx_mono {f : Nat → Int} {c : Nat → Bool} (k j : Nat) : uMx f c k ≤ uMx f c (k + j) := by
  induction j with
  | zero => exact Int.le_refl _
  | succ j ih =>
    rw [← Nat.add_assoc, uMx]
    split <;> omega
theorem uMx_pos {f : Nat → Int} {c : Nat → Bool} {k n : Nat} (hf : ∀ k, 0 ≤ f k) (hk : k < n) (hc : c k = true) : 0 ≤ uMx f c n := by
  have h1 := uMx_mono (f := f) (c := c) (k + 1) (n - (k + 1))
  rw [show k + 1 + (n - (k + 1)) = n by omega] at h1
  have h2 : 0 ≤ uMx f c (k + 1) := by
    have := hf k
    rw [uMx]
    split
    · exact this
    · rename_i q
      have : ¬ (uMx f c k < f k) := fun z => q ⟨hc, z⟩
      omega
  omega
/-- one can always do something -/
theorem uCan_some (s : mS) (nv zx zy : Nat) : ∃ k, k < 5 ∧ uCan s nv k zx zy = true := by
  by_cases h : zx % 21 = 6
  · exact ⟨1, by omega, by unfold uCan uLet; simp [h]⟩
  · exact ⟨0, by omega, by unfold uCan uLet; simp [h]⟩
theorem uV_b (s : mS) (x y nv : Nat) (l : Nat) : ∀ zx zy, 0 ≤ uV s x y nv l zx zy ∧ uV s x y nv l zx zy ≤ 2 * 64 ^ l := by
  induction l with
  | zero =>
    intro zx zy
    rw [uV]
    split
    · split <;> decide
    · split <;> decide
  | succ l ih =>
    intro zx zy
    have p : (0 : Int) < 64 ^ l := Int.pow_pos (by decide)
    have e : (64 : Int) ^ (l + 1) = 64 * 64 ^ l := by rw [Int.pow_succ, Int.mul_comm]
    have hd : ∀ k, 0 ≤ uDo s x y (fun a b => uV s x y nv l a b) k zx zy ∧ uDo s x y (fun a b => uV s x y nv l a b) k zx zy ≤ 64 * (2 * 64 ^ l) := fun k => uDo_b (fun a b => ih a b)
    rw [uV, e]
    split
    · split <;> omega
    · split
      · omega
      · split
        · have := hd 5; omega
        · have h1 := uMx_b (c := fun k => uCan s nv k zx zy) (B := 64 * (2 * 64 ^ l)) (by omega) hd 5
          obtain ⟨k, hk, hc⟩ := uCan_some s nv zx zy
          have h2 := uMx_pos (c := fun k => uCan s nv k zx zy) (fun k => (hd k).1) hk hc
          omega
theorem p64 (l : Nat) (h : l ≤ 10) : (64 : Int) ^ l ≤ 1152921504606846976 := by
  have : ∀ k : Fin 11, (64 : Int) ^ k.val ≤ 1152921504606846976 := by decide +kernel
  exact this ⟨l, by omega⟩
theorem uV_r (s : mS) (x y nv l zx zy : Nat) (h : l ≤ 10) : 0 ≤ uV s x y nv l zx zy ∧ uV s x y nv l zx zy ≤ 2305843009213693952 := by
  have := uV_b s x y nv l zx zy
  have := p64 l h
  omega
theorem uDo_r (s : mS) (x y nv l k zx zy : Nat) (h : l ≤ 9) : 0 ≤ uDo s x y (fun a b => uV s x y nv l a b) k zx zy ∧ uDo s x y (fun a b => uV s x y nv l a b) k zx zy ≤ 2305843009213693952 := by
  have h1 : 0 ≤ uDo s x y (fun a b => uV s x y nv l a b) k zx zy ∧ uDo s x y (fun a b => uV s x y nv l a b) k zx zy ≤ 64 * (2 * 64 ^ l) := uDo_b (fun a b => uV_b s x y nv l a b)
  have := p64 (l + 1) (by omega)
  have e : (64 : Int) ^ (l + 1) = 64 * 64 ^ l := by rw [Int.pow_succ, Int.mul_comm]
  omega
/-- where a value stands in the class -/
def uIx (R l zx zy : Nat) : Nat := ((l * R * 21 + zx) * R + zy / 21) * 18 + zy % 21
theorem uIx_b {R l zx zy : Nat} (hR : R ≤ 5) (hl : l < 10) (hx : zx < 21 * R) (hy : zy < 21 * R) (h17 : zy % 21 ≤ 17) : uIx R l zx zy < 94500 := by
  unfold uIx
  have : R = 0 ∨ R = 1 ∨ R = 2 ∨ R = 3 ∨ R = 4 ∨ R = 5 := by omega
  rcases this with h | h | h | h | h | h <;> subst h <;> omega
theorem uIx_inj {R l zx zy l' zx' zy' : Nat} (hR : R ≤ 5) (hx : zx < 21 * R) (hy : zy < 21 * R) (h17 : zy % 21 ≤ 17) (hx' : zx' < 21 * R) (hy' : zy' < 21 * R) (h17' : zy' % 21 ≤ 17) (h : uIx R l zx zy = uIx R l' zx' zy') : l = l' ∧ zx = zx' ∧ zy = zy' := by
  unfold uIx at h
  have : R = 0 ∨ R = 1 ∨ R = 2 ∨ R = 3 ∨ R = 4 ∨ R = 5 := by omega
  rcases this with e | e | e | e | e | e <;> subst e <;> omega
theorem uIx_used {R l zx zy : Nat} (hR : R ≤ 5) (hl : l < 10) (hx : zx < 21 * R) (hy : zy < 21 * R) (h17 : zy % 21 ≤ 17) : uIx R l zx zy < 10 * R * 21 * R * 18 := by
  unfold uIx
  have : R = 0 ∨ R = 1 ∨ R = 2 ∨ R = 3 ∨ R = 4 ∨ R = 5 := by omega
  rcases this with h | h | h | h | h | h <;> subst h <;> omega
