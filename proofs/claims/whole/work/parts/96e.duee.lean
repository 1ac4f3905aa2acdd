/-! ===== BEST in the model: its states beside the class's; what may come in a tick, as lists ===== -/
def uYc (z : Nat) : Nat := if z = 80 then 105 else 21 * (z / 16) + (if z % 16 ≤ 5 then z % 16 else z % 16 + 1)
def lSm (f : Nat → Int) : List (Nat × Int) → Int
  | [] => 0
  | (t, w) :: L => w * f t + lSm f L
def uP (L : List (Nat × Int)) (t : Nat) (w : Int) : List (Nat × Int) := if w = 0 then L else L ++ [(t, w)]
theorem lSm_app (f : Nat → Int) (L : List (Nat × Int)) (t : Nat) (w : Int) : lSm f (L ++ [(t, w)]) = lSm f L + w * f t := by
  induction L with
  | nil => show w * f t + 0 = 0 + w * f t; omega
  | cons a L ih =>
    obtain ⟨t', w'⟩ := a
    show w' * f t' + lSm f (L ++ [(t, w)]) = w' * f t' + lSm f L + w * f t
    rw [ih]; omega
theorem lSm_uP (f : Nat → Int) (L : List (Nat × Int)) (t : Nat) (w : Int) : lSm f (uP L t w) = lSm f L + w * f t := by
  unfold uP
  split
  · rename_i h; rw [h, Int.zero_mul, Int.add_zero]
  · exact lSm_app f L t w
theorem lSm_ext {f g : Nat → Int} {L : List (Nat × Int)} (h : ∀ t w, (t, w) ∈ L → f t = g t) : lSm f L = lSm g L := by
  induction L with
  | nil => rfl
  | cons a L ih =>
    obtain ⟨t, w⟩ := a
    show w * f t + lSm f L = w * g t + lSm g L
    rw [h t w (List.mem_cons_self), ih (fun t w q => h t w (List.mem_cons_of_mem _ q))]
theorem uP_mem {L : List (Nat × Int)} {t t' : Nat} {w w' : Int} (h : (t', w') ∈ uP L t w) : (t', w') ∈ L ∨ (t' = t ∧ w' = w) := by
  unfold uP at h
  split at h
  · exact Or.inl h
  · rcases List.mem_append.mp h with q | q
    · exact Or.inl q
    · right
      have := List.mem_singleton.mp q
      exact ⟨congrArg Prod.fst this, congrArg Prod.snd this⟩
theorem uP_len {L : List (Nat × Int)} {t : Nat} {w : Int} : (uP L t w).length ≤ L.length + 1 := by
  unfold uP
  split
  · omega
  · rw [List.length_append]; exact Nat.le_refl _
/-! what y does -/
def yWk (R r left : Nat) : Nat := if 0 < left then 16 * r + 5 + left else if r + 1 = R then 80 else 16 * (r + 1)
def ySt (r left : Nat) : Nat := if left = 0 then 16 * r else 16 * r + 11 + left
def l3 (a b c : Nat) (g e : Int) : List (Nat × Int) := uP (uP (uP [] a g) b e) c (8 - g - e)
theorem lSm_l3 (f : Nat → Int) (a b c : Nat) (g e : Int) : lSm f (l3 a b c g e) = u3 g e (f a) (f b) (f c) := by
  unfold l3 u3
  rw [lSm_uP, lSm_uP, lSm_uP]
  show 0 + _ + _ + _ = _
  omega
theorem lSm_1 (f : Nat → Int) (a : Nat) : lSm f [(a, 8)] = 8 * f a := by show 8 * f a + 0 = _; omega
theorem l3_len {a b c : Nat} {g e : Int} : (l3 a b c g e).length ≤ 3 := by
  unfold l3
  have h1 := uP_len (L := []) (t := a) (w := g)
  have h2 := uP_len (L := uP [] a g) (t := b) (w := e)
  have h3 := uP_len (L := uP (uP [] a g) b e) (t := c) (w := 8 - g - e)
  have h0 : ([] : List (Nat × Int)).length = 0 := rfl
  omega
theorem l3_mem {a b c t : Nat} {g e w : Int} (h : (t, w) ∈ l3 a b c g e) : (t = a ∧ w = g) ∨ (t = b ∧ w = e) ∨ (t = c ∧ w = 8 - g - e) := by
  unfold l3 at h
  rcases uP_mem h with q | q
  · rcases uP_mem q with q | q
    · rcases uP_mem q with q | q
      · exact absurd q (by simp)
      · exact Or.inl q
    · exact Or.inr (Or.inl q)
  · exact Or.inr (Or.inr q)
def lY (s : mS) (y z bg : Nat) : List (Nat × Int) :=
  if 12 ≤ z % 16 then [(ySt (z / 16) (z % 16 - 12), 8)]
  else if 6 ≤ z % 16 then [(yWk (uR s) (z / 16) (z % 16 - 6), 8)]
  else if 0 < bg ∧ uCp s y = true then [(if bg = 1 then yWk (uR s) (z / 16) (wN s y (z / 16) - 1) else ySt (z / 16) (dN s - 1), 8)]
  else l3 (16 * (z / 16) + 5 + wN s y (z / 16)) (ySt (z / 16) (dN s)) (16 * (z / 16) + kmo (z % 16)) (gK s (s 4 y) y (z / 16) (z % 16)) (eK s (s 4 y) y (z / 16) (z % 16))
def lX (s : mS) (x k z : Nat) : List (Nat × Int) :=
  if 7 ≤ z % 21 then [(uGq (uR s) z, 8)]
  else if k = 0 then l3 (21 * (z / 21) + 6) (uSt (z / 21) (dN s) false) (21 * (z / 21) + kmo (z % 21)) (gK s (s 4 x) x (z / 21) (z % 21)) (eK s (s 4 x) x (z / 21) (z % 21))
  else [(uNx s x k z, 8)]
/-- what x begins -/
def xBg (k z : Nat) : Nat := if 7 ≤ z % 21 then 0 else if k = 1 ∨ k = 3 then 1 else if k = 4 then 2 else 0
def bgA (k zx ys ny : Nat) : Nat := if ny < 80 ∧ zx / 21 = ys / 16 ∧ ny / 16 = ys / 16 then xBg k zx else 0
/-- states of y that are, in the model -/
def yOk (R z : Nat) : Prop := z = 80 ∨ z < 16 * R
theorem yWk_v {R r left : Nat} (hr : r < R) (hl : left ≤ 6) : yOk R (yWk R r left) := by
  unfold yOk yWk
  split
  · right; omega
  · split
    · left; rfl
    · right; omega
theorem ySt_v {R r left : Nat} (hr : r < R) (hl : left ≤ 4) : yOk R (ySt r left) := by
  unfold yOk ySt
  split <;> (right; omega)
theorem yWk_c {R r left : Nat} (hR : R ≤ 5) (hr : r < R) (hl : left ≤ 6) : uYc (yWk R r left) = uWk R r left := by
  unfold yWk uWk
  by_cases c : 0 < left
  · rw [if_pos c, if_pos c]
    unfold uYc
    rw [if_neg (by omega), if_neg (by omega)]
    omega
  · rw [if_neg c, if_neg c]
    by_cases c2 : r + 1 = R
    · rw [if_pos c2, if_neg (by omega)]; rfl
    · rw [if_neg c2, if_pos (by omega)]
      unfold uYc
      rw [if_neg (by omega), if_pos (by omega)]
      omega
theorem ySt_c {r left : Nat} (hr : r < 5) (hl : left ≤ 4) : uYc (ySt r left) = uSt r left false := by
  unfold ySt uSt
  by_cases c : left = 0
  · rw [if_pos c, if_neg (by omega), if_neg (by decide)]
    unfold uYc
    rw [if_neg (by omega), if_pos (by omega)]
    omega
  · rw [if_neg c, if_pos (by omega), if_neg (by decide)]
    unfold uYc
    rw [if_neg (by omega), if_neg (by omega)]
    omega
theorem yTh_c {r t : Nat} (hr : r < 5) (ht : t ≤ 5) : uYc (16 * r + t) = 21 * r + t := by
  unfold uYc
  rw [if_neg (by omega), if_pos (by omega)]
  omega
theorem kmo_5 (t : Nat) : kmo t ≤ 5 := by unfold kmo; split <;> omega
theorem uYc_v {R z : Nat} (hR : R ≤ 5) (h : yOk R z) : uY R (uYc z) ∧ (z ≠ 80 → uYc z / 21 = z / 16) ∧ (z ≠ 80 → uYc z ≠ 105) := by
  unfold yOk at h
  unfold uY uYc
  by_cases c : z = 80
  · rw [if_pos c]; exact ⟨Or.inl rfl, fun q => absurd c q, fun q => absurd c q⟩
  · rw [if_neg c]
    have : z < 16 * R := by omega
    split <;> (refine ⟨Or.inr ?_, fun _ => ?_, fun _ => ?_⟩ <;> omega)
theorem uSn_c {R r ny bg : Nat} {cp : Bool} {F : Nat → Int} (hR : R ≤ 5) (hr : r < R) (h : yOk R ny) : uSn cp F r (uYc ny) bg = F (uSee cp (uYc ny) (if ny < 80 ∧ ny / 16 = r then bg else 0)) := by
  have hv := uYc_v hR h
  unfold uSn
  have e0 : uSee cp (uYc ny) 0 = uYc ny := by unfold uSee; rw [if_neg (fun q => q.2.1 rfl)]
  by_cases c : ny = 80
  · have : uYc ny = 105 := by rw [c]; rfl
    rw [if_neg (show ¬ (ny < 80 ∧ ny / 16 = r) by omega), e0, this, if_neg (by omega)]
  · have h2 := hv.2.1 c
    have h3 : ny < 80 := by unfold yOk at h; omega
    by_cases c2 : ny / 16 = r
    · rw [if_pos (show ny < 80 ∧ ny / 16 = r from ⟨h3, c2⟩), if_pos (show uYc ny / 21 = r by omega)]
    · rw [if_neg (show ¬ (ny < 80 ∧ ny / 16 = r) from fun q => c2 q.2), e0, if_neg (show ¬ uYc ny / 21 = r by omega)]
/-- a state as the class has it -/
def uZy (s : mS) (y ys b : Nat) : Nat := uSee (uCp s y) (uYc ys) b
theorem uZy_v {s : mS} {y ys b : Nat} (hR : uR s ≤ 5) (h : ys < 16 * uR s) : uZy s y ys b < 21 * uR s ∧ uZy s y ys b % 21 ≤ 17 ∧ uZy s y ys b / 21 = ys / 16 ∧ uZy s y ys b ≠ 105 := by
  have hv := uYc_v hR (Or.inr h)
  have h1 := hv.2.1 (by omega)
  have h2 := hv.2.2 (by omega)
  have h3 : uYc ys < 21 * uR s ∧ uYc ys % 21 ≤ 17 := by have := hv.1; unfold uY at this; omega
  unfold uZy uSee
  split
  · split <;> omega
  · omega
/-- what y does, by the class and by the model -/
theorem uAg_l {s : mS} {y ys b bg : Nat} {F : Nat → Int} (hR : uR s ≤ 5) (hD : 1 ≤ dN s ∧ dN s ≤ 4) (h : ys < 16 * uR s) (hb : b ≤ 2) :
    lSm (fun ny => F (uSee (uCp s y) (uYc ny) (if ny < 80 ∧ ny / 16 = ys / 16 then bg else 0))) (lY s y ys b) = uAg s y F (uZy s y ys b) bg := by
  have hr : ys / 16 < uR s := by omega
  have hw := wN_b s y (ys / 16)
  have T : ∀ ny, yOk (uR s) ny → F (uSee (uCp s y) (uYc ny) (if ny < 80 ∧ ny / 16 = ys / 16 then bg else 0)) = uSn (uCp s y) F (ys / 16) (uYc ny) bg := fun ny hn => (uSn_c hR hr hn).symm
  have ez : (uZy s y ys b) / 21 = ys / 16 := (uZy_v hR h).2.2.1
  unfold uAg
  rw [ez]
  unfold lY
  by_cases c12 : 12 ≤ ys % 16
  · have e : uZy s y ys b = 21 * (ys / 16) + (ys % 16 + 1) := by
      unfold uZy uSee
      have : uYc ys = 21 * (ys / 16) + (ys % 16 + 1) := by unfold uYc; rw [if_neg (by omega), if_neg (by omega)]
      rw [this, if_neg (by omega)]
    rw [if_pos c12, lSm_1, T _ (ySt_v hr (by omega)), ySt_c (by omega) (by omega), if_pos (by omega)]
    unfold uMv
    rw [if_neg (by omega), if_neg (by omega)]
    unfold uGq
    rw [if_neg (by omega), if_pos (by omega), ez]
    rw [show uZy s y ys b % 21 - 13 = ys % 16 - 12 by omega]
  rw [if_neg c12]
  by_cases c6 : 6 ≤ ys % 16
  · have e : uZy s y ys b = 21 * (ys / 16) + (ys % 16 + 1) := by
      unfold uZy uSee
      have : uYc ys = 21 * (ys / 16) + (ys % 16 + 1) := by unfold uYc; rw [if_neg (by omega), if_neg (by omega)]
      rw [this, if_neg (by omega)]
    rw [if_pos c6, lSm_1, T _ (yWk_v hr (by omega)), yWk_c hR hr (by omega), if_pos (by omega)]
    unfold uMv
    rw [if_neg (by omega), if_neg (by omega)]
    unfold uGq
    rw [if_pos (by omega), ez]
    rw [show uZy s y ys b % 21 - 7 = ys % 16 - 6 by omega]
  rw [if_neg c6]
  have eY : uYc ys = 21 * (ys / 16) + ys % 16 := by unfold uYc; rw [if_neg (by omega), if_pos (by omega)]
  by_cases cc : 0 < b ∧ uCp s y = true
  · rw [if_pos cc, lSm_1]
    have e : uZy s y ys b = 21 * (ys / 16) + (if b = 1 then 6 else 17) := by
      unfold uZy uSee
      rw [eY, if_pos ⟨cc.2, by omega, by omega, by omega⟩]
      rw [show (21 * (ys / 16) + ys % 16) / 21 = ys / 16 by omega]
    by_cases b1 : b = 1
    · rw [if_pos b1] at e ⊢
      rw [T _ (yWk_v hr (by omega)), yWk_c hR hr (by omega), if_pos (by omega)]
      unfold uMv
      rw [if_pos (by omega), ez]
    · rw [if_neg b1] at e ⊢
      rw [T _ (ySt_v hr (by omega)), ySt_c (by omega) (by omega), if_pos (by omega)]
      unfold uMv
      rw [if_neg (by omega), if_pos (by omega), ez]
  · rw [if_neg cc, lSm_l3]
    have e : uZy s y ys b = 21 * (ys / 16) + ys % 16 := by
      unfold uZy uSee
      rw [eY, if_neg (fun q => cc ⟨by omega, q.1⟩)]
    have em : uZy s y ys b % 21 = ys % 16 := by omega
    have k5 := kmo_5 (ys % 16)
    rw [em, if_neg (show ¬ 6 ≤ ys % 16 by omega)]
    have a1 : yOk (uR s) (16 * (ys / 16) + 5 + wN s y (ys / 16)) := by right; omega
    have e1 : uYc (16 * (ys / 16) + 5 + wN s y (ys / 16)) = uWk (uR s) (ys / 16) (wN s y (ys / 16)) := by
      unfold uYc uWk
      rw [if_neg (by omega), if_neg (by omega), if_pos (by omega)]
      omega
    have a3 : yOk (uR s) (16 * (ys / 16) + kmo (ys % 16)) := by right; omega
    rw [T _ a1, T _ (ySt_v hr (by omega)), T _ a3, e1, ySt_c (by omega) (by omega), yTh_c (by omega) k5]
theorem uBg_5 {a b : Nat} : uBg 5 a b = 0 := by
  unfold uBg
  split
  · rw [if_neg (by omega), if_neg (by omega)]
  · rfl
/-- a tick of both, by the class and by the model -/
def uK (k z : Nat) : Nat := if 7 ≤ z % 21 then 5 else k
theorem uDo_l {s : mS} {x y k zx ys b : Nat} {F : Nat → Nat → Int} (hR : uR s ≤ 5) (hD : 1 ≤ dN s ∧ dN s ≤ 4) (h : ys < 16 * uR s) (hb : b ≤ 2) (hk : k < 5) :
    lSm (fun nx => lSm (fun ny => F nx (uSee (uCp s y) (uYc ny) (bgA k zx ys ny))) (lY s y ys b)) (lX s x k zx) = uDo s x y F (uK k zx) zx (uZy s y ys b) := by
  have ez : (uZy s y ys b) / 21 = ys / 16 := (uZy_v hR h).2.2.1
  have G : ∀ nx, lSm (fun ny => F nx (uSee (uCp s y) (uYc ny) (bgA k zx ys ny))) (lY s y ys b) = uAg s y (F nx) (uZy s y ys b) (if zx / 21 = ys / 16 then xBg k zx else 0) := by
    intro nx
    rw [← uAg_l hR hD h hb]
    refine lSm_ext (fun t w _ => ?_)
    congr 2
    unfold bgA
    by_cases c : zx / 21 = ys / 16
    · rw [if_pos c]
      by_cases c2 : t < 80 ∧ t / 16 = ys / 16
      · rw [if_pos ⟨c2.1, c, c2.2⟩, if_pos c2]
      · rw [if_neg (fun q => c2 ⟨q.1, q.2.2⟩), if_neg c2]
    · rw [if_neg c, if_neg (fun q => c q.2.1)]
      split <;> rfl
  simp only [G]
  unfold uDo lX uK
  by_cases c7 : 7 ≤ zx % 21
  · rw [if_pos c7, if_pos c7, if_neg (show ¬ (5 = 0) by omega), lSm_1]
    have e1 : uNx s x 5 zx = uGq (uR s) zx := by unfold uNx; rw [if_neg (by omega), if_neg (by omega), if_neg (by omega)]
    have e2 : xBg k zx = 0 := by unfold xBg; rw [if_pos c7]
    have e3 : uBg 5 zx (uZy s y ys b) = 0 := uBg_5
    have e4 : (if zx / 21 = ys / 16 then 0 else 0) = 0 := by split <;> rfl
    rw [e1, e2, e3, e4]
  rw [if_neg c7, if_neg c7]
  by_cases k0 : k = 0
  · rw [if_pos k0, if_pos k0, lSm_l3]
    have e2 : xBg k zx = 0 := by unfold xBg; rw [if_neg c7, if_neg (by omega), if_neg (by omega)]
    rw [e2]
    have e4 : (if zx / 21 = ys / 16 then 0 else 0) = 0 := by split <;> rfl
    rw [e4]
  · rw [if_neg k0, if_neg k0, lSm_1]
    have e3 : uBg k zx (uZy s y ys b) = if zx / 21 = ys / 16 then xBg k zx else 0 := by
      unfold uBg xBg
      rw [ez, if_neg c7]
    rw [e3]
/-- what x may do, in the model's order -/
def qF (s : mS) (x y nv l zx zy k : Nat) : Int := uDo s x y (fun a b => uV s x y nv l a b) (uK k zx) zx zy
def qC (s : mS) (nv zx zy k : Nat) : Bool := if 7 ≤ zx % 21 then decide (k = 0) else uCan s nv k zx zy
theorem uMx_ext {f g : Nat → Int} {c e : Nat → Bool} (n : Nat) (h : ∀ k, k < n → f k = g k ∧ c k = e k) : uMx f c n = uMx g e n ∧ uCh f c n = uCh g e n := by
  induction n with
  | zero => exact ⟨rfl, rfl⟩
  | succ n ih =>
    have i := ih (fun k hk => h k (by omega))
    have hn := h n (by omega)
    rw [uMx, uMx, uCh, uCh, i.1, i.2, hn.1, hn.2]
    exact ⟨rfl, rfl⟩
theorem qF_b (s : mS) (x y nv l zx zy k : Nat) (h : l ≤ 9) : 0 ≤ qF s x y nv l zx zy k ∧ qF s x y nv l zx zy k ≤ 2305843009213693952 := uDo_r s x y nv l _ zx zy h
theorem qV {s : mS} {x y nv l zx zy : Nat} (hx : zx ≠ 105) (hy : zy ≠ 105) (hl : l ≤ 9) : uMx (qF s x y nv l zx zy) (qC s nv zx zy) 5 = uV s x y nv (l + 1) zx zy := by
  rw [uV, if_neg hx, if_neg hy]
  by_cases c7 : 7 ≤ zx % 21
  · rw [if_pos c7]
    have f0 := qF_b s x y nv l zx zy 0 hl
    have e0 : qF s x y nv l zx zy 0 = uDo s x y (fun a b => uV s x y nv l a b) 5 zx zy := by unfold qF uK; rw [if_pos c7]
    have c0 : qC s nv zx zy 0 = true := by unfold qC; rw [if_pos c7]; rfl
    have ck : ∀ k, 0 < k → qC s nv zx zy k = false := fun k hk => by unfold qC; rw [if_pos c7, decide_eq_false (by omega)]
    have st : ∀ k, uMx (qF s x y nv l zx zy) (qC s nv zx zy) (k + 1) = qF s x y nv l zx zy 0 := by
      intro k
      induction k with
      | zero => rw [uMx, if_pos ⟨c0, by show -1 < _; omega⟩]
      | succ k ih => rw [uMx, if_neg (fun q => absurd q.1 (by rw [ck (k + 1) (by omega)]; decide)), ih]
    rw [st 4, e0]
  · rw [if_neg c7]
    refine (uMx_ext 5 (fun k hk => ⟨?_, ?_⟩)).1
    · unfold qF uK; rw [if_neg c7]
    · unfold qC; rw [if_neg c7]
/-- the act that is kept -/
def qH (s : mS) (x y nv l zx zy k : Nat) : Int := if 7 ≤ zx % 21 then -1 else uCh (qF s x y nv l zx zy) (qC s nv zx zy) k
theorem qA {s : mS} {x y nv l zx zy : Nat} : qH s x y nv l zx zy 5 = uAct s x y nv l zx zy := by
  unfold qH uAct
  by_cases c7 : 7 ≤ zx % 21
  · rw [if_pos c7, if_pos c7]
  · rw [if_neg c7, if_neg c7]
    refine (uMx_ext 5 (fun k hk => ⟨?_, ?_⟩)).2
    · unfold qF uK; rw [if_neg c7]
    · unfold qC; rw [if_neg c7]
