/-! ===== BEST in the model: what x and y do in a tick, in the memory ===== -/
def pX (m : Nat) (L : List (Nat × Int)) (M : mM) : Prop := M.1 m 53 = jI (L.length : Nat) ∧ ∀ i t w, L[i]? = some (t, w) → M.1 (m + 28) i = jI (t : Nat) ∧ M.1 (m + 29) i = jI w
def pY (m : Nat) (L : List (Nat × Int)) (M : mM) : Prop := M.1 m 54 = jI (L.length : Nat) ∧ ∀ i t w, L[i]? = some (t, w) → M.1 (m + 30) i = jI (t : Nat) ∧ M.1 (m + 31) i = jI w
def sXp (m : Nat) : Nat → Nat → Prop := fun q k => (q = m ∧ k = 53) ∨ q = m + 28 ∨ q = m + 29
def sYp (m : Nat) : Nat → Nat → Prop := fun q k => (q = m ∧ k = 54) ∨ q = m + 30 ∨ q = m + 31
/-- what a tick writes -/
def sXd (m : Nat) : Nat → Nat → Prop := fun q k => sTh m q k ∨ sXp m q k ∨ (q = m ∧ k = 55)
def sYd (m : Nat) : Nat → Nat → Prop := fun q k => sTh m q k ∨ sYp m q k
theorem sXd_k {m : Nat} : ∀ q k, sXd m q k → ¬ ((q = m ∧ (k ≤ 3 ∨ (5 ≤ k ∧ k ≤ 11) ∨ (21 ≤ k ∧ k ≤ 34) ∨ (37 ≤ k ∧ k ≤ 39) ∨ k = 41 ∨ (46 ≤ k ∧ k ≤ 52) ∨ (57 ≤ k ∧ k ≤ 59) ∨ 62 ≤ k)) ∨ (m + 1 ≤ q ∧ q ≤ m + 6) ∨ (m + 14 ≤ q ∧ q ≤ m + 18)) := by
  intro q k h
  unfold sXd sTh sXp at h
  omega
theorem sYd_k {m : Nat} : ∀ q k, sYd m q k → ¬ ((q = m ∧ (k ≤ 3 ∨ (5 ≤ k ∧ k ≤ 11) ∨ (21 ≤ k ∧ k ≤ 34) ∨ (37 ≤ k ∧ k ≤ 39) ∨ k = 41 ∨ (46 ≤ k ∧ k ≤ 52) ∨ (57 ≤ k ∧ k ≤ 59) ∨ 62 ≤ k)) ∨ (m + 1 ≤ q ∧ q ≤ m + 6) ∨ (m + 14 ≤ q ∧ q ≤ m + 18)) := by
  intro q k h
  unfold sYd sTh sYp at h
  omega
theorem pX.mv {m : Nat} {L : List (Nat × Int)} {M M' : mM} (h : pX m L M) (he : M'.1 m 53 = M.1 m 53) (h1 : ∀ i, M'.1 (m + 28) i = M.1 (m + 28) i ∧ M'.1 (m + 29) i = M.1 (m + 29) i) : pX m L M' :=
  ⟨he.trans h.1, fun i t w q => ⟨((h1 i).1).trans (h.2 i t w q).1, ((h1 i).2).trans (h.2 i t w q).2⟩⟩
theorem pY.mv {m : Nat} {L : List (Nat × Int)} {M M' : mM} (h : pY m L M) (he : M'.1 m 54 = M.1 m 54) (h1 : ∀ i, M'.1 (m + 30) i = M.1 (m + 30) i ∧ M'.1 (m + 31) i = M.1 (m + 31) i) : pY m L M' :=
  ⟨he.trans h.1, fun i t w q => ⟨((h1 i).1).trans (h.2 i t w q).1, ((h1 i).2).trans (h.2 i t w q).2⟩⟩
theorem get_app {L : List (Nat × Int)} {a t : Nat} {b w : Int} {i : Nat} (h : (L ++ [(a, b)])[i]? = some (t, w)) : (i < L.length ∧ L[i]? = some (t, w)) ∨ (i = L.length ∧ t = a ∧ w = b) := by
  rcases Nat.lt_or_ge i L.length with c | c
  · rw [List.getElem?_append_left c] at h
    exact Or.inl ⟨c, h⟩
  · rw [List.getElem?_append_right c] at h
    have c2 : i - L.length = 0 := by
      rcases Nat.eq_zero_or_pos (i - L.length) with z | z
      · exact z
      · rw [List.getElem?_eq_none (by show 1 ≤ i - L.length; omega)] at h
        exact absurd h (by simp)
    rw [c2] at h
    have h' : some (a, b) = some (t, w) := h
    have h2 := Option.some.inj h'
    exact Or.inr ⟨by omega, (congrArg Prod.fst h2).symm, (congrArg Prod.snd h2).symm⟩
section MF
variable {d : Nat} {Th : mT} {M : mM} {m : Nat} {s : mS}
theorem s11_xPuts {Q : mM → Prop} {L : List (Nat × Int)} {t : Nat} {w : Int} (hT : LyM Th m) (hR : RfM m M) (hp : pX m L M) (hL : L.length ≤ 2) (hw : -100 ≤ w ∧ w ≤ 100)
    (K : ∀ M', pX m (uP L t w) M' → Eo (sXp m) M M' → Q M') : P11_xPuts (d + 1) Th m (jI t) (jI w) M Q := by
  refine e11_xPuts ?_
  simp only [jq0 (z := w) (rI_of (by omega) (by omega))]
  by_cases c : w = 0
  · rw [if_pos c]
    refine K M ?_ Eo.rf
    unfold uP; rw [if_pos c]; exact hp
  rw [if_neg c]
  obtain ⟨p0, p1⟩ := hp
  refine ⟨hT 0 _ rfl, m + 28, hR 0 49 28 (by decide), by rw [p0]; exact m_okw_jI (hT 28 _ rfl) (by omega) (by omega) (by omega), m + 29, hR 0 50 29 (by decide), ?_⟩
  intro M7 h7
  rw [p0, jInatN _ (by omega)] at h7
  have g7 : M7.1 m 53 = jI (L.length : Nat) := by rw [h7]; simp [m_u, p0]
  refine ⟨by rw [g7]; exact m_okw_jI (hT 29 _ rfl) (by omega) (by omega) (by omega), ?_⟩
  intro M9 h9
  rw [g7, jInatN _ (by omega)] at h9
  have g9 : M9.1 m 53 = jI (L.length : Nat) := by rw [h9]; simp [m_u, g7]
  rw [g9, jI_s]
  refine K _ ⟨?_, ?_⟩ ?_
  · unfold uP; rw [if_neg c, List.length_append]; simp [m_u]
  · intro i t' w' hi
    unfold uP at hi
    rw [if_neg c] at hi
    rcases get_app hi with ⟨q1, q2⟩ | ⟨q1, q2, q3⟩
    · have := p1 i t' w' q2
      rw [h9, h7]
      simp [m_u, show i ≠ L.length by omega, this.1, this.2]
    · subst q1 q2 q3
      rw [h9, h7]
      simp [m_u]
  · rw [h9, h7]
    exact Eo.ui (Eo.ui (Eo.ui Eo.rf (by unfold sXp; omega)) (by unfold sXp; omega)) (by unfold sXp; omega)
theorem s11_yPuts {Q : mM → Prop} {L : List (Nat × Int)} {t : Nat} {w : Int} (hT : LyM Th m) (hR : RfM m M) (hp : pY m L M) (hL : L.length ≤ 2) (hw : -100 ≤ w ∧ w ≤ 100)
    (K : ∀ M', pY m (uP L t w) M' → Eo (sYp m) M M' → Q M') : P11_yPuts (d + 1) Th m (jI t) (jI w) M Q := by
  refine e11_yPuts ?_
  simp only [jq0 (z := w) (rI_of (by omega) (by omega))]
  by_cases c : w = 0
  · rw [if_pos c]
    refine K M ?_ Eo.rf
    unfold uP; rw [if_pos c]; exact hp
  rw [if_neg c]
  obtain ⟨p0, p1⟩ := hp
  refine ⟨hT 0 _ rfl, m + 30, hR 0 51 30 (by decide), by rw [p0]; exact m_okw_jI (hT 30 _ rfl) (by omega) (by omega) (by omega), m + 31, hR 0 52 31 (by decide), ?_⟩
  intro M7 h7
  rw [p0, jInatN _ (by omega)] at h7
  have g7 : M7.1 m 54 = jI (L.length : Nat) := by rw [h7]; simp [m_u, p0]
  refine ⟨by rw [g7]; exact m_okw_jI (hT 31 _ rfl) (by omega) (by omega) (by omega), ?_⟩
  intro M9 h9
  rw [g7, jInatN _ (by omega)] at h9
  have g9 : M9.1 m 54 = jI (L.length : Nat) := by rw [h9]; simp [m_u, g7]
  rw [g9, jI_s]
  refine K _ ⟨?_, ?_⟩ ?_
  · unfold uP; rw [if_neg c, List.length_append]; simp [m_u]
  · intro i t' w' hi
    unfold uP at hi
    rw [if_neg c] at hi
    rcases get_app hi with ⟨q1, q2⟩ | ⟨q1, q2, q3⟩
    · have := p1 i t' w' q2
      rw [h9, h7]
      simp [m_u, show i ≠ L.length by omega, this.1, this.2]
    · subst q1 q2 q3
      rw [h9, h7]
      simp [m_u]
  · rw [h9, h7]
    exact Eo.ui (Eo.ui (Eo.ui Eo.rf (by unfold sYp; omega)) (by unfold sYp; omega)) (by unfold sYp; omega)
theorem uP_1 {t : Nat} : uP [] t 8 = [(t, 8)] := by unfold uP; rw [if_neg (by decide)]; rfl
theorem pX_0 {M : mM} (h : M.1 m 53 = 0) : pX m [] M := ⟨h, fun i t w q => absurd q (by simp)⟩
theorem pY_0 {M : mM} (h : M.1 m 54 = 0) : pY m [] M := ⟨h, fun i t w q => absurd q (by simp)⟩
theorem uR_e (hG : rG s) : s 0 0 = (uR s : Int) ∧ uR s ≤ 5 ∧ s 0 2 = (dN s : Int) ∧ 1 ≤ dN s ∧ dN s ≤ 4 := by
  have g0 := hG.1
  have g2 := hG.2.2.1
  unfold uR dN
  omega
theorem s11_xWalks {Q : Int32 → mM → Prop} {r left : Nat} (hT : LyM Th m) (h0 : M.1 m 0 = jI (s 0 0)) (hG : rG s) (hr : r < uR s) (hl : left ≤ 6) (k : Q (jI (uWk (uR s) r left : Nat)) M) : P11_xWalks (d + 1) Th m (jI r) (jI left) M Q := by
  obtain ⟨e0, eR, -, -, -⟩ := uR_e hG
  refine e11_xWalks ?_
  unfold uWk at k
  simp only [je0 (z := (left : Int)) (rI_nat (by omega))]
  by_cases c : 0 < left
  · rw [if_pos c] at k
    rw [if_neg (by omega), show (21 : Int32) = jI 21 from rfl, kI6, jI_mul, jI_add, jI_add, show 21 * (r : Int) + 6 + (left : Int) = ((21 * r + 6 + left : Nat) : Int) by omega]
    exact k
  · rw [if_neg c] at k
    rw [if_pos (by omega)]
    refine ⟨hT 0 _ rfl, ?_⟩
    rw [h0, e0, jI_s]
    simp only [jIeq (rI_nat (k := r + 1) (by omega)) (rI_nat (k := uR s) (by omega))]
    by_cases c2 : r + 1 < uR s
    · rw [if_pos c2] at k
      rw [if_neg (by omega), show (21 : Int32) = jI 21 from rfl, jI_mul, show 21 * ((r + 1 : Nat) : Int) = ((21 * (r + 1) : Nat) : Int) by omega]
      exact k
    · rw [if_neg c2] at k
      rw [if_pos (by omega)]
      exact k
theorem s11_yWalks {Q : Int32 → mM → Prop} {r left : Nat} (hT : LyM Th m) (h0 : M.1 m 0 = jI (s 0 0)) (hG : rG s) (hr : r < uR s) (hl : left ≤ 6) (k : Q (jI (yWk (uR s) r left : Nat)) M) : P11_yWalks (d + 1) Th m (jI r) (jI left) M Q := by
  obtain ⟨e0, eR, -, -, -⟩ := uR_e hG
  refine e11_yWalks ?_
  unfold yWk at k
  simp only [je0 (z := (left : Int)) (rI_nat (by omega))]
  by_cases c : 0 < left
  · rw [if_pos c] at k
    rw [if_neg (by omega), show (16 : Int32) = jI 16 from rfl, kI5, jI_mul, jI_add, jI_add, show 16 * (r : Int) + 5 + (left : Int) = ((16 * r + 5 + left : Nat) : Int) by omega]
    exact k
  · rw [if_neg c] at k
    rw [if_pos (by omega)]
    refine ⟨hT 0 _ rfl, ?_⟩
    rw [h0, e0, jI_s]
    simp only [jIeq (rI_nat (k := r + 1) (by omega)) (rI_nat (k := uR s) (by omega))]
    by_cases c2 : r + 1 = uR s
    · rw [if_pos c2] at k
      rw [if_pos (by omega)]
      exact k
    · rw [if_neg c2] at k
      rw [if_neg (by omega), show (16 : Int32) = jI 16 from rfl, jI_mul, show 16 * ((r + 1 : Nat) : Int) = ((16 * (r + 1) : Nat) : Int) by omega]
      exact k
theorem s11_xAstray {Q : Int32 → mM → Prop} {r left : Nat} {kn : Bool} (hr : r < 5) (hl : left ≤ 4) (k : Q (jI (uSt r left kn : Nat)) M) : P11_xAstray (d + 1) Th m (jI r) (jI left) (jB kn) M Q := by
  refine e11_xAstray ?_
  unfold uSt at k
  simp only [jq0 (z := (left : Int)) (rI_nat (by omega)), jB_z]
  by_cases c : 0 < left
  · rw [if_pos c] at k
    rw [if_neg (by omega)]
    cases kn
    · rw [if_neg (by decide)] at k
      rw [if_pos rfl, show (21 : Int32) = jI 21 from rfl, kI12, jI_mul, jI_add, jI_add, show 21 * (r : Int) + 12 + (left : Int) = ((21 * r + 12 + left : Nat) : Int) by omega]
      exact k
    · rw [if_pos rfl] at k
      rw [if_neg (by decide), show (21 : Int32) = jI 21 from rfl, kI16, jI_mul, jI_add, jI_add, show 21 * (r : Int) + 16 + (left : Int) = ((21 * r + 16 + left : Nat) : Int) by omega]
      exact k
  · rw [if_neg c] at k
    rw [if_pos (by omega)]
    cases kn
    · rw [if_neg (by decide)] at k
      rw [if_pos rfl, show (21 : Int32) = jI 21 from rfl, kI0, jI_mul, jI_add, show 21 * (r : Int) + 0 = ((21 * r + 0 : Nat) : Int) by omega]
      exact k
    · rw [if_pos rfl] at k
      rw [if_neg (by decide), show (21 : Int32) = jI 21 from rfl, kI6, jI_mul, jI_add, show 21 * (r : Int) + 6 = ((21 * r + 6 : Nat) : Int) by omega]
      exact k
theorem s11_yAstray {Q : Int32 → mM → Prop} {r left : Nat} (hr : r < 5) (hl : left ≤ 4) (k : Q (jI (ySt r left : Nat)) M) : P11_yAstray (d + 1) Th m (jI r) (jI left) M Q := by
  refine e11_yAstray ?_
  unfold ySt at k
  simp only [jq0 (z := (left : Int)) (rI_nat (by omega))]
  by_cases c : left = 0
  · rw [if_pos c] at k
    rw [if_pos (by omega), show (16 : Int32) = jI 16 from rfl, jI_mul, show 16 * (r : Int) = ((16 * r : Nat) : Int) by omega]
    exact k
  · rw [if_neg c] at k
    rw [if_neg (by omega), show (16 : Int32) = jI 16 from rfl, kI11, jI_mul, jI_add, jI_add, show 16 * (r : Int) + 11 + (left : Int) = ((16 * r + 11 + left : Nat) : Int) by omega]
    exact k
theorem sXp_d {m : Nat} : ∀ q k, sXp m q k → sXd m q k := fun q k h => Or.inr (Or.inl h)
theorem sTh_d {m : Nat} : ∀ q k, sTh m q k → sXd m q k := fun q k h => Or.inl h
theorem sYp_d {m : Nat} : ∀ q k, sYp m q k → sYd m q k := fun q k h => Or.inr h
theorem sTh_e {m : Nat} : ∀ q k, sTh m q k → sYd m q k := fun q k h => Or.inl h
set_option maxHeartbeats 2000000 in
theorem s11_xDoes {Q : mM → Prop} {x k z : Nat} (hT : LyM Th m) (hK : KT m s M) (hG : rG s) (hO : rLw s) (hx : (x : Int) < s 0 1) (hz : z < 21 * uR s) (hk : k < 5) (hk0 : z % 21 ≤ 6 → k = 0 → z % 21 ≤ 5)
    (K : ∀ M', KT m s M' → pX m (lX s x k z) M' → M'.1 m 55 = jI (xBg k z : Nat) → Eo (sXd m) M M' → Q M') : P11_xDoes (d + 5) Th m (jI x) (jI z) (jI k) M Q := by
  obtain ⟨e0, eR, eD, eD1, eD4⟩ := uR_e hG
  have g1 := hG.2.1
  have hr : z / 21 < uR s := by omega
  have hw := wN_b s x (z / 21)
  refine e11_xDoes ?_
  intro xv1 h1 xv2 h2
  rw [jI_div21 (by omega)] at h1
  rw [jI_mod21 (by omega)] at h2
  subst h1 h2
  refine ⟨hT 0 _ rfl, ?_⟩
  intro M4 h4
  have eM : ∀ v, Eo (sXd m) M (m_ui M4 m 55 v) := fun v => by
    rw [h4]
    exact Eo.ui (Eo.ui Eo.rf (by unfold sXd sXp; omega)) (by unfold sXd; omega)
  have kM : ∀ v, KT m s (m_ui M4 m 55 v) := fun v => hK.mv (eM v) sXd_k
  have pM : ∀ v, pX m [] (m_ui M4 m 55 v) := fun v => pX_0 (by rw [h4]; simp [m_u])
  simp only [je16 (z := ((z % 21 : Nat) : Int)) (rI_nat (by omega)), je12 (z := ((z % 21 : Nat) : Int)) (rI_nat (by omega)), je6 (z := ((z % 21 : Nat) : Int)) (rI_nat (by omega)), jq0 (z := (k : Int)) (rI_nat (by omega)), jq2 (z := (k : Int)) (rI_nat (by omega)), jq4 (z := (k : Int)) (rI_nat (by omega))]
  -- one that is sure
  have one : ∀ (t bg : Nat) (M1 : mM), KT m s M1 → pX m [] M1 → M1.1 m 55 = jI (bg : Nat) → Eo (sXd m) M M1 → lX s x k z = [(t, 8)] → bg = xBg k z → P11_xPuts (d + 4) Th m (jI (t : Nat)) 8 M1 (fun M' => Q M') := by
    intro t bg M1 k1 p1 b1 e1 hl hb
    rw [kI8]
    refine s11_xPuts (d := d + 3) hT k1.1 p1 (by show 0 ≤ 2; omega) (by omega) (fun M' p' e' => ?_)
    rw [uP_1, ← hl] at p'
    refine K M' (k1.mv (e'.mono sXp_d) sXd_k) p' ?_ (e1.trans (e'.mono sXp_d))
    rw [(e' m 55 (by unfold sXp; omega)).1, b1, hb]
  by_cases c16 : z % 21 ≤ 16
  rotate_left
  · rw [if_neg (by omega), kI17, jI_sub, show ((z % 21 : Nat) : Int) - 17 = ((z % 21 - 17 : Nat) : Int) by omega]
    refine s11_xAstray (d := d + 3) (kn := true) (by omega) (by omega) ?_
    refine one _ 0 _ (kM _) (pM _) (by simp [m_u]; rfl) (eM _) ?_ ?_
    · unfold lX uGq; rw [if_pos (by omega), if_neg (by omega), if_neg (by omega)]
    · unfold xBg; rw [if_pos (by omega)]
  rw [if_pos (by omega)]
  by_cases c12 : z % 21 ≤ 12
  rotate_left
  · rw [if_neg (by omega), kI13, jI_sub, show ((z % 21 : Nat) : Int) - 13 = ((z % 21 - 13 : Nat) : Int) by omega]
    refine s11_xAstray (d := d + 3) (kn := false) (by omega) (by omega) ?_
    refine one _ 0 _ (kM _) (pM _) (by simp [m_u]; rfl) (eM _) ?_ ?_
    · unfold lX uGq; rw [if_pos (by omega), if_neg (by omega), if_pos (by omega)]
    · unfold xBg; rw [if_pos (by omega)]
  rw [if_pos (by omega)]
  by_cases c6 : z % 21 ≤ 6
  rotate_left
  · rw [if_neg (by omega), kI7, jI_sub, show ((z % 21 : Nat) : Int) - 7 = ((z % 21 - 7 : Nat) : Int) by omega]
    refine s11_xWalks (d := d + 3) hT (kM _).2.1.1 hG hr (by omega) ?_
    refine one _ 0 _ (kM _) (pM _) (by simp [m_u]; rfl) (eM _) ?_ ?_
    · unfold lX uGq; rw [if_pos (by omega), if_pos (by omega)]
    · unfold xBg; rw [if_pos (by omega)]
  rw [if_pos (by omega)]
  by_cases k0 : k = 0
  · rw [if_pos (by omega)]
    have h5 := hk0 c6 k0
    refine ⟨m + 4, hK.1 0 8 4 (by decide), m_ok_jI (hT 4 _ rfl) (by omega) (by omega) (by omega), ?_⟩
    intro M8 h8
    rw [show M8 = m_ui M4 m 55 0 from h8, jInatN x (by omega), (kM 0).2.1.2.2.2.2.2.2.2.1 x]
    refine s11_thinks (d := d) (r := z / 21) (t := z % 21) hT (kM 0) hG hO hx (by omega) h5 (fun M9 k9 g9 f9 e9 => ?_)
    have gb := gK_b s (s 4 x) x (z / 21) (z % 21)
    have eb := eK_b s (s 4 x) x (z / 21) (z % 21)
    have p9 : pX m [] M9 := pX.mv (pM 0) (e9 _ _ (by unfold sTh; omega)).1 (fun i => ⟨(e9 _ _ (by unfold sTh; omega)).1, (e9 _ _ (by unfold sTh; omega)).1⟩)
    rw [g9, show (21 : Int32) = jI 21 from rfl, kI6, jI_mul, jI_add, show 21 * ((z / 21 : Nat) : Int) + 6 = ((21 * (z / 21) + 6 : Nat) : Int) by omega]
    refine s11_xPuts (d := d + 3) hT k9.1 p9 (by show 0 ≤ 2; omega) (by omega) (fun M11 p11 e11 => ?_)
    have k11 := k9.mv (e11.mono sXp_d) sXd_k
    rw [k11.2.1.2.2.1, eD]
    refine s11_xAstray (d := d + 3) (kn := false) (by omega) (by omega) ?_
    have f11 : M11.1 m 36 = jI (eK s (s 4 x) x (z / 21) (z % 21)) := ((e11 _ _ (by unfold sXp; omega)).1).trans f9
    have g11 : M11.1 m 35 = jI (gK s (s 4 x) x (z / 21) (z % 21)) := ((e11 _ _ (by unfold sXp; omega)).1).trans g9
    rw [f11]
    have l1 := uP_len (L := []) (t := 21 * (z / 21) + 6) (w := gK s (s 4 x) x (z / 21) (z % 21))
    have l0 : ([] : List (Nat × Int)).length = 0 := rfl
    refine s11_xPuts (d := d + 3) hT k11.1 p11 (by omega) (by omega) (fun M15 p15 e15 => ?_)
    have k15 := k11.mv (e15.mono sXp_d) sXd_k
    refine s11_more (d := d + 3) h5 ?_
    have f15 : M15.1 m 36 = jI (eK s (s 4 x) x (z / 21) (z % 21)) := ((e15 _ _ (by unfold sXp; omega)).1).trans f11
    have g15 : M15.1 m 35 = jI (gK s (s 4 x) x (z / 21) (z % 21)) := ((e15 _ _ (by unfold sXp; omega)).1).trans g11
    have k5 := kmo_5 (z % 21)
    rw [f15, g15, kI8, jI_sub, jI_sub, jI_add, show 21 * ((z / 21 : Nat) : Int) + (kmo (z % 21) : Int) = ((21 * (z / 21) + kmo (z % 21) : Nat) : Int) by omega]
    have l2 := uP_len (L := uP [] (21 * (z / 21) + 6) (gK s (s 4 x) x (z / 21) (z % 21))) (t := uSt (z / 21) (dN s) false) (w := eK s (s 4 x) x (z / 21) (z % 21))
    refine s11_xPuts (d := d + 3) hT k15.1 p15 (by omega) (by omega) (fun M19 p19 e19 => ?_)
    have e : Eo (sXd m) M M19 := ((((eM 0).trans (e9.mono sTh_d)).trans (e11.mono sXp_d)).trans (e15.mono sXp_d)).trans (e19.mono sXp_d)
    refine K M19 (k15.mv (e19.mono sXp_d) sXd_k) ?_ ?_ e
    · unfold lX
      rw [if_neg (by omega), if_pos k0]
      exact p19
    · rw [(e19 m 55 (by unfold sXp; omega)).1, (e15 m 55 (by unfold sXp; omega)).1, (e11 m 55 (by unfold sXp; omega)).1, (e9 m 55 (by unfold sTh; omega)).1]
      unfold xBg
      rw [if_neg (by omega), if_neg (by omega), if_neg (by omega)]
      simp [m_u]
      rfl
  rw [if_neg (by omega)]
  by_cases k2 : k = 2
  · rw [if_pos (by omega)]
    refine one z 0 _ (kM _) (pM _) (by simp [m_u]; rfl) (eM _) ?_ ?_
    · unfold lX uNx; rw [if_neg (by omega), if_neg k0, if_neg (by omega), if_neg (by omega), if_pos k2]
    · unfold xBg; rw [if_neg (by omega), if_neg (by omega), if_neg (by omega)]
  rw [if_neg (by omega)]
  by_cases k4 : k = 4
  · rw [if_pos (by omega)]
    intro M23 h23 M24 h24
    have e24 : M24 = m_ui (m_ui M4 m 55 0) m 55 2 := by rw [h24, h23]
    have e' : Eo (sXd m) M M24 := by rw [e24]; exact Eo.ui (eM 0) (by unfold sXd; omega)
    have k24 : KT m s M24 := hK.mv e' sXd_k
    obtain ⟨D, hD⟩ : ∃ D, dN s = D + 1 := ⟨dN s - 1, by omega⟩
    have ekn : (if jI ((z % 21 : Nat) : Int) = 6 then (1 : Int32) else 0) = jB (decide (z % 21 = 6)) := by
      simp only [jq6 (z := ((z % 21 : Nat) : Int)) (rI_nat (by omega))]
      by_cases c : z % 21 = 6
      · rw [if_pos (by omega), decide_eq_true c]; rfl
      · rw [if_neg (by omega), decide_eq_false c]; rfl
    rw [k24.2.1.2.2.1, eD, hD, jI_p, ekn]
    refine s11_xAstray (d := d + 3) (by omega) (by omega) ?_
    refine one _ 2 _ k24 (pX_0 (by rw [e24, h4]; simp [m_u])) (by rw [e24]; simp [m_u]; rfl) e' ?_ ?_
    · unfold lX uNx; rw [if_neg (by omega), if_neg k0, if_neg (by omega), if_pos k4, hD, Nat.add_sub_cancel]
    · unfold xBg; rw [if_neg (by omega), if_neg (by omega), if_pos k4]
  rw [if_neg (by omega)]
  intro M29 h29
  have e30 : Eo (sXd m) M (m_ui M29 m 55 1) := by rw [h29]; exact Eo.ui (eM 0) (by unfold sXd; omega)
  have k30 : KT m s (m_ui M29 m 55 1) := hK.mv e30 sXd_k
  refine s11_walkOf (d := d + 2) (b := x) (r := z / 21) hT k30.1 k30.2.1 hG hx (by omega) ?_
  obtain ⟨w, hw'⟩ : ∃ w, wN s x (z / 21) = w + 1 := ⟨wN s x (z / 21) - 1, by omega⟩
  rw [wN_e, hw', jI_p]
  refine s11_xWalks (d := d + 3) hT k30.2.1.1 hG hr (by omega) ?_
  refine one _ 1 _ k30 (pX_0 (by rw [h29, h4]; simp [m_u])) (by simp [m_u]; rfl) e30 ?_ ?_
  · unfold lX uNx; rw [if_neg (by omega), if_neg k0, if_pos (by omega), hw', Nat.add_sub_cancel]
  · unfold xBg; rw [if_neg (by omega), if_pos (by omega)]
set_option maxHeartbeats 2000000 in
theorem s11_yDoes {Q : mM → Prop} {y z bg : Nat} (hT : LyM Th m) (hK : KT m s M) (hG : rG s) (hO : rLw s) (hy : (y : Int) < s 0 1) (hz : z < 16 * uR s) (hb : bg ≤ 2)
    (K : ∀ M', KT m s M' → pY m (lY s y z bg) M' → Eo (sYd m) M M' → Q M') : P11_yDoes (d + 6) Th m (jI y) (jI z) (jI bg) M Q := by
  obtain ⟨e0, eR, eD, eD1, eD4⟩ := uR_e hG
  have g1 := hG.2.1
  have g3 := hG.2.2.2.1
  have g6 := hG.2.2.2.2.2.2.2.2.2.2.2.2.2.2.2.1 y
  have hr : z / 16 < uR s := by omega
  have hw := wN_b s y (z / 16)
  refine e11_yDoes ?_
  intro xv1 h1 xv2 h2
  rw [jI_div16 (by omega)] at h1
  rw [jI_mod16 (by omega)] at h2
  subst h1 h2
  refine ⟨hT 0 _ rfl, ?_⟩
  have eM : Eo (sYd m) M (m_ui M m 54 0) := Eo.ui Eo.rf (by unfold sYd sYp; omega)
  have kM : KT m s (m_ui M m 54 0) := hK.mv eM sYd_k
  have pM : pY m [] (m_ui M m 54 0) := pY_0 (by simp [m_u])
  simp only [je11 (z := ((z % 16 : Nat) : Int)) (rI_nat (by omega)), je5 (z := ((z % 16 : Nat) : Int)) (rI_nat (by omega)), je0 (z := (bg : Int)) (rI_nat (by omega)), jq1 (z := (bg : Int)) (rI_nat (by omega))]
  generalize hM0 : m_ui M m 54 0 = M0 at eM kM pM ⊢
  have one : ∀ (t : Nat), lY s y z bg = [(t, 8)] → P11_yPuts (d + 5) Th m (jI (t : Nat)) 8 M0 (fun M' => Q M') := by
    intro t hl
    rw [kI8]
    refine s11_yPuts (d := d + 4) hT kM.1 pM (by show 0 ≤ 2; omega) (by omega) (fun M' p' e' => ?_)
    rw [uP_1, ← hl] at p'
    exact K M' (kM.mv (e'.mono sYp_d) sYd_k) p' (eM.trans (e'.mono sYp_d))
  by_cases c11 : z % 16 ≤ 11
  rotate_left
  · rw [if_neg (by omega), kI12, jI_sub, show ((z % 16 : Nat) : Int) - 12 = ((z % 16 - 12 : Nat) : Int) by omega]
    refine s11_yAstray (d := d + 4) (by omega) (by omega) ?_
    exact one _ (by unfold lY; rw [if_pos (by omega)])
  rw [if_pos (by omega)]
  by_cases c5 : z % 16 ≤ 5
  rotate_left
  · rw [if_neg (by omega), kI6, jI_sub, show ((z % 16 : Nat) : Int) - 6 = ((z % 16 - 6 : Nat) : Int) by omega]
    refine s11_yWalks (d := d + 4) hT kM.2.1.1 hG hr (by omega) ?_
    exact one _ (by unfold lY; rw [if_neg (by omega), if_pos (by omega)])
  rw [if_pos (by omega)]
  have th : ¬ (0 < bg ∧ uCp s y = true) → H11_yDoes_135 (d + 6) Th Q m (jI y) (jI ((z / 16 : Nat) : Int)) (jI ((z % 16 : Nat) : Int)) M0 := by
    intro hn
    refine h11_yDoes_135 ⟨hT 0 _ rfl, m + 4, kM.1 0 8 4 (by decide), m_ok_jI (hT 4 _ rfl) (by omega) (by omega) (by omega), ?_⟩
    rw [jInatN y (by omega), kM.2.1.2.2.2.2.2.2.2.1 y]
    refine s11_thinks (d := d + 1) (r := z / 16) (t := z % 16) hT kM hG hO hy (by omega) c5 (fun M9 k9 g9 f9 e9 => ?_)
    have gb := gK_b s (s 4 y) y (z / 16) (z % 16)
    have eb := eK_b s (s 4 y) y (z / 16) (z % 16)
    have p9 : pY m [] M9 := pY.mv pM (e9 _ _ (by unfold sTh; omega)).1 (fun i => ⟨(e9 _ _ (by unfold sTh; omega)).1, (e9 _ _ (by unfold sTh; omega)).1⟩)
    refine s11_walkOf (d := d + 3) (b := y) (r := z / 16) hT k9.1 k9.2.1 hG hy (by omega) ?_
    rw [g9, wN_e, show (16 : Int32) = jI 16 from rfl, kI5, jI_mul, jI_add, jI_add, show 16 * ((z / 16 : Nat) : Int) + 5 + (wN s y (z / 16) : Int) = ((16 * (z / 16) + 5 + wN s y (z / 16) : Nat) : Int) by omega]
    refine s11_yPuts (d := d + 4) hT k9.1 p9 (by show 0 ≤ 2; omega) (by omega) (fun M11 p11 e11 => ?_)
    have k11 := k9.mv (e11.mono sYp_d) sYd_k
    rw [k11.2.1.2.2.1, eD]
    refine s11_yAstray (d := d + 4) (by omega) (by omega) ?_
    have f11 : M11.1 m 36 = jI (eK s (s 4 y) y (z / 16) (z % 16)) := ((e11 _ _ (by unfold sYp; omega)).1).trans f9
    have g11 : M11.1 m 35 = jI (gK s (s 4 y) y (z / 16) (z % 16)) := ((e11 _ _ (by unfold sYp; omega)).1).trans g9
    rw [f11]
    have l1 := uP_len (L := []) (t := 16 * (z / 16) + 5 + wN s y (z / 16)) (w := gK s (s 4 y) y (z / 16) (z % 16))
    have l0 : ([] : List (Nat × Int)).length = 0 := rfl
    refine s11_yPuts (d := d + 4) hT k11.1 p11 (by omega) (by omega) (fun M15 p15 e15 => ?_)
    have k15 := k11.mv (e15.mono sYp_d) sYd_k
    refine s11_more (d := d + 4) c5 ?_
    have f15 : M15.1 m 36 = jI (eK s (s 4 y) y (z / 16) (z % 16)) := ((e15 _ _ (by unfold sYp; omega)).1).trans f11
    have g15 : M15.1 m 35 = jI (gK s (s 4 y) y (z / 16) (z % 16)) := ((e15 _ _ (by unfold sYp; omega)).1).trans g11
    have k5 := kmo_5 (z % 16)
    rw [f15, g15, kI8, jI_sub, jI_sub, jI_add, show 16 * ((z / 16 : Nat) : Int) + (kmo (z % 16) : Int) = ((16 * (z / 16) + kmo (z % 16) : Nat) : Int) by omega]
    have l2 := uP_len (L := uP [] (16 * (z / 16) + 5 + wN s y (z / 16)) (gK s (s 4 y) y (z / 16) (z % 16))) (t := ySt (z / 16) (dN s)) (w := eK s (s 4 y) y (z / 16) (z % 16))
    refine s11_yPuts (d := d + 4) hT k15.1 p15 (by omega) (by omega) (fun M19 p19 e19 => ?_)
    have e : Eo (sYd m) M M19 := (((eM.trans (e9.mono sTh_e)).trans (e11.mono sYp_d)).trans (e15.mono sYp_d)).trans (e19.mono sYp_d)
    refine K M19 (k15.mv (e19.mono sYp_d) sYd_k) ?_ e
    unfold lY
    rw [if_neg (by omega), if_neg (by omega), if_neg hn]
    exact p19
  by_cases b0 : bg = 0
  · rw [if_pos (by omega)]
    exact th (fun q => by omega)
  rw [if_neg (by omega)]
  refine ⟨m + 6, hK.1 0 10 6 (by decide), m_ok_jI (hT 6 _ rfl) (by omega) (by omega) (by omega), ?_⟩
  intro M7 h7
  have h7' : M0 = M7 := h7.symm
  subst h7'
  rw [jInatN y (by omega), kM.2.1.2.2.2.2.2.2.2.2.2 y, kM.2.1.2.2.2.1]
  simp only [jq1 (z := s 6 y) (rI_of (by omega) (by omega)), jq0 (z := s 0 3) (rI_of (by omega) (by omega))]
  have h127 : ∀ (t : Nat), lY s y z bg = [(t, 8)] → H11_yDoes_127 (d + 6) Th Q (jI (t : Nat)) m M0 := fun t hl => h11_yDoes_127 ⟨hT 0 _ rfl, one t hl⟩
  by_cases f6 : s 6 y = 1
  rotate_left
  · rw [if_neg f6]
    exact th (fun q => by have := q.2; unfold uCp at this; exact f6 (of_decide_eq_true this).1)
  rw [if_pos f6]
  by_cases f3 : s 0 3 = 0
  rotate_left
  · rw [if_neg f3]
    exact th (fun q => by have := q.2; unfold uCp at this; exact f3 (of_decide_eq_true this).2)
  rw [if_pos f3]
  have hcp : uCp s y = true := by unfold uCp; exact decide_eq_true ⟨f6, f3⟩
  by_cases b1 : bg = 1
  · rw [if_pos (by omega)]
    refine s11_walkOf (d := d + 3) (b := y) (r := z / 16) hT kM.1 kM.2.1 hG hy (by omega) ?_
    obtain ⟨w, hw'⟩ : ∃ w, wN s y (z / 16) = w + 1 := ⟨wN s y (z / 16) - 1, by omega⟩
    rw [wN_e, hw', jI_p]
    refine s11_yWalks (d := d + 4) hT kM.2.1.1 hG hr (by omega) ?_
    refine h127 _ ?_
    unfold lY
    rw [if_neg (by omega), if_neg (by omega), if_pos ⟨by omega, hcp⟩, if_pos b1, hw', Nat.add_sub_cancel]
  · rw [if_neg (by omega)]
    obtain ⟨D, hD⟩ : ∃ D, dN s = D + 1 := ⟨dN s - 1, by omega⟩
    rw [kM.2.1.2.2.1, eD, hD, jI_p]
    refine s11_yAstray (d := d + 4) (by omega) (by omega) ?_
    refine h127 _ ?_
    unfold lY
    rw [if_neg (by omega), if_neg (by omega), if_pos ⟨by omega, hcp⟩, if_neg b1, hD, Nat.add_sub_cancel]
end MF
