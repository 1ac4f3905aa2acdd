/-! ===== BEST in the class: who against whom, kept over calls ===== -/
def sP12 (s : mS) (p : Nat → Int) : mS := fun i k => if i = 12 then p k else s i k
theorem sP12_2 (s : mS) (p q : Nat → Int) : sP12 (sP12 s p) q = sP12 s q := by
  funext i k
  unfold sP12
  by_cases c : i = 12
  · rw [if_pos c, if_pos c]
  · rw [if_neg c, if_neg c, if_neg c]
theorem sP12_s (s : mS) : sP12 s (s 12) = s := by
  funext i k
  unfold sP12
  by_cases c : i = 12
  · rw [if_pos c, c]
  · rw [if_neg c]
/-- values do not ask for pins -/
theorem uV_pin (s : mS) (p : Nat → Int) (x y nv l : Nat) : uV (sP12 s p) x y nv l = uV s x y nv l := by
  induction l with
  | zero => rfl
  | succ l ih =>
    funext zx zy
    rw [uV, uV, ih]
    rfl
theorem uAct_pin (s : mS) (p : Nat → Int) (x y nv l zx zy : Nat) : uAct (sP12 s p) x y nv l zx zy = uAct s x y nv l zx zy := by
  unfold uAct
  rw [uV_pin]
  rfl
theorem uWt_pin (s : mS) (p : Nat → Int) (x y r t u : Nat) : ∀ k, uWt (sP12 s p) x y r t u k = uWt s x y r t u k := by
  induction u with
  | zero => intro k; rfl
  | succ u ih =>
    intro k
    rw [uWt, uWt, ih, uAct_pin]
/-- what is kept of the two -/
def uKp (n : Nat) (s : mS) (x y nv : Nat) (M : mM) : Prop := ((x : Int) < s 0 1 ∧ (y : Int) < s 0 1 ∧ nv ≤ 7) ∧ (s 12 x = 1 ∧ s 12 y = 1) ∧ M.2.2 (n + 94) 1 = some (aSk n x) ∧ M.2.2 (n + 94) 2 = some (aSk n y) ∧ M.1 (n + 94) 8 = jB (uCp s y) ∧ uVal n s x y nv M.2.1 M.2.1
def cDue (n : Nat) (s : mS) (c : Int) (M : mM) : Prop := ∃ fx fy fn fc : Int, (rI fx ∧ rI fy ∧ rI fn ∧ rI fc) ∧ (M.1 (n + 94) 4 = jI fx ∧ M.1 (n + 94) 5 = jI fy ∧ M.1 (n + 94) 6 = jI fn ∧ M.1 (n + 94) 7 = jI fc) ∧ fc ≤ c ∧ (fx = -1 ∨ fc ≠ c ∨ ∃ x y nv : Nat, fx = x ∧ fy = y ∧ fn = nv ∧ uKp n s x y nv M)
/-- what BEST writes in the class -/
def sDf (n : Nat) : Nat → Nat → Prop := fun q k => (q = n + 94 ∧ k ≠ 0 ∧ k ≠ 3) ∨ q = n + 95
def sBeg (n : Nat) : Nat → Nat → Prop := fun q k => sSk n q k ∨ sDf n q k
theorem sDf_rf (n : Nat) : ∀ o k v, (o, k, v) ∈ rsA → ¬ sDf n (n + o) k := by
  intro o k v hv h
  unfold sDf at h
  simp [rsA] at hv
  omega
theorem sDf_h {n : Nat} : ∀ q k, sDf n q k → n ≤ q ∧ ¬ (q = n + 3 ∧ k ≤ 4) ∧ ¬ (n + 9 ≤ q ∧ q ≤ n + 34) ∧ ¬ (q = n + 4 ∧ 1 ≤ k ∧ k ≤ 4) ∧ q ≠ n + 6 ∧ q ≠ n + 7 := by
  intro q k h
  unfold sDf at h
  omega
section UL
variable {d : Nat} {Th : mT} {M : mM} {n : Nat} {s : mS} {c : Int}
/-- skills that are right may be pinned -/
theorem KM_pin (p : Nat → Int) (h : KM Th n s c M) (hp : ∀ b, b < 5 → p b = 1 → M.1 (aSk n b) 3 = jI c) : KM Th n (sP12 s p) c M := by
  obtain ⟨a1, a2, a3, a4⟩ := h
  refine ⟨a1, a2, a3, fun b hb => ?_⟩
  obtain ⟨cb, t1, t2, t3, t4, t5⟩ := a4 b hb
  refine ⟨cb, t1, t2, t3, t4, fun q => ?_⟩
  have q' : p b = 1 := q
  have := hp b hb q'
  rw [t1, jIeq (rI_of (by omega) (by omega)) (rI_of (by omega) (by omega))] at this
  exact this
theorem KM_stamp (h : KM Th n s c M) {b : Nat} (hb : b < 5) (hp : s 12 b = 1) : M.1 (aSk n b) 3 = jI c := by
  obtain ⟨cb, t1, t2, t3, t4, t5⟩ := h.2.2.2 b hb
  rw [t1, t5 hp]
theorem KM_vB (h : KM Th n s c M) {b : Nat} (hb : b < 5) (hb1 : (b : Int) < s 0 1) (hp : s 12 b = 1) : vB n s b M := by
  obtain ⟨cb, t1, t2, t3, t4, t5⟩ := h.2.2.2 b hb
  exact t4 (t5 hp) hb1
theorem s2_skill3 {Q : Nat → mM → Prop} {b : Nat} (hT : gTh Th n) (hM : KM Th n s c M) (hG : rG s) (hO : rLw s) (hb : (b : Int) < s 0 1) (hd : 32 ≤ d)
    (K : ∀ M', KM Th n s c M' → M'.1 (aSk n b) 3 = jI c → Eo (sSk n) M M' → Q (aSk n b) M') : P2_skill (d + 1) Th (n + 3) (jI b) M Q := by
  have g0 := hG.1
  have g1 := hG.2.1
  have hM' := hM
  obtain ⟨hH, hc, hcb, hS⟩ := hM
  have hb5 : b < 5 := by omega
  obtain ⟨cb, s1, s2, s3, s4, s5⟩ := hS b hb5
  have hl := lySk_of hT.1 hH.1 (aSk_q hb5)
  obtain ⟨d, rfl⟩ : ∃ d', d = d' + 1 := ⟨d - 1, by omega⟩
  refine e2_skill ⟨hT.1 3 _ rfl, ?_⟩
  refine s2_hasBand (d := d) (b := (s 0 1).toNat) hT.1 (by rw [hH.2.2.1.2.1]; congr 1; omega) (by omega) (rI_nat (by omega)) (fun _ _ => ?_) (fun z => absurd z (by omega))
  intro xv4 h4
  rw [if_neg (by decide)] at h4
  subst h4
  refine ⟨n + 8, hH.1 3 6 8 (by decide), m_okO_jI (hT.1 8 _ rfl) (by omega) (by omega) (by omega), aSk n b, ?_, hl.1.1, ?_⟩
  · rw [jInatN b (by omega)]
    exact refs_skill hH.1 hb5
  rw [s1, hc]
  by_cases e : cb = c
  · rw [if_pos (by rw [e])]
    exact K M hM' (by rw [s1, e]) Eo.rf
  rw [if_neg (by rw [jIeq (rI_of (by omega) (by omega)) (rI_of (by omega) (by omega))]; exact e)]
  refine ⟨n + 12, hH.1 3 10 12 (by decide), m_ok_jI (hT.1 12 _ rfl) (by omega) (by omega) (by omega), ?_⟩
  rw [jInatN b (by omega), hH.2.2.1.2.2.2.2.2.2.2.1]
  refine s2_load (d := d) hT hH hG hO (aSk_q hb5) hb (by omega) ?_
  intro M14 e14 v14
  have c14 : M14.1 (n + 3) 4 = jI c := ((e14 _ _ (by unfold sLd sLaw aSk; omega)).1).trans hc
  rw [c14]
  have e15 : Eo (sSk n) M (m_ui M14 (aSk n b) 3 (jI c)) := (e14.mono (sLd_sk hb5)).trans (Eo.rf.ui (by right; unfold aSk; omega))
  have v15 : vB n s b (m_ui M14 (aSk n b) 3 (jI c)) := vSk.mv v14 (fun q' k h1 h2 => by simp only [m_u_ne (show q' ≠ aSk n b by omega)])
  have far : ∀ b', b' ≠ b → ∀ q' k, aSk n b' ≤ q' → q' ≤ aSk n b' + 3 → (m_ui M14 (aSk n b) 3 (jI c)).1 q' k = M.1 q' k := by
    intro b' eb q' k h1 h2
    have : q' ≠ aSk n b := by unfold aSk at *; omega
    simp only [m_u_ne this]
    exact (e14 _ _ (by unfold sLd sLaw; unfold aSk at *; omega)).1
  refine K _ ⟨hH.mvS hT e15 (sSk_rf n) sSk_h, ?_, hcb, ?_⟩ (by simp [m_u]) e15
  · simp only [m_u_ne (show n + 3 ≠ aSk n b by unfold aSk; omega)]; exact c14
  · intro b' hb'
    by_cases eb : b' = b
    · subst eb
      exact ⟨c, by simp [m_u], by omega, by omega, fun _ _ => v15, fun _ => rfl⟩
    · obtain ⟨cb', t1, t2, t3, t4, t5⟩ := hS b' hb'
      exact ⟨cb', (far b' eb _ _ (by omega) (by omega)).trans t1, t2, t3, fun h1 h2 => vSk.mv (t4 h1 h2) (fun q' k a1 a2 => far b' eb q' k (by omega) (by omega)), t5⟩
/-- the two's pins -/
def p12 (x y : Nat) : Nat → Int := fun k => if k = x ∨ k = y then 1 else 0
theorem sP12_01 (s : mS) (p : Nat → Int) : (sP12 s p) 0 = s 0 := by
  funext k; unfold sP12; rw [if_neg (by decide)]
/-- behind the beginning: all stands -/
theorem uOk_of {x y nv : Nat} (hT : gTh Th n) (hM : KM Th n (sP12 s (p12 x y)) c M) (hG : rG s) (hx : (x : Int) < s 0 1) (hy : (y : Int) < s 0 1) (hn : nv ≤ 7) (h1 : M.2.2 (n + 94) 1 = some (aSk n x)) (h2 : M.2.2 (n + 94) 2 = some (aSk n y)) (h6 : M.1 (n + 94) 6 = jI (nv : Int)) (h8 : M.1 (n + 94) 8 = jB (uCp s y)) : uOk Th n (sP12 s (p12 x y)) x y nv M.1 M.2.2 := by
  have g1 := hG.2.1
  have hx5 : x < 5 := by omega
  have hy5 : y < 5 := by omega
  have vx := KM_vB hM hx5 hx (by unfold sP12 p12; rw [if_pos rfl, if_pos (Or.inl rfl)])
  have vy := KM_vB hM hy5 hy (by unfold sP12 p12; rw [if_pos rfl, if_pos (Or.inr rfl)])
  have hH := hM.1.2.2.1
  have hR := hM.1.1
  exact ⟨hT.1, hG, ⟨hx, hy, hn⟩, ⟨hR 94 0 3 (by decide), h1, h2, hR 94 3 95 (by decide)⟩, ⟨hH.1, hH.2.2.1, hH.2.2.2.1, h6, h8⟩, fun V => ⟨lySk_of hT.1 hR (aSk_q hx5), lySk_of hT.1 hR (aSk_q hy5), vx, vy⟩⟩
set_option maxHeartbeats 2000000 in
theorem s1_begin {Q : mM → Prop} {x y nv : Nat} (hT : gTh Th n) (hM : KM Th n s c M) (hD : cDue n s c M) (hG : rG s) (hO : rLw s) (hx : (x : Int) < s 0 1) (hy : (y : Int) < s 0 1) (hn : nv ≤ 7)
    (K : ∀ M', KM Th n (sP12 s (p12 x y)) c M' → uOk Th n (sP12 s (p12 x y)) x y nv M'.1 M'.2.2 → uVal n (sP12 s (p12 x y)) x y nv M'.2.1 M'.2.1 → (M'.1 (n + 94) 4 = jI (x : Int) ∧ M'.1 (n + 94) 5 = jI (y : Int) ∧ M'.1 (n + 94) 7 = jI c) → Eo (sBeg n) M M' → Q M') : P1_begin (d + 35) Th (n + 94) (jI x) (jI y) (jI nv) M Q := by
  have g0 := hG.1
  have g1 := hG.2.1
  have hx5 : x < 5 := by omega
  have hy5 : y < 5 := by omega
  obtain ⟨fx, fy, fn, fc, ⟨rx, ry, rn, rc⟩, ⟨d4, d5, d6, d7⟩, hfc, hkp⟩ := hD
  have c4 := hM.2.1
  have hc := hM.2.2.1
  have rcc : rI c := rI_of (by omega) (by omega)
  -- anew
  have anew : H1_begin_39 (d + 35) Th Q (n + 94) (jI x) (jI y) (jI nv) M := by
    refine h1_begin_39 ⟨hT.1 94 _ rfl, ?_⟩
    intro M2 h2 M3 h3
    refine ⟨n + 3, hM.1.1 94 0 3 (by decide), hT.1 3 _ rfl, ?_⟩
    intro M7 h7 M8 h8
    have g7 : M7.1 (n + 3) 4 = jI c := by rw [h7, h3, h2]; simp [m_u, c4]
    rw [g7] at h8
    have e8 : Eo (sDf n) M M8 := by
      rw [h8, h7, h3, h2]
      exact (((Eo.rf.ui (by unfold sDf; omega)).ui (by unfold sDf; omega)).ui (by unfold sDf; omega)).ui (by unfold sDf; omega)
    have m8 : KM Th n s c M8 := hM.mvS hT e8 (sDf_rf n) sDf_h
    have f5 : M8.1 (n + 94) 5 = jI (y : Int) := by rw [h8, h7, h3, h2]; simp [m_u]
    have f4 : M8.1 (n + 94) 4 = jI (x : Int) := by rw [h8, h7, h3, h2]; simp [m_u]
    have f6 : M8.1 (n + 94) 6 = jI (nv : Int) := by rw [h8, h7, h3, h2]; simp [m_u]
    have f7 : M8.1 (n + 94) 7 = jI c := by rw [h8]; simp [m_u]
    rw [f5]
    have cont : ∀ v : Int32, v = jB (uCp s y) → m_fitI .boolean v ∧ (∃ r12 : Nat, M8.2.2 (n + 94) 0 = some r12 ∧ (∀ M14 : mM, M14 = m_ui M8 (n + 94) 8 v → Th.2.2 r12 = some (.inl 2) ∧ (P2_skill (d + 34) Th r12 (((M14).1 (n + 94) 4)) M14 (fun (v16 : Nat) (M15 : mM) => ∃ r18 : Nat, (m_ur M15 (n + 94) 1 (some v16)).2.2 (n + 94) 0 = some r18 ∧ (∀ M20 : mM, M20 = m_ur M15 (n + 94) 1 (some v16) → Th.2.2 r18 = some (.inl 2) ∧ (P2_skill (d + 34) Th r18 (((M20).1 (n + 94) 5)) M20 (fun (v22 : Nat) (M21 : mM) => ∃ r24 : Nat, (m_ur M21 (n + 94) 2 (some v22)).2.2 (n + 94) 0 = some r24 ∧ (Th.2.2 r24 = some (.inl 2) ∧ (∀ M27 : mM, M27 = m_ur M21 (n + 94) 2 (some v22) → ∃ r28 : Nat, M27.2.2 (n + 94) 0 = some r28 ∧ (Th.2.2 r28 = some (.inl 2) ∧ (∀ xv31 : Int32, xv31 = ((((10 * ((M27).1 r24 0)) * 21) * ((M27).1 r28 0)) * 18) → H1_begin_139 (d + 35) Th Q (n + 94) xv31 0 M27))))))))))) := by
      intro v hv
      subst hv
      refine ⟨⟨jB_bool _, by cases uCp s y <;> decide⟩, n + 3, m8.1.1 94 0 3 (by decide), ?_⟩
      intro M14 h14
      have e14 : Eo (sDf n) M8 M14 := by rw [h14]; exact Eo.rf.ui (by unfold sDf; omega)
      have m14 : KM Th n s c M14 := m8.mvS hT e14 (sDf_rf n) sDf_h
      have y4 : M14.1 (n + 94) 4 = jI (x : Int) := by rw [h14]; simp [m_u, f4]
      have y5 : M14.1 (n + 94) 5 = jI (y : Int) := by rw [h14]; simp [m_u, f5]
      have y6 : M14.1 (n + 94) 6 = jI (nv : Int) := by rw [h14]; simp [m_u, f6]
      have y7 : M14.1 (n + 94) 7 = jI c := by rw [h14]; simp [m_u, f7]
      have y8 : M14.1 (n + 94) 8 = jB (uCp s y) := by rw [h14]; simp [m_u]
      refine ⟨hT.1 3 _ rfl, ?_⟩
      rw [y4]
      refine s2_skill3 (d := d + 33) hT m14 hG hO hx (by omega) (fun M15 m15 st15 e15 => ?_)
      have e20 : Eo (sDf n) M15 (m_ur M15 (n + 94) 1 (some (aSk n x))) := Eo.rf.ur (by unfold sDf; omega)
      have m20 : KM Th n s c (m_ur M15 (n + 94) 1 (some (aSk n x))) := m15.mvS hT e20 (sDf_rf n) sDf_h
      refine ⟨n + 3, m20.1.1 94 0 3 (by decide), ?_⟩
      intro M20 h20
      subst h20
      refine ⟨hT.1 3 _ rfl, ?_⟩
      have z5 : (m_ur M15 (n + 94) 1 (some (aSk n x))).1 (n + 94) 5 = jI (y : Int) := ((e15 _ _ (by unfold sSk sLaw; omega)).1).trans y5
      rw [z5]
      have m20' : KM Th n (sP12 s (p12 x x)) c (m_ur M15 (n + 94) 1 (some (aSk n x))) := KM_pin _ m20 (fun b hb q => by
        unfold p12 at q
        by_cases cb : b = x
        · rw [cb]; exact st15
        · rw [if_neg (by omega)] at q; exact absurd q (by decide))
      refine s2_skill3 (s := sP12 s (p12 x x)) (d := d + 33) hT m20' hG hO hy (by omega) (fun M21 m21 st21 e21 => ?_)
      have stx : M21.1 (aSk n x) 3 = jI c := KM_stamp m21 hx5 (by unfold sP12 p12; rw [if_pos rfl, if_pos (Or.inl rfl)])
      have m21' : KM Th n (sP12 s (p12 x y)) c M21 := by
        have := KM_pin (p12 x y) m21 (fun b hb q => by
          unfold p12 at q
          by_cases cb : b = x
          · rw [cb]; exact stx
          · by_cases cy : b = y
            · rw [cy]; exact st21
            · rw [if_neg (by omega)] at q; exact absurd q (by decide))
        rw [sP12_2] at this
        exact this
      have e27 : Eo (sDf n) M21 (m_ur M21 (n + 94) 2 (some (aSk n y))) := Eo.rf.ur (by unfold sDf; omega)
      have m27 : KM Th n (sP12 s (p12 x y)) c (m_ur M21 (n + 94) 2 (some (aSk n y))) := m21'.mvS hT e27 (sDf_rf n) sDf_h
      refine ⟨n + 3, m27.1.1 94 0 3 (by decide), hT.1 3 _ rfl, ?_⟩
      intro M27 h27
      refine ⟨n + 3, by rw [h27]; exact m27.1.1 94 0 3 (by decide), hT.1 3 _ rfl, ?_⟩
      intro xv31 h31
      have eAll : Eo (sBeg n) M M27 := by
        have a1 : Eo (sBeg n) M M14 := (e8.trans e14).mono (fun _ _ h => Or.inr h)
        have a2 : Eo (sBeg n) M14 M15 := e15.mono (fun _ _ h => Or.inl h)
        have a3 : Eo (sBeg n) M15 (m_ur M15 (n + 94) 1 (some (aSk n x))) := e20.mono (fun _ _ h => Or.inr h)
        have a4 : Eo (sBeg n) (m_ur M15 (n + 94) 1 (some (aSk n x))) M21 := e21.mono (fun _ _ h => Or.inl h)
        have a5 : Eo (sBeg n) M21 (m_ur M21 (n + 94) 2 (some (aSk n y))) := e27.mono (fun _ _ h => Or.inr h)
        rw [h27]
        exact (((a1.trans a2).trans a3).trans a4).trans a5
      have k94 : ∀ k, k = 4 ∨ k = 5 ∨ k = 6 ∨ k = 7 ∨ k = 8 → M27.1 (n + 94) k = M14.1 (n + 94) k := fun k hk => by
        rw [h27]
        show M21.1 (n + 94) k = _
        rw [(e21 _ _ (by unfold sSk sLaw; omega)).1]
        show M15.1 (n + 94) k = _
        exact (e15 _ _ (by unfold sSk sLaw; omega)).1
      have r1 : M27.2.2 (n + 94) 1 = some (aSk n x) := by
        rw [h27]
        show (m_u M21.2.2 (n + 94) 2 (some (aSk n y))) (n + 94) 1 = _
        rw [m_u_nk (by omega), (e21 _ _ (by unfold sSk sLaw; omega)).2.2]
        simp [m_u]
      have r2 : M27.2.2 (n + 94) 2 = some (aSk n y) := by rw [h27]; simp [m_u]
      have m27' : KM Th n (sP12 s (p12 x y)) c M27 := by rw [h27]; exact m27
      have hRs : s 0 0 = (uR s : Int) ∧ uR s ≤ 5 := by unfold uR; omega
      have e30 : M27.1 (n + 3) 0 = jI (uR s : Int) := m27'.1.2.2.1.1.trans (congrArg jI hRs.1)
      have used : xv31 = jI ((10 * uR s * 21 * uR s * 18 : Nat) : Int) := by
        rw [h31, e30, kI10, show (21 : Int32) = jI 21 from rfl, kI18, jI_mul, jI_mul, jI_mul, jI_mul]
        congr 1
      have ub : 10 * uR s * 21 * uR s * 18 ≤ 94500 := by
        have : uR s = 0 ∨ uR s = 1 ∨ uR s = 2 ∨ uR s = 3 ∨ uR s = 4 ∨ uR s = 5 := by omega
        rcases this with h | h | h | h | h | h <;> rw [h] <;> decide
      rw [used]
      clear h31 used
      generalize hU : 10 * uR s * 21 * uR s * 18 = U at ub ⊢
      -- none is reckoned yet
      have fin : ∀ V : Nat → Nat → Int64, (∀ q k, q ≠ n + 95 → V q k = M27.2.1 q k) → (∀ i, i < U → V (n + 95) i = jL (-1)) → Q (M27.1, V, M27.2.2) := by
        intro V hV hi
        have eV : Eo (sDf n) M27 (M27.1, V, M27.2.2) := fun q k hq => ⟨rfl, hV q k (fun z => hq (Or.inr z)), rfl⟩
        have mV : KM Th n (sP12 s (p12 x y)) c (M27.1, V, M27.2.2) := m27'.mvS hT eV (sDf_rf n) sDf_h
        refine K (M27.1, V, M27.2.2) mV (uOk_of hT mV hG hx hy hn r1 r2 ((k94 6 (by omega)).trans y6) ((k94 8 (by omega)).trans y8)) ⟨fun _ _ _ => rfl, fun l zx zy h1 h2 h3 h4 => Or.inl ?_⟩ ⟨(k94 4 (by omega)).trans y4, (k94 5 (by omega)).trans y5, (k94 7 (by omega)).trans y7⟩ (eAll.trans (eV.mono (fun _ _ h => Or.inr h)))
        refine hi _ ?_
        rw [← hU]
        exact uIx_used hRs.2 h1 h2 h3 h4
      have loop : ∀ u j (V : Nat → Nat → Int64), j + u = U → (∀ q k, q ≠ n + 95 → V q k = M27.2.1 q k) → (∀ i, i < j → V (n + 95) i = jL (-1)) → H1_begin_139 (d + 35) Th Q (n + 94) (jI (U : Nat)) (jI (j : Nat)) (M27.1, V, M27.2.2) := by
        intro u
        induction u with
        | zero =>
          intro j V hj hV hi
          refine h1_begin_139 ?_
          rw [if_pos (by rw [jIle (rI_nat (by omega)) (rI_nat (by omega))]; omega)]
          exact fin V hV (fun i h => hi i (by omega))
        | succ u ih =>
          intro j V hj hV hi
          refine h1_begin_139 ?_
          rw [if_neg (by rw [jIle (rI_nat (by omega)) (rI_nat (by omega))]; omega)]
          refine ⟨hT.1 94 _ rfl, n + 95, m27'.1.1 94 3 95 (by decide), .long, false, 94500, hT.1 95 _ rfl, ?_⟩
          rw [if_neg (by rw [jI_nI, jIle (rI_nat (by omega)) (rI_nat (by omega))]; omega)]
          refine ⟨m_okw_jI (hT.1 95 _ rfl) (by omega) (by omega) (by omega), ?_⟩
          rw [jInatN _ (by omega), jI_s]
          refine ih (j + 1) _ (by omega) (fun q k hq => ?_) (fun i h => ?_)
          · rw [m_u_ne hq]; exact hV q k hq
          · by_cases ci : i = j
            · rw [ci]; exact m_u_eq
            · rw [m_u_nk ci]; exact hi i (by omega)
      exact loop U 0 M27.2.1 (by omega) (fun _ _ _ => rfl) (fun i h => absurd h (by omega))
    refine s2_followsSeen (d := d + 32) (b := y) hT.1 m8.1.1 m8.1.2.2.1 hG hy (fun q1 q2 => ?_) (fun q => ?_)
    · exact cont 1 (by unfold uCp; rw [decide_eq_true ⟨q1, q2⟩]; rfl)
    · exact cont 0 (by unfold uCp; rw [decide_eq_false q]; rfl)
  refine e1_begin ⟨hT.1 94 _ rfl, ?_⟩
  by_cases e4 : fx = x
  rotate_left
  · rw [if_neg (by rw [d4, jIeq rx (rI_nat (by omega))]; exact e4)]
    exact anew
  rw [if_pos (by rw [d4, e4])]
  by_cases e5 : fy = y
  rotate_left
  · rw [if_neg (by rw [d5, jIeq ry (rI_nat (by omega))]; exact e5)]
    exact anew
  rw [if_pos (by rw [d5, e5])]
  by_cases e6 : fn = nv
  rotate_left
  · rw [if_neg (by rw [d6, jIeq rn (rI_nat (by omega))]; exact e6)]
    exact anew
  rw [if_pos (by rw [d6, e6])]
  refine ⟨n + 3, hM.1.1 94 0 3 (by decide), hT.1 3 _ rfl, ?_⟩
  by_cases e7 : fc = c
  rotate_left
  · rw [if_neg (by rw [d7, c4, jIeq rc rcc]; exact e7)]
    exact anew
  rw [if_pos (by rw [d7, c4, e7])]
  rcases hkp with q | q | ⟨x', y', nv', q1, q2, q3, hk⟩
  · omega
  · exact absurd e7 q
  have ex : x' = x := by omega
  have ey : y' = y := by omega
  have en : nv' = nv := by omega
  subst ex ey en
  obtain ⟨k1, ⟨k2, k3⟩, k4, k5, k6, k7⟩ := hk
  have mP : KM Th n (sP12 s (p12 x' y')) c M := KM_pin _ hM (fun b hb q => by
    unfold p12 at q
    by_cases cb : b = x'
    · rw [cb]; exact KM_stamp hM hx5 k2
    · by_cases cy : b = y'
      · rw [cy]; exact KM_stamp hM hy5 k3
      · rw [if_neg (by omega)] at q; exact absurd q (by decide))
  refine K M mP (uOk_of hT mP hG hx hy hn k4 k5 (by rw [d6, e6]) k6) ?_ ⟨by rw [d4, e4], by rw [d5, e5], by rw [d7, e7]⟩ Eo.rf
  refine ⟨fun _ _ _ => rfl, fun l zx zy h1 h2 h3 h4 => ?_⟩
  rw [uV_pin]
  exact k7.2 l zx zy h1 h2 h3 h4
end UL
