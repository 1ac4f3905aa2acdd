/-! ===== BEST in the model: a state's acts, marking and reckoning ===== -/
def mkE (m l R : Nat) (M M' : mM) : Prop := Eo (sBm m) M M' ∧ ∀ i, M'.1 (m + 25) i = M.1 (m + 25) i ∨ (M'.1 (m + 25) i = 1 ∧ ∃ t t' b, i = pl l t t' b ∧ t < 21 * R ∧ t' < 16 * R ∧ b ≤ 2)
theorem mkE.rf {m l R : Nat} {M : mM} : mkE m l R M M := ⟨Eo.rf, fun _ => Or.inl rfl⟩
theorem mkE.trans {m l R : Nat} {M M1 M2 : mM} (h1 : mkE m l R M M1) (h2 : mkE m l R M1 M2) : mkE m l R M M2 := by
  refine ⟨h1.1.trans h2.1, fun i => ?_⟩
  rcases h2.2 i with q | q
  · rw [q]; exact h1.2 i
  · exact Or.inr q
theorem mkE.nz {m l R : Nat} {M M1 : mM} {i : Nat} (h : mkE m l R M M1) (h1 : M.1 (m + 25) i ≠ 0) : M1.1 (m + 25) i ≠ 0 := by
  rcases h.2 i with q | q
  · rw [q]; exact h1
  · rw [q.1]; decide
/-- a state's successors -/
def uSuc (s : mS) (x y nv l xs ys b : Nat) (P : Nat → Prop) : Prop := ∀ a, a < 5 → qC s nv xs (uZy s y ys b) a = true → ∀ t w t' w', (t, w) ∈ lX s x a xs → (t', w') ∈ lY s y ys b → t ≠ 105 → t' ≠ 80 → P (pl l t t' (bgA a xs ys t'))
def acE (m at' : Nat) (M M' : mM) : Prop := Eo (sBm m) M M' ∧ (∀ i, M'.1 (m + 25) i = M.1 (m + 25) i) ∧ ∀ i, i ≠ at' → M'.2.1 (m + 26) i = M.2.1 (m + 26) i ∧ M'.1 (m + 27) i = M.1 (m + 27) i
theorem acE.rf {m at' : Nat} {M : mM} : acE m at' M M := ⟨Eo.rf, fun _ => rfl, fun _ _ => ⟨rfl, rfl⟩⟩
theorem acE.trans {m at' : Nat} {M M1 M2 : mM} (h1 : acE m at' M M1) (h2 : acE m at' M1 M2) : acE m at' M M2 :=
  ⟨h1.1.trans h2.1, fun i => (h2.2.1 i).trans (h1.2.1 i), fun i hi => ⟨((h2.2.2 i hi).1).trans (h1.2.2 i hi).1, ((h2.2.2 i hi).2).trans (h1.2.2 i hi).2⟩⟩
theorem sXd_b {m : Nat} : ∀ q k, sXd m q k → sBm m q k := fun q k h => Or.inl h
theorem sYd_b {m : Nat} : ∀ q k, sYd m q k → sBm m q k := fun q k h => Or.inr (Or.inl h)
theorem uCh_no {f : Nat → Int} {c : Nat → Bool} {k : Nat} (h : c k = false) : uCh f c (k + 1) = uCh f c k := by
  rw [uCh, if_neg (show ¬ (c k = true ∧ uMx f c k < f k) from fun q => absurd q.1 (by rw [h]; decide))]
theorem uCh_le {f : Nat → Int} {c : Nat → Bool} {k : Nat} (h : ¬ uMx f c k < f k) : uCh f c (k + 1) = uCh f c k := by
  rw [uCh, if_neg (show ¬ (c k = true ∧ uMx f c k < f k) from fun q => h q.2)]
section MI
variable {d : Nat} {Th : mT} {M : mM} {m : Nat} {s : mS}
theorem sXY_far {M M1 M2 : mM} (e1 : Eo (sXd m) M M1) (e2 : Eo (sYd m) M1 M2) : (∀ i, M2.1 (m + 25) i = M.1 (m + 25) i ∧ M2.2.1 (m + 26) i = M.2.1 (m + 26) i ∧ M2.1 (m + 27) i = M.1 (m + 27) i) ∧ Eo (sBm m) M M2 := by
  refine ⟨fun i => ⟨?_, ?_, ?_⟩, (e1.mono sXd_b).trans (e2.mono sYd_b)⟩
  · exact ((e2 _ _ (by unfold sYd sTh sYp; omega)).1).trans (e1 _ _ (by unfold sXd sTh sXp; omega)).1
  · exact ((e2 _ _ (by unfold sYd sTh sYp; omega)).2.1).trans (e1 _ _ (by unfold sXd sTh sXp; omega)).2.1
  · exact ((e2 _ _ (by unfold sYd sTh sYp; omega)).1).trans (e1 _ _ (by unfold sXd sTh sXp; omega)).1
/-- an act's tick, up to what lies behind -/
theorem s11_tick {Q : mM → Prop} {x y l nv xs ys b at' sm k : Nat} {mk : Int32} (hT : LyM Th m) (hK : KT m s M) (hG : rG s) (hO : rLw s) (hxb : (x : Int) < s 0 1) (hyb : (y : Int) < s 0 1) (hx : xs < 21 * uR s) (hy : ys < 16 * uR s) (hb : b ≤ 2) (hk : k < 5) (hq : qC s nv xs (uZy s y ys b) k = true)
    (K : ∀ M4, KT m s M4 → pX m (lX s x k xs) M4 → pY m (lY s y ys b) M4 → M4.1 m 55 = jI (xBg k xs : Nat) → (∀ i, M4.1 (m + 25) i = M.1 (m + 25) i ∧ M4.2.1 (m + 26) i = M.2.1 (m + 26) i ∧ M4.1 (m + 27) i = M.1 (m + 27) i) → Eo (sBm m) M M4 → P11_behind (d + 6) Th m (jI (l : Nat)) (jI (xs : Nat)) (jI (ys : Nat)) mk M4 (fun (v7 : Int64) (M6 : mM) => if mk = 0 then (if jI (sm : Nat) = 0 then (H11_acts_146 (d + 7) Th Q m (jI (x : Nat)) (jI (y : Nat)) (jI (l : Nat)) (jI (nv : Nat)) mk (jI (b : Nat)) (jI (xs : Nat)) (jI (ys : Nat)) (jI (at' : Nat)) (jI (k : Nat)) v7 M6) else (∃ r8 : Nat, M6.2.2 m 47 = some r8 ∧ (m_ok Th r8 .long (jI (at' : Nat)) ∧ (if 0 < (lg_cmp v7 (((M6).2.1 r8 (Int32.toNatClampNeg (jI (at' : Nat)))))) then (H11_acts_146 (d + 7) Th Q m (jI (x : Nat)) (jI (y : Nat)) (jI (l : Nat)) (jI (nv : Nat)) mk (jI (b : Nat)) (jI (xs : Nat)) (jI (ys : Nat)) (jI (at' : Nat)) (jI (k : Nat)) v7 M6) else (H11_acts_40 (d + 7) Th Q m (jI (x : Nat)) (jI (y : Nat)) (jI (l : Nat)) (jI (nv : Nat)) mk (jI (b : Nat)) (jI (xs : Nat)) (jI (ys : Nat)) (jI (at' : Nat)) (jI (sm : Nat)) (jI (k : Nat) + 1) M6))))) else (H11_acts_40 (d + 7) Th Q m (jI (x : Nat)) (jI (y : Nat)) (jI (l : Nat)) (jI (nv : Nat)) mk (jI (b : Nat)) (jI (xs : Nat)) (jI (ys : Nat)) (jI (at' : Nat)) (jI (sm : Nat)) (jI (k : Nat) + 1) M6))) :
    H11_acts_89 (d + 7) Th Q m (jI (x : Nat)) (jI (y : Nat)) (jI (l : Nat)) (jI (nv : Nat)) mk (jI (b : Nat)) (jI (xs : Nat)) (jI (ys : Nat)) (jI (at' : Nat)) (jI (sm : Nat)) (jI (k : Nat)) M := by
  refine h11_acts_89 ⟨hT 0 _ rfl, ?_⟩
  refine s11_xDoes (d := d + 1) hT hK hG hO hxb hx hk (fun h6 k0 => ?_) (fun M1 k1 p1 b1 e1 => ?_)
  · unfold qC at hq
    rw [if_neg (by omega)] at hq
    unfold uCan at hq
    rw [if_pos k0] at hq
    have : ¬ xs % 21 = 6 := by
      intro z
      rw [decide_eq_false (by omega), Bool.and_false] at hq
      exact absurd hq (by decide)
    omega
  · refine s11_yDoes (d := d) hT k1 hG hO hyb hy hb (fun M4 k4 p4 e4 => ?_)
    obtain ⟨f1, f2⟩ := sXY_far e1 e4
    refine K M4 k4 (pX.mv p1 (e4 _ _ (by unfold sYd sTh sYp; omega)).1 (fun i => ⟨(e4 _ _ (by unfold sYd sTh sYp; omega)).1, (e4 _ _ (by unfold sYd sTh sYp; omega)).1⟩)) p4 ?_ f1 f2
    exact ((e4 _ _ (by unfold sYd sTh sYp; omega)).1).trans b1
set_option maxHeartbeats 1000000 in
theorem s11_actsM {Q : mM → Prop} {x y l nv kk : Nat} (hT : LyM Th m) (hK : KT m s M) (hG : rG s) (hO : rLw s) (hxb : (x : Int) < s 0 1) (hyb : (y : Int) < s 0 1) (hn : nv ≤ 7) (hl : 1 ≤ l) (hl9 : l ≤ 9) (hkk : kk < 25200) (hx : kk / 3 / 80 < 21 * uR s) (hy : kk / 3 % 80 < 16 * uR s)
    (K : ∀ M', KT m s M' → mkE m l (uR s) M M' → uSuc s x y nv l (kk / 3 / 80) (kk / 3 % 80) (kk % 3) (fun i => M'.1 (m + 25) i ≠ 0) → Q M') : P11_acts (d + 8) Th m (jI (x : Nat)) (jI (y : Nat)) (jI ((l + 1 : Nat) : Int)) (jI (kk : Nat)) (jI (nv : Nat)) 1 M Q := by
  obtain ⟨e0, eR, eD, eD1, eD4⟩ := uR_e hG
  refine e11_acts ?_
  intro xv1 h1 xv2 h2 xv3 h3 xv4 h4
  have q3 : jI (kk : Int) / 3 = jI ((kk / 3 : Nat) : Int) := by
    rw [kI3, jI_div (by omega) (by omega) (by omega) (by omega)]; congr 1
  rw [kI3, jI_rem (by omega) (by omega) (by omega) (by omega)] at h1
  rw [q3, kI80, jI_div (by omega) (by omega) (by omega) (by omega)] at h2
  rw [q3, kI80, jI_rem (by omega) (by omega) (by omega) (by omega)] at h3
  rw [kI25200, jI_mul, jI_add] at h4
  have a1 : xv1 = jI ((kk % 3 : Nat) : Int) := by rw [h1]; congr 1
  have a2 : xv2 = jI ((kk / 3 / 80 : Nat) : Int) := by rw [h2]; congr 1
  have a3 : xv3 = jI ((kk / 3 % 80 : Nat) : Int) := by rw [h3]; congr 1
  have a4 : xv4 = jI ((25200 * (l + 1) + kk : Nat) : Int) := by rw [h4]; congr 1
  clear h1 h2 h3 h4
  subst a1 a2 a3 a4
  generalize hb : kk % 3 = b at *
  generalize hxs : kk / 3 / 80 = xs at *
  generalize hys : kk / 3 % 80 = ys at *
  have hb2 : b ≤ 2 := by omega
  have loop : ∀ u a (M1 : mM), a + u = 5 → KT m s M1 → (∀ M', KT m s M' → mkE m l (uR s) M1 M' → (∀ a', a ≤ a' → a' < 5 → qC s nv xs (uZy s y ys b) a' = true → ∀ t w t' w', (t, w) ∈ lX s x a' xs → (t', w') ∈ lY s y ys b → t ≠ 105 → t' ≠ 80 → M'.1 (m + 25) (pl l t t' (bgA a' xs ys t')) ≠ 0) → Q M') → H11_acts_40 (d + 7 + 1) Th Q m (jI (x : Nat)) (jI (y : Nat)) (jI ((l + 1 : Nat) : Int)) (jI (nv : Nat)) 1 (jI (b : Nat)) (jI (xs : Nat)) (jI (ys : Nat)) (jI ((25200 * (l + 1) + kk : Nat) : Int)) (jI ((0 : Nat) : Int)) (jI (a : Nat)) M1 := by
    intro u
    induction u with
    | zero =>
      intro a M1 ha k1 K
      refine h11_acts_40 ?_
      rw [if_pos (by rw [jh5 (rI_nat (by omega))]; omega)]
      exact K M1 k1 mkE.rf (fun a' h1 h2 => absurd h2 (by omega))
    | succ u ih =>
      intro a M1 ha k1 K
      refine s11_tries (d := d + 5) hT k1 hG hx hy (by omega) hn (fun hq => ?_) (fun hq => ?_)
      · refine ih (a + 1) M1 (by omega) k1 (fun M' k' e' h' => K M' k' e' (fun a' h1 h2 h3 => ?_))
        by_cases c : a' = a
        · subst c
          rw [hq] at h3
          exact absurd h3 (by decide)
        · exact h' a' (by omega) h2 h3
      · refine s11_tick (d := d + 1) hT k1 hG hO hxb hyb hx hy hb2 (by omega) hq (fun M4 k4 p4 p4' b4 f4 e4 => ?_)
        refine s11_behindM (d := d + 4) hT k4.1 p4 p4' lX_l lY_l b4 hl9 hl (by omega) (by omega) xBg_b eR (fun t w h => lX_v hG hx h) (fun t w h => lY_v hG hy h) (fun v M6 h6 g6 => ?_)
        rw [if_neg (by decide), jI_s]
        have e46 : Eo (sBm m) M4 M6 := h6.1.mono (fun q k h => by unfold sBm; omega)
        have k6 : KT m s M6 := k4.mv e46 sBm_k
        have m16 : mkE m l (uR s) M1 M6 := by
          refine ⟨e4.trans e46, fun i => ?_⟩
          rcases h6.2 i with q | q
          · left; rw [q]; exact (f4 i).1
          · exact Or.inr q
        refine ih (a + 1) M6 (by omega) k6 (fun M' k' e' h' => K M' k' (m16.trans e') (fun a' h1 h2 h3 => ?_))
        by_cases c : a' = a
        · subst c
          intro t w t' w' z1 z2 z3 z4
          refine e'.nz ?_
          rw [bgA_f, g6 t w t' w' z1 z2 z3 z4]
          decide
        · exact h' a' (by omega) h2 h3
  exact loop 5 0 M rfl hK (fun M' k' e' h' => K M' k' e' (fun a' h2 h3 => h' a' (by omega) h2 h3))
theorem uYc_105 {z : Nat} (h : uYc z = 105) : z = 80 := by
  unfold uYc at h
  by_cases c : z = 80
  · exact c
  · rw [if_neg c] at h
    split at h <;> omega
theorem uSee_105 {cp : Bool} {z b : Nat} (h : z ≠ 105) : uSee cp z b ≠ 105 := by
  unfold uSee
  split
  · rename_i q
    split <;> omega
  · exact h
set_option maxHeartbeats 2000000 in
theorem s11_actsV {Q : mM → Prop} {x y l nv kk : Nat} (hT : LyM Th m) (hK : KT m s M) (hG : rG s) (hO : rLw s) (hxb : (x : Int) < s 0 1) (hyb : (y : Int) < s 0 1) (hn : nv ≤ 7) (hl9 : l ≤ 9) (hkk : kk < 25200) (hx : kk / 3 / 80 < 21 * uR s) (hy : kk / 3 % 80 < 16 * uR s)
    (hv : 1 ≤ l → ∀ a, a < 5 → qC s nv (kk / 3 / 80) (uZy s y (kk / 3 % 80) (kk % 3)) a = true → ∀ t w t' w', (t, w) ∈ lX s x a (kk / 3 / 80) → (t', w') ∈ lY s y (kk / 3 % 80) (kk % 3) → t ≠ 105 → t' ≠ 80 → M.2.1 (m + 26) (pl l t t' (bgA a (kk / 3 / 80) (kk / 3 % 80) t')) = jL (uV s x y nv l t (uZy s y t' (bgA a (kk / 3 / 80) (kk / 3 % 80) t'))))
    (K : ∀ M', KT m s M' → acE m (25200 * (l + 1) + kk) M M' → M'.2.1 (m + 26) (25200 * (l + 1) + kk) = jL (uV s x y nv (l + 1) (kk / 3 / 80) (uZy s y (kk / 3 % 80) (kk % 3))) → M'.1 (m + 27) (25200 * (l + 1) + kk) = jI (uAct s x y nv l (kk / 3 / 80) (uZy s y (kk / 3 % 80) (kk % 3))) → Q M') : P11_acts (d + 8) Th m (jI (x : Nat)) (jI (y : Nat)) (jI ((l + 1 : Nat) : Int)) (jI (kk : Nat)) (jI (nv : Nat)) 0 M Q := by
  obtain ⟨e0, eR, eD, eD1, eD4⟩ := uR_e hG
  refine e11_acts ?_
  intro xv1 h1 xv2 h2 xv3 h3 xv4 h4
  have q3 : jI (kk : Int) / 3 = jI ((kk / 3 : Nat) : Int) := by
    rw [kI3, jI_div (by omega) (by omega) (by omega) (by omega)]; congr 1
  rw [kI3, jI_rem (by omega) (by omega) (by omega) (by omega)] at h1
  rw [q3, kI80, jI_div (by omega) (by omega) (by omega) (by omega)] at h2
  rw [q3, kI80, jI_rem (by omega) (by omega) (by omega) (by omega)] at h3
  rw [kI25200, jI_mul, jI_add] at h4
  have a1 : xv1 = jI ((kk % 3 : Nat) : Int) := by rw [h1]; congr 1
  have a2 : xv2 = jI ((kk / 3 / 80 : Nat) : Int) := by rw [h2]; congr 1
  have a3 : xv3 = jI ((kk / 3 % 80 : Nat) : Int) := by rw [h3]; congr 1
  have a4 : xv4 = jI ((25200 * (l + 1) + kk : Nat) : Int) := by rw [h4]; congr 1
  clear h1 h2 h3 h4
  subst a1 a2 a3 a4
  generalize hb : kk % 3 = b at *
  generalize hxs : kk / 3 / 80 = xs at *
  generalize hys : kk / 3 % 80 = ys at *
  have hb2 : b ≤ 2 := by omega
  have zv := uZy_v (y := y) (b := b) eR hy
  have qv := qV (s := s) (x := x) (y := y) (nv := nv) (l := l) (zx := xs) (zy := uZy s y ys b) (by omega) zv.2.2.2 hl9
  have qa := qA (s := s) (x := x) (y := y) (nv := nv) (l := l) (zx := xs) (zy := uZy s y ys b)
  have ub := uV_r s x y nv (l + 1) xs (uZy s y ys b) (by omega)
  have fb := fun k => qF_b s x y nv l xs (uZy s y ys b) k hl9
  generalize hat : 25200 * (l + 1) + kk = at' at *
  have hlt : at' < 277200 := by omega
  have loop : ∀ u a (M1 : mM) (sm : Nat), a + u = 5 → KT m s M1 → acE m at' M M1 → sm = (if 0 ≤ uMx (qF s x y nv l xs (uZy s y ys b)) (qC s nv xs (uZy s y ys b)) a then 1 else 0) → (0 ≤ uMx (qF s x y nv l xs (uZy s y ys b)) (qC s nv xs (uZy s y ys b)) a → M1.2.1 (m + 26) at' = jL (uMx (qF s x y nv l xs (uZy s y ys b)) (qC s nv xs (uZy s y ys b)) a) ∧ M1.1 (m + 27) at' = jI (qH s x y nv l xs (uZy s y ys b) a)) → H11_acts_40 (d + 7 + 1) Th Q m (jI (x : Nat)) (jI (y : Nat)) (jI ((l + 1 : Nat) : Int)) (jI (nv : Nat)) 0 (jI (b : Nat)) (jI (xs : Nat)) (jI (ys : Nat)) (jI (at' : Nat)) (jI (sm : Nat)) (jI (a : Nat)) M1 := by
    intro u
    induction u with
    | zero =>
      intro a M1 sm ha k1 e1 hs h1
      have a5 : a = 5 := by omega
      subst a5
      refine h11_acts_40 ?_
      rw [if_pos (by decide)]
      rw [qv, qa] at h1
      exact K M1 k1 e1 (h1 ub.1).1 (h1 ub.1).2
    | succ u ih =>
      intro a M1 sm ha k1 e1 hs h1
      have mb := uMx_b (c := qC s nv xs (uZy s y ys b)) (by omega) fb a
      have fa := fb a
      refine s11_tries (d := d + 5) hT k1 hG hx hy (by omega) hn (fun hq => ?_) (fun hq => ?_)
      · have e2 : uMx (qF s x y nv l xs (uZy s y ys b)) (qC s nv xs (uZy s y ys b)) (a + 1) = uMx (qF s x y nv l xs (uZy s y ys b)) (qC s nv xs (uZy s y ys b)) a := by
          rw [uMx, if_neg (fun q => absurd q.1 (by rw [hq]; decide))]
        have e3 : qH s x y nv l xs (uZy s y ys b) (a + 1) = qH s x y nv l xs (uZy s y ys b) a := by
          unfold qH
          rw [uCh_no hq]
        exact ih (a + 1) M1 sm (by omega) k1 e1 (by rw [e2]; exact hs) (by rw [e2, e3]; exact h1)
      · refine s11_tick (d := d + 1) hT k1 hG hO hxb hyb hx hy hb2 (by omega) hq (fun M4 k4 p4 p4' b4 f4 e4 => ?_)
        have e14 : acE m at' M1 M4 := ⟨e4, fun i => (f4 i).1, fun i _ => ⟨(f4 i).2.1, (f4 i).2.2⟩⟩
        refine s11_behindV (d := d + 4) (H := fun nx ny => uV s x y nv l nx (uSee (uCp s y) (uYc ny) (bgA a xs ys ny))) hT k4.1 p4 p4' lX_l lY_l b4 hl9 (by omega) (by omega) xBg_b (fun t w h => ?_) (fun t w h => ?_) (fun nx ny h => ?_) (fun h0 nx ny n1 n2 => ?_) (fun h1' t w t' w' z1 z2 z3 z4 => ?_) ?_
        · have := lX_v hG hx h
          have h2 := this.1
          unfold uX at h2
          exact ⟨by omega, this.2⟩
        · have := lY_v hG hy h
          have h2 := this.1
          unfold yOk at h2
          exact ⟨by omega, this.2⟩
        · show uV s x y nv l nx (uSee (uCp s y) (uYc ny) (bgA a xs ys ny)) = _
          unfold uWo
          by_cases c1 : nx = 105
          · rw [if_pos c1, c1, uV_box]
            by_cases c2 : ny = 80
            · have : uSee (uCp s y) (uYc ny) (bgA a xs ys ny) = 105 := by
                rw [c2, show uYc 80 = 105 from rfl]
                unfold uSee
                rw [if_neg (fun q => absurd q.2.2.2 (by omega))]
              rw [if_pos this, if_pos c2, Int.one_mul]
            · rw [if_neg (uSee_105 (fun q => c2 (uYc_105 q))), if_neg c2]
          · rw [if_neg c1]
            have c2 : ny = 80 := by omega
            have : uSee (uCp s y) (uYc ny) (bgA a xs ys ny) = 105 := by
              rw [c2, show uYc 80 = 105 from rfl]
              unfold uSee
              rw [if_neg (fun q => absurd q.2.2.2 (by omega))]
            rw [this, uV_boy c1, Int.zero_mul]
        · subst h0
          exact uV_0 n1 (uSee_105 (fun q => n2 (uYc_105 q)))
        · have v1 := (lX_v hG hx z1).1
          have v2 := (lY_v hG hy z2).1
          have vb : bgA a xs ys t' ≤ 2 := bgf_b xBg_b
          have vp := pl_b (l := l) (x := t) (y := t') (b := bgA a xs ys t') (by omega) (by unfold uX at v1; omega) (by unfold yOk at v2; omega) vb
          refine ⟨vp.1, ?_⟩
          show M4.2.1 (m + 26) (pl l t t' (bgA a xs ys t')) = jL (uV s x y nv l t (uZy s y t' (bgA a xs ys t')))
          rw [(f4 _).2.1, (e1.2.2 _ (by omega)).1]
          exact hv h1' a (by omega) hq t w t' w' z1 z2 z3 z4
        · have es : lSm (fun nx => lSm (fun ny => (fun nx ny => uV s x y nv l nx (uSee (uCp s y) (uYc ny) (bgA a xs ys ny))) nx ny) (lY s y ys b)) (lX s x a xs) = qF s x y nv l xs (uZy s y ys b) a :=
            uDo_l (F := fun a b => uV s x y nv l a b) eR ⟨eD1, eD4⟩ hy hb2 (by omega)
          rw [es, if_pos rfl]
          have o26 : m_ok Th (m + 26) .long (jI (at' : Nat)) := m_ok_jI (hT 26 _ rfl) (by omega) (by omega) (by omega)
          -- it is kept
          have put : uMx (qF s x y nv l xs (uZy s y ys b)) (qC s nv xs (uZy s y ys b)) a < qF s x y nv l xs (uZy s y ys b) a → H11_acts_146 (d + 8) Th Q m (jI (x : Nat)) (jI (y : Nat)) (jI ((l + 1 : Nat) : Int)) (jI (nv : Nat)) 0 (jI (b : Nat)) (jI (xs : Nat)) (jI (ys : Nat)) (jI (at' : Nat)) (jI (a : Nat)) (jL (qF s x y nv l xs (uZy s y ys b) a)) M4 := by
            intro hlt'
            refine h11_acts_146 ⟨hT 0 _ rfl, m + 26, k4.1 0 47 26 (by decide), m_okw_jI (hT 26 _ rfl) (by omega) (by omega) (by omega), m + 27, k4.1 0 48 27 (by decide), ?_⟩
            refine s11_isFree (d := d + 6) (by omega) ?_
            refine ⟨m_okw_jI (hT 27 _ rfl) (by omega) (by omega) (by omega), ?_⟩
            rw [jInatN _ (by omega), u_byte (decide (xs % 21 < 7)) ⟨a, by omega⟩, jI_s]
            have e2 : uMx (qF s x y nv l xs (uZy s y ys b)) (qC s nv xs (uZy s y ys b)) (a + 1) = qF s x y nv l xs (uZy s y ys b) a := by
              rw [uMx, if_pos ⟨hq, hlt'⟩]
            have e3 : qH s x y nv l xs (uZy s y ys b) (a + 1) = if decide (xs % 21 < 7) = true then (a : Int) else -1 := by
              unfold qH
              by_cases c7 : 7 ≤ xs % 21
              · rw [if_pos c7, decide_eq_false (by omega), if_neg (by decide)]
              · rw [if_neg c7, decide_eq_true (by omega), if_pos rfl, uCh, if_pos ⟨hq, hlt'⟩]
            have ee : Eo (sBm m) M4 (m_ui (m_ul M4 (m + 26) at' (jL (qF s x y nv l xs (uZy s y ys b) a))) (m + 27) at' (jI (if decide (xs % 21 < 7) = true then (a : Int) else -1))) := Eo.ui (Eo.ul Eo.rf (by unfold sBm; omega)) (by unfold sBm; omega)
            refine ih (a + 1) _ 1 (by omega) (k4.mv ee sBm_k) ?_ (by rw [e2, if_pos fa.1]) (fun _ => ⟨?_, ?_⟩)
            · refine (e1.trans e14).trans ⟨ee, fun i => ?_, fun i hi => ⟨?_, ?_⟩⟩
              · simp [m_u]
              · simp [m_u, hi]
              · simp [m_u, hi]
            · rw [e2]; simp [m_u]
            · rw [e3]; simp [m_u]
          rw [hs]
          by_cases c0 : 0 ≤ uMx (qF s x y nv l xs (uZy s y ys b)) (qC s nv xs (uZy s y ys b)) a
          · rw [if_pos c0, if_neg (by decide)]
            refine ⟨m + 26, k4.1 0 47 26 (by decide), o26, ?_⟩
            rw [jInatN _ (by omega), (f4 _).2.1, (h1 c0).1, jI_s]
            simp only [lc_gt, jL_lt (a := uMx (qF s x y nv l xs (uZy s y ys b)) (qC s nv xs (uZy s y ys b)) a) (b := qF s x y nv l xs (uZy s y ys b) a) (by omega) (by omega) (by omega) (by omega)]
            by_cases c2 : uMx (qF s x y nv l xs (uZy s y ys b)) (qC s nv xs (uZy s y ys b)) a < qF s x y nv l xs (uZy s y ys b) a
            · rw [if_pos c2]; exact put c2
            · rw [if_neg c2]
              have e2 : uMx (qF s x y nv l xs (uZy s y ys b)) (qC s nv xs (uZy s y ys b)) (a + 1) = uMx (qF s x y nv l xs (uZy s y ys b)) (qC s nv xs (uZy s y ys b)) a := by
                rw [uMx, if_neg (fun q => c2 q.2)]
              have e3 : qH s x y nv l xs (uZy s y ys b) (a + 1) = qH s x y nv l xs (uZy s y ys b) a := by
                unfold qH
                rw [uCh_le c2]
              refine ih (a + 1) M4 1 (by omega) k4 (e1.trans e14) (by rw [e2, if_pos c0]) (fun _ => ?_)
              rw [e2, e3, (f4 _).2.1, (f4 _).2.2]
              exact h1 c0
          · rw [if_neg c0, if_pos (show jI ((0 : Nat) : Int) = 0 from rfl)]
            exact put (by omega)
  exact loop 5 0 M 0 rfl hK acE.rf (by show 0 = if (0 : Int) ≤ -1 then 1 else 0; rw [if_neg (by decide)]) (fun q => absurd q (by show ¬ (0 : Int) ≤ -1; decide))
end MI
