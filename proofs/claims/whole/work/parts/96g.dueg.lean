/-! ===== BEST in the model: what lies behind a tick ===== -/
def pl (l x y b : Nat) : Nat := 25200 * l + 3 * (80 * x + y) + b
theorem pl_b {l x y b : Nat} (hl : l ≤ 10) (hx : x < 105) (hy : y < 80) (hb : b ≤ 2) : pl l x y b < 277200 ∧ pl l x y b = 25200 * l + (3 * (80 * x + y) + b) ∧ 3 * (80 * x + y) + b < 25200 := by unfold pl; omega
theorem drop_c {L R : List (Nat × Int)} {a : Nat × Int} {j : Nat} (h : L.drop j = a :: R) : L[j]? = some a ∧ L.drop (j + 1) = R ∧ j < L.length := by
  have h1 : L[j]? = some a := by
    have : (L.drop j)[0]? = L[j + 0]? := List.getElem?_drop
    rw [h, Nat.add_zero] at this
    rw [← this]; rfl
  refine ⟨h1, ?_, (List.getElem?_eq_some_iff.mp h1).1⟩
  have : (L.drop j).drop 1 = L.drop (j + 1) := List.drop_drop
  rw [← this, h]; rfl
theorem drop_n {L : List (Nat × Int)} {j : Nat} (h : L.drop j = []) : L.length ≤ j := List.drop_eq_nil_iff.mp h
theorem drop_m {L R : List (Nat × Int)} {a : Nat × Int} {j : Nat} (h : L.drop j = a :: R) : a ∈ L := List.mem_of_mem_drop (i := j) (by rw [h]; exact List.mem_cons_self)
/-- who began what, where y is then -/
def bgf (xs ys bg ny : Nat) : Nat := if ny < 80 ∧ xs / 21 = ys / 16 ∧ ny / 16 = ys / 16 then bg else 0
theorem bgf_b {xs ys bg ny : Nat} (h : bg ≤ 2) : bgf xs ys bg ny ≤ 2 := by unfold bgf; split <;> omega
section MG
variable {d : Nat} {Th : mT} {M : mM} {m : Nat} {s : mS}
theorem s11_beganAt {Q : Int32 → mM → Prop} {xs ys ny bg : Nat} (hT : LyM Th m) (h55 : M.1 m 55 = jI (bg : Nat)) (hx : xs ≤ 105) (hy : ys ≤ 80) (hn : ny ≤ 80) (k : Q (jI (bgf xs ys bg ny : Nat)) M) : P11_beganAt (d + 1) Th m (jI xs) (jI ys) (jI ny) M Q := by
  refine e11_beganAt ?_
  rw [jI_div21 (by omega), jI_div16 (by omega), jI_div16 (by omega)]
  simp only [jh80 (z := (ny : Int)) (rI_nat (by omega)), jIeq (rI_nat (k := xs / 21) (by omega)) (rI_nat (k := ys / 16) (by omega)), jIeq (rI_nat (k := ny / 16) (by omega)) (rI_nat (k := ys / 16) (by omega))]
  unfold bgf at k
  by_cases c1 : ny < 80
  rotate_left
  · rw [if_neg (fun q => c1 q.1)] at k
    rw [if_pos (by omega)]; exact k
  rw [if_neg (by omega)]
  by_cases c2 : xs / 21 = ys / 16
  rotate_left
  · rw [if_neg (fun q => c2 q.2.1)] at k
    rw [if_neg (by omega)]; exact k
  rw [if_pos (by omega)]
  by_cases c3 : ny / 16 = ys / 16
  rotate_left
  · rw [if_neg (fun q => c3 q.2.2)] at k
    rw [if_neg (by omega)]; exact k
  rw [if_pos ⟨c1, c2, c3⟩] at k
  rw [if_pos (by omega)]
  refine ⟨hT 0 _ rfl, ?_⟩
  rw [h55]; exact k
theorem s11_placeIn {Q : Int32 → mM → Prop} {l xs ys b : Nat} (k : Q (jI (pl l xs ys b : Nat)) M) : P11_placeIn (d + 1) Th (jI l) (jI xs) (jI ys) (jI b) M Q := by
  refine e11_placeIn ?_
  rw [kI25200, kI3, kI80, jI_mul, jI_mul, jI_add, jI_mul, jI_add, jI_add]
  rw [show (25200 : Int) * (l : Int) + 3 * (80 * (xs : Int) + (ys : Int)) + (b : Int) = ((pl l xs ys b : Nat) : Int) by unfold pl; omega]
  exact k
theorem s11_sixtyFours {Q : Int64 → mM → Prop} {l : Nat} (hl : l ≤ 10) (k : Q (jL (64 ^ l)) M) : P11_sixtyFours (d + 1) Th (jI l) M Q := by
  refine e11_sixtyFours ?_
  have loop : ∀ u j, j + u = l → H11_sixtyFours_4 (d + 1) Th Q (jI l) (jL (64 ^ j)) (jI j) M := by
    intro u
    induction u with
    | zero =>
      intro j hj
      refine h11_sixtyFours_4 ?_
      rw [if_pos (by rw [jIle (rI_nat (by omega)) (rI_nat (by omega))]; omega), show j = l by omega]
      exact k
    | succ u ih =>
      intro j hj
      refine h11_sixtyFours_4 ?_
      rw [if_neg (by rw [jIle (rI_nat (by omega)) (rI_nat (by omega))]; omega)]
      intro lv1 h1
      rw [show (64 : Int64) = jL 64 from rfl, jL_mul, ← Int.pow_succ] at h1
      rw [h1, jI_s]
      exact ih (j + 1) (by omega)
  exact loop l 0 (by omega)
/-- a worth -/
def uWo (nx ny : Nat) : Int := if nx = 105 then (if ny = 80 then 1 else 2) else 0
theorem s11_b70 {Q : Int64 → mM → Prop} {l xs ys i j t t' : Nat} {mk : Int32} {S W : Int} (hT : LyM Th m) (hR : RfM m M) (hl : l ≤ 9) (hi : i < 3) (hj : j < 3) (ht : M.1 (m + 28) i = jI (t : Nat)) (ht' : M.1 (m + 30) j = jI (t' : Nat)) (bt : t ≤ 105) (bt' : t' ≤ 80)
    (K : H11_behind_18 (d + 2) Th Q m (jI ((l + 1 : Nat) : Int)) (jI (xs : Nat)) (jI (ys : Nat)) mk (jL (S + W * (uWo t t' * 64 ^ l))) (jI (i : Nat)) (jI ((j + 1 : Nat) : Int)) M) : H11_behind_70 (d + 2) Th Q m (jI ((l + 1 : Nat) : Int)) (jI (xs : Nat)) (jI (ys : Nat)) mk (jL S) (jI (i : Nat)) (jI (j : Nat)) (jL W) M := by
  have fin : ∀ s0 : Int32, s0.toInt64 = jL (uWo t t') → H11_behind_103 (d + 2) Th Q m (jI ((l + 1 : Nat) : Int)) (jI (xs : Nat)) (jI (ys : Nat)) mk (jL S) (jI (i : Nat)) (jI (j : Nat)) (jL W) s0 M := by
    intro s0 hs
    refine h11_behind_103 ?_
    rw [jI_p]
    refine s11_sixtyFours (d := d) (by omega) ?_
    intro lv3 h3
    rw [hs, jL_mul, jL_mul, jL_add, Int.mul_assoc] at h3
    rw [h3, jI_s]
    exact K
  refine h11_behind_70 ⟨hT 0 _ rfl, m + 28, hR 0 49 28 (by decide), m_ok_jI (hT 28 _ rfl) (by omega) (by omega) (by omega), ?_⟩
  rw [jInatN i (by omega), ht]
  simp only [jq105 (z := (t : Int)) (rI_nat (by omega))]
  by_cases c : t = 105
  · rw [if_pos (by omega)]
    refine ⟨m + 30, hR 0 51 30 (by decide), m_ok_jI (hT 30 _ rfl) (by omega) (by omega) (by omega), ?_⟩
    rw [jInatN j (by omega), ht']
    simp only [jq80 (z := (t' : Int)) (rI_nat (by omega))]
    by_cases c2 : t' = 80
    · rw [if_pos (by omega)]
      exact fin 1 (by unfold uWo; rw [if_pos c, if_pos c2]; rfl)
    · rw [if_neg (by omega)]
      exact fin 2 (by unfold uWo; rw [if_pos c, if_neg c2]; rfl)
  · rw [if_neg (by omega)]
    exact fin 0 (by unfold uWo; rw [if_neg c]; rfl)
set_option maxHeartbeats 1000000 in
/-- the values behind a tick -/
theorem s11_behindV {Q : Int64 → mM → Prop} {l xs ys bg : Nat} {LX LY : List (Nat × Int)} {H : Nat → Nat → Int} (hT : LyM Th m) (hR : RfM m M) (hX : pX m LX M) (hY : pY m LY M) (h3x : LX.length ≤ 3) (h3y : LY.length ≤ 3) (h55 : M.1 m 55 = jI (bg : Nat)) (hl : l ≤ 9) (hxs : xs ≤ 105) (hys : ys ≤ 80) (hbg : bg ≤ 2)
    (bX : ∀ t w, (t, w) ∈ LX → t ≤ 105 ∧ -100 ≤ w ∧ w ≤ 100) (bY : ∀ t w, (t, w) ∈ LY → t ≤ 80 ∧ -100 ≤ w ∧ w ≤ 100)
    (hb : ∀ nx ny, nx = 105 ∨ ny = 80 → H nx ny = uWo nx ny * 64 ^ l) (h0 : l = 0 → ∀ nx ny, nx ≠ 105 → ny ≠ 80 → H nx ny = 1)
    (hv : 1 ≤ l → ∀ t w t' w', (t, w) ∈ LX → (t', w') ∈ LY → t ≠ 105 → t' ≠ 80 → pl l t t' (bgf xs ys bg t') < 277200 ∧ M.2.1 (m + 26) (pl l t t' (bgf xs ys bg t')) = jL (H t t'))
    (K : Q (jL (lSm (fun nx => lSm (fun ny => H nx ny) LY) LX)) M) : P11_behind (d + 3) Th m (jI ((l + 1 : Nat) : Int)) (jI (xs : Nat)) (jI (ys : Nat)) 0 M Q := by
  refine e11_behind ?_
  have outer : ∀ RX i (S : Int), i ≤ 3 → LX.drop i = RX → S + lSm (fun nx => lSm (fun ny => H nx ny) LY) RX = lSm (fun nx => lSm (fun ny => H nx ny) LY) LX → H11_behind_6 (d + 3) Th Q m (jI ((l + 1 : Nat) : Int)) (jI (xs : Nat)) (jI (ys : Nat)) 0 (jL S) (jI (i : Nat)) M := by
    intro RX
    induction RX with
    | nil =>
      intro i S hi hd hS
      have hle := drop_n hd
      refine h11_behind_6 ⟨hT 0 _ rfl, ?_⟩
      rw [hX.1, if_pos (by rw [jIle (rI_nat (by omega)) (rI_nat (by omega))]; omega)]
      have : S + 0 = _ := hS
      rw [Int.add_zero] at this
      rw [this]; exact K
    | cons a RX ih =>
      intro i S hi hd hS
      obtain ⟨t, w⟩ := a
      obtain ⟨g1, g2, g3⟩ := drop_c hd
      have ta := bX t w (drop_m hd)
      have xi := hX.2 i t w g1
      refine h11_behind_6 ⟨hT 0 _ rfl, ?_⟩
      rw [hX.1, if_neg (by rw [jIle (rI_nat (by omega)) (rI_nat (by omega))]; omega)]
      have inner : ∀ RY j (S' : Int), j ≤ 3 → LY.drop j = RY → S' + w * lSm (fun ny => H t ny) RY = S + w * lSm (fun ny => H t ny) LY → H11_behind_18 (d + 3) Th Q m (jI ((l + 1 : Nat) : Int)) (jI (xs : Nat)) (jI (ys : Nat)) 0 (jL S') (jI (i : Nat)) (jI (j : Nat)) M := by
        intro RY
        induction RY with
        | nil =>
          intro j S' hj hdj hS'
          have hle := drop_n hdj
          refine h11_behind_18 ⟨hT 0 _ rfl, ?_⟩
          rw [hY.1, if_pos (by rw [jIle (rI_nat (by omega)) (rI_nat (by omega))]; omega), jI_s]
          refine ih (i + 1) S' (by omega) g2 ?_
          have q1 : S' + w * 0 = S + w * lSm (fun ny => H t ny) LY := hS'
          have q2 : S + (w * lSm (fun ny => H t ny) LY + lSm (fun nx => lSm (fun ny => H nx ny) LY) RX) = _ := hS
          rw [Int.mul_zero, Int.add_zero] at q1
          rw [q1, Int.add_assoc]
          exact q2
        | cons a' RY ihy =>
          intro j S' hj hdj hS'
          obtain ⟨t', w'⟩ := a'
          obtain ⟨f1, f2, f3⟩ := drop_c hdj
          have tb := bY t' w' (drop_m hdj)
          have yj := hY.2 j t' w' f1
          refine h11_behind_18 ⟨hT 0 _ rfl, ?_⟩
          rw [hY.1, if_neg (by rw [jIle (rI_nat (by omega)) (rI_nat (by omega))]; omega)]
          refine ⟨m + 29, hR 0 50 29 (by decide), m_ok_jI (hT 29 _ rfl) (by omega) (by omega) (by omega), m + 31, hR 0 52 31 (by decide), m_ok_jI (hT 31 _ rfl) (by omega) (by omega) (by omega), ?_⟩
          intro lv8 h8
          rw [jInatN i (by omega), jInatN j (by omega), xi.2, yj.2, jI_long (by omega) (by omega), jI_long (by omega) (by omega), jL_mul] at h8
          subst h8
          have nx : ∀ v : Int, v = H t t' → H11_behind_18 (d + 3) Th Q m (jI ((l + 1 : Nat) : Int)) (jI (xs : Nat)) (jI (ys : Nat)) 0 (jL (S' + w * w' * v)) (jI (i : Nat)) (jI ((j + 1 : Nat) : Int)) M := by
            intro v hv'
            refine ihy (j + 1) _ (by omega) f2 ?_
            rw [← hS', hv']
            show _ = S' + w * (w' * H t t' + lSm (fun ny => H t ny) RY)
            rw [Int.mul_add, Int.mul_assoc]
            omega
          refine ⟨m + 28, hR 0 49 28 (by decide), m_ok_jI (hT 28 _ rfl) (by omega) (by omega) (by omega), ?_⟩
          rw [jInatN i (by omega), xi.1]
          simp only [jq105 (z := (t : Int)) (rI_nat (by omega))]
          by_cases c1 : t = 105
          · rw [if_pos (by omega)]
            refine s11_b70 (d := d + 1) hT hR hl (by omega) (by omega) xi.1 yj.1 ta.1 tb.1 ?_
            exact nx _ (hb t t' (Or.inl c1)).symm
          rw [if_neg (by omega)]
          refine ⟨m + 30, hR 0 51 30 (by decide), m_ok_jI (hT 30 _ rfl) (by omega) (by omega) (by omega), ?_⟩
          rw [jInatN j (by omega), yj.1]
          simp only [jq80 (z := (t' : Int)) (rI_nat (by omega))]
          by_cases c2 : t' = 80
          · rw [if_pos (by omega)]
            refine s11_b70 (d := d + 1) hT hR hl (by omega) (by omega) xi.1 yj.1 ta.1 tb.1 ?_
            exact nx _ (hb t t' (Or.inr c2)).symm
          rw [if_neg (by omega)]
          simp only [jq1 (z := ((l + 1 : Nat) : Int)) (rI_nat (by omega))]
          by_cases cl : l = 0
          · rw [if_pos (by omega)]
            intro lv15 h15
            rw [jL_add] at h15
            rw [h15, jI_s]
            have := nx 1 (h0 cl t t' c1 c2).symm
            rw [Int.mul_one] at this
            exact this
          rw [if_neg (by omega)]
          refine s11_beganAt (d := d + 1) hT h55 hxs hys tb.1 ?_
          rw [jI_p]
          refine s11_placeIn (d := d + 1) ?_
          obtain ⟨v1, v2⟩ := hv (by omega) t w t' w' (drop_m hd) (drop_m hdj) c1 c2
          rw [if_pos trivial]
          refine ⟨m + 26, hR 0 47 26 (by decide), m_ok_jI (hT 26 _ rfl) (by omega) (by omega) (by omega), ?_⟩
          intro lv23 h23
          rw [jInatN _ (by omega), v2, jL_mul, jL_add] at h23
          rw [h23, jI_s]
          exact nx _ rfl
      exact inner LY 0 S (by omega) rfl rfl
  exact outer LX 0 0 (by omega) rfl (Int.zero_add _)
/-! marking -/
def mkd (m l R : Nat) (M M' : mM) : Prop := Eo (fun q _ => q = m + 25) M M' ∧ ∀ i, M'.1 (m + 25) i = M.1 (m + 25) i ∨ (M'.1 (m + 25) i = 1 ∧ ∃ t t' b, i = pl l t t' b ∧ t < 21 * R ∧ t' < 16 * R ∧ b ≤ 2)
theorem mkd.rf {m l R : Nat} {M : mM} : mkd m l R M M := ⟨Eo.rf, fun _ => Or.inl rfl⟩
theorem mkd.trans {m l R : Nat} {M M1 M2 : mM} (h1 : mkd m l R M M1) (h2 : mkd m l R M1 M2) : mkd m l R M M2 := by
  refine ⟨h1.1.trans h2.1, fun i => ?_⟩
  rcases h2.2 i with q | q
  · rw [q]; exact h1.2 i
  · exact Or.inr q
theorem mkd.one {m l R : Nat} {M M1 : mM} {i : Nat} (h : mkd m l R M M1) (h1 : M.1 (m + 25) i = 1) : M1.1 (m + 25) i = 1 := by
  rcases h.2 i with q | q
  · rw [q]; exact h1
  · exact q.1
theorem mkd.nz {m l R : Nat} {M M1 : mM} {i : Nat} (h : mkd m l R M M1) (h1 : M.1 (m + 25) i ≠ 0) : M1.1 (m + 25) i ≠ 0 := by
  rcases h.2 i with q | q
  · rw [q]; exact h1
  · rw [q.1]; decide
theorem mkd.put {m l R t t' b : Nat} {M : mM} (h1 : t < 21 * R) (h2 : t' < 16 * R) (h3 : b ≤ 2) : mkd m l R M (m_ui M (m + 25) (pl l t t' b) 1) := by
  refine ⟨Eo.rf.ui rfl, fun i => ?_⟩
  by_cases c : i = pl l t t' b
  · right
    exact ⟨by rw [c]; simp [m_u], t, t', b, c, h1, h2, h3⟩
  · left
    simp [m_u, c]
set_option maxHeartbeats 1000000 in
theorem s11_behindM {Q : Int64 → mM → Prop} {l R xs ys bg : Nat} {LX LY : List (Nat × Int)} (hT : LyM Th m) (hR : RfM m M) (hX : pX m LX M) (hY : pY m LY M) (h3x : LX.length ≤ 3) (h3y : LY.length ≤ 3) (h55 : M.1 m 55 = jI (bg : Nat)) (hl : l ≤ 9) (hl1 : 1 ≤ l) (hxs : xs ≤ 105) (hys : ys ≤ 80) (hbg : bg ≤ 2) (hR5 : R ≤ 5)
    (bX : ∀ t w, (t, w) ∈ LX → uX R t ∧ -100 ≤ w ∧ w ≤ 100) (bY : ∀ t w, (t, w) ∈ LY → yOk R t ∧ -100 ≤ w ∧ w ≤ 100)
    (K : ∀ v M', mkd m l R M M' → (∀ t w t' w', (t, w) ∈ LX → (t', w') ∈ LY → t ≠ 105 → t' ≠ 80 → M'.1 (m + 25) (pl l t t' (bgf xs ys bg t')) = 1) → Q v M') : P11_behind (d + 3) Th m (jI ((l + 1 : Nat) : Int)) (jI (xs : Nat)) (jI (ys : Nat)) 1 M Q := by
  refine e11_behind ?_
  have outer : ∀ RX i (v : Int) (M1 : mM), i ≤ 3 → LX.drop i = RX → mkd m l R M M1 → (∀ v M', mkd m l R M1 M' → (∀ t w t' w', (t, w) ∈ RX → (t', w') ∈ LY → t ≠ 105 → t' ≠ 80 → M'.1 (m + 25) (pl l t t' (bgf xs ys bg t')) = 1) → Q v M') → H11_behind_6 (d + 3) Th Q m (jI ((l + 1 : Nat) : Int)) (jI (xs : Nat)) (jI (ys : Nat)) 1 (jL v) (jI (i : Nat)) M1 := by
    intro RX
    induction RX with
    | nil =>
      intro i v M1 hi hd hm K
      have hle := drop_n hd
      refine h11_behind_6 ⟨hT 0 _ rfl, ?_⟩
      rw [(hm.1 m 53 (by omega)).1, hX.1, if_pos (by rw [jIle (rI_nat (by omega)) (rI_nat (by omega))]; omega)]
      exact K _ M1 mkd.rf (fun t w t' w' q => absurd q (by simp))
    | cons a RX ih =>
      intro i v M1 hi hd hm K
      obtain ⟨t, w⟩ := a
      obtain ⟨g1, g2, g3⟩ := drop_c hd
      have ta := bX t w (drop_m hd)
      have xi := hX.2 i t w g1
      have bt : t ≤ 105 := by have := ta.1; unfold uX at this; omega
      refine h11_behind_6 ⟨hT 0 _ rfl, ?_⟩
      rw [(hm.1 m 53 (by omega)).1, hX.1, if_neg (by rw [jIle (rI_nat (by omega)) (rI_nat (by omega))]; omega)]
      have inner : ∀ RY j (v : Int) (M2 : mM), j ≤ 3 → LY.drop j = RY → mkd m l R M M2 → (∀ (v' : Int) M3, mkd m l R M2 M3 → (∀ t' w', (t', w') ∈ RY → t ≠ 105 → t' ≠ 80 → M3.1 (m + 25) (pl l t t' (bgf xs ys bg t')) = 1) → H11_behind_6 (d + 3) Th Q m (jI ((l + 1 : Nat) : Int)) (jI (xs : Nat)) (jI (ys : Nat)) 1 (jL v') (jI ((i + 1 : Nat) : Int)) M3) → H11_behind_18 (d + 3) Th Q m (jI ((l + 1 : Nat) : Int)) (jI (xs : Nat)) (jI (ys : Nat)) 1 (jL v) (jI (i : Nat)) (jI (j : Nat)) M2 := by
        intro RY
        induction RY with
        | nil =>
          intro j v M2 hj hdj hm2 K'
          have hle := drop_n hdj
          refine h11_behind_18 ⟨hT 0 _ rfl, ?_⟩
          rw [(hm2.1 m 54 (by omega)).1, hY.1, if_pos (by rw [jIle (rI_nat (by omega)) (rI_nat (by omega))]; omega), jI_s]
          exact K' v M2 mkd.rf (fun t' w' q => absurd q (by simp))
        | cons a' RY ihy =>
          intro j v M2 hj hdj hm2 K'
          obtain ⟨t', w'⟩ := a'
          obtain ⟨f1, f2, f3⟩ := drop_c hdj
          have tb := bY t' w' (drop_m hdj)
          have yj := hY.2 j t' w' f1
          have bt' : t' ≤ 80 := by have := tb.1; unfold yOk at this; omega
          have hR2 : RfM m M2 := fun o k v hv => ((hm2.1 _ _ (by simp [rsM] at hv; omega)).2.2).trans (hR o k v hv)
          have far : ∀ q k, q ≠ m + 25 → M2.1 q k = M.1 q k := fun q k hq => (hm2.1 q k hq).1
          have x28 : M2.1 (m + 28) i = jI (t : Nat) := (far _ _ (by omega)).trans xi.1
          have x29 : M2.1 (m + 29) i = jI w := (far _ _ (by omega)).trans xi.2
          have y30 : M2.1 (m + 30) j = jI (t' : Nat) := (far _ _ (by omega)).trans yj.1
          have y31 : M2.1 (m + 31) j = jI w' := (far _ _ (by omega)).trans yj.2
          refine h11_behind_18 ⟨hT 0 _ rfl, ?_⟩
          rw [far m 54 (by omega), hY.1, if_neg (by rw [jIle (rI_nat (by omega)) (rI_nat (by omega))]; omega)]
          refine ⟨m + 29, hR2 0 50 29 (by decide), m_ok_jI (hT 29 _ rfl) (by omega) (by omega) (by omega), m + 31, hR2 0 52 31 (by decide), m_ok_jI (hT 31 _ rfl) (by omega) (by omega) (by omega), ?_⟩
          intro lv8 h8
          rw [jInatN i (by omega), jInatN j (by omega), x29, y31, jI_long (by omega) (by omega), jI_long (by omega) (by omega), jL_mul] at h8
          subst h8
          have skip : (t = 105 ∨ t' = 80) → ∀ v' : Int, H11_behind_18 (d + 3) Th Q m (jI ((l + 1 : Nat) : Int)) (jI (xs : Nat)) (jI (ys : Nat)) 1 (jL v') (jI (i : Nat)) (jI ((j + 1 : Nat) : Int)) M2 := by
            intro hbx v'
            refine ihy (j + 1) v' M2 (by omega) f2 hm2 (fun v'' M3 h3 h4 => K' v'' M3 h3 (fun t'' w'' q p1 p2 => ?_))
            rcases List.mem_cons.mp q with q | q
            · have := congrArg Prod.fst q
              have : t'' = t' := this
              omega
            · exact h4 t'' w'' q p1 p2
          refine ⟨m + 28, hR2 0 49 28 (by decide), m_ok_jI (hT 28 _ rfl) (by omega) (by omega) (by omega), ?_⟩
          rw [jInatN i (by omega), x28]
          simp only [jq105 (z := (t : Int)) (rI_nat (by omega))]
          by_cases c1 : t = 105
          · rw [if_pos (by omega)]
            exact s11_b70 (d := d + 1) hT hR2 hl (by omega) (by omega) x28 y30 bt bt' (skip (Or.inl c1) _)
          rw [if_neg (by omega)]
          refine ⟨m + 30, hR2 0 51 30 (by decide), m_ok_jI (hT 30 _ rfl) (by omega) (by omega) (by omega), ?_⟩
          rw [jInatN j (by omega), y30]
          simp only [jq80 (z := (t' : Int)) (rI_nat (by omega))]
          by_cases c2 : t' = 80
          · rw [if_pos (by omega)]
            exact s11_b70 (d := d + 1) hT hR2 hl (by omega) (by omega) x28 y30 bt bt' (skip (Or.inr c2) _)
          rw [if_neg (by omega)]
          rw [if_neg (by rw [jq1 (rI_nat (by omega))]; omega)]
          refine s11_beganAt (d := d + 1) hT ((far m 55 (by omega)).trans h55) hxs hys bt' ?_
          rw [jI_p]
          refine s11_placeIn (d := d + 1) ?_
          have vt : t < 21 * R := by have := ta.1; unfold uX at this; omega
          have vt' : t' < 16 * R := by have := tb.1; unfold yOk at this; omega
          have vb := bgf_b (xs := xs) (ys := ys) (ny := t') hbg
          have vp := pl_b (l := l) (x := t) (y := t') (b := bgf xs ys bg t') (by omega) (by omega) (by omega) vb
          rw [if_neg (by decide)]
          refine ⟨m + 25, hR2 0 46 25 (by decide), m_okw_jI (hT 25 _ rfl) (by omega) (by omega) (by omega), ?_⟩
          rw [jInatN _ (by omega), jI_s, show ((1 : Int32) &&& 1) = 1 from rfl]
          have hp := mkd.put (m := m) (l := l) (R := R) (M := M2) vt vt' vb
          refine ihy (j + 1) v _ (by omega) f2 (hm2.trans hp) (fun v'' M3 h3 h4 => K' v'' M3 (hp.trans h3) (fun t'' w'' q p1 p2 => ?_))
          rcases List.mem_cons.mp q with q | q
          · have : t'' = t' := congrArg Prod.fst q
            subst this
            exact h3.one (by simp [m_u])
          · exact h4 t'' w'' q p1 p2
      exact inner LY 0 v M1 (by omega) rfl hm (fun v' M3 h3 h4 => ih (i + 1) v' M3 (by omega) g2 (hm.trans h3) (fun v'' M' h5 h6 => K v'' M' (h3.trans h5) (fun t'' w'' t' w' q q' p1 p2 => by
        rcases List.mem_cons.mp q with q | q
        · have : t'' = t := congrArg Prod.fst q
          subst this
          exact h5.one (h4 t' w' q' p1 p2)
        · exact h6 t'' w'' t' w' q q' p1 p2)))
  exact outer LX 0 0 M (by omega) rfl mkd.rf K
end MG
