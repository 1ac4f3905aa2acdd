/-! ===== DRAW: thinking or following, the class ===== -/
section HT
variable {d : Nat} {Th : mT} {M : mM} {n m : Nat} {s : mS} {c : Int}
theorem s3_think {Q : mM → Prop} {b t : Nat} {st : Nat → Nat} (hT : gTh Th n) (h : cHu Th n s st c M) (hG : rG s) (hL : rLg s) (hl : s 0 6 < 40) (hb : (b : Int) < s 0 1) (ht : t ≤ 10) (hz : ((st b / 16 : Nat) : Int) < s 0 0) (h80 : st b ≠ 80) (h5 : st b % 16 ≤ 5)
    (k : ∀ M', cHu Th n (hmv s st b t).1 (hmv s st b t).2 c M' → Eo (sHn n) M M' → Q M') : P3_thinkOrFollow (d + 8) Th (n + 107) (jI b) (jI t) M Q := by
  have g0 := hG.1
  have g1 := hG.2.1
  have g2 := hG.2.2.1
  have g6 := hG.2.2.2.2.2.2.1
  have g7 := hG.2.2.2.2.2.2.2.1
  have tb : Int32.toNatClampNeg (jI (b : Int)) = b := jInatN b (by omega)
  obtain ⟨a1, a2, a3, a4, a5, a6⟩ := id h
  have hR := a1.1.1
  have hI := a1.1.2.2.1
  obtain ⟨r, g, w, x1, x2, x3, x4⟩ := a5 b hb
  obtain ⟨z, hzz⟩ : ∃ z, st b = z := ⟨_, rfl⟩
  rw [hzz] at x4 hz h80 h5
  have tri : z / 16 = r ∧ z % 16 = w := by
    rcases x4 with ⟨q, -⟩ | ⟨-, q, q1 | q1 | q1⟩
    · exact absurd q h80
    · exact ⟨q, q1.2.1⟩
    · omega
    · omega
  obtain ⟨zr, hw⟩ := tri
  have hr : (r : Int) < s 0 0 := by rw [← zr]; exact hz
  have fb : fnd s st ≤ 5 := by
    unfold fnd
    exact Nat.le_trans (sumN_bb (c := 1) (K := 5) (fun j => by split <;> omega) _ (by omega)) (by omega)
  have hmvE : ∀ s' z', hmP s z b t = (s', z') → hmv s st b t = (if z' = 80 then sBox s' b t else s', fun k => if k = b then z' else st k) := fun s' z' hp => by
    unfold hmv
    rw [hzz, if_neg h80, hp]
  have moved : ∀ (s' : mS) (z' : Nat) (M' : mM), hmP s z b t = (s', z') → z' ≠ 80 → Eo (sHn n) M M' → (∀ q j, n + 109 ≤ q → q ≤ n + 111 → j ≠ b → M'.1 q j = M.1 q j) → (∀ M1, KM Th n s c M1 → KM Th n s' c M1) → (∀ j M1, vB n s j M1 → vB n s' j M1) → s' 0 1 = s 0 1 → cLog n s' M' → cHunt n s' M' → cHb n z' b M' → M'.1 (n + 107) 7 = M.1 (n + 107) 7 → Q M' := by
    intro s' z' M' hp hne e far hs hv h01 hl' hh' hb' hf
    have E := hmvE s' z' hp
    rw [if_neg hne] at E
    rw [E] at k
    refine k M' (cHu_fin hT hG h e hs hv h01 far hl' hh' hb' ?_) e
    have : fnd s' (fun k => if k = b then z' else st k) = fnd s (fun k => if k = b then z' else st k) := by unfold fnd; rw [h01]
    rw [hf, a6, this, fnd_set hb (by rw [hzz]; exact h80), if_neg hne]
    rfl
  unfold hmP at moved hmvE
  rw [zr, hw] at moved hmvE
  rw [if_neg (by omega)] at moved hmvE
  have bsub : ∀ q j, ((q = n + 105 ∧ j = 1) ∨ q = n + 106 ∨ (q = n + 110 ∧ j = b) ∨ (q = n + 111 ∧ j = b)) → sHn n q j := fun q j hq => by unfold sHn; omega
  have h35 : ¬ (s 6 b = 1 ∧ s 0 3 = 0 ∧ hSeB s b r ((t : Int) - 1) (s 0 6).toNat = true) → H3_thinkOrFollow_35 (d + 8) Th Q (n + 107) (jI b) (jI t) M := by
    intro hn
    rw [if_neg hn] at moved
    obtain ⟨y1, y2⟩ := a4 b hb
    have L1 : lySk Th (aSk n b) M := lySk_of hT.1 hR (aSk_q (by omega))
    have gb := gK_b s (s 4 b) b r w
    have eb := eK_b s (s 4 b) b r w
    refine h3_thinkOrFollow_35 ⟨hT.1 107 _ rfl, n + 108, hR 107 2 108 (by decide), m_okO_jI (hT.1 108 _ rfl) (by omega) (by omega) (by omega), aSk n b, by rw [tb]; exact y1, n + 109, hR 107 3 109 (by decide), m_ok_jI (hT.1 109 _ rfl) (by omega) (by omega) (by omega), n + 111, hR 107 5 111 (by decide), m_ok_jI (hT.1 111 _ rfl) (by omega) (by omega) (by omega), L1.1.1, ?_⟩
    rw [tb, x1, x3]
    refine s8_goodAt (d := d + 5) L1 y2 (by omega) hr (by omega) ?_
    refine ⟨n + 109, hR 107 3 109 (by decide), m_ok_jI (hT.1 109 _ rfl) (by omega) (by omega) (by omega), n + 111, hR 107 5 111 (by decide), m_ok_jI (hT.1 111 _ rfl) (by omega) (by omega) (by omega), ?_⟩
    rw [x1, x3]
    refine s8_badAt (d := d + 5) L1 y2 (by omega) hr (by omega) ?_
    intro M24 h24 x25 h25
    have ed : (((25173 * (M.1 (n + 107) 8)) + 13849) - ((25173 * (M.1 (n + 107) 8)) + 13849) / 65536 * 65536) = jI (sDic s 0 7) := by
      show _ = jI ((25173 * s 0 7 + 13849) % 65536)
      rw [a3.1, show (25173 : Int32) = jI 25173 from rfl, show (13849 : Int32) = jI 13849 from rfl, show (65536 : Int32) = jI 65536 from rfl, jI_mul, jI_add, jI_rem (by omega) (by omega) (by omega) (by omega)]
    rw [ed] at h24
    have Db : 0 ≤ sDic s 0 7 ∧ sDic s 0 7 < 65536 := by
      show 0 ≤ (25173 * s 0 7 + 13849) % 65536 ∧ (25173 * s 0 7 + 13849) % 65536 < 65536
      omega
    have e24 : Eo (sHn n) M M24 := by rw [h24]; exact Eo.ui Eo.rf (by unfold sHn; omega)
    have l24 : cLog n (sDic s) M24 := by rw [h24]; exact ⟨by have := a2.1; simp [m_u]; exact this, fun j => by have := a2.2 j; simp [m_u]; exact this⟩
    have u24 : cHunt n (sDic s) M24 := by rw [h24]; exact ⟨by simp [m_u], by have := a3.2.1; simp [m_u]; exact this, fun j => by have := a3.2.2 j; simp [m_u]; exact this⟩
    have far24 : ∀ q j, q ≠ n + 107 → M24.1 q j = M.1 q j := fun q j hq => by
      rw [h24]
      show (if q = n + 107 ∧ j = 8 then _ else M.1 q j) = _
      rw [if_neg (fun z => hq z.1)]
    have f24 : M24.1 (n + 107) 7 = M.1 (n + 107) 7 := by rw [h24]; simp [m_u]
    have e8 : x25 = jI (sDic s 0 7 % 8) := by
      rw [h25, show M24.1 (n + 107) 8 = jI (sDic s 0 7) from u24.1, i8, jI_rem (by omega) (by omega) (by omega) (by omega)]
    generalize hD : sDic s 0 7 = D at moved Db e8
    rw [e8]
    by_cases q1 : D % 8 < gK s (s 4 b) b r w
    · rw [if_neg (by rw [jIle (rI_of (by omega) (by omega)) (rI_of (by omega) (by omega))]; omega)]
      rw [if_pos q1] at moved
      have K24 := a1.mvS hT e24 (sHn_rf n) sHn_k
      refine s3_begin (s := sDic s) (d := d + 4) hT.1 K24.1.1 K24.1.2.2.1 l24 (rG_dic hG) hl hb hr ((far24 _ _ (by omega)).trans x1) (fun M1 l1 q110 q111 e1 => ?_)
      have wb := wK_b s b r
      have e1' := e1.mono bsub
      refine moved _ _ M1 rfl (by omega) (e24.trans e1') (fun q j p1 p2 p3 => ((e1 q j (by omega)).1).trans (far24 q j (by omega))) (fun _ q => q) (fun _ _ q => q) rfl l1 ?_ ?_ ?_
      · exact ⟨((e1 _ _ (by omega)).1).trans u24.1, ((e1 _ _ (by omega)).1).trans u24.2.1, fun j => ((e1 _ _ (by omega)).1).trans (u24.2.2 j)⟩
      · exact ⟨r, 1, (wK s b r).toNat, ((e1 _ _ (by omega)).1).trans ((far24 _ _ (by omega)).trans x1), q110, by rw [q111]; show jI (wK s b r) = _; congr 1; omega, Or.inr ⟨by omega, by omega, Or.inr (Or.inl ⟨rfl, by omega, by omega, by omega⟩)⟩⟩
      · exact ((e1 _ _ (by omega)).1).trans f24
    · rw [if_pos (by rw [jIle (rI_of (by omega) (by omega)) (rI_of (by omega) (by omega))]; omega), jI_add]
      rw [if_neg q1] at moved
      by_cases q2 : D % 8 < gK s (s 4 b) b r w + eK s (s 4 b) b r w
      · rw [if_neg (by rw [jIle (rI_of (by omega) (by omega)) (rI_of (by omega) (by omega))]; omega)]
        rw [if_pos q2] at moved
        refine ⟨n + 110, hR 107 4 110 (by decide), m_okw_jI (hT.1 110 _ rfl) (by omega) (by omega) (by omega), n + 111, hR 107 5 111 (by decide), n + 3, hR 107 0 3 (by decide), hT.1 3 _ rfl, ?_⟩
        intro M38 h38
        refine ⟨m_okw_jI (hT.1 111 _ rfl) (by omega) (by omega) (by omega), ?_⟩
        rw [show M38.1 (n + 3) 2 = jI (s 0 2) by rw [h38]; show (if n + 3 = n + 110 ∧ _ then _ else M24.1 (n + 3) 2) = _; rw [if_neg (by omega), far24 _ _ (by omega)]; exact hI.2.2.1]
        refine moved _ _ _ rfl (by omega) ?_ ?_ (fun _ q => q) (fun _ _ q => q) rfl ?_ ?_ ?_ ?_
        · rw [h38]; exact Eo.ui (Eo.ui e24 (by unfold sHn; omega)) (by unfold sHn; omega)
        · intro q j p1 p2 p3
          rw [h38]
          show (if q = n + 111 ∧ j = b then _ else if q = n + 110 ∧ j = b then _ else M24.1 q j) = _
          rw [if_neg (fun z => p3 z.2), if_neg (fun z => p3 z.2), far24 _ _ (by omega)]
        · rw [h38]; exact ⟨by have := l24.1; simp [m_u]; exact this, fun j => by have := l24.2 j; simp [m_u]; exact this⟩
        · rw [h38]; exact ⟨by have := u24.1; simp [m_u]; exact this, by have := u24.2.1; simp [m_u]; exact this, fun j => by have := u24.2.2 j; simp [m_u]; exact this⟩
        · rw [h38]
          refine ⟨r, 2, (s 0 2).toNat, ?_, ?_, ?_, Or.inr ⟨by omega, by omega, Or.inr (Or.inr ⟨rfl, by omega, by omega, by omega⟩)⟩⟩
          · show (if n + 109 = n + 111 ∧ b = b then _ else if n + 109 = n + 110 ∧ b = b then _ else M24.1 (n + 109) b) = _
            rw [if_neg (by omega), if_neg (by omega), far24 _ _ (by omega)]; exact x1
          · simp [m_u]; rfl
          · simp [m_u]; congr 1; omega
        · rw [h38]; simp [m_u]; exact f24
      · rw [if_pos (by rw [jIle (rI_of (by omega) (by omega)) (rI_of (by omega) (by omega))]; omega)]
        rw [if_neg q2] at moved
        refine ⟨n + 111, hR 107 5 111 (by decide), m_ok_jI (hT.1 111 _ rfl) (by omega) (by omega) (by omega), m_okw_jI (hT.1 111 _ rfl) (by omega) (by omega) (by omega), ?_⟩
        rw [far24 _ _ (by omega), x3]
        have mb : kmo w ≤ 5 := by unfold kmo; split <;> omega
        have em : (if jI (w : Int) + 1 < 5 then jI (w : Int) + 1 else 5) = jI (kmo w : Nat) := by
          unfold kmo
          rw [jI_s]
          by_cases q : w < 4
          · rw [if_pos (by rw [jl5 (rI_nat (by omega))]; omega), if_pos (by omega)]
          · rw [if_neg (by rw [jl5 (rI_nat (by omega))]; omega)]
            by_cases q' : w < 5
            · rw [if_pos q', show w = 4 by omega]; rfl
            · rw [if_neg q']; rfl
        rw [em]
        refine moved _ _ _ rfl (by omega) ?_ ?_ (fun _ q => q) (fun _ _ q => q) rfl ?_ ?_ ?_ ?_
        · exact Eo.ui e24 (by unfold sHn; omega)
        · intro q j p1 p2 p3
          show (if q = n + 111 ∧ j = b then _ else M24.1 q j) = _
          rw [if_neg (fun z => p3 z.2), far24 _ _ (by omega)]
        · exact ⟨by have := l24.1; simp [m_u]; exact this, fun j => by have := l24.2 j; simp [m_u]; exact this⟩
        · exact ⟨by have := u24.1; simp [m_u]; exact this, by have := u24.2.1; simp [m_u]; exact this, fun j => by have := u24.2.2 j; simp [m_u]; exact this⟩
        · have g0' : g = 0 := by
            rcases x4 with ⟨q, -⟩ | ⟨-, -, q1 | q1 | q1⟩
            · exact absurd q h80
            · exact q1.1
            · omega
            · omega
          refine ⟨r, 0, kmo w, ?_, ?_, ?_, Or.inr ⟨by omega, by omega, Or.inl ⟨rfl, by omega, by omega⟩⟩⟩
          · show (if n + 109 = n + 111 ∧ b = b then _ else M24.1 (n + 109) b) = _
            rw [if_neg (by omega), far24 _ _ (by omega)]; exact x1
          · show (if n + 110 = n + 111 ∧ b = b then _ else M24.1 (n + 110) b) = _
            rw [if_neg (by omega), far24 _ _ (by omega), x2, g0']
          · simp [m_u]
        · simp [m_u]; exact f24
  refine e3_thinkOrFollow ⟨hT.1 107 _ rfl, n + 3, hR 107 0 3 (by decide), hT.1 3 _ rfl, ?_⟩
  refine s2_followsSeen (d := d + 5) hT.1 hR hI hG hb (fun f1 f3 => ?_) (fun f => ?_)
  rotate_left
  · rw [if_pos rfl]; exact h35 (fun q => f ⟨q.1, q.2.1⟩)
  rw [if_neg (by decide), show jI (t : Int) - 1 = jI ((t : Int) - 1) by rw [i1, jI_sub]]
  refine s3_anotherWent (d := d + 3) hT.1 hR a2 hG hL (by omega) x1 (by omega) (rI_of (by omega) (by omega)) (fun hs => ?_) (fun hs => ?_)
  rotate_left
  · rw [if_pos rfl]; exact h35 (fun q => by rw [hs] at q; exact absurd q.2.2 (by decide))
  rw [if_neg (by decide)]
  have cond : s 6 b = 1 ∧ s 0 3 = 0 ∧ hSeB s b r ((t : Int) - 1) (s 0 6).toNat = true := ⟨f1, f3, hs⟩
  rw [if_pos cond] at moved hmvE
  refine s3_begin (d := d + 4) hT.1 hR hI a2 hG hl hb hr x1 (fun M1 l1 q110 q111 e1 => ?_)
  have wb := wK_b s b r
  have e1' := e1.mono bsub
  have K1 := a1.mvS hT e1' (sHn_rf n) sHn_k
  have f1' : M1.1 (n + 107) 7 = M.1 (n + 107) 7 := (e1 _ _ (by omega)).1
  have y1 : M1.1 (n + 109) b = jI (r : Int) := ((e1 _ _ (by omega)).1).trans x1
  have u1 : cHunt n (sAdd s b r t) M1 := ⟨((e1 _ _ (by omega)).1).trans a3.1, ((e1 _ _ (by omega)).1).trans a3.2.1, fun j => ((e1 _ _ (by omega)).1).trans (a3.2.2 j)⟩
  have far1 : ∀ q j, n + 109 ≤ q → q ≤ n + 111 → j ≠ b → M1.1 q j = M.1 q j := fun q j p1 p2 p3 => (e1 q j (by omega)).1
  obtain ⟨W, hW⟩ : ∃ W : Nat, wK s b r = W := ⟨(wK s b r).toNat, by omega⟩
  rw [hW] at q111 wb moved hmvE
  refine s3_step (d := d + 6) (s := s) (f := (fnd s st : Nat)) hT.1 K1.1.1 K1.1.2.2.1.1 hG (by omega) hr (k := W) ⟨by omega, by omega⟩ y1 q111 (f1'.trans a6) (fun w2 => ?_) (fun w2 q => ?_) (fun w2 q => ?_)
  · have hy : hYw s r ((W : Int) - 1).toNat = 16 * r + 5 + (W - 1) := by unfold hYw; rw [if_neg (by omega)]; omega
    rw [hy] at moved
    refine moved _ _ _ rfl (by omega) (Eo.ui e1' (by unfold sHn; omega)) ?_ (fun _ q => q) (fun _ _ q => q) rfl ?_ ?_ ⟨r, 1, W - 1, ?_, ?_, ?_, Or.inr ⟨by omega, by omega, Or.inr (Or.inl ⟨rfl, by omega, by omega, by omega⟩)⟩⟩ ?_
    · intro q j p1 p2 p3
      show (if q = n + 111 ∧ j = b then _ else M1.1 q j) = _
      rw [if_neg (fun z => p3 z.2), far1 q j p1 p2 p3]
    · exact ⟨by have := l1.1; simp [m_u]; exact this, fun j => by have := l1.2 j; simp [m_u]; exact this⟩
    · exact ⟨by have := u1.1; simp [m_u]; exact this, by have := u1.2.1; simp [m_u]; exact this, fun j => by have := u1.2.2 j; simp [m_u]; exact this⟩
    · simp [m_u]; exact y1
    · simp [m_u]; exact q110
    · simp [m_u]
    · simp [m_u]; exact f1'
  · have hy : hYw s r ((W : Int) - 1).toNat = 16 * (r + 1) := by unfold hYw; rw [if_pos (by omega), if_neg (by omega)]
    rw [hy] at moved
    refine moved _ _ _ rfl (by omega) (Eo.ui (Eo.ui (Eo.ui (Eo.ui e1' (by unfold sHn; omega)) (by unfold sHn; omega)) (by unfold sHn; omega)) (by unfold sHn; omega)) ?_ (fun _ q => q) (fun _ _ q => q) rfl ?_ ?_ ⟨r + 1, 0, 0, ?_, ?_, ?_, Or.inr ⟨by omega, by omega, Or.inl ⟨rfl, by omega, by omega⟩⟩⟩ ?_
    · intro q j p1 p2 p3
      show (if q = n + 110 ∧ j = b then _ else if q = n + 111 ∧ j = b then _ else if q = n + 109 ∧ j = b then _ else if q = n + 111 ∧ j = b then _ else M1.1 q j) = _
      rw [if_neg (fun z => p3 z.2), if_neg (fun z => p3 z.2), if_neg (fun z => p3 z.2), if_neg (fun z => p3 z.2), far1 q j p1 p2 p3]
    · exact ⟨by have := l1.1; simp [m_u]; exact this, fun j => by have := l1.2 j; simp [m_u]; exact this⟩
    · exact ⟨by have := u1.1; simp [m_u]; exact this, by have := u1.2.1; simp [m_u]; exact this, fun j => by have := u1.2.2 j; simp [m_u]; exact this⟩
    · simp [m_u]
    · simp [m_u]; rfl
    · simp [m_u]; rfl
    · simp [m_u]; exact f1'
  · have hy : hYw s r ((W : Int) - 1).toNat = 80 := by unfold hYw; rw [if_pos (by omega), if_pos q]
    have E := hmvE _ _ rfl
    rw [hy, if_pos rfl] at E
    rw [E] at k
    have eF := Eo.ui (x := jI ((fnd s st : Nat) + 1)) (Eo.ui (x := jI (t : Int)) (Eo.ui (x := 3) (Eo.ui (x := 0) (Eo.ui (x := 0) (Eo.ui (x := jI ((r + 1 : Nat) : Int)) (Eo.ui (x := 0) e1' (show sHn n (n + 111) b by unfold sHn; omega)) (show sHn n (n + 109) b by unfold sHn; omega)) (show sHn n (n + 111) b by unfold sHn; omega)) (show sHn n (n + 110) b by unfold sHn; omega)) (show sHn n (n + 110) b by unfold sHn; omega)) (show sHn n (n + 112) b by unfold sHn; omega)) (show sHn n (n + 107) 7 by unfold sHn; omega)
    refine k _ (cHu_fin hT hG h eF (fun _ q => q) (fun _ _ q => q) rfl ?_ ?_ ?_ ⟨r + 1, 3, 0, ?_, ?_, ?_, Or.inl ⟨rfl, rfl⟩⟩ ?_) eF
    · intro q j h1 h2 h3
      have : q ≠ n + 107 := by omega
      have : q ≠ n + 112 := by omega
      have := far1 q j h1 h2 h3
      simp [m_u, *]
    · exact ⟨by have := l1.1; simp [m_u]; exact this, fun j => by have := l1.2 j; simp [m_u]; exact this⟩
    · refine ⟨by have := u1.1; simp [m_u]; exact this, by have := u1.2.1; simp [m_u]; exact this, fun j => ?_⟩
      have hj : M1.1 (n + 112) j = jI (s 10 j) := u1.2.2 j
      show _ = jI (if (10 : Nat) = 10 ∧ j = b then (t : Int) else s 10 j)
      by_cases cj : j = b
      · rw [if_pos ⟨rfl, cj⟩, cj]; simp [m_u]
      · rw [if_neg (fun q => cj q.2)]; simp [m_u, cj, hj]
    · simp [m_u]
    · simp [m_u]; rfl
    · simp [m_u]; rfl
    · have := fnd_set (st := st) (z' := 80) hb (by rw [hzz]; exact h80)
      rw [show fnd (sBox (sAdd s b r t) b t) (fun k => if k = b then 80 else st k) = fnd s (fun k => if k = b then 80 else st k) from rfl, this, if_pos rfl]
      simp [m_u]
end HT
