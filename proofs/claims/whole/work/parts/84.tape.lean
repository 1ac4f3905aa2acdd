/-! ===== THE TAPE, CHECK: both sides ===== -/
theorem by_and : ∀ z : Fin 256, jI (z.val : Int) &&& 255 = jI (z.val : Int) := by decide +kernel
theorem by_and' {z : Int} (h : 0 ≤ z ∧ z ≤ 255) : jI z &&& 255 = jI z := by
  have := by_and ⟨z.toNat, by omega⟩
  rwa [show ((z.toNat : Nat) : Int) = z by omega] at this
/-- the number of four bytes, after k of them -/
def tNk (s : mS) (i : Nat) : Nat → Int32
  | 0 => 0
  | k + 1 => (tNk s i k <<< ((8 : Int32) &&& 31)) ||| jI (s 7 (4 * i + k))
def chkF (s : mS) (c : Nat) : Nat → Nat → Int
  | 0, _ => if s 0 6 ≤ (c : Int) then -1 else 3 * (c : Int)
  | u + 1, i => if s 0 6 ≤ ((i / 3 : Nat) : Int) then (i : Int) else if tNk s i 4 = jI (s 9 i) then chkF s c u (i + 1) else (i : Int)
def vChk (s : mS) (z : Int) : Prop := 0 ≤ z ∧ 12 * z ≤ s 0 4
section TP
variable {d : Nat} {Th : mT} {M : mM} {n m : Nat} {s : mS}
theorem s9_byteAt {Q : Int32 → mM → Prop} {i : Nat} (hT : Ly Th n) (hR : Rf n M) (h1 : M.1 (n + 1) 1 = jI (s 0 4)) (h2 : M.1 (n + 2) i = jI (s 7 i)) (hG : rG s) (hi : (i : Int) < s 0 4) (k : Q (jI (s 7 i)) M) : P9_byteAt (d + 1) Th (n + 1) (jI i) M Q := by
  have g4 := hG.2.2.2.2.1
  refine e9_byteAt ?_
  rw [if_neg (by rw [jl0 (rI_nat (by omega))]; omega)]
  refine ⟨hT 1 _ rfl, ?_⟩
  rw [h1, if_neg (by rw [jIle (rI_of (by omega) (by omega)) (rI_nat (by omega))]; omega)]
  refine ⟨n + 2, hR 1 0 2 (by decide), _, _, _, hT 2 _ rfl, ?_⟩
  rw [show nI 220 = jI 220 from rfl, if_neg (by rw [jIle (rI_of (by omega) (by omega)) (rI_nat (by omega))]; omega)]
  refine ⟨m_ok_jI (hT 2 _ rfl) (by omega) (by omega) (by omega), ?_⟩
  rw [jInatN i (by omega), h2]
  exact k
theorem s9_numberAt {Q : Int32 → mM → Prop} {i : Nat} (hT : Ly Th n) (hR : Rf n M) (hH : cTape n s M) (hG : rG s) (hi : 4 * (i : Int) + 4 ≤ s 0 4) (k : Q (tNk s i 4) M) : P9_numberAt (d + 2) Th (n + 1) (jI i) M Q := by
  have g4 := hG.2.2.2.2.1
  have g7 := hG.2.2.2.2.2.2.2.2.2.2.2.2.2.2.2.2
  have key : ∀ u j : Nat, j + u = 4 → H9_numberAt_4 (d + 2) Th Q (n + 1) (jI i) (tNk s i j) (jI j) M := by
    intro u
    induction u with
    | zero =>
      intro j hj
      refine h9_numberAt_4 ?_
      rw [if_pos (by rw [jh4 (rI_nat (by omega))]; omega), show j = 4 by omega]
      exact k
    | succ u ih =>
      intro j hj
      refine h9_numberAt_4 ?_
      rw [if_neg (by rw [jh4 (rI_nat (by omega))]; omega)]
      refine ⟨hT 1 _ rfl, ?_⟩
      have e : (4 : Int32) * jI (i : Int) + jI (j : Int) = jI ((4 * i + j : Nat) : Int) := by
        rw [i4, jI_mul, jI_add]; congr 1
      rw [e]
      refine s9_byteAt (d := d) hT hR hH.1 (hH.2 _) hG (by omega) ?_
      intro x hx
      rw [by_and' (g7 _)] at hx
      rw [hx, jI_s]
      exact ih (j + 1) (by omega)
  exact e9_numberAt (key 4 0 (by omega))
theorem s11_tapeNumber {Q : Int32 → mM → Prop} {i : Nat} (hT : LyM Th m) (hR : RfM m M) (hH : ∀ k, M.1 (m + 7) k = jI (sB (s 7 k))) (hG : rG s) (hi : 4 * (i : Int) + 4 ≤ 220) (k : Q (tNk s i 4) M) : P11_tapeNumber (d + 2) Th m (jI i) M Q := by
  have g7 := hG.2.2.2.2.2.2.2.2.2.2.2.2.2.2.2.2
  have key : ∀ u j : Nat, j + u = 4 → H11_tapeNumber_6 (d + 2) Th Q m (jI i) (tNk s i j) (jI ((4 * i + j : Nat) : Int)) M := by
    intro u
    induction u with
    | zero =>
      intro j hj
      refine h11_tapeNumber_6 ?_
      rw [show (4 : Int32) * jI (i : Int) + 4 = jI ((4 * i + 4 : Nat) : Int) by rw [i4, jI_mul, jI_add]; congr 1]
      rw [if_pos (by rw [jIle (rI_nat (by omega)) (rI_nat (by omega))]; omega), show j = 4 by omega]
      exact k
    | succ u ih =>
      intro j hj
      refine h11_tapeNumber_6 ?_
      rw [show (4 : Int32) * jI (i : Int) + 4 = jI ((4 * i + 4 : Nat) : Int) by rw [i4, jI_mul, jI_add]; congr 1]
      rw [if_neg (by rw [jIle (rI_nat (by omega)) (rI_nat (by omega))]; omega)]
      refine ⟨hT 0 _ rfl, m + 7, hR 0 11 7 (by decide), m_ok_jI (hT 7 _ rfl) (by omega) (by omega) (by omega), ?_⟩
      intro x hx
      rw [jInatN _ (by omega), hH, sB_and' (g7 _)] at hx
      rw [hx, jI_s]
      exact ih (j + 1) (by omega)
  refine e11_tapeNumber ?_
  intro x hx
  rw [hx, show (4 : Int32) * jI (i : Int) = jI ((4 * i + 0 : Nat) : Int) by rw [i4, jI_mul]; congr 1]
  exact key 4 0 (by omega)
theorem s5_firstWrong {Q : Int32 → mM → Prop} {c : Nat} (hT : Ly Th n) (hR : Rf n M) (hH : cTape n s M) (hL : cLog n s M) (hG : rG s) (hg : rLg s) (hc : 12 * (c : Int) ≤ s 0 4) (k : Q (jI (chkF s c (3 * c) 0)) M) : P5_firstWrong (d + 4) Th (n + 105) (n + 1) (jI c) M Q := by
  have g4 := hG.2.2.2.2.1
  have g6 := hG.2.2.2.2.2.2.1
  have e3 : (3 : Int32) * jI (c : Int) = jI ((3 * c : Nat) : Int) := by rw [i3, jI_mul]; congr 1
  generalize hA : chkF s c (3 * c) 0 = A at k
  have key : ∀ u j : Nat, j + u = 3 * c → A = chkF s c u j → H5_firstWrong_2 (d + 4) Th Q (n + 105) (n + 1) (jI c) (jI j) M := by
    intro u
    induction u with
    | zero =>
      intro j hj he
      refine h5_firstWrong_2 ?_
      rw [e3, if_pos (by rw [jIle (rI_nat (by omega)) (rI_nat (by omega))]; omega)]
      refine ⟨hT 105 _ rfl, ?_⟩
      rw [he] at k
      unfold chkF at k
      rw [hL.1]
      by_cases c1 : s 0 6 ≤ (c : Int)
      · rw [if_pos (by rw [jIle (rI_of (by omega) (by omega)) (rI_nat (by omega))]; exact c1)]
        rw [if_pos c1] at k
        exact k
      · rw [if_neg (by rw [jIle (rI_of (by omega) (by omega)) (rI_nat (by omega))]; exact c1)]
        rw [if_neg c1] at k
        exact k
    | succ u ih =>
      intro j hj he
      refine h5_firstWrong_2 ?_
      rw [e3, if_neg (by rw [jIle (rI_nat (by omega)) (rI_nat (by omega))]; omega)]
      refine ⟨hT 105 _ rfl, ?_⟩
      have ed : jI (j : Int) / 3 = jI ((j / 3 : Nat) : Int) := by rw [i3, jI_div (by omega) (by omega) (by omega) (by omega)]; congr 1
      have em : jI (j : Int) - jI ((j / 3 : Nat) : Int) * 3 = jI ((j % 3 : Nat) : Int) := by
        rw [i3, jI_mul, jI_sub]; congr 1; omega
      rw [ed]
      unfold chkF at he
      refine s5_has hT hL hG (rI_nat (by omega)) (fun a1 a2 => ?_) (fun a => ?_)
      · rw [if_neg (by decide)]
        refine ⟨hT 1 _ rfl, ?_⟩
        refine s9_numberAt (d := d + 1) hT hR hH hG (by omega) ?_
        rw [em]
        refine s5_entry (d := d + 1) hT hR hL hG (rI_nat (by omega)) (rI_nat (by omega)) ?_
        rw [eLog_in a2 (by omega), show 3 * (j / 3) + j % 3 = j by omega]
        rw [if_neg (by omega)] at he
        by_cases c2 : tNk s j 4 = jI (s 9 j)
        · rw [if_pos c2]
          rw [if_pos c2] at he
          rw [jI_s]
          exact ih (j + 1) (by omega) he
        · rw [if_neg c2]
          rw [if_neg c2] at he
          rw [he] at k
          exact k
      · rw [if_pos rfl]
        rw [if_pos (by omega)] at he
        rw [he] at k
        exact k
  exact e5_firstWrong (key (3 * c) 0 (by omega) hA.symm)
theorem s10_check {Q : Int32 → mM → Prop} {z : Int} (hT : Ly Th n) (hR : Rf n M) (hH : cTape n s M) (hL : cLog n s M) (hG : rG s) (hg : rLg s) (hz : rI z) (k0 : ¬ vChk s z → Q (-2) M) (k1 : vChk s z → Q (jI (chkF s z.toNat (3 * z.toNat) 0)) (m_ui M (n + 1) 1 0)) : P10_check (d + 40) Th n (jI z) M Q := by
  have g4 := hG.2.2.2.2.1
  refine e10_check ?_
  refine s_within 0 220 rfl rfl rfl hz (rI_of (by omega) (by omega)) (rI_of (by omega) (by omega)) (fun a1 a2 => ?_) (fun a => ?_)
  rotate_left
  · rw [if_pos rfl]; exact k0 (fun h => a ⟨h.1, by have := h.2; omega⟩)
  rw [if_neg (by decide)]
  refine ⟨hT 0 _ rfl, n + 1, hR 0 0 1 (by decide), hT 1 _ rfl, ?_⟩
  rw [hH.1, i12, jI_mul]
  by_cases c : 12 * z ≤ s 0 4
  · rw [if_pos (by rw [jIle (rI_of (by omega) (by omega)) (rI_of (by omega) (by omega))]; exact c)]
    obtain ⟨q, rfl⟩ : ∃ q : Nat, z = q := ⟨z.toNat, by omega⟩
    have kk := k1 ⟨a1, c⟩
    rw [Int.toNat_natCast] at kk
    refine ⟨n + 105, hR 0 8 105 (by decide), hT 105 _ rfl, ?_⟩
    refine s5_firstWrong (d := d + 35) hT hR hH hL hG hg c ?_
    exact ⟨n + 1, hR 0 0 1 (by decide), hT 1 _ rfl, e9_drop ⟨hT 1 _ rfl, kk⟩⟩
  · rw [if_neg (by rw [jIle (rI_of (by omega) (by omega)) (rI_of (by omega) (by omega))]; exact c)]
    exact k0 (fun h => c h.2)
theorem s11_check {Q : Int32 → mM → Prop} {z : Int} (hT : LyM Th m) (hR : RfM m M) (hH : mTape m s M) (hL : mLog m s M) (hG : rG s) (hg : rLg s) (hz : rI z) (k0 : ¬ vChk s z → Q (-2) M) (k1 : vChk s z → Q (jI (chkF s z.toNat (3 * z.toNat) 0)) (m_ui M m 12 0)) : P11_check (d + 40) Th m (jI z) M Q := by
  have g4 := hG.2.2.2.2.1
  have g6 := hG.2.2.2.2.2.2.1
  refine e11_check ?_
  by_cases c1 : z < 0
  · rw [if_pos (by rw [jl0 hz]; exact c1)]
    exact k0 (fun h => by have := h.1; omega)
  rw [if_neg (by rw [jl0 hz]; exact c1)]
  refine ⟨hT 0 _ rfl, ?_⟩
  rw [hH.1, i12, jI_div (by omega) (by omega) (by omega) (by omega)]
  by_cases c2 : z ≤ s 0 4 / 12
  rotate_left
  · rw [if_neg (by rw [jIle hz (rI_of (by omega) (by omega))]; exact c2)]
    exact k0 (fun h => c2 (by have := h.2; omega))
  rw [if_pos (by rw [jIle hz (rI_of (by omega) (by omega))]; exact c2)]
  have kk := k1 ⟨by omega, by omega⟩
  obtain ⟨c, rfl⟩ : ∃ q : Nat, z = q := ⟨z.toNat, by omega⟩
  rw [Int.toNat_natCast] at kk
  generalize hM1 : m_ui M m 12 0 = M1 at kk ⊢
  have f1 : ∀ q k, (q ≠ m ∨ k ≠ 12) → M1.1 q k = M.1 q k := fun q k h => by
    rw [← hM1]
    show (if q = m ∧ k = 12 then (0 : Int32) else M.1 q k) = _
    rw [if_neg (by omega)]
  have hR1 : RfM m M1 := fun o k v h => by rw [← hM1]; exact hR o k v h
  have hL1 : mLog m s M1 := ⟨(f1 _ _ (by omega)).trans hL.1, fun k => (f1 _ _ (by omega)).trans (hL.2.1 k), fun k => (f1 _ _ (by omega)).trans (hL.2.2.1 k), fun k => (f1 _ _ (by omega)).trans (hL.2.2.2 k)⟩
  have hB1 : ∀ k, M1.1 (m + 7) k = jI (sB (s 7 k)) := fun k => (f1 _ _ (by omega)).trans (hH.2 k)
  generalize hA : chkF s c (3 * c) 0 = A at kk
  have key : ∀ u j : Nat, j + u = c → (j : Int) ≤ s 0 6 → A = chkF s c (3 * u) (3 * j) → H11_check_25 (d + 40) Th Q m (jI c) (jI j) M1 := by
    intro u
    induction u with
    | zero =>
      intro j hj hj6 he
      refine h11_check_25 ⟨hT 0 _ rfl, ?_⟩
      rw [he] at kk
      unfold chkF at kk
      rw [hL1.1]
      by_cases b1 : s 0 6 ≤ (j : Int)
      · rw [if_pos (by rw [jIle (rI_of (by omega) (by omega)) (rI_nat (by omega))]; exact b1)]
        rw [if_pos (by rw [jIle (rI_nat (by omega)) (rI_of (by omega) (by omega))]; omega)]
        rw [if_pos (by omega)] at kk
        exact kk
      · rw [if_neg (by rw [jIle (rI_of (by omega) (by omega)) (rI_nat (by omega))]; exact b1)]
        rw [if_pos (by rw [show j = c by omega]), i3, jI_mul]
        rw [if_neg (by omega)] at kk
        rw [show j = c by omega]
        exact kk
    | succ u ih =>
      intro j hj hj6 he
      refine h11_check_25 ⟨hT 0 _ rfl, ?_⟩
      rw [show 3 * (u + 1) = 3 * u + 1 + 1 + 1 by omega] at he
      unfold chkF at he
      unfold chkF at he
      unfold chkF at he
      rw [hL1.1]
      by_cases b1 : s 0 6 ≤ (j : Int)
      · rw [if_pos (by rw [jIle (rI_of (by omega) (by omega)) (rI_nat (by omega))]; exact b1)]
        rw [if_neg (by rw [jIle (rI_nat (by omega)) (rI_of (by omega) (by omega))]; omega), i3, jI_mul]
        rw [if_pos (by omega)] at he
        rw [he, show ((3 * j : Nat) : Int) = 3 * s 0 6 by omega] at kk
        exact kk
      rw [if_neg (by rw [jIle (rI_of (by omega) (by omega)) (rI_nat (by omega))]; exact b1)]
      rw [if_neg (by rw [jIeq (rI_nat (by omega)) (rI_nat (by omega))]; omega)]
      have t0 : (3 : Int32) * jI (j : Int) = jI ((3 * j : Nat) : Int) := by rw [i3, jI_mul]; congr 1
      rw [t0, jI_s, show jI ((3 * j : Nat) : Int) + 2 = jI ((3 * j + 1 + 1 : Nat) : Int) by rw [i2, jI_add]; congr 1]
      have tj := jInatN j (by omega)
      refine s11_tapeNumber (d := d + 37) hT hR1 hB1 hG (by omega) ?_
      refine ⟨m + 35, hR1 0 62 35 (by decide), m_ok_jI (hT 35 _ rfl) (by omega) (by omega) (by omega), ?_⟩
      rw [tj, hL1.2.1]
      rw [if_neg (by omega)] at he
      by_cases q0 : tNk s (3 * j) 4 = jI (s 9 (3 * j))
      rotate_left
      · rw [if_neg q0]
        rw [if_neg q0] at he
        rw [he] at kk
        exact kk
      rw [if_pos q0]
      rw [if_pos q0, if_neg (by omega)] at he
      refine s11_tapeNumber (d := d + 37) hT hR1 hB1 hG (by omega) ?_
      refine ⟨m + 36, hR1 0 63 36 (by decide), m_ok_jI (hT 36 _ rfl) (by omega) (by omega) (by omega), ?_⟩
      rw [hL1.2.2.1]
      by_cases q1 : tNk s (3 * j + 1) 4 = jI (s 9 (3 * j + 1))
      rotate_left
      · rw [if_neg q1]
        rw [if_neg q1] at he
        rw [he] at kk
        exact kk
      rw [if_pos q1]
      rw [if_pos q1, if_neg (by omega)] at he
      refine s11_tapeNumber (d := d + 37) hT hR1 hB1 hG (by omega) ?_
      refine ⟨m + 37, hR1 0 64 37 (by decide), m_ok_jI (hT 37 _ rfl) (by omega) (by omega) (by omega), ?_⟩
      rw [hL1.2.2.2]
      by_cases q2 : tNk s (3 * j + 1 + 1) 4 = jI (s 9 (3 * j + 2))
      rotate_left
      · rw [if_neg q2]
        rw [if_neg q2] at he
        rw [he] at kk
        exact kk
      rw [if_pos q2]
      rw [if_pos q2] at he
      rw [jI_s]
      exact ih (j + 1) (by omega) (by omega) he
  exact key c 0 (by omega) (by omega) hA.symm
end TP
