/-! ===== DRAW: pure, and who is seen ===== -/
/-- another one went from there in that tick -/
def hSeB (s : mS) (b r : Nat) (t : Int) : Nat → Bool
  | 0 => false
  | j + 1 => hSeB s b r t j || decide (s 9 (3 * j) ≠ (b : Int) ∧ s 9 (3 * j + 1) = (r : Int) ∧ s 9 (3 * j + 2) = t)
theorem hSeB_k (s : mS) (b r : Nat) (t : Int) (k : Nat) : hSeB s b r t k = true ↔ ∃ j : Nat, j < k ∧ s 9 (3 * j) ≠ (b : Int) ∧ s 9 (3 * j + 1) = (r : Int) ∧ s 9 (3 * j + 2) = t := by
  induction k with
  | zero => constructor
            · intro h; exact absurd h (show ¬ (false = true) by decide)
            · intro ⟨j, h, _⟩; omega
  | succ k ih =>
    unfold hSeB
    rw [Bool.or_eq_true, ih, decide_eq_true_iff]
    constructor
    · intro h
      rcases h with ⟨j, h1, h2⟩ | h
      · exact ⟨j, by omega, h2⟩
      · exact ⟨k, by omega, h⟩
    · intro ⟨j, h1, h2⟩
      by_cases c : j = k
      · rw [c] at h2; exact Or.inr h2
      · exact Or.inl ⟨j, by omega, h2⟩
/-- it sees one that went in the tick before -/
def hSee (s : mS) (b r t : Nat) : Prop := s 6 b = 1 ∧ s 0 3 = 0 ∧ hSeB s b r ((t : Int) - 1) (s 0 6).toNat = true
/-- one more in the log -/
def sAdd (s : mS) (b r t : Nat) : mS := fun i k => if i = 9 then (if k = 3 * (s 0 6).toNat then (b : Int) else if k = 3 * (s 0 6).toNat + 1 then (r : Int) else if k = 3 * (s 0 6).toNat + 2 then (t : Int) else s 9 k) else if i = 0 ∧ k = 6 then s 0 6 + 1 else s i k
/-- the dice thrown -/
def sDic (s : mS) : mS := fun i k => if i = 0 ∧ k = 7 then (25173 * s 0 7 + 13849) % 65536 else s i k
def sBox (s : mS) (b t : Nat) : mS := fun i k => if i = 10 ∧ k = b then (t : Int) else s i k
/-- where it stands, a tick on: walking or astray -/
def hGo (s : mS) (z : Nat) : Nat := if ((kgo z : Nat) : Int) = 16 * s 0 0 then 80 else kgo z
def hYw (s : mS) (r w : Nat) : Nat := if w = 0 then (if ((r + 1 : Nat) : Int) = s 0 0 then 80 else 16 * (r + 1)) else 16 * r + 5 + w
section DW
variable {d : Nat} {Th : mT} {M : mM} {n m : Nat} {s : mS}
theorem s3_anotherWent {Q : Int32 → mM → Prop} {b r : Nat} {t : Int} (hT : Ly Th n) (hR : Rf n M) (hH : cLog n s M) (hG : rG s) (hL : rLg s) (hb : b < 5) (hr : M.1 (n + 109) b = jI (r : Int)) (hr5 : r ≤ 5) (ht : rI t)
    (k1 : hSeB s b r t (s 0 6).toNat = true → Q 1 M) (k0 : hSeB s b r t (s 0 6).toNat = false → Q 0 M) : P3_anotherWent (d + 4) Th (n + 107) (jI b) (jI t) M Q := by
  have g := hG.2.2.2.2.2.2.1
  obtain ⟨L, hLn⟩ : ∃ L : Nat, s 0 6 = L := ⟨(s 0 6).toNat, by omega⟩
  rw [hLn, Int.toNat_natCast] at k1 k0
  have ent : ∀ (j w : Nat) (d : Nat) (Q' : Int32 → mM → Prop), (j : Int) < s 0 6 → w ≤ 2 → Q' (jI (s 9 (3 * j + w))) M → P5_entry (d + 2) Th (n + 105) (jI j) (jI (w : Int)) M Q' := by
    intro j w d Q' hj hw kk
    refine s5_entry hT hR hH hG (rI_nat (by omega)) (rI_nat (by omega)) ?_
    rw [eLog_in hj hw]
    exact kk
  have rr : ∀ k, rI (s 9 k) := fun k => by have := hL k; exact rI_of (by omega) (by omega)
  have key : ∀ u j : Nat, j + u = L → hSeB s b r t j = false → H3_anotherWent_2 (d + 4) Th Q (n + 107) (jI b) (jI t) (jI j) M := by
    intro u
    induction u with
    | zero =>
      intro j hj hno
      refine h3_anotherWent_2 ⟨hT 107 _ rfl, n + 105, hR 107 1 105 (by decide), hT 105 _ rfl, ?_⟩
      rw [hH.1, hLn, if_pos (by rw [jIle (rI_nat (by omega)) (rI_nat (by omega))]; omega)]
      rw [show j = L by omega] at hno
      exact k0 hno
    | succ u ih =>
      intro j hj hno
      refine h3_anotherWent_2 ⟨hT 107 _ rfl, n + 105, hR 107 1 105 (by decide), hT 105 _ rfl, ?_⟩
      rw [hH.1, hLn, if_neg (by rw [jIle (rI_nat (by omega)) (rI_nat (by omega))]; omega)]
      have e1 : hSeB s b r t (j + 1) = (hSeB s b r t j || decide (s 9 (3 * j) ≠ (b : Int) ∧ s 9 (3 * j + 1) = (r : Int) ∧ s 9 (3 * j + 2) = t)) := rfl
      rw [hno, Bool.false_or] at e1
      have next : ¬ (s 9 (3 * j) ≠ (b : Int) ∧ s 9 (3 * j + 1) = (r : Int) ∧ s 9 (3 * j + 2) = t) → H3_anotherWent_2 (d + 4) Th Q (n + 107) (jI b) (jI t) (jI (j : Int) + 1) M := by
        intro h
        rw [jI_s]
        exact ih (j + 1) (by omega) (by rw [e1]; exact decide_eq_false h)
      have z49 : ¬ (s 9 (3 * j) ≠ (b : Int) ∧ s 9 (3 * j + 1) = (r : Int) ∧ s 9 (3 * j + 2) = t) → H3_anotherWent_49 (d + 4) Th Q (n + 107) (jI b) (jI t) (jI j) 0 M := by
        intro h
        refine h3_anotherWent_49 ?_
        rw [if_pos rfl]
        exact next h
      refine ent j 0 (d + 1) _ (by omega) (by omega) ?_
      by_cases c : s 9 (3 * j) = (b : Int)
      · rw [if_pos (by rw [show s 9 (3 * j + 0) = s 9 (3 * j) from rfl, c])]
        exact z49 (fun h => h.1 c)
      · rw [if_neg (by rw [show s 9 (3 * j + 0) = s 9 (3 * j) from rfl, jIeq (rr _) (rI_nat (by omega))]; exact c)]
        refine ⟨n + 105, hR 107 1 105 (by decide), hT 105 _ rfl, ?_⟩
        refine ent j 1 (d + 1) _ (by omega) (by omega) ?_
        refine ⟨n + 109, hR 107 3 109 (by decide), m_ok_jI (hT 109 _ rfl) (by omega) (by omega) (by omega), ?_⟩
        rw [jInatN b (by omega), hr]
        by_cases c2 : s 9 (3 * j + 1) = (r : Int)
        · rw [if_pos (by rw [c2])]
          refine h3_anotherWent_49 ?_
          rw [if_neg (by decide)]
          refine ⟨hT 107 _ rfl, n + 105, hR 107 1 105 (by decide), hT 105 _ rfl, ?_⟩
          refine ent j 2 (d + 1) _ (by omega) (by omega) ?_
          by_cases c3 : s 9 (3 * j + 2) = t
          · rw [if_pos (by rw [c3])]
            refine k1 ((hSeB_k _ _ _ _ _).mpr ⟨j, by omega, c, c2, c3⟩)
          · rw [if_neg (by rw [jIeq (rr _) ht]; exact c3)]
            exact next (fun h => c3 h.2.2)
        · rw [if_neg (by rw [jIeq (rr _) (rI_nat (by omega))]; exact c2)]
          exact z49 (fun h => c2 h.2.1)
  exact e3_anotherWent (key L 0 (by omega) rfl)
theorem s2_followsSeen {Q : Int32 → mM → Prop} {b : Nat} (hT : Ly Th n) (hR : Rf n M) (hI : cHill n s M) (hG : rG s) (hb : (b : Int) < s 0 1) (k1 : s 6 b = 1 → s 0 3 = 0 → Q 1 M) (k0 : ¬ (s 6 b = 1 ∧ s 0 3 = 0) → Q 0 M) : P2_followsSeen (d + 2) Th (n + 3) (jI b) M Q := by
  have g0 := hG.1
  have g1 := hG.2.1
  have g3 := hG.2.2.2.1
  have g6 := hG.2.2.2.2.2.2.2.2.2.2.2.2.2.2.2.1 b
  refine e2_followsSeen ⟨hT 3 _ rfl, ?_⟩
  refine s2_hasBand (b := (s 0 1).toNat) hT (by rw [hI.2.1]; congr 1; omega) (by omega) (rI_nat (by omega)) (fun a1 a2 => ?_) (fun a => absurd ⟨by omega, by omega⟩ a)
  rw [if_neg (by decide)]
  refine ⟨n + 14, hR 3 12 14 (by decide), m_ok_jI (hT 14 _ rfl) (by omega) (by omega) (by omega), ?_⟩
  rw [jInatN b (by omega), hI.2.2.2.2.2.2.2.2.2]
  simp only [hI.2.2.2.1, jq0 (rI_of (z := s 0 3) (by omega) (by omega))]
  by_cases c : s 6 b = 1
  · rw [if_pos (by rw [c]; rfl)]
    by_cases c3 : s 0 3 = 0
    · simp only [if_pos c3]; exact ⟨mb1, k1 c c3⟩
    · simp only [if_neg c3]; exact ⟨mb0, k0 (fun h => c3 h.2)⟩
  · rw [if_neg (by rw [jq1 (rI_of (by omega) (by omega))]; exact c)]
    exact k0 (fun h => c h.1)
theorem s11_logsAt {Q : Int32 → mM → Prop} {k r : Nat} {t : Int} (hT : LyM Th m) (hR : RfM m M) (hH : mLog m s M) (hG : rG s) (hL : rLg s) (hk : k ≤ 5) (hr5 : r ≤ 5) (ht : rI t)
    (k1 : (∃ j : Nat, (j : Int) < s 0 6 ∧ s 9 (3 * j) = (k : Int) ∧ s 9 (3 * j + 1) = (r : Int) ∧ s 9 (3 * j + 2) = t) → Q 1 M) (k0 : ¬ (∃ j : Nat, (j : Int) < s 0 6 ∧ s 9 (3 * j) = (k : Int) ∧ s 9 (3 * j + 1) = (r : Int) ∧ s 9 (3 * j + 2) = t) → Q 0 M) : P11_logsAt (d + 1) Th m (jI k) (jI r) (jI t) M Q := by
  have g := hG.2.2.2.2.2.2.1
  have rr : ∀ k, rI (s 9 k) := fun k => by have := hL k; exact rI_of (by omega) (by omega)
  have key : ∀ u j : Nat, (j : Int) + u = s 0 6 → (∀ a : Nat, a < j → ¬ (s 9 (3 * a) = (k : Int) ∧ s 9 (3 * a + 1) = (r : Int) ∧ s 9 (3 * a + 2) = t)) → H11_logsAt_3 (d + 1) Th Q m (jI k) (jI r) (jI t) (jI j) M := by
    intro u
    induction u with
    | zero =>
      intro j hj hno
      refine h11_logsAt_3 ⟨hT 0 _ rfl, ?_⟩
      rw [hH.1, if_pos (by rw [jIle (rI_of (by omega) (by omega)) (rI_nat (by omega))]; omega)]
      exact k0 (fun ⟨a, h1, h2⟩ => hno a (by omega) h2)
    | succ u ih =>
      intro j hj hno
      have next : ¬ (s 9 (3 * j) = (k : Int) ∧ s 9 (3 * j + 1) = (r : Int) ∧ s 9 (3 * j + 2) = t) → H11_logsAt_3 (d + 1) Th Q m (jI k) (jI r) (jI t) (jI (j : Int) + 1) M := by
        intro h
        rw [jI_s]
        refine ih (j + 1) (by omega) (fun a ha => ?_)
        by_cases q : a = j
        · rw [q]; exact h
        · exact hno a (by omega)
      refine h11_logsAt_3 ⟨hT 0 _ rfl, ?_⟩
      rw [hH.1, if_neg (by rw [jIle (rI_of (by omega) (by omega)) (rI_nat (by omega))]; omega)]
      refine ⟨m + 35, hR 0 62 35 (by decide), m_ok_jI (hT 35 _ rfl) (by omega) (by omega) (by omega), ?_⟩
      rw [jInatN j (by omega), hH.2.1]
      by_cases c : s 9 (3 * j) = (k : Int)
      · rw [if_pos (by rw [c])]
        refine ⟨m + 36, hR 0 63 36 (by decide), m_ok_jI (hT 36 _ rfl) (by omega) (by omega) (by omega), ?_⟩
        rw [hH.2.2.1]
        by_cases c2 : s 9 (3 * j + 1) = (r : Int)
        · rw [if_pos (by rw [c2])]
          refine ⟨m + 37, hR 0 64 37 (by decide), m_ok_jI (hT 37 _ rfl) (by omega) (by omega) (by omega), ?_⟩
          rw [hH.2.2.2]
          by_cases c3 : s 9 (3 * j + 2) = t
          · rw [if_pos (by rw [c3])]
            exact k1 ⟨j, by omega, c, c2, c3⟩
          · rw [if_neg (by rw [jIeq (rr _) ht]; exact c3)]
            exact next (fun h => c3 h.2.2)
        · rw [if_neg (by rw [jIeq (rr _) (rI_nat (by omega))]; exact c2)]
          exact next (fun h => c2 h.2.1)
      · rw [if_neg (by rw [jIeq (rr _) (rI_nat (by omega))]; exact c)]
        exact next (fun h => c h.1)
  exact e11_logsAt (key (s 0 6).toNat 0 (by omega) (fun a h => absurd h (by omega)))
theorem s11_seesOne {Q : Int32 → mM → Prop} {b r t z : Nat} (hT : LyM Th m) (hR : RfM m M) (hI : mHill m s M) (hH : mLog m s M) (hG : rG s) (hL : rLg s) (hLh : rLh s) (hb : (b : Int) < s 0 1) (hz : M.1 (m + 39) b = jI (z : Int)) (hzr : z / 16 = r) (hr5 : r ≤ 5) (ht : t ≤ 10)
    (k1 : hSee s b r t → Q 1 M) (k0 : ¬ hSee s b r t → Q 0 M) : P11_seesOne (d + 2) Th m (jI b) (jI t) M Q := by
  have g0 := hG.1
  have g1 := hG.2.1
  have g3 := hG.2.2.2.1
  have g := hG.2.2.2.2.2.2.1
  have g6 := hG.2.2.2.2.2.2.2.2.2.2.2.2.2.2.2.1 b
  refine e11_seesOne ⟨hT 0 _ rfl, m + 6, hR 0 10 6 (by decide), m_ok_jI (hT 6 _ rfl) (by omega) (by omega) (by omega), ?_⟩
  rw [jInatN b (by omega), hI.2.2.2.2.2.2.2.2.2]
  by_cases c : s 6 b = 0
  · rw [if_pos (by rw [c]; rfl)]
    exact k0 (fun h => by have := h.1; omega)
  rw [if_neg (by rw [jq0 (rI_of (by omega) (by omega))]; exact c), hI.2.2.2.1]
  by_cases c3 : s 0 3 = 1
  · rw [if_pos (by rw [c3]; rfl)]
    exact k0 (fun h => by have := h.2.1; omega)
  rw [if_neg (by rw [jq1 (rI_of (by omega) (by omega))]; exact c3)]
  have key : ∀ u k : Nat, (k : Int) + u = s 0 1 → (∀ j : Nat, (j : Int) < s 0 6 → s 9 (3 * j) < (k : Int) → ¬ (s 9 (3 * j) ≠ (b : Int) ∧ s 9 (3 * j + 1) = (r : Int) ∧ s 9 (3 * j + 2) = (t : Int) - 1)) → H11_seesOne_21 (d + 2) Th Q m (jI b) (jI t) (jI k) M := by
    intro u
    induction u with
    | zero =>
      intro k hk hno
      refine h11_seesOne_21 ⟨hT 0 _ rfl, ?_⟩
      rw [hI.2.1, if_pos (by rw [jIle (rI_of (by omega) (by omega)) (rI_nat (by omega))]; omega)]
      refine k0 (fun h => ?_)
      obtain ⟨j, j1, j2⟩ := (hSeB_k _ _ _ _ _).mp h.2.2
      have := (hLh j (by omega)).1
      unfold gBd at this
      exact hno j (by omega) (by omega) j2
    | succ u ih =>
      intro k hk hno
      refine h11_seesOne_21 ⟨hT 0 _ rfl, ?_⟩
      rw [hI.2.1, if_neg (by rw [jIle (rI_of (by omega) (by omega)) (rI_nat (by omega))]; omega)]
      by_cases cb : k = b
      · rw [if_pos (by rw [cb]), jI_s]
        refine ih (k + 1) (by omega) (fun j j1 j2 h => ?_)
        by_cases q : s 9 (3 * j) = (k : Int)
        · exact h.1 (by rw [q, cb])
        · exact hno j j1 (by omega) h
      · rw [if_neg (by rw [jIeq (rI_nat (by omega)) (rI_nat (by omega))]; omega)]
        refine ⟨m + 39, hR 0 66 39 (by decide), m_ok_jI (hT 39 _ rfl) (by omega) (by omega) (by omega), ?_⟩
        rw [jInatN b (by omega), hz, i16, jI_div (by omega) (by omega) (by omega) (by omega), show ((z : Int) / 16) = (r : Int) by omega, show jI (t : Int) - 1 = jI ((t : Int) - 1) by rw [i1, jI_sub]]
        refine s11_logsAt (d := d) hT hR hH hG hL (by omega) hr5 (rI_of (by omega) (by omega)) (fun ⟨j, j1, j2, j3, j4⟩ => ?_) (fun hn => ?_)
        · rw [if_neg (by decide)]
          exact k1 ⟨by omega, by omega, (hSeB_k _ _ _ _ _).mpr ⟨j, by omega, by omega, j3, j4⟩⟩
        · rw [if_pos rfl, jI_s]
          refine ih (k + 1) (by omega) (fun j j1 j2 h => ?_)
          by_cases q : s 9 (3 * j) = (k : Int)
          · exact hn ⟨j, j1, q, h.2.1, h.2.2⟩
          · exact hno j j1 (by omega) h
  exact key (s 0 1).toNat 0 (by omega) (fun j j1 j2 => by
    have := (hL (3 * j)).1
    omega)
end DW
