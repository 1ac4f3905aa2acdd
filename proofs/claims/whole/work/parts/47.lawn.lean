/-! ===== THE LAW, AS THE MODEL READS IT: sums ===== -/
section LN
variable {d : Nat} {Th : mT} {M : mM} {m : Nat} {w : Nat → Int} {L : Nat} {i o : Nat} {W C : List Int}
/-- an operation that waits, and comes into the codes now -/
def kcn (all : Bool) (x : Int) : Prop := (4 ≤ x / 1048576 ∧ x / 1048576 ≤ 6) ∨ (all = true ∧ (x / 1048576 = 2 ∨ x / 1048576 = 3))
def kfl (C : List Int) : List Int → List Int
  | [] => C
  | x :: r => kfl (C ++ [1048576 * (x / 1048576)]) r
def ktn (all : Bool) (W : List Int) : Prop := match W with | [] => True | x :: _ => ¬ kcn all x
theorem ktop_b (h : ∀ x, x ∈ W → rC x) : -1 ≤ ktop W ∧ ktop W ≤ 15 := by
  cases W with
  | nil => exact ⟨by decide, by decide⟩
  | cons x r => have := h x (by simp); unfold rC at this; show -1 ≤ x / 1048576 ∧ x / 1048576 ≤ 15; omega
theorem s11_closesSums {Q : mM → Prop} {all : Bool} (hk : kOk Th m w L) : ∀ (P W C : List Int) (M : mM), RfM m M → kst m w L i o (P ++ W) C M → (∀ x, x ∈ P → kcn all x) → ktn all W → (P ++ W).length ≤ 219 → C.length + P.length ≤ 219 →
    (∀ M', kst m w L i o W (kfl C P) M' → Eo (krd m) M M' → Q M') → H11_closesSums_0 (d + 2) Th Q m (jB all) M := by
  have h17 : ∀ (P W C : List Int) (M : mM), RfM m M → kst m w L i o (P ++ W) C M → (∀ x, x ∈ P → kcn all x) → ktn all W → (P ++ W).length ≤ 219 → ktop (P ++ W) < 4 ∨ 6 < ktop (P ++ W) → (P = [] → Q M) → (∀ x r, P = x :: r → H11_closesSums_37 (d + 2) Th Q m (jB all) M) → H11_closesSums_17 (d + 2) Th Q m (jB all) M := by
    intro P W C M hR hs hP hW hl ht k0 k1
    refine h11_closesSums_17 ?_
    cases all with
    | false =>
      rw [if_pos (show jB false = 0 from rfl)]
      refine k0 ?_
      cases P with
      | nil => rfl
      | cons x r =>
        have := hP x (by simp)
        have ht' : x / 1048576 < 4 ∨ 6 < x / 1048576 := ht
        rcases this with h | h
        · omega
        · exact absurd h.1 (by decide)
    | true =>
      rw [if_neg (by decide)]
      have tb := ktop_b hs.2.2.2.2.2.2.2.2.1
      refine ⟨hk.1 0 _ rfl, s11_top hk hR hs (by omega) ?_⟩
      simp only [jq2 (z := ktop (P ++ W)) (rI_of (by omega) (by omega))]
      cases P with
      | nil =>
        have q := k0 rfl
        have hn : ¬ (ktop W = 2 ∨ ktop W = 3) := by
          cases W with
          | nil => decide
          | cons x r => exact fun z => hW (Or.inr ⟨rfl, z⟩)
        rw [if_neg (by show ¬ ktop W = 2; omega)]
        refine s11_top hk hR hs (by omega) ?_
        simp only [jq3 (z := ktop ([] ++ W)) (rI_of (by omega) (by omega))]
        rw [if_neg (by show ¬ ktop W = 3; omega)]
        exact q
      | cons x r =>
        have q := k1 x r rfl
        have ht' : x / 1048576 < 4 ∨ 6 < x / 1048576 := ht
        have hx := hP x (by simp)
        unfold kcn at hx
        by_cases h2 : x / 1048576 = 2
        · rw [if_pos (by exact h2)]; exact q
        · rw [if_neg (by exact h2)]
          refine s11_top hk hR hs (by omega) ?_
          simp only [jq3 (z := ktop (x :: r ++ W)) (rI_of (by omega) (by omega))]
          rw [if_pos (by show x / 1048576 = 3; omega)]
          exact q
  intro P
  induction P with
  | nil =>
    intro W C M hR hs hP hW hl hc K
    have tb := ktop_b hs.2.2.2.2.2.2.2.2.1
    have kk := h17 [] W C M hR hs hP hW hl
    refine h11_closesSums_0 ⟨hk.1 0 _ rfl, s11_top hk hR hs (by omega) ?_⟩
    simp only [jl4 (z := ktop ([] ++ W)) (rI_of (by omega) (by omega))]
    by_cases h : ktop ([] ++ W) < 4
    · rw [if_pos h]; exact kk (Or.inl h) (fun _ => K M hs Eo.rf) (fun x r z => by cases z)
    · rw [if_neg h]
      have h6 : 6 < ktop ([] ++ W) := by
        refine Decidable.byContradiction (fun z => ?_)
        cases W with
        | nil => exact h (by decide)
        | cons x r => exact hW (Or.inl ⟨by have : ¬ x / 1048576 < 4 := h; omega, by have : ¬ 6 < x / 1048576 := z; omega⟩)
      refine s11_top hk hR hs (by omega) ?_
      simp only [je6 (z := ktop ([] ++ W)) (rI_of (by omega) (by omega))]
      rw [if_neg (by omega)]
      exact kk (Or.inr h6) (fun _ => K M hs Eo.rf) (fun x r z => by cases z)
  | cons x r ih =>
    intro W C M hR hs hP hW hl hc K
    have hx := hP x (by simp)
    have hxr := hs.2.2.2.2.2.2.2.2.1 x (by simp)
    unfold rC at hxr
    simp only [List.cons_append, List.length_cons, List.length_append] at hl hc
    have tb := ktop_b hs.2.2.2.2.2.2.2.2.1
    have h37 : H11_closesSums_37 (d + 2) Th Q m (jB all) M := by
      refine h11_closesSums_37 ⟨hk.1 0 _ rfl, s11_top hk hR hs (by simp; omega) ?_⟩
      have e : ktop (x :: r ++ W) = x / 1048576 := rfl
      rw [e, i0]
      refine s11_notes hk hR hs (by omega) ⟨by omega, by omega⟩ ?_
      intro M4 a1 a2 a3
      rw [Int.add_zero] at a1
      obtain ⟨p1, p2⟩ := kst_pop a1 (by show (r ++ W).length < 220; rw [List.length_append]; omega)
      refine ih W _ _ ((krd_rf hR a2).mv rfl) p2 (fun y hy => hP y (by simp [hy])) hW (by rw [List.length_append]; omega) (by simp; omega) ?_
      intro M' b1 b2
      exact K M' b1 ((a2.trans (Eo.rf.ui (Or.inl ⟨rfl, by omega, by omega, by omega⟩))).trans b2)
    have kk := h17 (x :: r) W C M hR hs hP hW (by simp; omega)
    refine h11_closesSums_0 ⟨hk.1 0 _ rfl, s11_top hk hR hs (by simp; omega) ?_⟩
    simp only [jl4 (z := ktop (x :: r ++ W)) (rI_of (by omega) (by omega))]
    by_cases h : ktop (x :: r ++ W) < 4
    · rw [if_pos h]; exact kk (Or.inl h) (fun z => by cases z) (fun _ _ _ => h37)
    · rw [if_neg h]
      refine s11_top hk hR hs (by simp; omega) ?_
      simp only [je6 (z := ktop (x :: r ++ W)) (rI_of (by omega) (by omega))]
      by_cases h6 : ktop (x :: r ++ W) ≤ 6
      · rw [if_pos h6]; exact h37
      · rw [if_neg h6]; exact kk (Or.inr (by omega)) (fun z => by cases z) (fun _ _ _ => h37)
/-- what waits, from the bottom -/
def kent : List Int → Nat → Int
  | [], _ => 0
  | x :: r, k => if k = r.length then x else kent r k
theorem kent_M : ∀ {W : List Int}, stk m W M → ∀ k, k < W.length → M.1 (m + 9) k = jI (kent W k) := by
  intro W
  induction W with
  | nil => intro _ k h; exact absurd h (by simp)
  | cons x r ih =>
    intro h k hk
    unfold kent
    by_cases e : k = r.length
    · rw [if_pos e, e]; exact h.1
    · rw [if_neg e]; exact ih h.2 k (by simp at hk; omega)
theorem kent_in : ∀ {W : List Int}, ∀ k, k < W.length → kent W k ∈ W := by
  intro W
  induction W with
  | nil => intro k h; exact absurd h (by simp)
  | cons x r ih =>
    intro k hk
    unfold kent
    by_cases e : k = r.length
    · rw [if_pos e]; simp
    · rw [if_neg e]; exact List.mem_cons_of_mem _ (ih k (by simp at hk; omega))
/-- a [ is open above the base -/
def khos (W : List Int) (b : Nat) : Prop := ∃ k, b ≤ k ∧ k < W.length ∧ kent W k / 1048576 = 14
theorem s11_hasOpenSum {Q : Int32 → mM → Prop} {b : Nat} (hb : b ≤ 1000) (hk : kOk Th m w L) (hR : RfM m M) (hs : kst m w L i o W C M) (hW : W.length ≤ 219) (k1 : khos W b → Q 1 M) (k0 : ¬ khos W b → Q 0 M) : P11_hasOpenSum (d + 1) Th m (jI b) M Q := by
  obtain ⟨c1, c2, c3, c4, c5, c6, c7, c8, c9, c10⟩ := hs
  have key : ∀ u j : Nat, W.length - j = u → b ≤ j → j ≤ 100000 → (∀ k, b ≤ k → k < j → ¬ kent W k / 1048576 = 14) → H11_hasOpenSum_2 (d + 1) Th Q m (jI j) M := by
    intro u
    induction u with
    | zero =>
      intro j hj hb hj2 hno
      refine h11_hasOpenSum_2 ⟨hk.1 0 _ rfl, ?_⟩
      rw [if_pos (by rw [c5, jIle (rI_nat (by omega)) (rI_nat (by omega))]; omega)]
      exact k0 (fun ⟨k, h1, h2, h3⟩ => hno k h1 (by omega) h3)
    | succ u ih =>
      intro j hj hb hj2 hno
      refine h11_hasOpenSum_2 ⟨hk.1 0 _ rfl, ?_⟩
      rw [if_neg (by rw [c5, jIle (rI_nat (by omega)) (rI_nat (by omega))]; omega)]
      refine ⟨m + 9, hR 0 23 9 (by decide), m_ok_jI (hk.1 9 _ rfl) (by omega) (by omega) (by omega), ?_⟩
      have hx := c9 _ (kent_in j (by omega))
      unfold rC at hx
      rw [jInatN j (by omega), kent_M c6 j (by omega), iU, jI_div (by omega) (by omega) (by omega) (by omega)]
      simp only [jq14 (z := kent W j / 1048576) (rI_of (by omega) (by omega))]
      by_cases h : kent W j / 1048576 = 14
      · rw [if_pos h]
        exact k1 ⟨j, hb, by omega, h⟩
      · rw [if_neg h, i1, jI_add]
        exact ih (j + 1) (by omega) (by omega) (by omega) (fun k h1 h2 => by
          by_cases e : k = j
          · rw [e]; exact h
          · exact hno k h1 (by omega))
  refine e11_hasOpenSum ?_
  exact key _ b rfl (Nat.le_refl _) (by omega) (fun k h1 h2 => absurd h2 (by omega))
/-! ===== a factor, a product, a sum ===== -/
/-- how many codes wait -/
def kwg : List Int → Nat
  | [] => 0
  | x :: r => (if (2 ≤ x / 1048576 ∧ x / 1048576 ≤ 6) ∨ x / 1048576 = 10 then 1 else 0) + kwg r
theorem kwg_app (P W : List Int) : kwg (P ++ W) = kwg P + kwg W := by
  induction P with
  | nil => simp [kwg]
  | cons x r ih => simp only [List.cons_append, kwg]; omega
/-- what there is room for -/
def kbd (i : Nat) (W C : List Int) : Prop := W.length ≤ i ∧ C.length + kwg W ≤ i ∧ i ≤ 201
theorem kfl_len : ∀ (P C : List Int), (kfl C P).length = C.length + P.length := by
  intro P
  induction P with
  | nil => intro C; rfl
  | cons x r ih => intro C; unfold kfl; rw [ih]; simp; omega
theorem kfl_app : ∀ (P C D : List Int), kfl (C ++ D) P = C ++ kfl D P := by
  intro P
  induction P with
  | nil => intro C D; rfl
  | cons x r ih => intro C D; unfold kfl; rw [List.append_assoc, ih]
theorem kfl_two : ∀ (P R C : List Int), kfl C (P ++ R) = kfl (kfl C P) R := by
  intro P
  induction P with
  | nil => intro R C; rfl
  | cons x r ih => intro R C; simp only [List.cons_append, kfl]; exact ih R _
theorem kcn_wg {P : List Int} (h : ∀ x, x ∈ P → kcn true x) : kwg P = P.length := by
  induction P with
  | nil => rfl
  | cons x r ih =>
    have hx := h x (by simp)
    unfold kcn at hx
    unfold kwg
    rw [ih (fun y hy => h y (by simp [hy])), if_pos (by left; rcases hx with z | z <;> omega)]
    simp; omega
end LN
