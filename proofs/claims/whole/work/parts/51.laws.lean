/-! ===== conditions, as the model reads them ===== -/
section LS
variable {d : Nat} {Th : mT} {M : mM} {m : Nat} {w : Nat → Int} {L : Nat} {i o : Nat} {W C : List Int}
/-- a jump that waits, and lands now -/
def kjn (all : Bool) (x : Int) : Prop := x / 1048576 = 11 ∨ (all = true ∧ x / 1048576 = 12)
def kjo (C : List Int) (x : Int) : List Int := C.set (x % 1048576).toNat (1048576 * (C.getD (x % 1048576).toNat 0 / 1048576) + (C.length : Int))
def kfj (C : List Int) : List Int → List Int
  | [] => C
  | x :: r => kfj (kjo C x) r
def kjt (all : Bool) (W : List Int) : Prop := match W with | [] => True | x :: _ => ¬ kjn all x
theorem kjo_len (C : List Int) (x : Int) : (kjo C x).length = C.length := by unfold kjo; simp
theorem kfj_len : ∀ (P C : List Int), (kfj C P).length = C.length := by
  intro P
  induction P with
  | nil => intro C; rfl
  | cons x r ih => intro C; unfold kfj; rw [ih, kjo_len]
theorem kfj_two : ∀ (P R C : List Int), kfj C (P ++ R) = kfj (kfj C P) R := by
  intro P
  induction P with
  | nil => intro R C; rfl
  | cons x r ih => intro R C; simp only [List.cons_append, kfj]; exact ih R _
theorem lset (A B : List Int) (x y : Int) : (A ++ [x] ++ B).set A.length y = A ++ [y] ++ B := by
  induction A with
  | nil => rfl
  | cons a t ih => simp only [List.cons_append, List.length_cons, List.set_cons_succ]; rw [ih]
theorem lgetD (A B : List Int) (x : Int) : (A ++ [x] ++ B).getD A.length 0 = x := by
  induction A with
  | nil => rfl
  | cons a t ih => simp only [List.cons_append, List.length_cons, List.getD_cons_succ]; exact ih
theorem lget_M {k : Nat} (h : ∀ k x, C[k]? = some x → M.1 (m + 8) k = jI x) (hk : k < C.length) : M.1 (m + 8) k = jI (C.getD k 0) := by
  have e : C[k]? = some C[k] := List.getElem?_eq_getElem hk
  rw [h k _ e, List.getD_eq_getElem?_getD, e]
  rfl
/-- one jump lands -/
theorem s11_land1 {Q : mM → Prop} {x : Int} {all : Bool} (hk : kOk Th m w L) (hR : RfM m M) (hs : kst m w L i o (x :: W) C M) (hW : W.length < 219) (hC : C.length ≤ 210) (hx : (x % 1048576).toNat < C.length)
    (k : ∀ M', RfM m M' → kst m w L i o W (kjo C x) M' → Eo (krd m) M M' → H11_lands_0 (d + 1) Th Q m (jB all) M') : H11_lands_22 (d + 1) Th Q m (jB all) M := by
  have hs' := hs
  obtain ⟨c1, c2, c3, c4, c5, c6, c7, c8, c9, c10⟩ := hs
  have hxr := c9 x (by simp)
  unfold rC at hxr
  have e5 : M.1 m 18 - 1 = jI W.length := (kst_pop hs' (by omega)).1
  refine h11_lands_22 ⟨hk.1 0 _ rfl, m + 9, hR 0 23 9 (by decide), by rw [e5]; exact m_ok_jI (hk.1 9 _ rfl) (by omega) (by omega) (by omega), ?_⟩
  intro xv5 h5
  rw [e5, jInatN _ (by omega), c6.1, iU, jI_rem (by omega) (by omega) (by omega) (by omega)] at h5
  have hm : 0 ≤ x % 1048576 := by omega
  have gC : M.1 (m + 8) (x % 1048576).toNat = jI (C.getD (x % 1048576).toNat 0) := lget_M c7 hx
  have hgr : rC (C.getD (x % 1048576).toNat 0) := by
    rw [List.getD_eq_getElem?_getD, List.getElem?_eq_getElem hx]
    exact c10 _ (List.getElem_mem hx)
  unfold rC at hgr
  refine ⟨m + 8, hR 0 22 8 (by decide), by rw [h5]; exact m_ok_jI (hk.1 8 _ rfl) (by omega) (by omega) (by omega), by rw [h5]; exact m_okw_jI (hk.1 8 _ rfl) (by omega) (by omega) (by omega), ?_⟩
  intro M10 h10
  rw [h5, jInat (rI_of' (by omega) (by omega)), gC, iU, jI_div (by omega) (by omega) (by omega) (by omega), jI_mul, c4, jI_add] at h10
  have g18 : M10.1 m 18 = jI ((x :: W).length) := by rw [h10]; simp [m_u, c5]
  rw [g18, i1, jI_sub, show (((x :: W).length : Nat) : Int) - 1 = (W.length : Int) by simp only [List.length_cons]; omega]
  refine k _ ?_ ?_ ?_
  · rw [h10]; exact hR.mv rfl
  · rw [h10]
    refine ⟨by simp [m_u, c1], by simp [m_u, c2], by simp [m_u, c3], ?_, by simp [m_u], stk_mv (M := M) (fun j _ => by simp [m_u]) c6.2, fun j z hz => ?_, fun j hj => by simp [m_u, c8 j hj], fun z hz => c9 z (List.mem_cons_of_mem _ hz), fun z hz => ?_⟩
    · rw [kjo_len]; simp [m_u, c4]
    · unfold kjo at hz
      by_cases e : j = (x % 1048576).toNat
      · subst e
        rw [List.getElem?_set_self hx] at hz
        simp at hz
        simp [m_u, ← hz]
      · rw [List.getElem?_set_ne (Ne.symm e)] at hz
        simp [m_u, e, c7 j z hz]
    · unfold kjo at hz
      rcases List.mem_or_eq_of_mem_set hz with h | h
      · exact c10 z h
      · rw [h]; unfold rC; omega
  · rw [h10]
    exact (Eo.rf.ui (Or.inr (Or.inl rfl))).ui (Or.inl ⟨rfl, by omega, by omega, by omega⟩)
theorem s11_lands {Q : mM → Prop} {all : Bool} (hk : kOk Th m w L) : ∀ (P W C : List Int) (M : mM), RfM m M → kst m w L i o (P ++ W) C M → (∀ x, x ∈ P → kjn all x ∧ (x % 1048576).toNat < C.length) → kjt all W → (P ++ W).length ≤ 210 → C.length ≤ 210 →
    (∀ M', kst m w L i o W (kfj C P) M' → Eo (krd m) M M' → Q M') → H11_lands_0 (d + 2) Th Q m (jB all) M := by
  intro P
  induction P with
  | nil =>
    intro W C M hR hs hP hW hl hC K
    have tb := ktop_b hs.2.2.2.2.2.2.2.2.1
    refine h11_lands_0 ⟨hk.1 0 _ rfl, s11_top hk hR hs (by omega) ?_⟩
    simp only [jq11 (z := ktop ([] ++ W)) (rI_of (by omega) (by omega))]
    have n11 : ¬ ktop ([] ++ W) = 11 := by
      cases W with
      | nil => decide
      | cons x r => exact fun z => hW (Or.inl z)
    rw [if_neg n11]
    cases all with
    | false => rw [if_pos (show jB false = 0 from rfl)]; exact K M hs Eo.rf
    | true =>
      rw [if_neg (by decide)]
      refine s11_top hk hR hs (by omega) ?_
      simp only [jq12 (z := ktop ([] ++ W)) (rI_of (by omega) (by omega))]
      have n12 : ¬ ktop ([] ++ W) = 12 := by
        cases W with
        | nil => decide
        | cons x r => exact fun z => hW (Or.inr ⟨rfl, z⟩)
      rw [if_neg n12]
      exact K M hs Eo.rf
  | cons x r ih =>
    intro W C M hR hs hP hW hl hC K
    have hx := hP x (by simp)
    simp only [List.cons_append, List.length_cons, List.length_append] at hl
    have tb := ktop_b hs.2.2.2.2.2.2.2.2.1
    have h22 : H11_lands_22 (d + 2) Th Q m (jB all) M := by
      refine s11_land1 (d := d + 1) (W := r ++ W) hk hR hs (by rw [List.length_append]; omega) hC hx.2 ?_
      intro M' r1 r2 r3
      refine ih W _ M' r1 r2 (fun y hy => by rw [kjo_len]; exact hP y (by simp [hy])) hW (by rw [List.length_append]; omega) (by rw [kjo_len]; exact hC) ?_
      intro M2 t1 t2
      exact K M2 t1 (r3.trans t2)
    refine h11_lands_0 ⟨hk.1 0 _ rfl, s11_top hk hR hs (by simp; omega) ?_⟩
    simp only [jq11 (z := ktop (x :: r ++ W)) (rI_of (by omega) (by omega))]
    by_cases h11 : ktop (x :: r ++ W) = 11
    · rw [if_pos h11]; exact h22
    · rw [if_neg h11]
      have hx' : all = true ∧ x / 1048576 = 12 := hx.1.resolve_left h11
      rw [hx'.1, if_neg (by decide)]
      refine s11_top hk hR hs (by simp; omega) ?_
      simp only [jq12 (z := ktop (x :: r ++ W)) (rI_of (by omega) (by omega))]
      rw [if_pos (show ktop (x :: r ++ W) = 12 from hx'.2)]
      rw [hx'.1] at h22
      exact h22
/-- a jump begins -/
theorem s11_jumps {Q : mM → Prop} {x : Int} (hk : kOk Th m w L) (hR : RfM m M) (hs : kst m w L i o W C M) (hW : W.length < 219) (hC : C.length ≤ 210) (hx : x = 11 ∨ x = 12)
    (k : ∀ M', kst m w L (i + 1) o ((1048576 * x + (C.length : Int)) :: W) (C ++ [1048576 * x]) M' → Eo (krd m) M M' → Q M') : P11_jumps (d + 2) Th m (jI x) M Q := by
  have hs' := hs
  obtain ⟨c1, c2, c3, c4, c5, c6, c7, c8, c9, c10⟩ := hs
  refine e11_jumps ⟨hk.1 0 _ rfl, m + 9, hR 0 23 9 (by decide), by rw [c5]; exact m_okw_jI (hk.1 9 _ rfl) (by omega) (by omega) (by omega), ?_⟩
  intro M5 h5
  rw [c5, jInatN _ (by omega), iU, jI_mul, c4, jI_add] at h5
  have g18 : M5.1 m 18 = jI W.length := by rw [h5]; simp [m_u, c5]
  rw [g18, i1, jI_add]
  have s5 : kst m w L i o ((1048576 * x + (C.length : Int)) :: W) C (m_ui M5 m 18 (jI ((W.length : Int) + 1))) := by
    rw [h5]
    refine ⟨by simp [m_u, c1], by simp [m_u, c2], by simp [m_u, c3], by simp [m_u, c4], by simp [m_u], ⟨by simp [m_u], stk_mv (M := M) (fun j hj => by simp [m_u]; intro z; omega) c6⟩, fun j z hz => by simp [m_u, c7 j z hz], fun j hj => by simp [m_u, c8 j hj], fun z hz => ?_, c10⟩
    rcases List.mem_cons.mp hz with h | h
    · rw [h]; unfold rC; omega
    · exact c9 z h
  have hR5 : RfM m (m_ui M5 m 18 (jI ((W.length : Int) + 1))) := by rw [h5]; exact hR.mv rfl
  rw [i0]
  refine s11_notes hk hR5 s5 (by omega) ⟨by omega, by omega⟩ ?_
  intro M6 a1 a2 a3
  rw [Int.add_zero] at a1
  rw [a1.1, jI_add, show (i : Int) + 1 = ((i + 1 : Nat) : Int) by omega]
  refine k _ (kst_place a1) ?_
  have e5 : Eo (krd m) M (m_ui M5 m 18 (jI ((W.length : Int) + 1))) := by
    rw [h5]
    exact (Eo.rf.ui (Or.inr (Or.inr rfl))).ui (Or.inl ⟨rfl, by omega, by omega, by omega⟩)
  exact (e5.trans a2).trans (Eo.rf.ui (Or.inl ⟨rfl, by omega, by omega, by omega⟩))
end LS
