/-! ===== clauses and the text, as the model reads them ===== -/
section LV
variable {d : Nat} {Th : mT} {M : mM} {m : Nat} {w : Nat → Int} {L : Nat} {i o : Nat} {W C : List Int}
theorem kst_zero (hs : kst m w L i o W C M) : kst m w L i 0 [] C (m_ui (m_ui M m 16 0) m 18 0) := by
  obtain ⟨c1, c2, c3, c4, c5, c6, c7, c8, c9, c10⟩ := hs
  exact ⟨by simp [m_u, c1], by simp [m_u, c2], by simp [m_u]; rfl, by simp [m_u, c4], by simp [m_u]; rfl, trivial, fun j z hz => by simp [m_u, c7 j z hz], fun j hj => by simp [m_u, c8 j hj], fun z hz => (by cases hz), c10⟩
theorem s11_readsCondition {Q : Int32 → mM → Prop} (hk : kOk Th m w L) (hR : RfM m M) (hs : kst m w L i o W C M) (hc : C.length ≤ i) (hi : i ≤ 201)
    (k1 : lsg w L i = 40 → (lanyo w L (lpie w L 5) (i + 1) C.length).1.2 = 0 → lsg w L (lanyo w L (lpie w L 5) (i + 1) C.length).1.1 = 41 → ∀ M', kst m w L ((lanyo w L (lpie w L 5) (i + 1) C.length).1.1 + 1) 0 [] (C ++ (lanyo w L (lpie w L 5) (i + 1) C.length).2.1) M' → Eo (krd m) M M' → Q 1 M')
    (k0 : ∀ M' p, (p = if lsg w L i ≠ 40 then (i, 1) else if (lanyo w L (lpie w L 5) (i + 1) C.length).1.2 ≠ 0 then (lanyo w L (lpie w L 5) (i + 1) C.length).1 else ((lanyo w L (lpie w L 5) (i + 1) C.length).1.1, 1)) → (lsg w L i = 40 → (lanyo w L (lpie w L 5) (i + 1) C.length).1.2 = 0 → lsg w L (lanyo w L (lpie w L 5) (i + 1) C.length).1.1 ≠ 41) → kfa m p M' → Eo (krd m) M M' → Q 0 M') : P11_readsCondition (d + 8) Th m M Q := by
  have hL := hk.2.1
  have hgb := lsg_b (w := w) (L := L) (i := i) hk.2.2
  refine e11_readsCondition ⟨hk.1 0 _ rfl, s11_here hk hR hs (by omega) ?_⟩
  simp only [jq40 (z := lsg w L i) (rI_of (by omega) (by omega))]
  by_cases h40 : lsg w L i = 40
  rotate_left
  · rw [if_neg h40, hs.1, i1]
    refine s11_wrong hk ⟨mb0, ?_⟩
    refine k0 _ (i, 1) (by rw [if_pos h40]) (fun z => absurd z h40) ?_ (Eo.rf.ui (Or.inl ⟨rfl, by omega, by omega, by omega⟩))
    unfold kfa
    simp only [m_u_eq]
    rfl
  rw [if_pos h40]
  intro M4 h4
  subst h4
  have hiL : i < L := lsg_in (w := w) (by omega)
  have hRz : RfM m (m_ui (m_ui M m 16 0) m 18 0) := hR.mv rfl
  have hez : Eo (krd m) M (m_ui (m_ui M m 16 0) m 18 0) := (Eo.rf.ui (Or.inl ⟨rfl, by omega, by omega, by omega⟩)).ui (Or.inl ⟨rfl, by omega, by omega, by omega⟩)
  rw [kI13]
  refine s11_opens (o := 0) hk hRz (kst_zero hs) (by simp) (by omega) (by omega) ⟨by omega, by omega⟩ (fun z => absurd z (by omega)) ?_
  intro _ M5 a1 a2
  rw [if_neg (by decide)]
  have hR5 := krd_rf hRz a2
  have e5 := hez.trans a2
  refine (kPieces (d := d) hk 5 (by omega)).2 (i + 1) [1048576 * 13] C M5 Q hR5 a1 ⟨by simp, by simp only [kwg]; rw [if_neg (by omega)]; omega, by omega⟩ (by show (7 : Int) ≤ 1048576 * 13 / 1048576; decide) (by simp) (by show (1048576 * 13 / 1048576 : Int) ≠ 10; decide) (by show (1048576 * 13 / 1048576 : Int) ≠ 11; decide) (by show (1048576 * 13 / 1048576 : Int) ≠ 12; decide) ?_ ?_
  · intro f0 M' P C' hP t1 tf t2 t3
    have out := lanyo_out hL (lGd_pie (w := w) (L := L) 5) (i + 1) C.length f0
    generalize lanyo w L (lpie w L 5) (i + 1) C.length = R at *
    refine kH92_close (o := 0) hk (krd_rf hR5 t3) t1 t2 out hP ?_ ?_
    · intro h41 M2 u1 u2 u3
      rw [tf] at u1
      exact ⟨fun _ => k1 h40 f0 h41 M2 u1 ((e5.trans t3).trans u3), fun z => absurd rfl z⟩
    · intro h41 M2 u1 u2
      exact k0 M2 (R.1.1, 1) (by rw [if_neg (by omega), if_neg (by omega)]) (fun _ _ => h41) u1 ((e5.trans t3).trans u2)
  · intro f0 M' t1 t2
    exact k0 M' _ (by rw [if_neg (by omega), if_pos f0]) (fun _ z => absurd z f0) t1 (e5.trans t2)
/-- what a clause begins with -/
def kwk (m : Nat) (w : Nat → Int) (L i : Nat) (C : List Int) (M : mM) : Prop := M.1 m 13 = jI i ∧ M.1 m 14 = jI L ∧ M.1 m 17 = jI C.length ∧ (∀ k x, C[k]? = some x → M.1 (m + 8) k = jI x) ∧ (∀ k, k < L → M.1 (m + 7) k = jI (sB (w k))) ∧ ∀ x, x ∈ C → rC x
theorem kst.wk (h : kst m w L i o W C M) : kwk m w L i C M := ⟨h.1, h.2.1, h.2.2.2.1, h.2.2.2.2.2.2.1, h.2.2.2.2.2.2.2.1, h.2.2.2.2.2.2.2.2.2⟩
theorem kwk_zero (hs : kwk m w L i C M) : kst m w L i 0 [] C (m_ui (m_ui M m 16 0) m 18 0) := by
  obtain ⟨c1, c2, c4, c7, c8, c10⟩ := hs
  exact ⟨by simp [m_u, c1], by simp [m_u, c2], by simp [m_u]; rfl, by simp [m_u, c4], by simp [m_u]; rfl, trivial, fun j z hz => by simp [m_u, c7 j z hz], fun j hj => by simp [m_u, c8 j hj], fun z hz => (by cases hz), c10⟩
theorem kwk_place {j : Nat} (hs : kwk m w L i C M) : kwk m w L j C (m_ui M m 13 (jI j)) := by
  obtain ⟨c1, c2, c4, c7, c8, c10⟩ := hs
  exact ⟨by simp [m_u], by simp [m_u, c2], by simp [m_u, c4], fun j z hz => by simp [m_u, c7 j z hz], fun j hj => by simp [m_u, c8 j hj], c10⟩
theorem kwk_arr {a k : Nat} {x : Int32} (ha : m + 10 ≤ a) (hs : kwk m w L i C M) : kwk m w L i C (m_ui M a k x) := by
  obtain ⟨c1, c2, c4, c7, c8, c10⟩ := hs
  have n0 : m ≠ a := by omega
  have n7 : m + 7 ≠ a := by omega
  have n8 : m + 8 ≠ a := by omega
  exact ⟨by simp [m_u, c1, n0], by simp [m_u, c2, n0], by simp [m_u, c4, n0], fun j z hz => by simp [m_u, c7 j z hz, n8], fun j hj => by simp [m_u, c8 j hj, n7], c10⟩
theorem s11_here' {Q : Int32 → mM → Prop} (hk : kOk Th m w L) (hR : RfM m M) (hs : kwk m w L i C M) (hi : i ≤ 300) (k : Q (jI (lsg w L i)) M) : P11_here (d + 1) Th m M Q := by
  obtain ⟨hT, hL, hw⟩ := hk
  obtain ⟨c1, c2, c4, c7, c8, c10⟩ := hs
  refine e11_here ⟨hT 0 _ rfl, ?_⟩
  unfold lsg at k
  by_cases h : i < L
  · rw [if_pos h] at k
    rw [if_neg (by rw [c1, c2, jIle (rI_nat (by omega)) (rI_nat (by omega))]; omega)]
    refine ⟨m + 7, hR 0 11 7 (by decide), by rw [c1]; exact m_ok_jI (hT 7 _ rfl) (by omega) (by omega) (by omega), ?_⟩
    rw [c1, jInatN _ (by omega), c8 i h, sB_and' (hw i)]
    exact k
  · rw [if_neg h] at k
    rw [if_pos (by rw [c1, c2, jIle (rI_nat (by omega)) (rI_nat (by omega))]; omega)]
    exact k
/-- the clauses read: letters, from where, half, to where in the codes -/
abbrev kT : Type := Int × Nat × Nat × Nat
def ktb (m : Nat) (T : List kT) (M : mM) : Prop := M.1 m 19 = jI T.length ∧ ∀ j t, T[j]? = some t → M.1 (m + 10) j = jI t.1 ∧ M.1 (m + 11) j = jI t.2.1 ∧ M.1 (m + 12) j = jI t.2.2.1 ∧ M.1 (m + 13) j = jI t.2.2.2
theorem ktb.mv {T : List kT} {M' : mM} (h : ktb m T M) (he : Eo (krd m) M M') : ktb m T M' := by
  refine ⟨((he _ _ (by unfold krd; omega)).1).trans h.1, fun j t hj => ?_⟩
  have g := h.2 j t hj
  exact ⟨((he _ _ (by unfold krd; omega)).1).trans g.1, ((he _ _ (by unfold krd; omega)).1).trans g.2.1, ((he _ _ (by unfold krd; omega)).1).trans g.2.2.1, ((he _ _ (by unfold krd; omega)).1).trans g.2.2.2⟩
/-- the reader's cells and the tables' -/
def krt (m : Nat) : Nat → Nat → Prop := fun q k => (q = m ∧ 13 ≤ k ∧ k ≤ 20) ∨ (m + 8 ≤ q ∧ q ≤ m + 13)
theorem krd_t {m : Nat} : ∀ q k, krd m q k → krt m q k := fun q k h => by
  unfold krd at h
  unfold krt
  omega
theorem krt_rf {m : Nat} {M M' : mM} (h : RfM m M) (he : Eo (krt m) M M') : RfM m M' := by
  intro o k v hv
  by_cases c : krt m (m + o) k
  · exfalso
    have : (o = 0 ∧ 13 ≤ k ∧ k ≤ 20) ∨ (8 ≤ o ∧ o ≤ 13) := by unfold krt at c; omega
    simp [rsM] at hv
    omega
  · rw [(he _ _ c).2.2]; exact h o k v hv
theorem kst_arr {a k : Nat} {x : Int32} (ha : m + 10 ≤ a) (hs : kst m w L i o W C M) : kst m w L i o W C (m_ui M a k x) := by
  obtain ⟨c1, c2, c3, c4, c5, c6, c7, c8, c9, c10⟩ := hs
  have n0 : m ≠ a := by omega
  have n7 : m + 7 ≠ a := by omega
  have n8 : m + 8 ≠ a := by omega
  have n9 : m + 9 ≠ a := by omega
  exact ⟨by simp [m_u, c1, n0], by simp [m_u, c2, n0], by simp [m_u, c3, n0], by simp [m_u, c4, n0], by simp [m_u, c5, n0], stk_mv (M := M) (fun j _ => by simp [m_u, n9]) c6, fun j z hz => by simp [m_u, c7 j z hz, n8], fun j hj => by simp [m_u, c8 j hj, n7], c9, c10⟩
theorem lcl_code {n c : Nat} (h : (lcl w L i n c).1.2 = 0) : (lcl w L i n c).2.2.1.1 = (lcE w L i c).2.1 ∧ (lcl w L i n c).2.2.2.1 = (lcC w L i c).2.1 := by
  have G := (lcl_gd h).2.2.2.2.2.2.2.2.2.1
  rw [G]
  exact ⟨rfl, rfl⟩
set_option maxHeartbeats 1000000 in
theorem s11_readsClause {Q : Int32 → mM → Prop} {T : List kT} (hk : kOk Th m w L) (hR : RfM m M) (hs : kwk m w L i C M) (hc : C.length ≤ i) (hi : i ≤ 201) (hT : ktb m T M) (hn : T.length ≤ 14)
    (k1 : (lcl w L i T.length C.length).1.2 = 0 → ∀ M', kst m w L (lcl w L i T.length C.length).1.1 0 [] (C ++ ((lcl w L i T.length C.length).2.2.1.1 ++ (lcl w L i T.length C.length).2.2.2.1)) M' → ktb m (T ++ [((lcl w L i T.length C.length).2.1, C.length, C.length + (lcl w L i T.length C.length).2.2.1.1.length, C.length + lcn (lcl w L i T.length C.length))]) M' → Eo (krt m) M M' → Q 1 M')
    (k0 : (lcl w L i T.length C.length).1.2 ≠ 0 → ∀ M', kfa m (lcl w L i T.length C.length).1 M' → Eo (krt m) M M' → Q 0 M') : P11_readsClause (d + 9) Th m M Q := by
  have hL := hk.2.1
  have hgb := lsg_b (w := w) (L := L) (i := i) hk.2.2
  have rg : rI (lsg w L i) := rI_of (by omega) (by omega)
  have h27 : (lsg w L i = 115 ∨ lsg w L i = 101) → H11_readsClause_27 (d + 9) Th Q m (jI (lsg w L i)) M := by
    intro hg
    have hiL : i < L := lsg_in (w := w) (by omega)
    refine h11_readsClause_27 ⟨hk.1 0 _ rfl, ?_⟩
    by_cases h14 : T.length = 14
    · rw [if_pos (by rw [hT.1, h14]; rfl), hs.1, i4]
      refine s11_wrong hk ⟨mb0, ?_⟩
      have e : (lcl w L i T.length C.length).1 = (i, 4) := lcl_m hg (by omega)
      rw [e] at k0
      refine k0 (by show (4 : Nat) ≠ 0; omega) _ ?_ (Eo.rf.ui (Or.inl ⟨rfl, by omega, by omega⟩))
      unfold kfa
      simp only [m_u_eq]
      rfl
    rw [if_neg (by rw [hT.1, jq14 (rI_nat (by omega))]; omega)]
    have hT1 := hT.1
    refine ⟨m + 10, hR 0 24 10 (by decide), by rw [hT1]; exact m_okw_jI (hk.1 10 _ rfl) (by omega) (by omega) (by omega), ?_⟩
    intro M7 h7
    rw [hT1, jInatN _ (by omega)] at h7
    refine ⟨m + 11, hR 0 25 11 (by decide), ?_⟩
    intro M10 h10
    have g13 : M7.1 m 13 = jI i := by rw [h7]; simp [m_u, hs.1]
    rw [g13, i1, jI_add, show (i : Int) + 1 = ((i + 1 : Nat) : Int) by omega] at h10
    have g19 : M10.1 m 19 = jI T.length := by rw [h10, h7]; simp [m_u, hT1]
    refine ⟨by rw [g19]; exact m_okw_jI (hk.1 11 _ rfl) (by omega) (by omega) (by omega), ?_⟩
    intro M12 h12 M13 h13
    have g17 : M10.1 m 17 = jI C.length := by rw [h10, h7]; simp [m_u, hs.2.2.1]
    rw [g19, g17, jInatN _ (by omega)] at h12
    have s7 : kwk m w L i C M7 := by rw [h7]; exact kwk_arr (by omega) hs
    have s10 : kwk m w L (i + 1) C M10 := by rw [h10]; exact kwk_place s7
    have s12 : kwk m w L (i + 1) C M12 := by rw [h12]; exact kwk_arr (by omega) s10
    have s13 : kst m w L (i + 1) 0 [] C (m_ui M13 m 18 0) := by rw [h13]; exact kwk_zero s12
    have hR13 : RfM m (m_ui M13 m 18 0) := by rw [h13, h12, h10, h7]; exact hR.mv rfl
    have e13 : Eo (krt m) M (m_ui M13 m 18 0) := by
      rw [h13, h12, h10, h7]
      exact ((((Eo.rf.ui (Or.inr ⟨by omega, by omega⟩)).ui (Or.inl ⟨rfl, by omega, by omega⟩)).ui (Or.inr ⟨by omega, by omega⟩)).ui (Or.inl ⟨rfl, by omega, by omega⟩)).ui (Or.inl ⟨rfl, by omega, by omega⟩)
    have t13 : (m_ui M13 m 18 0).1 m 19 = jI T.length ∧ (∀ j t, T[j]? = some t → (m_ui M13 m 18 0).1 (m + 10) j = jI t.1 ∧ (m_ui M13 m 18 0).1 (m + 11) j = jI t.2.1 ∧ (m_ui M13 m 18 0).1 (m + 12) j = jI t.2.2.1 ∧ (m_ui M13 m 18 0).1 (m + 13) j = jI t.2.2.2) ∧ (m_ui M13 m 18 0).1 (m + 10) T.length = jI (lsg w L i) ∧ (m_ui M13 m 18 0).1 (m + 11) T.length = jI C.length := by
      rw [h13, h12, h10, h7]
      refine ⟨by simp [m_u, hT1], fun j t hj => ?_, by simp [m_u], by simp [m_u]⟩
      have hjl : j < T.length := (List.getElem?_eq_some_iff.mp hj).1
      have g := hT.2 j t hj
      have nj : j ≠ T.length := by omega
      simp [m_u, nj, g]
    generalize m_ui M13 m 18 0 = M14 at s13 hR13 e13 t13 ⊢
    obtain ⟨u1, u2, u3, u4⟩ := t13
    have kb : kbd (i + 1) [] C := ⟨by simp, by simp only [kwg]; omega, by omega⟩
    have hEq : lcl w L i T.length C.length = lcl w L i T.length C.length := rfl
    refine s11_readsSum (d := d + 3) (k := 6) hk (by omega) hR13 s13 kb trivial ?_ ?_
    · intro f0 M15 a1 a2 a3
      have f0' : (lcE w L i C.length).1.2 = 0 := f0
      have a1' : kst m w L (lcE w L i C.length).1.1 0 [] (C ++ (lcE w L i C.length).2.1) M15 := a1
      rw [if_neg (by decide)]
      have hR15 := krd_rf hR13 a3
      have v19 : M15.1 m 19 = jI T.length := ((a3 _ _ (by unfold krd; omega)).1).trans u1
      refine ⟨m + 12, hR15 0 26 12 (by decide), by rw [v19]; exact m_okw_jI (hk.1 12 _ rfl) (by omega) (by omega) (by omega), ?_⟩
      rw [v19, a1'.2.2.2.1, jInatN _ (by omega)]
      have gE := lGd_sum (w := w) (L := L) 6 (i + 1) C.length f0
      have hcl : (C ++ (lcE w L i C.length).2.1).length = C.length + (lcE w L i C.length).2.1.length := by simp
      rw [hcl]
      have s16 : kst m w L (lcE w L i C.length).1.1 0 [] (C ++ (lcE w L i C.length).2.1) (m_ui M15 (m + 12) T.length (jI ((C.length + (lcE w L i C.length).2.1.length : Nat) : Int))) := kst_arr (by omega) a1'
      have gE' : i + 1 < (lcE w L i C.length).1.1 ∧ (lcE w L i C.length).1.1 ≤ L ∧ i + 1 + (lcE w L i C.length).2.1.length ≤ (lcE w L i C.length).1.1 ∧ _ := gE
      refine s11_readsCondition (d := d) hk (hR15.mv rfl) s16 (by rw [hcl]; omega) (by omega) ?_ ?_
      · intro q1 q2 q3 M19 b1 b2
        rw [hcl] at q2 q3 b1
        have q2' : (lcC w L i C.length).1.2 = 0 := q2
        have q3' : lsg w L (lcC w L i C.length).1.1 = 41 := q3
        have b1' : kst m w L ((lcC w L i C.length).1.1 + 1) 0 [] (C ++ (lcE w L i C.length).2.1 ++ (lcC w L i C.length).2.1) M19 := b1
        rw [if_neg (by decide)]
        have e19 : Eo (krt m) M M19 := ((e13.trans (a3.mono krd_t)).trans (Eo.rf.ui (Or.inr ⟨by omega, by omega⟩))).trans (b2.mono krd_t)
        have hR19 := krt_rf hR e19
        have x19 : M19.1 m 19 = jI T.length := ((b2 _ _ (by unfold krd; omega)).1).trans (by simp [m_u, v19])
        refine ⟨m + 13, hR19 0 27 13 (by decide), by rw [x19]; exact m_okw_jI (hk.1 13 _ rfl) (by omega) (by omega) (by omega), ?_⟩
        intro M24 h24
        rw [x19, b1'.2.2.2.1, jInatN _ (by omega)] at h24
        have y19 : M24.1 m 19 = jI T.length := by rw [h24]; simp [m_u, x19]
        rw [y19, i1, jI_add]
        have hlclEq : lcl w L i T.length C.length = (((lcC w L i C.length).1.1 + 1, 0), lsg w L i, (lcE w L i C.length).2, (lcC w L i C.length).2) := by
          unfold lcl
          rw [if_neg (by omega), if_neg (by omega), if_neg (by omega), if_neg (fun z => z q1), if_neg (by omega), if_neg (fun z => z q3')]
        have hlen3 : (C ++ (lcE w L i C.length).2.1 ++ (lcC w L i C.length).2.1).length = C.length + ((lcE w L i C.length).2.1.length + (lcC w L i C.length).2.1.length) := by simp
        rw [hlclEq] at k1
        refine k1 rfl _ ?_ ?_ ?_
        · rw [← List.append_assoc]
          refine kst_fld (k := 19) (Or.inr (Or.inr rfl)) ?_
          rw [h24]
          exact kst_arr (by omega) b1'
        · refine ⟨by simp [m_u], fun j t hj => ?_⟩
          rw [h24]
          by_cases ej : j = T.length
          · subst ej
            rw [List.getElem?_append_right (Nat.le_refl _)] at hj
            simp only [Nat.sub_self, List.getElem?_cons_zero, Option.some.injEq] at hj
            rw [← hj]
            have p10 : M19.1 (m + 10) T.length = jI (lsg w L i) := ((b2 _ _ (by unfold krd; omega)).1).trans (by simp [m_u]; exact ((a3 _ _ (by unfold krd; omega)).1).trans u3)
            have p11 : M19.1 (m + 11) T.length = jI C.length := ((b2 _ _ (by unfold krd; omega)).1).trans (by simp [m_u]; exact ((a3 _ _ (by unfold krd; omega)).1).trans u4)
            have p12 : M19.1 (m + 12) T.length = jI ((C.length + (lcE w L i C.length).2.1.length : Nat) : Int) := ((b2 _ _ (by unfold krd; omega)).1).trans (by simp [m_u])
            refine ⟨by simp [m_u, p10], by simp [m_u, p11], by simpa [m_u] using p12, ?_⟩
            simp only [m_u, lcn]
            rw [hlen3]
            simp
          · have hjl : j < (T ++ [(lsg w L i, C.length, C.length + (lcE w L i C.length).2.1.length, C.length + lcn (((lcC w L i C.length).1.1 + 1, 0), lsg w L i, (lcE w L i C.length).2, (lcC w L i C.length).2))]).length := (List.getElem?_eq_some_iff.mp hj).1
            simp only [List.length_append, List.length_cons, List.length_nil] at hjl
            rw [List.getElem?_append_left (by omega)] at hj
            obtain ⟨z1, z2, z3, z4⟩ := u2 j t hj
            have w10 : ∀ q, q = m + 10 ∨ q = m + 11 ∨ q = m + 12 ∨ q = m + 13 → M19.1 q j = M14.1 q j := by
              intro q hq
              rw [(b2 _ _ (by unfold krd; omega)).1]
              have : (m_ui M15 (m + 12) T.length (jI ((C.length + (lcE w L i C.length).2.1.length : Nat) : Int))).1 q j = M15.1 q j := by simp [m_u, ej]
              rw [this]
              exact (a3 _ _ (by unfold krd; omega)).1
            refine ⟨?_, ?_, ?_, ?_⟩
            · simp [m_u, ej, w10 (m + 10) (by omega), z1]
            · simp [m_u, ej, w10 (m + 11) (by omega), z2]
            · simp [m_u, ej, w10 (m + 12) (by omega), z3]
            · simp [m_u, ej, w10 (m + 13) (by omega), z4]
        · rw [h24]
          exact (e19.trans (Eo.rf.ui (Or.inr ⟨by omega, by omega⟩))).trans (Eo.rf.ui (Or.inl ⟨rfl, by omega, by omega⟩))
      · intro M19 p hp hp2 b1 b2
        rw [hcl] at hp hp2
        have hp' : p = if lsg w L (lcE w L i C.length).1.1 ≠ 40 then ((lcE w L i C.length).1.1, 1) else if (lcC w L i C.length).1.2 ≠ 0 then (lcC w L i C.length).1 else ((lcC w L i C.length).1.1, 1) := hp
        have hp2' : lsg w L (lcE w L i C.length).1.1 = 40 → (lcC w L i C.length).1.2 = 0 → lsg w L (lcC w L i C.length).1.1 ≠ 41 := hp2
        rw [if_pos rfl]
        have e19 : Eo (krt m) M M19 := ((e13.trans (a3.mono krd_t)).trans (Eo.rf.ui (Or.inr ⟨by omega, by omega⟩))).trans (b2.mono krd_t)
        have e : (lcl w L i T.length C.length).1 = p ∧ p.2 ≠ 0 := by
          unfold lcl
          rw [if_neg (by omega), if_neg (by omega), if_neg (by omega), hp']
          by_cases x1 : lsg w L (lcE w L i C.length).1.1 = 40
          · by_cases x2 : (lcC w L i C.length).1.2 = 0
            · have x3 := hp2' x1 x2
              simp [x1, x2, x3, lcbad]
            · simp [x1, x2, lcbad]
          · simp [x1, lcbad]
        rw [e.1] at k0
        exact k0 e.2 M19 b1 e19
    · intro f0 M15 a1 a2
      have f0' : (lcE w L i C.length).1.2 ≠ 0 := f0
      have a1' : kfa m (lcE w L i C.length).1 M15 := a1
      rw [if_pos rfl]
      have e : (lcl w L i T.length C.length).1 = (lcE w L i C.length).1 := by
        unfold lcl
        rw [if_neg (by omega), if_neg (by omega), if_pos f0']
        rfl
      rw [e] at k0
      exact k0 f0' M15 a1' (e13.trans (a2.mono krd_t))
  refine e11_readsClause ⟨hk.1 0 _ rfl, s11_here' hk hR hs (by omega) ?_⟩
  simp only [jq115 rg, jq101 rg]
  by_cases h1 : lsg w L i = 115
  · rw [if_pos h1]; exact h27 (Or.inl h1)
  rw [if_neg h1]
  by_cases h2 : lsg w L i = 101
  · rw [if_pos h2]; exact h27 (Or.inr h2)
  rw [if_neg h2, hs.1, i1]
  refine s11_wrong hk ⟨mb0, ?_⟩
  have e : (lcl w L i T.length C.length).1 = (i, 1) := lcl_n (by omega)
  rw [e] at k0
  refine k0 (by show (1 : Nat) ≠ 0; omega) _ ?_ (Eo.rf.ui (Or.inl ⟨rfl, by omega, by omega⟩))
  unfold kfa
  simp only [m_u_eq]
  rfl
end LV
