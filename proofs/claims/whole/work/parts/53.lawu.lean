section LU
variable {d : Nat} {Th : mT} {M : mM} {m : Nat} {w : Nat → Int} {L : Nat} {i o : Nat} {W C : List Int}
theorem lop_c {g : Int} (h : isC g = true) : 7 ≤ lop g ∧ lop g ≤ 9 := by
  have : g = 60 ∨ g = 62 ∨ g = 61 := by unfold isC at h; simp at h; omega
  rcases this with z | z | z <;> subst z <;> exact ⟨by decide, by decide⟩
/-- two sums, compared; the ! that wait -/
theorem kCmp {k : Nat} {Q : Int32 → mM → Prop} (hk : kOk Th m w L) (hk6 : k ≤ 6) (hR : RfM m M) (hs : kst m w L i (6 - k) W C M) (hb : kbd i W C) (hW : ktp W)
    (k1 : (lcmp w L k i C.length).1.2 = 0 → ∀ M', kst m w L (lcmp w L k i C.length).1.1 (6 - k) W (C ++ (lcmp w L k i C.length).2.1) M' → kbd (lcmp w L k i C.length).1.1 W (C ++ (lcmp w L k i C.length).2.1) → Eo (krd m) M M' → kE d Th Q m M')
    (k0 : (lcmp w L k i C.length).1.2 ≠ 0 → ∀ M', kfa m (lcmp w L k i C.length).1 M' → Eo (krd m) M M' → Q 0 M') : P11_readsCompared (d + 7) Th m M (fun (v : Int32) (M' : mM) => if v = 0 then Q 0 M' else kH92 d Th Q m M') := by
  have hL := hk.2.1
  have hgd := lGd_cmp (w := w) (L := L) k i C.length
  unfold lcmp at k1 k0 hgd
  have hg1 := lGd_sum (w := w) (L := L) k i C.length
  refine e11_readsCompared ⟨hk.1 0 _ rfl, ?_⟩
  refine s11_readsSum (d := d + 1) hk hk6 hR hs hb hW ?_ ?_
  rotate_left
  · intro f0 M1 a1 a2
    rw [if_pos rfl, if_pos rfl]
    rw [if_pos f0] at k0
    exact k0 f0 M1 a1 a2
  intro f0 M1 a1 a2 a3
  rw [if_neg (by decide)]
  have g1 := hg1 f0
  rw [if_neg (by omega)] at k1 k0 hgd
  generalize hRe : lsum w L k i C.length = R at *
  have hwb := lsg_b (w := w) (L := L) (i := R.1.1) hk.2.2
  have hR1 := krd_rf hR a3
  have hbb := kbd_R a2
  generalize hg : lsg w L R.1.1 = g at *
  have rg : rI g := rI_of (by omega) (by omega)
  -- from the sign on
  have h52 : isC g = true → ∀ s0 : Int32, s0 = jI (lop g) → H11_readsCompared_52 (d + 7) Th (fun (v : Int32) (M' : mM) => if v = 0 then Q 0 M' else kH92 d Th Q m M') m s0 M1 := by
    intro hC s0 hs0
    have hlo := lop_c hC
    rw [if_pos hC] at k1 k0 hgd
    have hiL : R.1.1 < L := lsg_in (w := w) (by rw [hg]; exact (isC_n hC).1)
    refine h11_readsCompared_52 ?_
    rw [hs0, if_neg (by rw [jqN (rI_of (by omega) (by omega))]; omega)]
    refine ⟨hk.1 0 _ rfl, ?_⟩
    rw [a1.1, i1, jI_add, show (R.1.1 : Int) + 1 = ((R.1.1 + 1 : Nat) : Int) by omega]
    have hcl : (C ++ R.2.1).length = C.length + R.2.1.length := by simp
    unfold kbd at a2
    refine s11_readsSum (d := d + 1) hk hk6 (hR1.mv rfl) (kst_place a1) ⟨by omega, by omega, by omega⟩ hW ?_ ?_
    · intro f1 M5 b1 b2 b3
      rw [hcl] at f1 b1 b2
      have hg2 := lGd_sum (w := w) (L := L) k (R.1.1 + 1) (C.length + R.2.1.length) f1
      generalize lsum w L k (R.1.1 + 1) (C.length + R.2.1.length) = S at *
      have e3 : Eo (krd m) M M5 := (a3.trans (Eo.rf.ui (Or.inl ⟨rfl, by omega, by omega, by omega⟩))).trans b3
      have hb5 := kbd_R b2
      rw [if_neg (by decide), i0]
      refine s11_notes hk (krd_rf hR e3) b1 (by omega) ⟨by omega, by omega⟩ ?_
      intro M7 c1 c2 c3
      rw [Int.add_zero] at c1
      have hj := ljn_l g R S
      have hcode : (ljn g R S).2.1 = R.2.1 ++ S.2.1 ++ [1048576 * lop g] := by unfold ljn; rw [if_neg (by omega)]
      have K := k1 (by rw [hj.1]; exact f1) M7 (by rw [hj.1, hcode]; simpa [List.append_assoc] using c1) (by
        unfold kbd at b2
        rw [hj.1, hcode]
        refine ⟨by omega, ?_, by omega⟩
        simp only [List.length_append, List.length_cons, List.length_nil] at b2 ⊢
        omega) (e3.trans c2)
      refine P11_endsPiece.mono (e11_endsPiece (K (d + 5 + 1) (by omega))) (fun M' h => ?_)
      rw [if_neg (by decide)]
      exact h
    · intro f1 M5 b1 b3
      rw [hcl] at f1 b1
      rw [if_pos rfl, if_pos rfl]
      have hj := ljn_l g R (lsum w L k (R.1.1 + 1) (C.length + R.2.1.length))
      rw [hj.1] at k0
      exact k0 f1 M5 b1 ((a3.trans (Eo.rf.ui (Or.inl ⟨rfl, by omega, by omega, by omega⟩))).trans b3)
  refine s11_here hk hR1 a1 (by omega) ?_
  rw [hg]
  simp only [jq60 rg]
  by_cases z1 : g = 60
  · rw [if_pos z1]; exact h52 (by rw [z1]; decide) _ (by rw [z1]; rfl)
  rw [if_neg z1]
  refine s11_here hk hR1 a1 (by omega) ?_
  rw [hg]
  simp only [jq62 rg]
  by_cases z2 : g = 62
  · rw [if_pos z2]; exact h52 (by rw [z2]; decide) _ (by rw [z2]; rfl)
  rw [if_neg z2]
  refine s11_here hk hR1 a1 (by omega) ?_
  rw [hg]
  simp only [jq61 rg]
  by_cases z3 : g = 61
  · rw [if_pos z3]; exact h52 (by rw [z3]; decide) _ (by rw [z3]; rfl)
  rw [if_neg z3]
  refine h11_readsCompared_52 ?_
  rw [if_pos rfl]
  refine ⟨hk.1 0 _ rfl, ?_⟩
  rw [a1.1, i1]
  refine s11_wrong hk ⟨mb0, ?_⟩
  rw [if_pos rfl]
  have hC : isC g = false := by unfold isC; simp [z1, z2, z3]
  rw [hC, if_neg (by decide)] at k0
  refine k0 (by show (1 : Nat) ≠ 0; omega) _ ?_ (a3.trans (Eo.rf.ui (Or.inl ⟨rfl, by omega, by omega, by omega⟩)))
  unfold kfa
  simp only [m_u_eq]
  rfl
/-- the end of what stands in ( ) -/
theorem kH92_close {Q : Int32 → mM → Prop} {P : List Int} (hk : kOk Th m w L) (hR : RfM m M) (hs : kst m w L i (o + 1) (P ++ (1048576 * 13) :: W) C M) (hb : kbd i (P ++ (1048576 * 13) :: W) C) (hn : lsg w L i ≠ 38 ∧ lsg w L i ≠ 124) (hP : ∀ x, x ∈ P → kjn true x ∧ (x % 1048576).toNat < C.length)
    (k1 : lsg w L i = 41 → ∀ M', kst m w L (i + 1) o W (kfj C P) M' → kbd (i + 1) W (kfj C P) → Eo (krd m) M M' → (W = [] → Q 1 M') ∧ (W ≠ [] → kE d Th Q m M'))
    (k0 : lsg w L i ≠ 41 → ∀ M', kfa m (i, 1) M' → Eo (krd m) M M' → Q 0 M') : kH92 d Th Q m M := by
  have hbb := kbd_R hb
  have hgb := lsg_b (w := w) (L := L) (i := i) hk.2.2
  have hwl : (P ++ (1048576 * 13) :: W).length = P.length + W.length + 1 := by simp; omega
  obtain ⟨hb1, hb2, hb3⟩ := hb
  rw [kwg_app, kwg_j (fun x hx => (hP x hx).1)] at hb2
  simp only [kwg] at hb2
  refine h11_readsCondition_92 ⟨hk.1 0 _ rfl, s11_here hk hR hs (by omega) ?_⟩
  simp only [jq41 (z := lsg w L i) (rI_of (by omega) (by omega))]
  by_cases h41 : lsg w L i = 41
  · rw [if_pos h41]
    refine e11_lands ?_
    have hiL : i < L := lsg_in (w := w) (by omega)
    have hL := hk.2.1
    refine s11_lands (all := true) (d := d + 5) hk P ((1048576 * 13) :: W) C M hR hs hP (by show ¬ kjn true (1048576 * 13); unfold kjn; omega) (by omega) (by omega) ?_
    intro M4 a1 a2 M6 h6 M7 h7 M8 h8
    obtain ⟨p1, p2⟩ := kst_pop a1 (by omega)
    rw [← h6] at p2
    have g16 : M6.1 m 16 = jI ((o + 1 : Nat) : Int) := p2.2.2.1
    rw [g16, i1, jI_sub, show ((o + 1 : Nat) : Int) - 1 = (o : Int) by omega] at h7
    have g13 : M7.1 m 13 = jI i := by rw [h7]; simp [m_u]; exact p2.1
    rw [g13, i1, jI_add, show (i : Int) + 1 = ((i + 1 : Nat) : Int) by omega] at h8
    have s7 : kst m w L i o W (kfj C P) M7 := by
      obtain ⟨c1, c2, c3, c4, c5, c6, c7, c8, c9, c10⟩ := p2
      rw [h7]
      exact ⟨by simp [m_u, c1], by simp [m_u, c2], by simp [m_u], by simp [m_u, c4], by simp [m_u, c5], stk_mv (M := M6) (fun j _ => by simp [m_u]) c6, fun j z hz => by simp [m_u, c7 j z hz], fun j hj => by simp [m_u, c8 j hj], c9, c10⟩
    have s8 : kst m w L (i + 1) o W (kfj C P) M8 := by rw [h8]; exact kst_place s7
    have hK := k1 h41 M8 s8 ⟨by omega, by rw [kfj_len]; omega, by omega⟩ (by
      rw [h8, h7, h6]
      exact a2.trans (((Eo.rf.ui (Or.inl ⟨rfl, by omega, by omega, by omega⟩)).ui (Or.inl ⟨rfl, by omega, by omega, by omega⟩)).ui (Or.inl ⟨rfl, by omega, by omega, by omega⟩)))
    cases hWc : W with
    | nil =>
      rw [hWc] at s8
      rw [if_pos (by rw [s8.2.2.2.2.1]; rfl)]
      exact hK.1 hWc
    | cons x r =>
      rw [hWc] at s8
      rw [if_neg (by rw [s8.2.2.2.2.1, jq0 (rI_nat (by rw [← hWc]; omega))]; simp only [List.length_cons]; omega)]
      exact e11_endsPiece (hK.2 (by rw [hWc]; simp) (d + 6 + 1) (by omega))
  · rw [if_neg h41]
    refine s11_here hk hR hs (by omega) ?_
    simp only [jq38 (z := lsg w L i) (rI_of (by omega) (by omega))]
    rw [if_neg hn.1]
    refine s11_here hk hR hs (by omega) ?_
    simp only [jq124 (z := lsg w L i) (rI_of (by omega) (by omega))]
    rw [if_neg hn.2, hs.1, i1]
    refine s11_wrong hk ⟨mb0, ?_⟩
    refine k0 h41 _ ?_ (Eo.rf.ui (Or.inl ⟨rfl, by omega, by omega, by omega⟩))
    unfold kfa
    simp only [m_u_eq]
    rfl
theorem lanyo_out (hL : L ≤ 200) {P : Nat → Nat → lR} (hP : ∀ i c, lGd w L i (P i c)) (i c : Nat) (f : (lanyo w L P i c).1.2 = 0) : lsg w L (lanyo w L P i c).1.1 ≠ 38 ∧ lsg w L (lanyo w L P i c).1.1 ≠ 124 := by
  have hA : ∀ i c, (lallo w L P i c).1.2 = 0 → lsg w L (lallo w L P i c).1.1 ≠ 38 := by
    intro i c f
    by_cases f0 : (P i c).1.2 = 0
    · have := hP i c f0
      have h := lloop_out (w := w) (L := L) (T := fun g => decide (g = 38)) (p := 1) (F := P) (J := fun _ => ljb false c) (c := c) (by decide) hP (fun g a r => ljb_f) 200 (P i c) (by omega) f
      exact of_decide_eq_false h
    · unfold lallo at f
      rw [lloop_bad f0] at f
      exact absurd f f0
  have hg := lGd_allo hP
  refine ⟨?_, ?_⟩
  · exact lloop_prop (Z := fun j => lsg w L j ≠ 38) hA (fun g a r => ljb_f) 200 _ (fun q => hA i c q) f
  · by_cases f0 : (lallo w L P i c).1.2 = 0
    · have := hg i c f0
      have h := lloop_out (w := w) (L := L) (T := fun g => decide (g = 124)) (p := 1) (F := lallo w L P) (J := fun _ => ljb true c) (c := c) (by decide) hg (fun g a r => ljb_f) 200 _ (by omega) f
      exact of_decide_eq_false h
    · unfold lanyo at f
      rw [lloop_bad f0] at f
      exact absurd f f0
theorem kPiece {k : Nat} (hk : kOk Th m w L) (hk6 : k ≤ 6) (hA : ∀ k', k = k' + 1 → kPie Th m w L d (6 - k') (lpie w L k') ∧ kAny Th m w L d (6 - k') (lanyo w L (lpie w L k'))) : kPie Th m w L d (6 - k) (lpie w L k) := by
  intro i W C M Q hR hs hb hW hW1 K0 K1
  have hbb := kbd_R hb
  have hL := hk.2.1
  have hgb := lsg_b (w := w) (L := L) (i := i) hk.2.2
  have rg : rI (lsg w L i) := rI_of (by omega) (by omega)
  by_cases hsg : lsg w L i = 33 ∨ lsg w L i = 40
  · have hiL : i < L := lsg_in (w := w) (by omega)
    have h58 : H11_readsCondition_58 (d + 8) Th Q m M := by
      refine h11_readsCondition_58 ⟨hk.1 0 _ rfl, s11_here hk hR hs (by omega) ?_⟩
      rw [show (if jI (lsg w L i) = 33 then (10 : Int32) else 13) = jI (if lsg w L i = 33 then 10 else 13) by
        simp only [jq33 rg]; split <;> rfl]
      refine s11_opens (o := 6 - k) hk hR hs (by omega) (by omega) (by omega) (by split; exact ⟨by omega, by omega⟩; exact ⟨by omega, by omega⟩) ?_ ?_
      · intro h6
        have k0 : k = 0 := by omega
        subst k0
        rw [if_pos rfl]
        have e : lpie w L 0 i C.length = lbad i 5 := by unfold lpie; rw [if_pos hsg]
        rw [e] at K1
        refine K1 (by show (5 : Nat) ≠ 0; omega) _ ?_ (Eo.rf.ui (Or.inl ⟨rfl, by omega, by omega, by omega⟩))
        unfold kfa
        simp only [m_u_eq]
        rfl
      · intro h6 M4 a1 a2
        rw [if_neg (by decide)]
        obtain ⟨k', rfl⟩ : ∃ k', k = k' + 1 := ⟨k - 1, by omega⟩
        obtain ⟨hA1, hA2⟩ := hA k' rfl
        have hR4 := krd_rf hR a2
        have o1 : 6 - (k' + 1) + 1 = 6 - k' := by omega
        rw [o1] at a1
        unfold kbd at hb
        by_cases h33 : lsg w L i = 33
        · have e : lpie w L (k' + 1) i C.length = lnot (lpie w L k' (i + 1) C.length) := by
            conv => lhs; unfold lpie
            rw [if_pos h33]
          rw [e] at K0 K1
          rw [lnot_f] at K0 K1
          simp only [if_pos h33] at a1
          refine hA1 (i + 1) (1048576 * 10 :: W) C M4 Q hR4 a1 ⟨by simp; omega, by simp only [kwg]; rw [if_pos (by omega)]; omega, by omega⟩ (by show (7 : Int) ≤ 1048576 * 10 / 1048576; decide) (by simp) ?_ ?_
          · intro f0 M' t1 t2 t3
            have hb2 := kbd_R t2
            rw [← o1] at t1
            simp only [List.length_cons] at hb2
            refine kE_not hk (krd_rf hR4 t3) t1 (by omega) (by omega) (by omega) ?_
            intro M2 u1 u2
            have en : (lnot (lpie w L k' (i + 1) C.length)).2.1 = (lpie w L k' (i + 1) C.length).2.1 ++ [1048576 * 10] := by unfold lnot; rw [if_neg (by omega)]
            refine K0 f0 M2 (by rw [en, ← List.append_assoc]; exact u1) ?_ ((a2.trans t3).trans u2)
            unfold kbd at t2
            simp only [kwg, List.length_cons] at t2
            rw [if_pos (by omega)] at t2
            rw [en, ← List.append_assoc]
            refine ⟨by omega, ?_, by omega⟩
            simp only [List.length_append, List.length_cons, List.length_nil] at t2 ⊢
            omega
          · intro f0 M' t1 t2
            exact K1 f0 M' t1 (a2.trans t2)
        · have h40 : lsg w L i = 40 := by omega
          have e : lpie w L (k' + 1) i C.length = lpar w L (lanyo w L (lpie w L k') (i + 1) C.length) := by
            conv => lhs; unfold lpie
            rw [if_neg h33, if_pos h40]
          rw [e] at K0 K1
          simp only [if_neg h33] at a1
          refine hA2 (i + 1) (1048576 * 13 :: W) C M4 Q hR4 a1 ⟨by simp; omega, by simp only [kwg]; rw [if_neg (by omega)]; omega, by omega⟩ (by show (7 : Int) ≤ 1048576 * 13 / 1048576; decide) (by simp) (by show (1048576 * 13 / 1048576 : Int) ≠ 10; decide) (by show (1048576 * 13 / 1048576 : Int) ≠ 11; decide) (by show (1048576 * 13 / 1048576 : Int) ≠ 12; decide) ?_ ?_
          · intro f0 M' P C' hP t1 tf t2 t3
            have out := lanyo_out hL (lGd_pie (w := w) (L := L) k') (i + 1) C.length f0
            generalize lanyo w L (lpie w L k') (i + 1) C.length = R at *
            rw [← o1] at t1
            unfold lpar at K0 K1
            rw [if_neg (by omega)] at K0 K1
            refine kH92_close hk (krd_rf hR4 t3) t1 t2 out hP ?_ ?_
            · intro h41 M2 u1 u2 u3
              rw [if_pos h41] at K0
              rw [tf] at u1 u2
              exact ⟨fun z => by rw [z] at hW1; simp at hW1, fun _ => K0 rfl M2 u1 u2 ((a2.trans t3).trans u3)⟩
            · intro h41 M2 u1 u2
              rw [if_neg h41] at K1
              exact K1 (by show (1 : Nat) ≠ 0; omega) M2 u1 ((a2.trans t3).trans u2)
          · intro f0 M' t1 t2
            unfold lpar at K1
            rw [if_pos f0] at K1
            exact K1 f0 M' t1 (a2.trans t2)
    refine h11_readsCondition_40 ⟨hk.1 0 _ rfl, s11_here hk hR hs (by omega) ?_⟩
    simp only [jq33 rg]
    by_cases h33 : lsg w L i = 33
    · rw [if_pos h33]; exact h58
    · rw [if_neg h33]
      refine s11_here hk hR hs (by omega) ?_
      simp only [jq40 rg]
      rw [if_pos (by omega)]; exact h58
  · have e : lpie w L k i C.length = lcmp w L k i C.length := by
      cases k with
      | zero => unfold lpie; rw [if_neg hsg]
      | succ k' => conv => lhs; unfold lpie
                   rw [if_neg (by omega), if_neg (by omega)]
    rw [e] at K0 K1
    refine h11_readsCondition_40 ⟨hk.1 0 _ rfl, s11_here hk hR hs (by omega) ?_⟩
    simp only [jq33 rg]
    rw [if_neg (by omega)]
    refine s11_here hk hR hs (by omega) ?_
    simp only [jq40 rg]
    rw [if_neg (by omega)]
    exact kCmp hk hk6 hR hs hb hW K0 K1
theorem kPieces (hk : kOk Th m w L) : ∀ k, k ≤ 6 → kPie Th m w L d (6 - k) (lpie w L k) ∧ kAny Th m w L d (6 - k) (lanyo w L (lpie w L k)) := by
  intro k
  induction k with
  | zero =>
    intro h
    have p : kPie Th m w L d (6 - 0) (lpie w L 0) := kPiece hk h (fun k' hk' => absurd hk' (by omega))
    exact ⟨p, kAnys hk (lGd_allo (lGd_pie 0)) (kAlls hk (lGd_pie 0) p)⟩
  | succ k ih =>
    intro h
    have p : kPie Th m w L d (6 - (k + 1)) (lpie w L (k + 1)) := kPiece hk h (fun k' hk' => by
      have : k' = k := by omega
      subst this
      exact ih (by omega))
    exact ⟨p, kAnys hk (lGd_allo (lGd_pie (k + 1))) (kAlls hk (lGd_pie (k + 1)) p)⟩
end LU
