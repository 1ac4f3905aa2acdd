section LR
variable {d : Nat} {Th : mT} {M : mM} {m : Nat} {w : Nat → Int} {L : Nat} {i o : Nat} {W C : List Int}
theorem lloop_prop {T : Int → Bool} {p : Nat} {F : Nat → Nat → lR} {J : Int → lR → lR → lR} {c : Nat} {Z : Nat → Prop} (hF : ∀ i c, (F i c).1.2 = 0 → Z (F i c).1.1) (hJ : ∀ g a r, (J g a r).1 = r.1) :
    ∀ (u : Nat) (a : lR), (a.1.2 = 0 → Z a.1.1) → (lloop w L T p F J c u a).1.2 = 0 → Z (lloop w L T p F J c u a).1.1 := by
  intro u
  induction u with
  | zero => intro a h f; exact h f
  | succ u ih =>
    intro a h f
    rw [lloop] at f ⊢
    split
    · rename_i z
      rw [if_pos z] at f
      refine ih _ ?_ f
      intro q
      rw [hJ] at q ⊢
      exact hF _ _ q
    · rename_i z
      rw [if_neg z] at f
      exact h f
theorem lprd_out (hL : L ≤ 200) (k i c : Nat) (f : (lprd w L (lsub w L k) i c).1.2 = 0) : isP (lsg w L (lprd w L (lsub w L k) i c).1.1) = false := by
  have hG := lGd_fac (w := w) (L := L) (lGd_sub k)
  have hg := hG i c
  by_cases f0 : (lfac w L (lsub w L k) i c).1.2 = 0
  · have := hg f0
    exact lloop_out (by decide) hG (fun g a r => ljn_f) 200 _ (by omega) f
  · unfold lprd at f
    rw [lloop_bad f0] at f
    exact absurd f f0
theorem lsum_out (hL : L ≤ 200) (k i c : Nat) (f : (lsum w L k i c).1.2 = 0) : isS (lsg w L (lsum w L k i c).1.1) = false ∧ isP (lsg w L (lsum w L k i c).1.1) = false := by
  rw [lsum_eq] at f ⊢
  have hG := lGd_prd (w := w) (L := L) (lGd_sub k)
  have hg := hG i c
  refine ⟨?_, ?_⟩
  · by_cases f0 : (lprd w L (lsub w L k) i c).1.2 = 0
    · have := hg f0
      exact lloop_out (by decide) hG (fun g a r => ljn_f) 200 _ (by omega) f
    · unfold lsmo at f
      rw [lloop_bad f0] at f
      exact absurd f f0
  · exact lloop_prop (Z := fun j => isP (lsg w L j) = false) (lprd_out hL k) (fun g a r => ljn_f) 200 _ (fun q => lprd_out hL k i c q) f
theorem kFactor {k : Nat} (hk : kOk Th m w L) (hk6 : k ≤ 6) (hs : ∀ k', k = k' + 1 → kSum Th m w L d (6 - k') (lsum w L k')) : kFac Th m w L d (6 - k) (lfac w L (lsub w L k)) := by
  intro b i W C M Q hR hst hb hbW K0 K1
  have hbb := kbd_R hb
  have hL := hk.2.1
  have hgb := lsg_b (w := w) (L := L) (i := i) hk.2.2
  obtain ⟨hb1, hb2, hb3⟩ := hb
  refine h11_readsFactor_0 ⟨hk.1 0 _ rfl, s11_here hk hR hst (by omega) ?_⟩
  simp only [jq91 (z := lsg w L i) (rI_of (by omega) (by omega))]
  by_cases h91 : lsg w L i = 91
  · rw [if_pos h91]
    have hiL : i < L := lsg_in (w := w) (by omega)
    have hD : isD (lsg w L i) = false := by rw [h91]; decide
    rw [kI14]
    refine s11_opens (o := 6 - k) hk hR hst (by omega) (by omega) (by omega) ⟨by omega, by omega⟩ ?_ ?_
    · intro h6
      have k0 : k = 0 := by omega
      subst k0
      rw [if_pos rfl]
      rw [if_pos trivial]
      have e : lfac w L (lsub w L 0) i C.length = lbad i 5 := by
        unfold lfac; rw [hD, if_neg (by decide), if_pos h91]; rfl
      rw [e] at K1
      refine K1 (by show (5 : Nat) ≠ 0; omega) _ ?_ (Eo.rf.ui (Or.inl ⟨rfl, by omega, by omega, by omega⟩))
      unfold kfa
      simp only [m_u_eq]
      rfl
    · intro h6 M4 a1 a2
      rw [if_neg (by decide)]
      obtain ⟨k', rfl⟩ : ∃ k', k = k' + 1 := ⟨k - 1, by omega⟩
      have e : lfac w L (lsub w L (k' + 1)) i C.length = (if (lsum w L k' (i + 1) C.length).1.2 ≠ 0 then lsum w L k' (i + 1) C.length else if lsg w L (lsum w L k' (i + 1) C.length).1.1 = 93 then (((lsum w L k' (i + 1) C.length).1.1 + 1, 0), (lsum w L k' (i + 1) C.length).2) else lbad (lsum w L k' (i + 1) C.length).1.1 1) := by
        unfold lfac; rw [hD, if_neg (by decide), if_pos h91]; rfl
      rw [e] at K0 K1
      have a1' : kst m w L (i + 1) (6 - k') (1048576 * 14 :: W) C M4 := by
        rw [show 6 - k' = 6 - (k' + 1) + 1 by omega]; exact a1
      have bd1 : kbd (i + 1) (1048576 * 14 :: W) C := ⟨by simp; omega, by simp only [kwg]; rw [if_neg (by omega)]; omega, by omega⟩
      have hR4 := krd_rf hR a2
      refine hs k' rfl b (i + 1) (1048576 * 14 :: W) C M4 Q hR4 a1' bd1 (by simp; omega) (by show (7 : Int) ≤ 1048576 * 14 / 1048576; decide) ?_ ?_
      · intro f0 M' P C' hP hst' hf hb' he
        have out := lsum_out (w := w) hL k' (i + 1) C.length f0
        rw [if_neg (by omega)] at K0 K1
        have o1 : 6 - k' = 6 - (k' + 1) + 1 := by omega
        rw [o1] at hst'
        refine kLH_close (i := (lsum w L k' (i + 1) C.length).1.1) (o := 6 - (k' + 1)) hk (krd_rf hR4 he) hst' hb' out hP hbW ?_ ?_
        · intro h93 M2 t1 t2 t3
          rw [if_pos h93, hf] at *
          exact K0 rfl M2 t1 t2 ((a2.trans he).trans t3)
        · intro h93 M2 t1 t2
          rw [if_neg h93] at K1
          exact K1 (by show (1 : Nat) ≠ 0; omega) M2 t1 ((a2.trans he).trans t2)
      · intro f0 M' t1 t2
        rw [if_pos f0] at K1
        exact K1 f0 M' t1 (a2.trans t2)
  rw [if_neg h91]
  refine s11_isDigit hk hR hst (by omega) ?_
  cases hD : isD (lsg w L i) with
  | true =>
    rw [if_neg (by decide)]
    have hD2 := (isD_iff _).mp hD
    have hiL : i < L := lsg_in (w := w) (by omega)
    have gd := lGd_fac (w := w) (L := L) (lGd_sub k) i C.length
    have e : lfac w L (lsub w L k) i C.length = (if isD (lsg w L (ldig w L 5 i 0).1) then lbad (ldig w L 5 i 0).1 2 else (((ldig w L 5 i 0).1, 0), ([(ldig w L 5 i 0).2], fun _ => (jI (ldig w L 5 i 0).2, false)))) := by
      unfold lfac; rw [hD, if_pos rfl]
    rw [e] at K0 K1 gd
    refine s11_readsNumber hk (by omega) hst hR ?_ ?_
    · intro h2 M' a1 a2
      rw [if_pos rfl, if_pos trivial]
      rw [if_pos h2] at K1
      exact K1 (by show (2 : Nat) ≠ 0; omega) M' a1 a2
    · intro h2 M' a1 a2 a3 a4 a5
      rw [if_neg (by decide)]
      rw [h2, if_neg (by decide)] at K0 gd
      obtain ⟨g1, g2, g3, g4⟩ := gd rfl
      have g1' : i < (ldig w L 5 i 0).1 := g1
      have g2' : (ldig w L 5 i 0).1 ≤ L := g2
      rw [a2, i0]
      refine s11_notes hk (krd_rf hR a5) a1 (by omega) ⟨by omega, by omega⟩ ?_
      intro M2 t1 t2 t3
      rw [if_neg (by decide)]
      rw [show 1048576 * 0 + (ldig w L 5 i 0).2 = (ldig w L 5 i 0).2 by omega] at t1
      refine K0 rfl M2 t1 ⟨by show W.length ≤ (ldig w L 5 i 0).1; omega, ?_, by show (ldig w L 5 i 0).1 ≤ 201; omega⟩ (a5.trans t2)
      show (C ++ [(ldig w L 5 i 0).2]).length + kwg W ≤ (ldig w L 5 i 0).1
      simp
      omega
  | false =>
    rw [if_pos (show jB false = 0 from rfl)]
    refine s11_here hk hR hst (by omega) ?_
    refine s11_factOf hgb ?_
    have e : lfac w L (lsub w L k) i C.length = (match llt (lsg w L i) with | some (k, kk) => ((i + 1, 0), ([1048576 + (kk : Int)], fun e => (e k, false))) | none => lbad i 1) := by
      unfold lfac; rw [hD, if_neg (by decide), if_neg h91]
      cases llt (lsg w L i) with
      | none => rfl
      | some p => rfl
    rw [e] at K0 K1
    cases hl : llt (lsg w L i) with
    | none =>
      rw [hl] at K1
      rw [if_pos (by rfl), hst.1, i1]
      refine s11_wrong hk ⟨mb0, ?_⟩
      rw [if_pos rfl]
      refine K1 (by show (1 : Nat) ≠ 0; omega) _ ?_ (Eo.rf.ui (Or.inl ⟨rfl, by omega, by omega, by omega⟩))
      unfold kfa
      simp only [m_u_eq]
      rfl
    | some p =>
      obtain ⟨kp, kk⟩ := p
      have hb8 := llt_b hl
      have hn := llt_n hl
      have hiL : i < L := lsg_in (w := w) hn.1
      rw [hl] at K0
      simp only at K0 ⊢
      rw [if_neg (by rw [jqN (rI_nat (by omega))]; omega), i1]
      refine s11_notes hk hR hst (by omega) ⟨by omega, by omega⟩ ?_
      intro M14 t1 t2 t3
      rw [t1.1, jI_add, show (i : Int) + 1 = ((i + 1 : Nat) : Int) by omega, if_neg (by decide)]
      rw [show (1048576 * 1 + (kk : Int)) = 1048576 + (kk : Int) by omega] at t1
      refine K0 (by trivial) _ (kst_place t1) ⟨by omega, by simp; omega, by omega⟩ (t2.trans (Eo.rf.ui (Or.inl ⟨rfl, by omega, by omega, by omega⟩)))
theorem kSums (hk : kOk Th m w L) : ∀ k, k ≤ 6 → kSum Th m w L d (6 - k) (lsum w L k) := by
  intro k
  induction k with
  | zero =>
    intro h
    have hF : kFac Th m w L d (6 - 0) (lfac w L (lsub w L 0)) := kFactor hk h (fun k' hk' => absurd hk' (by omega))
    exact kSumm hk (lGd_prd (lGd_sub 0)) (kProd hk (lGd_fac (lGd_sub 0)) hF)
  | succ k ih =>
    intro h
    have hF : kFac Th m w L d (6 - (k + 1)) (lfac w L (lsub w L (k + 1))) := kFactor hk h (fun k' hk' => by
      have : k' = k := by omega
      subst this
      exact ih (by omega))
    exact kSumm hk (lGd_prd (lGd_sub (k + 1))) (kProd hk (lGd_fac (lGd_sub (k + 1))) hF)
/-- a sum, from its first sign on -/
theorem s11_readsSum {k : Nat} {Q : Int32 → mM → Prop} (hk : kOk Th m w L) (hk6 : k ≤ 6) (hR : RfM m M) (hs : kst m w L i (6 - k) W C M) (hb : kbd i W C) (hW : ktp W)
    (k1 : (lsum w L k i C.length).1.2 = 0 → ∀ M', kst m w L (lsum w L k i C.length).1.1 (6 - k) W (C ++ (lsum w L k i C.length).2.1) M' → kbd (lsum w L k i C.length).1.1 W (C ++ (lsum w L k i C.length).2.1) → Eo (krd m) M M' → Q 1 M')
    (k0 : (lsum w L k i C.length).1.2 ≠ 0 → ∀ M', kfa m (lsum w L k i C.length).1 M' → Eo (krd m) M M' → Q 0 M') : P11_readsSum (d + 5) Th m M Q := by
  have hbb := kbd_R hb
  refine e11_readsSum ⟨hk.1 0 _ rfl, ?_⟩
  intro xv2 hx
  rw [hx, hs.2.2.2.2.1]
  refine e11_readsFactor ?_
  refine kSums (d := d) hk k hk6 W.length i W C M Q hR hs hb (Nat.le_refl _) hW ?_ k0
  intro f0 M' P C' hP hs' hf hb' he
  have gd := lGd_sum (w := w) (L := L) k i C.length f0
  refine kLH_end hk (krd_rf hR he) hs' hb' (lsum_out hk.2.1 k i C.length f0) hP hW rfl ?_
  intro M2 a1 a2
  rw [hf] at a1
  unfold kbd at hb
  have := hk.2.1
  exact k1 f0 M2 a1 ⟨by omega, by simp; omega, by omega⟩ (he.trans a2)
end LR
