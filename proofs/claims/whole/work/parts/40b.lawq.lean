/-! ===== THE LAW, READ: what is read, how many codes come of it, where loops end ===== -/
section LQ
variable {w : Nat → Int} {L : Nat}
/-- what was read from a place on -/
def lGd (w : Nat → Int) (L i : Nat) (r : lR) : Prop := r.1.2 = 0 → i < r.1.1 ∧ r.1.1 ≤ L ∧ i + r.2.1.length ≤ r.1.1 ∧ ∀ j, i ≤ j → j < r.1.1 → lsg w L j ≠ 59
theorem lsg_in {i : Nat} (h : lsg w L i ≠ -1) : i < L := by
  refine Decidable.byContradiction (fun hh => h ?_)
  unfold lsg; rw [if_neg hh]
theorem lGd_bad {i j f : Nat} (h : f ≠ 0) : lGd w L i (lbad j f) := fun z => absurd z h
theorem isD_t {g : Int} (h : isD g = true) : 48 ≤ g ∧ g ≤ 57 := by unfold isD at h; simp at h; exact h
theorem ldig_gd : ∀ (u i : Nat) (v : Int), i ≤ (ldig w L u i v).1 ∧ (i ≤ L → (ldig w L u i v).1 ≤ L) ∧ ∀ j, i ≤ j → j < (ldig w L u i v).1 → lsg w L j ≠ 59 := by
  intro u
  induction u with
  | zero => intro i v; exact ⟨Nat.le_refl _, fun h => h, fun j h1 h2 => absurd h2 (by show ¬ j < i; omega)⟩
  | succ u ih =>
    intro i v
    unfold ldig
    by_cases hd : isD (lsg w L i) = true
    · rw [if_pos hd]
      have h := ih (i + 1) (10 * v + lsg w L i - 48)
      have hb := isD_t hd
      have hi : i < L := lsg_in (w := w) (by omega)
      refine ⟨by omega, fun _ => h.2.1 (by omega), fun j h1 h2 => ?_⟩
      by_cases e : j = i
      · subst e; omega
      · exact h.2.2 j (by omega) h2
    · rw [if_neg hd]
      exact ⟨Nat.le_refl _, fun h => h, fun j h1 h2 => absurd h2 (by show ¬ j < i; omega)⟩
theorem llt_n {g : Int} {p : Nat × Nat} (h : llt g = some p) : g ≠ -1 ∧ g ≠ 59 := by
  refine ⟨fun e => ?_, fun e => ?_⟩ <;> subst e <;> simp [llt] at h
theorem lGd_fac {sub : Option (Nat → Nat → lR)} (hs : ∀ S, sub = some S → ∀ i c, lGd w L i (S i c)) (i c : Nat) : lGd w L i (lfac w L sub i c) := by
  unfold lfac
  by_cases hd : isD (lsg w L i) = true
  · rw [if_pos hd]
    have hb := isD_t hd
    have hi : i < L := lsg_in (w := w) (by omega)
    split
    · exact lGd_bad (by omega)
    · intro _
      have h : ldig w L 5 i 0 = ldig w L 4 (i + 1) (10 * 0 + lsg w L i - 48) := by
        conv => lhs; unfold ldig
        rw [if_pos hd]
      have g := ldig_gd (w := w) (L := L) 4 (i + 1) (10 * 0 + lsg w L i - 48)
      have g5 := ldig_gd (w := w) (L := L) 5 i 0
      rw [← h] at g
      exact ⟨by show i < (ldig w L 5 i 0).1; omega, g.2.1 (by omega), by show i + 1 ≤ (ldig w L 5 i 0).1; omega, g5.2.2⟩
  · rw [if_neg hd]
    by_cases h91 : lsg w L i = 91
    · rw [if_pos h91]
      have hi : i < L := lsg_in (w := w) (by omega)
      cases sub with
      | none => exact lGd_bad (by omega)
      | some S =>
        have g := hs S rfl (i + 1) c
        simp only
        split
        · rename_i z; intro z2; exact absurd z2 z
        · rename_i z
          split
          · rename_i z2
            intro _
            obtain ⟨g1, g2, g3, g4⟩ := g (by omega)
            have hj : (S (i + 1) c).1.1 < L := lsg_in (w := w) (by omega)
            refine ⟨by show i < (S (i + 1) c).1.1 + 1; omega, by show (S (i + 1) c).1.1 + 1 ≤ L; omega, by show i + (S (i + 1) c).2.1.length ≤ (S (i + 1) c).1.1 + 1; omega, fun j h1 h2 => ?_⟩
            have h2' : j < (S (i + 1) c).1.1 + 1 := h2
            by_cases e : j = i
            · subst e; omega
            · by_cases e2 : j = (S (i + 1) c).1.1
              · rw [e2]; omega
              · exact g4 j (by omega) (by omega)
          · exact lGd_bad (by omega)
    · rw [if_neg h91]
      cases hl : llt (lsg w L i) with
      | none => exact lGd_bad (by omega)
      | some p =>
        have hn := llt_n hl
        have hi : i < L := lsg_in (w := w) hn.1
        obtain ⟨k, kk⟩ := p
        intro _
        refine ⟨Nat.lt_succ_self i, by show i + 1 ≤ L; omega, Nat.le_refl _, fun j h1 h2 => ?_⟩
        have h2' : j < i + 1 := h2
        have : j = i := by omega
        rw [this]; exact hn.2
/-- a loop's readings -/
theorem lGd_loop {T : Int → Bool} {p : Nat} {F : Nat → Nat → lR} {J : Int → lR → lR → lR} {c : Nat} (hT : ∀ g, T g = true → g ≠ -1 ∧ g ≠ 59) (hF : ∀ i c, lGd w L i (F i c)) (hJ : ∀ g a r, (J g a r).1 = r.1 ∧ (r.1.2 = 0 → (J g a r).2.1.length = a.2.1.length + r.2.1.length + 1)) (i : Nat) :
    ∀ (u : Nat) (a : lR), lGd w L i a → lGd w L i (lloop w L T p F J c u a) := by
  intro u
  induction u with
  | zero => intro a h; exact h
  | succ u ih =>
    intro a h
    unfold lloop
    split
    · rename_i z
      obtain ⟨z1, z2⟩ := z
      refine ih _ ?_
      generalize hr : F (a.1.1 + 1) (c + a.2.1.length + p) = r
      have hfr := hF (a.1.1 + 1) (c + a.2.1.length + p)
      rw [hr] at hfr
      obtain ⟨j1, j2⟩ := hJ (lsg w L a.1.1) a r
      intro f
      rw [j1] at f ⊢
      obtain ⟨a1, a2, a3, a4⟩ := h z1
      obtain ⟨r1, r2, r3, r4⟩ := hfr f
      rw [j2 f]
      refine ⟨by omega, r2, by omega, fun j h1 h2 => ?_⟩
      by_cases e : j < a.1.1
      · exact a4 j h1 e
      · by_cases e2 : j = a.1.1
        · rw [e2]; exact (hT _ z2).2
        · exact r4 j (by omega) h2
    · exact h
/-- where a loop ends, there is nothing to go on with -/
theorem lloop_out {T : Int → Bool} {p : Nat} {F : Nat → Nat → lR} {J : Int → lR → lR → lR} {c : Nat} (hT : T (-1) = false) (hF : ∀ i c, lGd w L i (F i c)) (hJ : ∀ g a r, (J g a r).1 = r.1) :
    ∀ (u : Nat) (a : lR), L < a.1.1 + u → (lloop w L T p F J c u a).1.2 = 0 → T (lsg w L (lloop w L T p F J c u a).1.1) = false := by
  intro u
  induction u with
  | zero =>
    intro a h f
    show T (lsg w L a.1.1) = false
    rw [show lsg w L a.1.1 = -1 by unfold lsg; rw [if_neg (by omega)]]
    exact hT
  | succ u ih =>
    intro a h f
    by_cases z : a.1.2 = 0 ∧ T (lsg w L a.1.1) = true
    · rw [lloop_step z.1 z.2] at f ⊢
      generalize hr : F (a.1.1 + 1) (c + a.2.1.length + p) = r at f ⊢
      have hfr := hF (a.1.1 + 1) (c + a.2.1.length + p)
      rw [hr] at hfr
      by_cases fr : r.1.2 = 0
      · have := hfr fr
        exact ih _ (by rw [hJ]; omega) f
      · rw [lloop_bad (by rw [hJ]; exact fr)] at f
        rw [hJ] at f
        exact absurd f fr
    · rw [lloop] at f ⊢
      rw [if_neg z] at f ⊢
      cases hz : T (lsg w L a.1.1) with
      | false => rfl
      | true => exact absurd ⟨f, hz⟩ z
theorem ljn_l (g : Int) (a r : lR) : (ljn g a r).1 = r.1 ∧ (r.1.2 = 0 → (ljn g a r).2.1.length = a.2.1.length + r.2.1.length + 1) := by
  refine ⟨ljn_f, fun h => ?_⟩
  unfold ljn
  rw [if_neg (by omega)]
  simp
  omega
theorem ljb_l (o : Bool) (c : Nat) (a r : lR) : (ljb o c a r).1 = r.1 ∧ (r.1.2 = 0 → (ljb o c a r).2.1.length = a.2.1.length + r.2.1.length + 1) := by
  refine ⟨ljb_f, fun h => ?_⟩
  unfold ljb
  rw [if_neg (by omega)]
  simp
  omega
theorem isP_n (g : Int) (h : isP g = true) : g ≠ -1 ∧ g ≠ 59 := by unfold isP at h; simp at h; omega
theorem isS_n (g : Int) (h : isS g = true) : g ≠ -1 ∧ g ≠ 59 := by unfold isS at h; simp at h; omega
theorem lGd_prd {sub : Option (Nat → Nat → lR)} (hs : ∀ S, sub = some S → ∀ i c, lGd w L i (S i c)) (i c : Nat) : lGd w L i (lprd w L sub i c) :=
  lGd_loop isP_n (lGd_fac hs) (fun g a r => ljn_l g a r) i 200 _ (lGd_fac hs i c)
theorem lGd_smo {sub : Option (Nat → Nat → lR)} (hs : ∀ S, sub = some S → ∀ i c, lGd w L i (S i c)) (i c : Nat) : lGd w L i (lsmo w L sub i c) :=
  lGd_loop isS_n (lGd_prd hs) (fun g a r => ljn_l g a r) i 200 _ (lGd_prd hs i c)
theorem lGd_sum : ∀ k i c, lGd w L i (lsum w L k i c) := by
  intro k
  induction k with
  | zero => intro i c; exact lGd_smo (fun S h => by cases h) i c
  | succ k ih => intro i c; exact lGd_smo (fun S h => by cases h; exact ih) i c
theorem lGd_sub (k : Nat) : ∀ S, lsub w L k = some S → ∀ i c, lGd w L i (S i c) := by
  intro S h
  cases k with
  | zero => cases h
  | succ k => cases h; exact lGd_sum k
theorem isC_n {g : Int} (h : isC g = true) : g ≠ -1 ∧ g ≠ 59 := by unfold isC at h; simp at h; omega
theorem lGd_cmp (k i c : Nat) : lGd w L i (lcmp w L k i c) := by
  unfold lcmp
  have h1 := lGd_sum (w := w) (L := L) k i c
  generalize lsum w L k i c = R at h1 ⊢
  split
  · rename_i z; intro z2; exact absurd z2 z
  · rename_i z
    split
    · rename_i z2
      have h2 := lGd_sum (w := w) (L := L) k (R.1.1 + 1) (c + R.2.1.length)
      generalize lsum w L k (R.1.1 + 1) (c + R.2.1.length) = S at h2 ⊢
      obtain ⟨j1, j2⟩ := ljn_l (lsg w L R.1.1) R S
      intro f
      rw [j1] at f ⊢
      rw [j2 f]
      obtain ⟨a1, a2, a3, a4⟩ := h1 (by omega)
      obtain ⟨r1, r2, r3, r4⟩ := h2 f
      refine ⟨by omega, r2, by omega, fun j h1 h2 => ?_⟩
      by_cases e : j < R.1.1
      · exact a4 j h1 e
      · by_cases e2 : j = R.1.1
        · rw [e2]; exact (isC_n z2).2
        · exact r4 j (by omega) h2
    · exact lGd_bad (by omega)
theorem lGd_allo {P : Nat → Nat → lR} (hP : ∀ i c, lGd w L i (P i c)) (i c : Nat) : lGd w L i (lallo w L P i c) :=
  lGd_loop (fun g h => by simp at h; omega) hP (fun _ a r => ljb_l false c a r) i 200 _ (hP i c)
theorem lGd_anyo {P : Nat → Nat → lR} (hP : ∀ i c, lGd w L i (P i c)) (i c : Nat) : lGd w L i (lanyo w L P i c) :=
  lGd_loop (fun g h => by simp at h; omega) (lGd_allo hP) (fun _ a r => ljb_l true c a r) i 200 _ (lGd_allo hP i c)
theorem lGd_pie : ∀ k i c, lGd w L i (lpie w L k i c) := by
  intro k
  induction k with
  | zero =>
    intro i c
    unfold lpie
    split
    · exact lGd_bad (by omega)
    · exact lGd_cmp 0 i c
  | succ k ih =>
    intro i c
    unfold lpie
    split
    · rename_i z
      have hi : i < L := lsg_in (w := w) (by omega)
      have h := ih (i + 1) c
      intro f
      rw [lnot_f] at f ⊢
      obtain ⟨a1, a2, a3, a4⟩ := h f
      unfold lnot
      rw [if_neg (by omega)]
      refine ⟨by omega, a2, by simp; omega, fun j h1 h2 => ?_⟩
      by_cases e : j = i
      · subst e; omega
      · exact a4 j (by omega) h2
    · split
      · rename_i z
        have hi : i < L := lsg_in (w := w) (by omega)
        have h := lGd_anyo ih (i + 1) c
        generalize lanyo w L (lpie w L k) (i + 1) c = R at h ⊢
        unfold lpar
        split
        · rename_i z3; intro z2; exact absurd z2 z3
        · rename_i z3
          split
          · rename_i z4
            intro _
            obtain ⟨a1, a2, a3, a4⟩ := h (by omega)
            have hj : R.1.1 < L := lsg_in (w := w) (by omega)
            refine ⟨by show i < R.1.1 + 1; omega, by show R.1.1 + 1 ≤ L; omega, by show i + R.2.1.length ≤ R.1.1 + 1; omega, fun j h1 h2 => ?_⟩
            have h2' : j < R.1.1 + 1 := h2
            by_cases e : j = i
            · subst e; omega
            · by_cases e2 : j = R.1.1
              · rw [e2]; omega
              · exact a4 j (by omega) (by omega)
          · exact lGd_bad (by omega)
      · exact lGd_cmp (k + 1) i c
/-- a clause that is right -/
theorem lcl_gd {i n c : Nat} (h : (lcl w L i n c).1.2 = 0) : (lsg w L i = 115 ∨ lsg w L i = 101) ∧ n < 14 ∧ i < (lcE w L i c).1.1 ∧ (lcE w L i c).1.2 = 0 ∧ lsg w L (lcE w L i c).1.1 = 40 ∧ (lcE w L i c).1.1 < (lcC w L i c).1.1 ∧ (lcC w L i c).1.2 = 0 ∧ lsg w L (lcC w L i c).1.1 = 41 ∧ (lcC w L i c).1.1 < L ∧
    lcl w L i n c = (((lcC w L i c).1.1 + 1, 0), lsg w L i, (lcE w L i c).2, (lcC w L i c).2) ∧ (∀ j, i ≤ j → j < (lcC w L i c).1.1 + 1 → lsg w L j ≠ 59) ∧ i + (lcE w L i c).2.1.length + 1 ≤ (lcE w L i c).1.1 ∧ (lcE w L i c).1.1 + (lcC w L i c).2.1.length + 1 ≤ (lcC w L i c).1.1 := by
  unfold lcl at h ⊢
  split at h
  · exact absurd h (by show (1 : Nat) ≠ 0; omega)
  rename_i z1
  split at h
  · exact absurd h (by show (4 : Nat) ≠ 0; omega)
  rename_i z2
  split at h
  · rename_i z3; exact absurd h z3
  rename_i z3
  split at h
  · exact absurd h (by show (1 : Nat) ≠ 0; omega)
  rename_i z4
  split at h
  · rename_i z5; exact absurd h z5
  rename_i z5
  split at h
  · exact absurd h (by show (1 : Nat) ≠ 0; omega)
  rename_i z6
  rw [if_neg z1, if_neg z2, if_neg z3, if_neg z4, if_neg z5, if_neg z6]
  have fE : (lcE w L i c).1.2 = 0 := by omega
  have fC : (lcC w L i c).1.2 = 0 := by omega
  have hE := lGd_sum (w := w) (L := L) 6 (i + 1) c fE
  have hC := lGd_anyo (lGd_pie (w := w) (L := L) 5) ((lcE w L i c).1.1 + 1) (c + (lcE w L i c).2.1.length) fC
  have hE' : i + 1 < (lcE w L i c).1.1 ∧ (lcE w L i c).1.1 ≤ L ∧ i + 1 + (lcE w L i c).2.1.length ≤ (lcE w L i c).1.1 ∧ ∀ j, i + 1 ≤ j → j < (lcE w L i c).1.1 → lsg w L j ≠ 59 := hE
  have hC' : (lcE w L i c).1.1 + 1 < (lcC w L i c).1.1 ∧ (lcC w L i c).1.1 ≤ L ∧ (lcE w L i c).1.1 + 1 + (lcC w L i c).2.1.length ≤ (lcC w L i c).1.1 ∧ ∀ j, (lcE w L i c).1.1 + 1 ≤ j → j < (lcC w L i c).1.1 → lsg w L j ≠ 59 := hC
  have z4' : lsg w L (lcE w L i c).1.1 = 40 := by omega
  have z6' : lsg w L (lcC w L i c).1.1 = 41 := by omega
  refine ⟨by omega, by omega, by omega, by omega, z4', by omega, by omega, z6', lsg_in (w := w) (by omega), rfl, fun j h1 h2 => ?_, by omega, by omega⟩
  by_cases e1 : j = i
  · subst e1; omega
  by_cases e2 : j < (lcE w L i c).1.1
  · exact hE'.2.2.2 j (by omega) e2
  by_cases e3 : j = (lcE w L i c).1.1
  · subst e3; omega
  by_cases e4 : j < (lcC w L i c).1.1
  · exact hC'.2.2.2 j (by omega) e4
  have : j = (lcC w L i c).1.1 := by omega
  subst this; omega
theorem lall_len : ∀ u i n c, (lall w L u i n c).2.length ≤ u := by
  intro u
  induction u with
  | zero => intro i n c; exact Nat.le_refl _
  | succ u ih =>
    intro i n c
    rw [lall]
    split
    · exact Nat.zero_le _
    · split
      · have := ih ((lcl w L i n c).1.1 + 1) (n + 1) (c + lcn (lcl w L i n c))
        simp only [List.length_cons]
        omega
      · split
        · exact Nat.zero_le _
        · simp only [List.length_cons, List.length_nil]
          omega
/-- as many clauses as there may be, if all is right -/
theorem lall_len2 : ∀ u i n c, (lall w L u i n c).1.2 = 0 → n ≤ 14 → n + (lall w L u i n c).2.length ≤ 14 := by
  intro u
  induction u with
  | zero => intro i n c f; exact absurd f (by show (1 : Nat) ≠ 0; omega)
  | succ u ih =>
    intro i n c f hn
    rw [lall] at f ⊢
    split
    · rename_i z; rw [if_pos z] at f; exact absurd f z
    · rename_i z
      rw [if_neg z] at f
      have G := (lcl_gd (w := w) (L := L) (i := i) (n := n) (c := c) (by omega)).2.1
      split
      · rename_i z2
        rw [if_pos z2] at f
        have := ih ((lcl w L i n c).1.1 + 1) (n + 1) (c + lcn (lcl w L i n c)) f (by omega)
        simp only [List.length_cons]
        omega
      · rename_i z2
        rw [if_neg z2] at f
        split
        · rename_i z3; rw [if_pos z3] at f; exact absurd f (by show (1 : Nat) ≠ 0; omega)
        · simp only [List.length_cons, List.length_nil]
          omega
end LQ
