/-! ===== what is read runs as it means ===== -/
section LY
variable {d : Nat} {Th : mT} {M : mM} {m : Nat} {w : Nat → Int} {L : Nat}
def kZ (d : Nat) (Th : mT) (m c : Nat) (r : lR) : Prop := r.1.2 = 0 → kRun d Th m r.2.1 c r.2.2
def kZB (d : Nat) (Th : mT) (m c : Nat) (r : lR) : Prop := r.1.2 = 0 → kRun d Th m r.2.1 c r.2.2 ∧ ∀ e, b01 (r.2.2 e).1
theorem lloop_Z {Z : Nat → lR → Prop} {T : Int → Bool} {p : Nat} {F : Nat → Nat → lR} {J : Int → lR → lR → lR} {c : Nat} (hF : ∀ i c, Z c (F i c)) (hJ : ∀ g a r, T g = true → a.1.2 = 0 → Z c a → Z (c + a.2.1.length + p) r → Z c (J g a r)) : ∀ (u : Nat) (a : lR), Z c a → Z c (lloop w L T p F J c u a) := by
  intro u
  induction u with
  | zero => intro a h; exact h
  | succ u ih =>
    intro a h
    rw [lloop]
    split
    · rename_i z
      exact ih _ (hJ _ _ _ z.2 z.1 h (hF _ _))
    · exact h
theorem kZ_bad {c i f : Nat} (h : f ≠ 0) : kZ d Th m c (lbad i f) := fun z => absurd z h
theorem kZB_bad {c i f : Nat} (h : f ≠ 0) : kZB d Th m c (lbad i f) := fun z => absurd z h
theorem kZ_fac (hT : LyM Th m) (hw : ∀ k, 0 ≤ w k ∧ w k ≤ 255) {sub : Option (Nat → Nat → lR)} (hs : ∀ S, sub = some S → ∀ i c, kZ d Th m c (S i c)) (i c : Nat) : kZ d Th m c (lfac w L sub i c) := by
  unfold lfac
  split
  · rename_i hd
    split
    · exact kZ_bad (by omega)
    · intro _
      refine kRun_num hT ?_
      have key : ∀ (u i : Nat) (v : Int), 0 ≤ v → v < 10 ^ (5 - u) → u ≤ 5 → 0 ≤ (ldig w L u i v).2 ∧ (ldig w L u i v).2 < 100000 := by
        intro u
        induction u with
        | zero => intro i v h1 h2 _; exact ⟨h1, h2⟩
        | succ u ih =>
          intro i v h1 h2 h3
          have hp5 : (10 : Int) ^ (5 - (u + 1)) ≤ 10000 := by
            have : u = 0 ∨ u = 1 ∨ u = 2 ∨ u = 3 ∨ u = 4 := by omega
            rcases this with rfl | rfl | rfl | rfl | rfl <;> decide
          have hp : (10 : Int) ^ (5 - u) = 10 * 10 ^ (5 - (u + 1)) := by
            rw [show 5 - u = (5 - (u + 1)) + 1 by omega, Int.pow_succ]; omega
          unfold ldig
          split
          · rename_i hD
            have := (isD_iff _).mp hD
            exact ih _ _ (by omega) (by omega) (by omega)
          · exact ⟨h1, by show v < 100000; omega⟩
      have := key 5 i 0 (by omega) (by decide) (by omega)
      exact ⟨this.1, by omega⟩
  · split
    · cases sub with
      | none => exact kZ_bad (by omega)
      | some S =>
        simp only
        split
        · exact hs S rfl (i + 1) c
        · rename_i z
          split
          · intro _
            exact hs S rfl (i + 1) c (by omega)
          · exact kZ_bad (by omega)
    · cases hl : llt (lsg w L i) with
      | none => exact kZ_bad (by omega)
      | some p =>
        obtain ⟨k, kk⟩ := p
        intro _
        exact kRun_let hT hl
theorem kZ_jn {g : Int} {a r : lR} {c : Nat} (hT : LyM Th m) (hg : isS g = true ∨ isP g = true ∨ isC g = true) (ha0 : a.1.2 = 0) (ha : kZ d Th m c a) (hr : kZ d Th m (c + a.2.1.length + 0) r) : kZ d Th m c (ljn g a r) := by
  intro f
  rw [ljn_f] at f
  exact kRun_jn hT hg f (ha ha0) (hr f)
theorem kZ_prd (hT : LyM Th m) (hw : ∀ k, 0 ≤ w k ∧ w k ≤ 255) {sub : Option (Nat → Nat → lR)} (hs : ∀ S, sub = some S → ∀ i c, kZ d Th m c (S i c)) (i c : Nat) : kZ d Th m c (lprd w L sub i c) :=
  lloop_Z (w := w) (L := L) (T := isP) (J := ljn) (Z := kZ d Th m) (kZ_fac hT hw hs) (fun g a r hg ha0 ha hr => kZ_jn hT (Or.inr (Or.inl hg)) ha0 ha hr) 200 _ (kZ_fac hT hw hs i c)
theorem kZ_smo (hT : LyM Th m) (hw : ∀ k, 0 ≤ w k ∧ w k ≤ 255) {sub : Option (Nat → Nat → lR)} (hs : ∀ S, sub = some S → ∀ i c, kZ d Th m c (S i c)) (i c : Nat) : kZ d Th m c (lsmo w L sub i c) :=
  lloop_Z (w := w) (L := L) (T := isS) (J := ljn) (Z := kZ d Th m) (kZ_prd hT hw hs) (fun g a r hg ha0 ha hr => kZ_jn hT (Or.inl hg) ha0 ha hr) 200 _ (kZ_prd hT hw hs i c)
theorem kZ_sum (hT : LyM Th m) (hw : ∀ k, 0 ≤ w k ∧ w k ≤ 255) : ∀ k i c, kZ d Th m c (lsum w L k i c) := by
  intro k
  induction k with
  | zero => intro i c; exact kZ_smo hT hw (fun S h => by cases h) i c
  | succ k ih => intro i c; exact kZ_smo hT hw (fun S h => by cases h; exact ih) i c
theorem lcb_b {g : Int} (h : isC g = true) (x y : Int32) : b01 (lcb g x y).1 ∧ (lcb g x y).2 = false := by
  have := lcb_cmp (x := x) (y := y) h
  rw [← this.1]
  exact ⟨b01_cmp _ _ _, this.2⟩
theorem kZB_cmp (hT : LyM Th m) (hw : ∀ k, 0 ≤ w k ∧ w k ≤ 255) (k i c : Nat) : kZB d Th m c (lcmp w L k i c) := by
  unfold lcmp
  have h1 := kZ_sum (d := d) (L := L) hT hw k i c
  generalize lsum w L k i c = R at *
  split
  · rename_i z; intro z2; exact absurd z2 z
  · rename_i z
    split
    · rename_i z2
      have h2 := kZ_sum (d := d) (L := L) hT hw k (R.1.1 + 1) (c + R.2.1.length)
      generalize lsum w L k (R.1.1 + 1) (c + R.2.1.length) = S at *
      intro f
      rw [ljn_f] at f
      refine ⟨kRun_jn hT (Or.inr (Or.inr z2)) f (h1 (by omega)) (h2 f), fun e => ?_⟩
      unfold ljn
      rw [if_neg (by omega)]
      exact (lcb_b z2 _ _).1
    · exact kZB_bad (by omega)
theorem kZB_jb {orr : Bool} {a r : lR} {c : Nat} (hT : LyM Th m) (ha0 : a.1.2 = 0) (ha : kZB d Th m c a) (hr : kZB d Th m (c + a.2.1.length + 1) r) : kZB d Th m c (ljb orr c a r) := by
  intro f
  rw [ljb_f] at f
  have hA := ha ha0
  have hR := hr f
  refine ⟨kRun_jb hT f hA.2 hA.1 hR.1, fun e => ?_⟩
  have e2 : ((ljb orr c a r).2.2 e).1 = if ((a.2.2 e).1 = 0 ↔ orr = false) then (a.2.2 e).1 else (r.2.2 e).1 := by unfold ljb; rw [if_neg (by omega)]
  rw [e2]
  split
  · exact hA.2 e
  · exact hR.2 e
theorem kZB_allo (hT : LyM Th m) {P : Nat → Nat → lR} (hP : ∀ i c, kZB d Th m c (P i c)) (i c : Nat) : kZB d Th m c (lallo w L P i c) :=
  lloop_Z (Z := kZB d Th m) hP (fun g a r hg ha0 ha hr => kZB_jb hT ha0 ha hr) 200 _ (hP i c)
theorem kZB_anyo (hT : LyM Th m) {P : Nat → Nat → lR} (hP : ∀ i c, kZB d Th m c (P i c)) (i c : Nat) : kZB d Th m c (lanyo w L P i c) :=
  lloop_Z (Z := kZB d Th m) (kZB_allo hT hP) (fun g a r hg ha0 ha hr => kZB_jb hT ha0 ha hr) 200 _ (kZB_allo hT hP i c)
theorem kZB_pie (hT : LyM Th m) (hw : ∀ k, 0 ≤ w k ∧ w k ≤ 255) : ∀ k i c, kZB d Th m c (lpie w L k i c) := by
  intro k
  induction k with
  | zero =>
    intro i c
    unfold lpie
    split
    · exact kZB_bad (by omega)
    · exact kZB_cmp hT hw 0 i c
  | succ k ih =>
    intro i c
    unfold lpie
    split
    · have h := ih (i + 1) c
      intro f
      rw [lnot_f] at f
      refine ⟨kRun_not hT f (h f).2 (h f).1, fun e => ?_⟩
      have e2 : ((lnot (lpie w L k (i + 1) c)).2.2 e).1 = if ((lpie w L k (i + 1) c).2.2 e).1 = 0 then 1 else 0 := by unfold lnot; rw [if_neg (by omega)]
      rw [e2]
      exact b01_ite'
    · split
      · have h := kZB_anyo (w := w) (L := L) hT ih (i + 1) c
        generalize lanyo w L (lpie w L k) (i + 1) c = R at *
        unfold lpar
        split
        · rename_i z; intro z2; exact absurd z2 z
        · rename_i z
          split
          · intro _
            exact h (by omega)
          · exact kZB_bad (by omega)
      · exact kZB_cmp hT hw (k + 1) i c
/-- the codes of a clause, where they stand, run -/
def kCl (d : Nat) (Th : mT) (m c : Nat) (a : lC) : Prop := kRun d Th m a.2.2.1.1 c a.2.2.1.2 ∧ kRun d Th m a.2.2.2.1 (c + a.2.2.1.1.length) a.2.2.2.2 ∧ (∀ e, b01 (a.2.2.2.2 e).1) ∧ (a.2.1 = 115 ∨ a.2.1 = 101)
def kCls (d : Nat) (Th : mT) (m : Nat) : Nat → List lC → Prop
  | _, [] => True
  | c, a :: t => kCl d Th m c a ∧ kCls d Th m (c + lcn a) t
theorem kCls_all (hT : LyM Th m) (hw : ∀ k, 0 ≤ w k ∧ w k ≤ 255) : ∀ u i n c, (lall w L u i n c).1.2 = 0 → kCls d Th m c (lall w L u i n c).2 := by
  intro u
  induction u with
  | zero => intro i n c f; exact absurd f (by show (1 : Nat) ≠ 0; omega)
  | succ u ih =>
    intro i n c f
    rw [lall] at f ⊢
    by_cases f0 : (lcl w L i n c).1.2 = 0
    rotate_left
    · rw [if_pos f0] at f; exact absurd f f0
    rw [if_neg (by omega)] at f ⊢
    have G := lcl_gd f0
    have h1 : kCl d Th m c (lcl w L i n c) := by
      rw [G.2.2.2.2.2.2.2.2.2.1]
      have hE := kZ_sum (d := d) (L := L) hT hw 6 (i + 1) c G.2.2.2.1
      have hC := kZB_anyo (w := w) (L := L) hT (kZB_pie (d := d) (L := L) hT hw 5) ((lcE w L i c).1.1 + 1) (c + (lcE w L i c).2.1.length) G.2.2.2.2.2.2.1
      exact ⟨hE, hC.1, hC.2, G.1⟩
    split
    · rename_i z
      rw [if_pos z] at f
      exact ⟨h1, ih _ _ _ f⟩
    · rename_i z
      rw [if_neg z] at f
      split
      · rename_i z3; rw [if_pos z3] at f; exact absurd f (by show (1 : Nat) ≠ 0; omega)
      · exact ⟨h1, trivial⟩
/-- one half of a clause is asked -/
theorem s11_comesTo {Q : Int32 → mM → Prop} {code : List Int} {c : Nat} {v : lD} {e : lE} (hT : LyM Th m) (hR : RfM m M) (hv : kRun d Th m code c v) (hc : ∀ j x, code[j]? = some x → M.1 (m + 14) (c + j) = jI x) (he : kfe m e M) (hb : c + code.length ≤ 201)
    (k : ∀ M', Eo (ksk m 0) M M' → Q (if (v e).2 then 0 else (v e).1) M') : P11_comesTo (d + 2) Th m (jI c) (jI ((c + code.length : Nat) : Int)) M Q := by
  refine e11_comesTo ?_
  intro xv1 h1
  rw [show (220 : Int32) = jI 220 from rfl, jI_div (by omega) (by omega) (by omega) (by omega), jI_mul, show 220 * ((c : Int) / 220) = 0 by omega] at h1
  subst h1
  refine hv e 0 (c + code.length) M Q hR hc he (Nat.le_refl _) (by omega) (by omega) ?_ ?_
  · intro hf M' e1 v1
    refine h11_comesTo_16 ?_
    rw [if_pos (Int32.le_refl _)]
    refine ⟨hT 0 _ rfl, m + 19, (ksk_rf hR e1) 0 33 19 (by decide), by rw [i0]; exact m_ok_jI (hT 19 _ rfl) (by omega) (by omega) (by omega), ?_⟩
    rw [show Int32.toNatClampNeg 0 = 0 from rfl, v1]
    have := k M' e1
    rw [hf] at this
    exact this
  · intro hf M' e1
    have := k M' e1
    rw [hf] at this
    exact this
/-- a clamp -/
def lclp (v : Int32) (h : Int) : Int := if v.toInt < 0 then 0 else if h < v.toInt then h else v.toInt
theorem lclp_b {v : Int32} {h : Int} (hh : 0 ≤ h) : 0 ≤ lclp v h ∧ lclp v h ≤ h := by unfold lclp; split; omega; split <;> omega
theorem lclp_M {v : Int32} {h : Int} (hh : 0 ≤ h ∧ h ≤ 8) : (if 0 ≤ v then (if v ≤ jI h then v else jI h) else 0) = jI (lclp v h) := by
  obtain ⟨z, hz, rfl⟩ := rI_ex v
  have hz' := hz
  unfold rI at hz'
  unfold lclp
  rw [jI_toInt hz'.1 hz'.2]
  have e : (if z < 0 then 0 else if h < z then h else z) = (if 0 ≤ z then (if z ≤ h then z else h) else 0) := by
    (repeat' split) <;> omega
  rw [e]
  simp only [jh0 hz, jIle hz (rI_of (z := h) (by omega) (by omega))]
  by_cases a : 0 ≤ z
  · simp only [if_pos a]
    by_cases b : z ≤ h
    · simp only [if_pos b]
    · simp only [if_neg b]
  · simp only [if_neg a]; rfl
theorem lclp_A {v : Int32} {h : Int} (hh : 0 ≤ h ∧ h ≤ 8) : (if 0 < (if jI h < v then jI h else v) then (if jI h < v then jI h else v) else 0) = jI (lclp v h) := by
  obtain ⟨z, hz, rfl⟩ := rI_ex v
  have hz' := hz
  unfold rI at hz'
  have rh : rI h := rI_of (by omega) (by omega)
  unfold lclp
  rw [jI_toInt hz'.1 hz'.2]
  have e : (if z < 0 then 0 else if h < z then h else z) = (if h < z then (if 0 < h then h else 0) else (if 0 < z then z else 0)) := by
    (repeat' split) <;> omega
  rw [e]
  simp only [jIlt rh hz]
  by_cases b : h < z
  · simp only [if_pos b, jg0 rh]
    by_cases a : 0 < h
    · simp only [if_pos a]
    · simp only [if_neg a]; rfl
  · simp only [if_neg b, jg0 hz]
    by_cases a : 0 < z
    · simp only [if_pos a]
    · simp only [if_neg a]; rfl
/-- by the law, in the model -/
theorem s11_byLaw {Q : Int32 → mM → Prop} {cls : List lC} {g h : Int} {e : lE} (hT : LyM Th m) (hR0 : RfM m M) (hg : g = 115 ∨ g = 101) (hh : 0 ≤ h ∧ h ≤ 8) (hL : mLaw m cls M) (he0 : kfe m e M) (hC : kCls d Th m 0 cls) (hl : cls.length ≤ 14) (hcl : (lcod cls).length ≤ 201)
    (k : ∀ M', Eo (ksk m 0) M M' → Q (jI (lclp (lval g e cls) h)) M') : P11_byLaw (d + 3) Th m (jI g) (jI h) M Q := by
  obtain ⟨hL1, hL2, hL3⟩ := hL
  have key : ∀ (t : List lC) (j c : Nat) (M1 : mM), j + t.length = cls.length → Eo (ksk m 0) M M1 → kCls d Th m c t → c + (lcod t).length ≤ 201 → (∀ i x, (lcod t)[i]? = some x → M.1 (m + 14) (c + i) = jI x) → (∀ i x, (ltab c t)[i]? = some x → M.1 (m + 15) (j + i) = jI x.1 ∧ M.1 (m + 16) (j + i) = jI x.2.1 ∧ M.1 (m + 17) (j + i) = jI x.2.2.1 ∧ M.1 (m + 18) (j + i) = jI x.2.2.2) → lval g e cls = lval g e t → H11_byLaw_2 (d + 3) Th Q m (jI g) (jI h) (jI j) M1 := by
    intro t
    induction t with
    | nil =>
      intro j c M1 hj he hk hb hc ht hv
      refine h11_byLaw_2 ⟨hT 0 _ rfl, ?_⟩
      simp only [List.length_nil] at hj
      rw [(he _ _ (by unfold ksk; omega)).1, hL1, if_pos (by rw [jIle (rI_nat (by omega)) (rI_nat (by omega))]; omega)]
      have := k M1 he
      rw [hv] at this
      have e0 : lclp (lval g e []) h = 0 := by
        have : (lval g e []).toInt = 0 := rfl
        unfold lclp
        rw [this]
        rw [if_neg (by omega), if_neg (by omega)]
      rw [e0] at this
      exact this
    | cons a t ih =>
      intro j c M1 hj he hk hb hc ht hv
      have hR := ksk_rf hR0 he
      obtain ⟨⟨r1, r2, r3, r4⟩, hk2⟩ := hk
      simp only [List.length_cons] at hj
      simp only [lcod, List.length_append] at hb
      obtain ⟨t1, t2, t3, t4⟩ := ht 0 _ rfl
      simp only [Nat.add_zero] at t1 t2 t3 t4
      have up : ∀ q k, q ≠ m + 19 → M1.1 q k = M.1 q k := fun q k hq => (he _ _ (by unfold ksk; omega)).1
      have next : ∀ M2, Eo (ksk m 0) M M2 → lval g e cls = lval g e t → H11_byLaw_2 (d + 3) Th Q m (jI g) (jI h) (jI j + 1) M2 := by
        intro M2 e2 hv2
        rw [jI_s]
        refine ih (j + 1) (c + lcn a) M2 (by omega) e2 hk2 (by unfold lcn; omega) ?_ ?_ hv2
        · intro i x hx
          have := (List.getElem?_eq_some_iff.mp hx).1
          rw [show c + lcn a + i = c + (lcn a + i) by omega]
          refine hc _ x ?_
          simp only [lcod]
          rw [List.getElem?_append_right (by simp [lcn])]
          simp only [List.length_append, lcn]
          rw [show a.2.2.1.1.length + a.2.2.2.1.length + i - (a.2.2.1.1.length + a.2.2.2.1.length) = i by omega]
          exact hx
        · intro i x hx
          rw [show j + 1 + i = j + (i + 1) by omega]
          exact ht (i + 1) x hx
      have ok : ∀ (q : Nat) (hq : Th.2.2 q = some (.inr (.int, false, 14))), m_ok Th q .int (jI j) := fun q hq => m_ok_jI hq (by omega) (by omega) (by omega)
      refine h11_byLaw_2 ⟨hT 0 _ rfl, ?_⟩
      rw [up m 21 (by omega), hL1, if_neg (by rw [jIle (rI_nat (by omega)) (rI_nat (by omega))]; omega)]
      refine ⟨m + 15, hR 0 29 15 (by decide), ok _ (hT 15 _ rfl), ?_⟩
      rw [jInatN j (by omega), up _ _ (by omega), t1]
      by_cases hag : a.2.1 = g
      rotate_left
      · rw [if_neg (by rw [jIeq (rI_of (by omega) (by omega)) (rI_of (by omega) (by omega))]; exact hag)]
        exact next M1 he (by rw [hv, lval, if_neg (fun z => hag z.1)])
      rw [if_pos (by rw [hag])]
      refine ⟨m + 17, hR 0 31 17 (by decide), ok _ (hT 17 _ rfl), m + 18, hR 0 32 18 (by decide), ok _ (hT 18 _ rfl), ?_⟩
      rw [up _ _ (by omega), up _ _ (by omega), t3, t4]
      have he1 : kfe m e M1 := he0.mv he
      have hlen2 : c + lcn a = c + a.2.2.1.1.length + a.2.2.2.1.length := by unfold lcn; omega
      rw [hlen2]
      refine s11_comesTo (e := e) hT hR r2 (fun i x hx => ?_) he1 (by omega) ?_
      · rw [up _ _ (by omega), show c + a.2.2.1.1.length + i = c + (a.2.2.1.1.length + i) by omega]
        have := (List.getElem?_eq_some_iff.mp hx).1
        refine hc _ x ?_
        simp only [lcod]
        rw [List.getElem?_append_left (by simp only [List.length_append]; omega), List.getElem?_append_right (by omega)]
        rw [show a.2.2.1.1.length + i - a.2.2.1.1.length = i by omega]
        exact hx
      intro M2 e2
      have e02 := he.trans e2
      have hR2 := ksk_rf hR0 e02
      have up2 : ∀ q k, q ≠ m + 19 → M2.1 q k = M.1 q k := fun q k hq => (e02 _ _ (by unfold ksk; omega)).1
      by_cases hr : (a.2.2.2.2 e).2 = true
      · rw [if_pos hr, if_neg (by decide)]
        exact next M2 e02 (by rw [hv, lval, if_neg (fun z => by rw [hr] at z; exact absurd z.2.2 (by decide))])
      have hr' : (a.2.2.2.2 e).2 = false := by simpa using hr
      rw [if_neg hr]
      rcases r3 e with v0 | v0
      · rw [v0, if_neg (by decide)]
        exact next M2 e02 (by rw [hv, lval, if_neg (fun z => z.2.1 v0)])
      rw [v0, if_pos rfl]
      refine ⟨m + 16, hR2 0 30 16 (by decide), ok _ (hT 16 _ rfl), m + 17, hR2 0 31 17 (by decide), ok _ (hT 17 _ rfl), ?_⟩
      rw [up2 _ _ (by omega), up2 _ _ (by omega), t2, t3]
      refine s11_comesTo (e := e) hT hR2 r1 (fun i x hx => ?_) (he0.mv e02) (by omega) ?_
      · rw [up2 _ _ (by omega)]
        have := (List.getElem?_eq_some_iff.mp hx).1
        refine hc _ x ?_
        simp only [lcod]
        rw [List.getElem?_append_left (by simp only [List.length_append]; omega), List.getElem?_append_left (by omega)]
        exact hx
      intro M3 e3
      rw [lclp_M hh]
      have := k M3 (e02.trans e3)
      rw [hv, lval, if_pos ⟨hag, by rw [v0]; decide, hr'⟩] at this
      exact this
  refine e11_byLaw ?_
  have q := key cls 0 0 M (by omega) Eo.rf hC (by omega) (fun i x hx => by rw [Nat.zero_add]; exact hL2 i x hx) (fun i x hx => by rw [Nat.zero_add]; exact hL3 i x hx) rfl
  exact q
end LY
