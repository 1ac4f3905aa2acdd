/-! ===== THE LAW, AS THE CLASS READS IT: pieces, parts, conditions ===== -/
section LB
variable {d : Nat} {Th : mT} {M : mM} {n ra : Nat} {w : Nat → Int} {L : Nat} {e : lE} {i f : Nat}
def b01 (v : Int32) : Prop := v = 0 ∨ v = 1
theorem b01.mb {v : Int32} (h : b01 v) : m_bool v := by rcases h with h | h <;> rw [h]; exact mb0; exact mb1
theorem b01_ite {p : Prop} [Decidable p] : b01 (if p then (0 : Int32) else 1) := by split; exact Or.inl rfl; exact Or.inr rfl
theorem b01_ite' {p : Prop} [Decidable p] : b01 (if p then (1 : Int32) else 0) := by split; exact Or.inr rfl; exact Or.inl rfl
def PieOK (Th : mT) (n ra : Nat) (w : Nat → Int) (L : Nat) (e : lE) (k : Nat) : Prop := ∀ (d : Nat) (M : mM) (i f c : Nat) (q : Bool) (Q : Int32 → mM → Prop), 3 * k + 5 ≤ d → cst n ra w L i f M → lIn Th n e M → i ≤ 300 → f ≤ 5 →
  (∀ v M', b01 v → lPo n ra w L e q (if f ≠ 0 then lbad i f else lpie w L k i c) M v M' → Q v M') → P4_piece d Th (n + 4) (jI (6 - (k : Int))) (jB q) M Q
def AllOK (Th : mT) (n ra : Nat) (w : Nat → Int) (L : Nat) (e : lE) (k : Nat) : Prop := ∀ (d : Nat) (M : mM) (i f c : Nat) (q : Bool) (Q : Int32 → mM → Prop), 3 * k + 6 ≤ d → cst n ra w L i f M → lIn Th n e M → i ≤ 300 → f ≤ 5 →
  (∀ v M', b01 v → lPo n ra w L e q (if f ≠ 0 then lbad i f else lallo w L (lpie w L k) i c) M v M' → Q v M') → P4_all d Th (n + 4) (jI (6 - (k : Int))) (jB q) M Q
def AnyOK (Th : mT) (n ra : Nat) (w : Nat → Int) (L : Nat) (e : lE) (k : Nat) : Prop := ∀ (d : Nat) (M : mM) (i f c : Nat) (q : Bool) (Q : Int32 → mM → Prop), 3 * k + 7 ≤ d → cst n ra w L i f M → lIn Th n e M → i ≤ 300 → f ≤ 5 →
  (∀ v M', b01 v → lPo n ra w L e q (if f ≠ 0 then lbad i f else lanyo w L (lpie w L k) i c) M v M' → Q v M') → P4_any d Th (n + 4) (jI (6 - (k : Int))) (jB q) M Q
theorem lPo.jb {orr : Bool} {c : Nat} {q q' : Bool} {a r : lR} {M0 M1 M2 M3 : mM} {x y v : Int32} (ha : lPo n ra w L e q a M0 x M1) (fa : a.1.2 = 0) (h2 : Eo (lfd n) M1 M2) (h10 : M2.1 (n + 4) 10 = M1.1 (n + 4) 10) (hr : lPo n ra w L e q' r M2 y M3)
    (hq : q' = (q && decide (¬ (x = 0 ↔ orr = false)))) (hv : v = if (x = 0 ↔ orr = false) then x else y) : lPo n ra w L e q (ljb orr c a r) M0 v M3 := by
  obtain ⟨⟨a1, a2, a3⟩, a4, a5, a6⟩ := ha
  obtain ⟨⟨r1, r2, r3⟩, r4, r5, r6⟩ := hr
  refine ⟨by rw [ljb_f]; exact ⟨r1, r2, r3⟩, (a4.trans h2).trans r4, fun z rf h => r5 (by rw [hq, z]; rfl) rf (h10.trans (a5 z rf h)), fun z => ?_⟩
  rw [ljb_f] at z
  obtain ⟨x1, x2⟩ := a6 fa
  obtain ⟨y1, y2⟩ := r6 z
  unfold ljb
  rw [if_neg (by omega)]
  refine ⟨?_, fun rf h => ?_⟩
  · rw [hv, x1, y1]
  · rw [y2 _ (by rw [h10]; exact x2 rf h), hq, x1]
    by_cases g : ((a.2.2 e).1 = 0 ↔ orr = false)
    · simp only [if_pos g, decide_not]; simp [g]
    · simp only [if_neg g, decide_not]; simp [g]; cases q <;> simp [Bool.or_assoc]
theorem i60 : (60 : Int32) = jI 60 := rfl
theorem i61 : (61 : Int32) = jI 61 := rfl
theorem i62 : (62 : Int32) = jI 62 := rfl
theorem i33 : (33 : Int32) = jI 33 := rfl
theorem i38 : (38 : Int32) = jI 38 := rfl
theorem i41 : (41 : Int32) = jI 41 := rfl
theorem i124 : (124 : Int32) = jI 124 := rfl
theorem lcb_cmp {g : Int} {x y : Int32} (hg : isC g = true) : (if jI g = 60 then (if y ≤ x then (0 : Int32) else 1) else if jI g = 62 then (if x ≤ y then 0 else 1) else if x = y then 1 else 0) = (lcb g x y).1 ∧ (lcb g x y).2 = false := by
  have : g = 60 ∨ g = 62 ∨ g = 61 := by unfold isC at hg; simp at hg; omega
  have rg : rI g := rI_of (by omega) (by omega)
  have q60 : (jI g = 60) = (g = 60) := by rw [i60, jIeq rg (rI_of (by omega) (by omega))]
  have q62 : (jI g = 62) = (g = 62) := by rw [i62, jIeq rg (rI_of (by omega) (by omega))]
  simp only [q60, q62]
  rcases this with z | z | z <;> subst z <;> simp [lcb]
theorem b01_cmp (g : Int32) (x y : Int32) : b01 (if g = 60 then (if y ≤ x then (0 : Int32) else 1) else if g = 62 then (if x ≤ y then 0 else 1) else if x = y then 1 else 0) := by
  split
  · exact b01_ite
  · split
    · exact b01_ite
    · exact b01_ite'
/-- two sums, compared (also behind a fault) -/
theorem s4_cmp {k : Nat} {c : Nat} {q : Bool} {Q : Int32 → mM → Prop} (hk : lOk Th n ra w L) (hk6 : k ≤ 6) (hd : 3 * k + 4 ≤ d) (hc : cst n ra w L i f M) (hn : lIn Th n e M) (hi : i ≤ 300) (hf : f ≤ 5) (hs : f = 0 → ¬ (lsg w L i = 33 ∨ lsg w L i = 40))
    (K : ∀ v M', b01 v → lPo n ra w L e q (if f ≠ 0 then lbad i f else lcmp w L k i c) M v M' → Q v M') : H4_piece_31 (d + 1) Th Q (n + 4) (jI (6 - (k : Int))) (jB q) M := by
  have hL := hk.2.2.1
  have c5 := hc.2.2.2.2.1
  have hwb := lsg_b (w := w) (L := L) (i := i) hk.2.2.2.1
  have S := s4_sum (e := e) hk k hk6
  refine h4_piece_31 ⟨hk.1 4 _ rfl, ?_⟩
  rw [if_neg, if_neg]
  rotate_left
  · rw [c5, i40, jIeq (by split <;> exact rI_of (by omega) (by omega)) (rI_of (by omega) (by omega))]
    split
    · rename_i z; exact fun h => hs z (Or.inr h)
    · omega
  · rw [c5, i33, jIeq (by split <;> exact rI_of (by omega) (by omega)) (rI_of (by omega) (by omega))]
    split
    · rename_i z; exact fun h => hs z (Or.inl h)
    · omega
  refine S d M i f c q _ hd hc hn hi hf ?_
  intro v13 M12 p xv14 h14
  by_cases hf0 : f = 0
  rotate_left
  · rw [if_pos hf0] at p K
    have p' := p
    obtain ⟨⟨p1, p2, p3⟩, p4, p5, p6⟩ := p
    have e5 := p1.2.2.2.2.1
    rw [if_neg (show (lbad i f).1.2 ≠ 0 from hf0)] at e5
    rw [e5] at h14
    refine s4_pass (d := d - 1) false hk p1 p2 p3 (by rw [h14]; rfl) ?_ |> (fun h => by rw [show d - 1 + 1 = d by omega] at h; exact h)
    intro M15 b1 b2 b3
    unfold lps at b1
    rw [if_pos (show (lbad i f).1.2 ≠ 0 from hf0)] at b1
    refine S d M15 i f c q _ hd b1 (hn.mv hk (p4.trans b3)) hi hf ?_
    intro v18 M17 r
    rw [if_pos hf0] at r
    obtain ⟨⟨r1, r2, r3⟩, r4, r5, r6⟩ := r
    refine ⟨(b01_cmp _ _ _).mb, K _ _ (b01_cmp _ _ _) ⟨⟨r1, hi, hf⟩, (p4.trans b3).trans r4, fun z rf h => r5 z rf (b2.trans (p5 z rf h)), fun z => absurd z hf0⟩⟩
  subst hf0
  rw [if_neg (by omega)] at p K
  have p' := p
  obtain ⟨⟨p1, p2, p3⟩, p4, p5, p6⟩ := p
  have e5 := p1.2.2.2.2.1
  unfold lcmp at K
  generalize hR : lsum w L k i c = R at p' p1 p2 p3 p4 p5 p6 e5 K
  have hwb2 := lsg_b (w := w) (L := L) (i := R.1.1) hk.2.2.2.1
  by_cases fR : R.1.2 = 0
  rotate_left
  · rw [if_neg fR] at e5
    rw [if_pos fR] at K
    rw [e5] at h14
    refine s4_pass (d := d - 1) false hk p1 p2 p3 (by rw [h14]; rfl) ?_ |> (fun h => by rw [show d - 1 + 1 = d by omega] at h; exact h)
    intro M15 b1 b2 b3
    unfold lps at b1
    rw [if_pos fR] at b1
    refine S d M15 R.1.1 R.1.2 c q _ hd b1 (hn.mv hk (p4.trans b3)) p2 p3 ?_
    intro v18 M17 r
    rw [if_pos fR] at r
    obtain ⟨⟨r1, r2, r3⟩, r4, r5, r6⟩ := r
    refine ⟨(b01_cmp _ _ _).mb, K _ _ (b01_cmp _ _ _) ⟨⟨r1, p2, p3⟩, (p4.trans b3).trans r4, fun z rf h => r5 z rf (b2.trans (p5 z rf h)), fun z => absurd z fR⟩⟩
  rw [if_pos fR] at e5
  rw [if_neg (by omega)] at K
  rw [fR] at p1
  generalize hg : lsg w L R.1.1 = g at e5 K hwb2
  rw [e5] at h14
  subst h14
  have rg : rI g := rI_of (by omega) (by omega)
  have q60 : (jI g = 60) = (g = 60) := by rw [i60, jIeq rg (rI_of (by omega) (by omega))]
  have q61 : (jI g = 61) = (g = 61) := by rw [i61, jIeq rg (rI_of (by omega) (by omega))]
  have q62 : (jI g = 62) = (g = 62) := by rw [i62, jIeq rg (rI_of (by omega) (by omega))]
  by_cases gC : isC g = true
  · rw [if_pos gC] at K
    have gC' : g = 60 ∨ g = 62 ∨ g = 61 := by unfold isC at gC; simp at gC; omega
    have hiL := lsg_lt (i := R.1.1) hg (by omega)
    refine s4_pass (d := d - 1) true hk p1 p2 (by omega) (by
      simp only [q60, q61, q62]
      rcases gC' with z | z | z <;> subst z <;> decide) ?_ |> (fun h => by rw [show d - 1 + 1 = d by omega] at h; exact h)
    intro M15 b1 b2 b3
    refine S d M15 (R.1.1 + 1) 0 (c + R.2.1.length) q _ hd b1 (hn.mv hk (p4.trans b3)) (by omega) (by omega) ?_
    intro v18 M17 r
    rw [if_neg (by omega)] at r
    have hc2 := lcb_cmp (x := v13) (y := v18) gC
    refine ⟨(b01_cmp _ _ _).mb, K _ _ (b01_cmp _ _ _) (p'.jn fR b3 b2 r r.1.1 Eo.rf (fun _ _ h => h) (fun z => ⟨hc2.1, fun rf h => ?_⟩))⟩
    rw [h, hc2.2]
    simp
  · rw [if_neg gC] at K
    have gC' : g ≠ 60 ∧ g ≠ 62 ∧ g ≠ 61 := by unfold isC at gC; simp at gC; omega
    refine s4_pass (d := d - 1) false hk p1 p2 (by omega) (by
      simp only [q60, q61, q62]
      rw [if_neg gC'.1, if_neg gC'.2.1, if_neg gC'.2.2]
      rfl) ?_ |> (fun h => by rw [show d - 1 + 1 = d by omega] at h; exact h)
    intro M15 b1 b2 b3
    refine S d M15 R.1.1 1 c q _ hd b1 (hn.mv hk (p4.trans b3)) p2 (by omega) ?_
    intro v18 M17 r
    rw [if_pos (by omega)] at r
    obtain ⟨⟨r1, r2, r3⟩, r4, r5, r6⟩ := r
    refine ⟨(b01_cmp _ _ _).mb, K _ _ (b01_cmp _ _ _) ⟨⟨r1, p2, by show 1 ≤ 5; omega⟩, (p4.trans b3).trans r4, fun z rf h => r5 z rf (b2.trans (p5 z rf h)), fun z => absurd z (by show (1 : Nat) ≠ 0; omega)⟩⟩
theorem s4_all {k : Nat} (hk : lOk Th n ra w L) (hF : PieOK Th n ra w L e k) : AllOK Th n ra w L e k := by
  have hL := hk.2.2.1
  intro d M0 i f c q Q hd hc0 hn0 hi0 hf0 K
  obtain ⟨d, rfl⟩ : ∃ d', d = d' + 2 := ⟨d - 2, by omega⟩
  have loop : ∀ (u : Nat), u ≤ 200 → ∀ (a : lR) (v : Int32) (M : mM), b01 v → lPo n ra w L e q a M0 v M →
      (∀ v' M', b01 v' → lPo n ra w L e q (lloop w L (fun g => decide (g = 38)) 1 (lpie w L k) (fun _ => ljb false c) c u a) M0 v' M' → Q v' M') → H4_all_10 (d + 2) Th Q (n + 4) (jI (6 - (k : Int))) (jB q) v (jI ((200 - u : Nat) : Int)) M := by
    intro u
    induction u with
    | zero =>
      intro _ a v M hv ha K
      refine h4_all_10 ?_
      rw [if_pos (by rw [i200, jIle (rI_of (by omega) (by omega)) (rI_nat (by omega))]; omega)]
      exact ⟨hv.mb, K _ _ hv ha⟩
    | succ u ih =>
      intro hu a v M hv ha K
      have ha' := ha
      obtain ⟨⟨a1, a2, a3⟩, a4, a5, a6⟩ := ha
      have c5 := a1.2.2.2.2.1
      have hwb := lsg_b (w := w) (L := L) (i := a.1.1) hk.2.2.2.1
      refine h4_all_10 ?_
      rw [if_neg (by rw [i200, jIle (rI_of (by omega) (by omega)) (rI_nat (by omega))]; omega)]
      refine ⟨hk.1 4 _ rfl, ?_⟩
      by_cases fa : a.1.2 = 0
      rotate_left
      · rw [c5, if_neg fa, if_neg (by decide)]
        rw [lloop_bad fa] at K
        exact ⟨hv.mb, K _ _ hv ha'⟩
      rw [if_pos fa] at c5
      rw [fa] at a1
      by_cases hP : lsg w L a.1.1 = 38
      rotate_left
      · rw [c5, if_neg (by rw [i38, jIeq (rI_of (by omega) (by omega)) (rI_of (by omega) (by omega))]; exact hP)]
        rw [lloop_stop (by simp [hP])] at K
        exact ⟨hv.mb, K _ _ hv ha'⟩
      have hiL := lsg_lt (i := a.1.1) hP (by omega)
      rw [lloop_step fa (by simp [hP])] at K
      rw [c5, if_pos (by rw [hP]; rfl)]
      refine s4_pass true hk a1 a2 (by omega) rfl ?_
      intro M3 b1 b2 b3
      have hn3 := hn0.mv hk (a4.trans b3)
      have eq : (if jB q = 0 then (0 : Int32) else if v = 0 then 0 else 1) = jB (q && decide (¬ (v = 0 ↔ false = false))) := by
        rcases hv with z | z <;> subst z <;> cases q <;> simp [jB]
      rw [eq]
      refine hF (d + 1) M3 (a.1.1 + 1) 0 (c + a.2.1.length + 1) _ _ (by omega) b1 hn3 (by omega) (by omega) ?_
      intro v6 M5 hv6 r
      rw [if_neg (by omega)] at r
      intro xv6 h6
      have e1 : jI ((200 - (u + 1) : Nat) : Int) + 1 = jI ((200 - u : Nat) : Int) := by
        rw [i1, jI_add]; congr 1; omega
      rw [e1]
      refine ih (by omega) _ xv6 M5 ?_ (ha'.jb (c := c) fa b3 b2 r rfl ?_) K
      · rw [h6]; split
        · exact Or.inl rfl
        · exact b01_ite
      · rw [h6]
        rcases hv with z | z <;> rcases hv6 with z6 | z6 <;> subst z <;> subst z6 <;> simp
  refine e4_all ⟨hk.1 4 _ rfl, ?_⟩
  refine hF (d + 1) M0 i f c q _ (by omega) hc0 hn0 hi0 hf0 ?_
  intro v M1 hv p
  by_cases f0 : f = 0
  · subst f0
    rw [if_neg (by omega)] at p K
    exact loop 200 (by omega) _ v M1 hv p K
  · rw [if_pos f0] at p K
    refine loop 200 (by omega) _ v M1 hv p ?_
    rw [lloop_bad (show (lbad i f).1.2 ≠ 0 from f0)]
    exact K
theorem s4_any {k : Nat} (hk : lOk Th n ra w L) (hF : AllOK Th n ra w L e k) : AnyOK Th n ra w L e k := by
  have hL := hk.2.2.1
  intro d M0 i f c q Q hd hc0 hn0 hi0 hf0 K
  obtain ⟨d, rfl⟩ : ∃ d', d = d' + 2 := ⟨d - 2, by omega⟩
  have loop : ∀ (u : Nat), u ≤ 200 → ∀ (a : lR) (v : Int32) (M : mM), b01 v → lPo n ra w L e q a M0 v M →
      (∀ v' M', b01 v' → lPo n ra w L e q (lloop w L (fun g => decide (g = 124)) 1 (lallo w L (lpie w L k)) (fun _ => ljb true c) c u a) M0 v' M' → Q v' M') → H4_any_10 (d + 2) Th Q (n + 4) (jI (6 - (k : Int))) (jB q) v (jI ((200 - u : Nat) : Int)) M := by
    intro u
    induction u with
    | zero =>
      intro _ a v M hv ha K
      refine h4_any_10 ?_
      rw [if_pos (by rw [i200, jIle (rI_of (by omega) (by omega)) (rI_nat (by omega))]; omega)]
      exact ⟨hv.mb, K _ _ hv ha⟩
    | succ u ih =>
      intro hu a v M hv ha K
      have ha' := ha
      obtain ⟨⟨a1, a2, a3⟩, a4, a5, a6⟩ := ha
      have c5 := a1.2.2.2.2.1
      have hwb := lsg_b (w := w) (L := L) (i := a.1.1) hk.2.2.2.1
      refine h4_any_10 ?_
      rw [if_neg (by rw [i200, jIle (rI_of (by omega) (by omega)) (rI_nat (by omega))]; omega)]
      refine ⟨hk.1 4 _ rfl, ?_⟩
      by_cases fa : a.1.2 = 0
      rotate_left
      · rw [c5, if_neg fa, if_neg (by decide)]
        rw [lloop_bad fa] at K
        exact ⟨hv.mb, K _ _ hv ha'⟩
      rw [if_pos fa] at c5
      rw [fa] at a1
      by_cases hP : lsg w L a.1.1 = 124
      rotate_left
      · rw [c5, if_neg (by rw [i124, jIeq (rI_of (by omega) (by omega)) (rI_of (by omega) (by omega))]; exact hP)]
        rw [lloop_stop (by simp [hP])] at K
        exact ⟨hv.mb, K _ _ hv ha'⟩
      have hiL := lsg_lt (i := a.1.1) hP (by omega)
      rw [lloop_step fa (by simp [hP])] at K
      rw [c5, if_pos (by rw [hP]; rfl)]
      refine s4_pass true hk a1 a2 (by omega) rfl ?_
      intro M3 b1 b2 b3
      have hn3 := hn0.mv hk (a4.trans b3)
      have eq : (if jB q = 0 then (0 : Int32) else if v = 0 then 1 else 0) = jB (q && decide (¬ (v = 0 ↔ true = false))) := by
        rcases hv with z | z <;> subst z <;> cases q <;> simp [jB]
      rw [eq]
      refine hF (d + 1) M3 (a.1.1 + 1) 0 (c + a.2.1.length + 1) _ _ (by omega) b1 hn3 (by omega) (by omega) ?_
      intro v6 M5 hv6 r
      rw [if_neg (by omega)] at r
      intro xv6 h6
      have e1 : jI ((200 - (u + 1) : Nat) : Int) + 1 = jI ((200 - u : Nat) : Int) := by
        rw [i1, jI_add]; congr 1; omega
      rw [e1]
      refine ih (by omega) _ xv6 M5 ?_ (ha'.jb (c := c) fa b3 b2 r rfl ?_) K
      · rw [h6]; split
        · exact b01_ite
        · exact Or.inr rfl
      · rw [h6]
        rcases hv with z | z <;> rcases hv6 with z6 | z6 <;> subst z <;> subst z6 <;> simp
  refine e4_any ⟨hk.1 4 _ rfl, ?_⟩
  refine hF (d + 1) M0 i f c q _ (by omega) hc0 hn0 hi0 hf0 ?_
  intro v M1 hv p
  by_cases f0 : f = 0
  · subst f0
    rw [if_neg (by omega)] at p K
    exact loop 200 (by omega) _ v M1 hv p K
  · rw [if_pos f0] at p K
    refine loop 200 (by omega) _ v M1 hv p ?_
    rw [lloop_bad (show (lbad i f).1.2 ≠ 0 from f0)]
    exact K
/-- a piece -/
theorem s4_piece1 {k : Nat} (hk : lOk Th n ra w L) (hk6 : k ≤ 6) (hP : ∀ k', k = k' + 1 → PieOK Th n ra w L e k' ∧ AnyOK Th n ra w L e k') : PieOK Th n ra w L e k := by
  have hL := hk.2.2.1
  intro d M i f c q Q hd hc hn hi hf K
  obtain ⟨d, rfl⟩ : ∃ d', d = d' + 1 := ⟨d - 1, by omega⟩
  have c5 := hc.2.2.2.2.1
  have hwb := lsg_b (w := w) (L := L) (i := i) hk.2.2.2.1
  by_cases hf0 : f = 0
  rotate_left
  · rw [if_neg hf0] at c5
    refine e4_piece ⟨hk.1 4 _ rfl, ?_⟩
    rw [c5, if_neg (by decide), if_neg (by decide)]
    refine s4_cmp (c := c) hk hk6 (by omega) hc hn hi hf (fun z => absurd z hf0) ?_
    rw [if_pos hf0] at K ⊢
    exact K
  subst hf0
  rw [if_pos rfl] at c5
  rw [if_neg (by omega)] at K
  have rg : rI (lsg w L i) := rI_of (by omega) (by omega)
  have q33 : (jI (lsg w L i) = 33) = (lsg w L i = 33) := by rw [i33, jIeq rg (rI_of (by omega) (by omega))]
  have q40 : (jI (lsg w L i) = 40) = (lsg w L i = 40) := by rw [i40, jIeq rg (rI_of (by omega) (by omega))]
  by_cases hs : lsg w L i = 33 ∨ lsg w L i = 40
  rotate_left
  · refine e4_piece ⟨hk.1 4 _ rfl, ?_⟩
    rw [c5, if_neg (by rw [q33]; omega), if_neg (by rw [q40]; omega)]
    refine s4_cmp (c := c) hk hk6 (by omega) hc hn hi (by omega) (fun _ => hs) ?_
    rw [if_neg (by omega)]
    cases k with
    | zero => unfold lpie at K; rw [if_neg hs] at K; exact K
    | succ k' => unfold lpie at K; rw [if_neg (by omega), if_neg (by omega)] at K; exact K
  have hiL : i < L := by
    rcases hs with z | z
    · exact lsg_lt z (by omega)
    · exact lsg_lt z (by omega)
  have h18 : H4_piece_18 (d + 1) Th Q (n + 4) (jI (6 - (k : Int))) (jB q) M := by
    refine h4_piece_18 ?_
    cases k with
    | zero =>
      rw [if_neg (by decide)]
      refine ⟨hk.1 4 _ rfl, ?_⟩
      refine s4_blame (d := d - 1) 5 hk hc (by omega) (by omega) rfl ?_ |> (fun h => by rw [show d - 1 + 1 = d by omega] at h; exact h)
      intro M' a1 a2 a3
      unfold lpie at K
      rw [if_pos hs] at K
      exact K _ _ (Or.inl rfl) (lPo.bad (by show (5 : Nat) ≠ 0; decide) a1 hi (by show (5 : Nat) ≤ 5; omega) a3 a2)
    | succ k' =>
      obtain ⟨hP1, hP2⟩ := hP k' rfl
      rw [if_pos (by rw [i6, jIlt (rI_of (by omega) (by omega)) (rI_of (by omega) (by omega))]; omega)]
      refine h4_piece_31 ⟨hk.1 4 _ rfl, ?_⟩
      have eo : jI (6 - ((k' + 1 : Nat) : Int)) + 1 = jI (6 - (k' : Int)) := by rw [i1, jI_add]; congr 1; omega
      rw [c5, eo]
      unfold lpie at K
      by_cases h33 : lsg w L i = 33
      · rw [if_pos h33] at K
        rw [if_pos (by rw [q33]; exact h33)]
        refine s4_pass (d := d - 1) true hk hc hi (by omega) rfl ?_ |> (fun h => by rw [show d - 1 + 1 = d by omega] at h; exact h)
        intro M2 a1 a2 a3
        refine hP1 d M2 (i + 1) 0 c q _ (by omega) a1 (hn.mv hk a3) (by omega) (by omega) ?_
        intro v5 M4 hv p
        rw [if_neg (by omega)] at p
        obtain ⟨⟨p1, p2, p3⟩, p4, p5, p6⟩ := p
        refine ⟨b01_ite'.mb, K _ _ b01_ite' ⟨by rw [lnot_f]; exact ⟨p1, p2, p3⟩, a3.trans p4, fun z rf h => p5 z rf (a2.trans h), fun z => ?_⟩⟩
        rw [lnot_f] at z
        have en : ∀ R : lR, R.1.2 = 0 → lnot R = (R.1, (R.2.1 ++ [1048576 * 10], fun e => (if (R.2.2 e).1 = 0 then 1 else 0, (R.2.2 e).2))) := fun R hR => by unfold lnot; rw [if_neg (by omega)]
        obtain ⟨y1, y2⟩ := p6 z
        rw [en _ z]
        exact ⟨by rw [y1], fun rf h => y2 rf (a2.trans h)⟩
      · have h40 : lsg w L i = 40 := by omega
        rw [if_neg h33, if_pos h40] at K
        rw [if_neg (by rw [q33]; exact h33), if_pos (by rw [q40]; exact h40)]
        refine s4_pass (d := d - 1) true hk hc hi (by omega) rfl ?_ |> (fun h => by rw [show d - 1 + 1 = d by omega] at h; exact h)
        intro M2 a1 a2 a3
        refine hP2 d M2 (i + 1) 0 c q _ (by omega) a1 (hn.mv hk a3) (by omega) (by omega) ?_
        intro v5 M4 hv p
        rw [if_neg (by omega)] at p
        generalize lanyo w L (lpie w L k') (i + 1) c = R at p K
        obtain ⟨⟨p1, p2, p3⟩, p4, p5, p6⟩ := p
        have e5 := p1.2.2.2.2.1
        have hwb2 := lsg_b (w := w) (L := L) (i := R.1.1) hk.2.2.2.1
        unfold lpar at K
        by_cases fR : R.1.2 = 0
        rotate_left
        · rw [if_neg fR] at e5
          rw [if_pos fR] at K
          refine s4_pass (d := d - 1) false hk p1 p2 p3 (by rw [e5]; rfl) ?_ |> (fun h => by rw [show d - 1 + 1 = d by omega] at h; exact h)
          intro M6 b1 b2 b3
          unfold lps at b1
          rw [if_pos fR] at b1
          exact ⟨hv.mb, K _ _ hv ⟨⟨b1, p2, p3⟩, (a3.trans p4).trans b3, fun z rf h => b2.trans (p5 z rf (a2.trans h)), fun z => absurd z fR⟩⟩
        rw [if_pos fR] at e5
        rw [if_neg (by omega)] at K
        rw [fR] at p1
        by_cases g41 : lsg w L R.1.1 = 41
        · rw [if_pos g41] at K
          have hjL := lsg_lt (i := R.1.1) g41 (by omega)
          refine s4_pass (d := d - 1) true hk p1 p2 (by omega) (by rw [e5, g41]; rfl) ?_ |> (fun h => by rw [show d - 1 + 1 = d by omega] at h; exact h)
          intro M6 b1 b2 b3
          refine ⟨hv.mb, K _ _ hv ⟨⟨b1, by show R.1.1 + 1 ≤ 300; omega, by show (0 : Nat) ≤ 5; omega⟩, (a3.trans p4).trans b3, fun z rf h => b2.trans (p5 z rf (a2.trans h)), fun _ => ⟨(p6 fR).1, fun rf h => ?_⟩⟩⟩
          rw [b2]
          exact (p6 fR).2 rf (by rw [a2, h])
        · rw [if_neg g41] at K
          refine s4_pass (d := d - 1) false hk p1 p2 (by omega) (by rw [e5, if_neg (by rw [i41, jIeq (rI_of (by omega) (by omega)) (rI_of (by omega) (by omega))]; exact g41)]; rfl) ?_ |> (fun h => by rw [show d - 1 + 1 = d by omega] at h; exact h)
          intro M6 b1 b2 b3
          exact ⟨hv.mb, K _ _ hv ⟨⟨b1, p2, by show (1 : Nat) ≤ 5; omega⟩, (a3.trans p4).trans b3, fun z rf h => b2.trans (p5 z rf (a2.trans h)), fun z => absurd z (by show (1 : Nat) ≠ 0; omega)⟩⟩
  refine e4_piece ⟨hk.1 4 _ rfl, ?_⟩
  simp only [c5, q33, q40]
  split
  · exact h18
  · split
    · exact h18
    · omega
theorem s4_piece (hk : lOk Th n ra w L) : ∀ k : Nat, k ≤ 6 → PieOK Th n ra w L e k ∧ AnyOK Th n ra w L e k := by
  intro k
  induction k with
  | zero =>
    intro h
    have p := s4_piece1 (e := e) hk h (fun k' hk' => absurd hk' (by omega))
    exact ⟨p, s4_any hk (s4_all hk p)⟩
  | succ k ih =>
    intro h
    have p := s4_piece1 (e := e) hk h (fun k' hk' => by
      have : k' = k := by omega
      subst this
      exact ih (by omega))
    exact ⟨p, s4_any hk (s4_all hk p)⟩
end LB
