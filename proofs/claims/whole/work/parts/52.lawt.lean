section LT
variable {d : Nat} {Th : mT} {M : mM} {m : Nat} {w : Nat → Int} {L : Nat} {i o : Nat} {W C : List Int}
abbrev kH92 (d : Nat) (Th : mT) (Q : Int32 → mM → Prop) (m : Nat) (M : mM) : Prop := H11_readsCondition_92 (d + 8) Th Q m M
abbrev kH40 (d : Nat) (Th : mT) (Q : Int32 → mM → Prop) (m : Nat) (M : mM) : Prop := H11_readsCondition_40 (d + 8) Th Q m M
/-- behind a piece: the ! that wait, and on -/
def kE (d : Nat) (Th : mT) (Q : Int32 → mM → Prop) (m : Nat) (M : mM) : Prop := ∀ D, 2 ≤ D → H11_endsPiece_0 D Th (fun M' => kH92 d Th Q m M') m M
theorem kE_end {Q : Int32 → mM → Prop} (hk : kOk Th m w L) (hR : RfM m M) (hs : kst m w L i o W C M) (hW : W.length ≤ 210) (ht : ktop W ≠ 10) (h : kH92 d Th Q m M) : kE d Th Q m M := by
  intro D hD
  obtain ⟨D, rfl⟩ : ∃ D', D = D' + 2 := ⟨D - 2, by omega⟩
  have tb := ktop_b hs.2.2.2.2.2.2.2.2.1
  refine h11_endsPiece_0 ⟨hk.1 0 _ rfl, s11_top hk hR hs (by omega) ?_⟩
  simp only [jq10 (z := ktop W) (rI_of (by omega) (by omega))]
  rw [if_neg ht]
  exact h
theorem kE_not {Q : Int32 → mM → Prop} (hk : kOk Th m w L) (hR : RfM m M) (hs : kst m w L i (o + 1) (1048576 * 10 :: W) C M) (hW : W.length ≤ 209) (hC : C.length ≤ 210) (ho : o ≤ 100)
    (k : ∀ M', kst m w L i o W (C ++ [1048576 * 10]) M' → Eo (krd m) M M' → kE d Th Q m M') : kE d Th Q m M := by
  intro D hD
  have hD' := hD
  obtain ⟨D, rfl⟩ : ∃ D', D = D' + 2 := ⟨D - 2, by omega⟩
  refine h11_endsPiece_0 ⟨hk.1 0 _ rfl, s11_top hk hR hs (by simp; omega) ?_⟩
  rw [if_pos (by show jI (1048576 * 10 / 1048576) = 10; decide)]
  rw [kI10, i0]
  refine s11_notes hk hR hs (by omega) ⟨by omega, by omega⟩ ?_
  intro M4 a1 a2 a3 M6 h6
  rw [Int.add_zero] at a1
  obtain ⟨p1, p2⟩ := kst_pop a1 (by omega)
  rw [← h6] at p2
  have g16 : M6.1 m 16 = jI ((o + 1 : Nat) : Int) := p2.2.2.1
  rw [g16, i1, jI_sub, show ((o + 1 : Nat) : Int) - 1 = (o : Int) by omega]
  have s6 : kst m w L i o W (C ++ [1048576 * 10]) (m_ui M6 m 16 (jI (o : Int))) := by
    obtain ⟨c1, c2, c3, c4, c5, c6, c7, c8, c9, c10⟩ := p2
    exact ⟨by simp [m_u, c1], by simp [m_u, c2], by simp [m_u], by simp [m_u, c4], by simp [m_u, c5], stk_mv (M := M6) (fun j _ => by simp [m_u]) c6, fun j z hz => by simp [m_u, c7 j z hz], fun j hj => by simp [m_u, c8 j hj], c9, c10⟩
  refine k _ s6 ?_ (D + 2) hD'
  rw [h6]
  exact (a2.trans (Eo.rf.ui (Or.inl ⟨rfl, by omega, by omega, by omega⟩))).trans (Eo.rf.ui (Or.inl ⟨rfl, by omega, by omega, by omega⟩))
def kPie (Th : mT) (m : Nat) (w : Nat → Int) (L d o : Nat) (F : Nat → Nat → lR) : Prop := ∀ (i : Nat) (W C : List Int) (M : mM) (Q : Int32 → mM → Prop), RfM m M → kst m w L i o W C M → kbd i W C → ktp W → 1 ≤ W.length →
  ((F i C.length).1.2 = 0 → ∀ M', kst m w L (F i C.length).1.1 o W (C ++ (F i C.length).2.1) M' → kbd (F i C.length).1.1 W (C ++ (F i C.length).2.1) → Eo (krd m) M M' → kE d Th Q m M') →
  ((F i C.length).1.2 ≠ 0 → ∀ M', kfa m (F i C.length).1 M' → Eo (krd m) M M' → Q 0 M') → kH40 d Th Q m M
/-- parts: some jumps may still wait -/
def kAll (Th : mT) (m : Nat) (w : Nat → Int) (L d o : Nat) (F : Nat → Nat → lR) : Prop := ∀ (i : Nat) (W C : List Int) (M : mM) (Q : Int32 → mM → Prop), RfM m M → kst m w L i o W C M → kbd i W C → ktp W → 1 ≤ W.length → ktop W ≠ 10 → ktop W ≠ 11 →
  ((F i C.length).1.2 = 0 → ∀ M' P C', (∀ x, x ∈ P → kjn false x ∧ (x % 1048576).toNat < C'.length) → kst m w L (F i C.length).1.1 o (P ++ W) C' M' → kfj C' P = C ++ (F i C.length).2.1 → kbd (F i C.length).1.1 (P ++ W) C' → Eo (krd m) M M' → kH92 d Th Q m M') →
  ((F i C.length).1.2 ≠ 0 → ∀ M', kfa m (F i C.length).1 M' → Eo (krd m) M M' → Q 0 M') → kH40 d Th Q m M
def kAny (Th : mT) (m : Nat) (w : Nat → Int) (L d o : Nat) (F : Nat → Nat → lR) : Prop := ∀ (i : Nat) (W C : List Int) (M : mM) (Q : Int32 → mM → Prop), RfM m M → kst m w L i o W C M → kbd i W C → ktp W → 1 ≤ W.length → ktop W ≠ 10 → ktop W ≠ 11 → ktop W ≠ 12 →
  ((F i C.length).1.2 = 0 → ∀ M' P C', (∀ x, x ∈ P → kjn true x ∧ (x % 1048576).toNat < C'.length) → kst m w L (F i C.length).1.1 o (P ++ W) C' M' → kfj C' P = C ++ (F i C.length).2.1 → kbd (F i C.length).1.1 (P ++ W) C' → Eo (krd m) M M' → kH92 d Th Q m M') →
  ((F i C.length).1.2 ≠ 0 → ∀ M', kfa m (F i C.length).1 M' → Eo (krd m) M M' → Q 0 M') → kH40 d Th Q m M
theorem kjn_f {x : Int} (h : kjn false x) : kjn true x := by unfold kjn at h ⊢; rcases h with h | h; exact Or.inl h; exact absurd h.1 (by decide)
theorem kwg_j {P : List Int} (h : ∀ x, x ∈ P → kjn true x) : kwg P = 0 := by
  induction P with
  | nil => rfl
  | cons x r ih =>
    have hx := h x (by simp)
    unfold kjn at hx
    unfold kwg
    rw [ih (fun y hy => h y (by simp [hy])), if_neg (by omega)]
theorem kjt_of {all : Bool} (h11 : ktop W ≠ 11) (h12 : all = true → ktop W ≠ 12) : kjt all W := by
  cases W with
  | nil => trivial
  | cons x r =>
    show ¬ kjn all x
    unfold kjn
    intro z
    rcases z with z | z
    · exact h11 z
    · exact h12 z.1 z.2
/-- a & or | : what waits lands, a jump begins, and the next piece -/
theorem kH92_jump {Q : Int32 → mM → Prop} {P : List Int} {orr : Bool} (hk : kOk Th m w L) (hR : RfM m M) (hs : kst m w L i o (P ++ W) C M) (hb : kbd i (P ++ W) C) (hg : lsg w L i = if orr then 124 else 38) (hP : ∀ x, x ∈ P → kjn orr x ∧ (x % 1048576).toNat < C.length) (hW : kjt orr W)
    (k : ∀ M', RfM m M' → kst m w L (i + 1) o ((1048576 * (if orr then 12 else 11) + (C.length : Int)) :: W) (kfj C P ++ [1048576 * (if orr then 12 else 11)]) M' → kbd (i + 1) ((1048576 * (if orr then 12 else 11) + (C.length : Int)) :: W) (kfj C P ++ [1048576 * (if orr then 12 else 11)]) → Eo (krd m) M M' → kH40 d Th Q m M') : kH92 d Th Q m M := by
  have hbb := kbd_R hb
  obtain ⟨hb1, hb2, hb3⟩ := hb
  have hwl : (P ++ W).length = P.length + W.length := by simp
  have hgb := lsg_b (w := w) (L := L) (i := i) hk.2.2
  have hwP : kwg P = 0 := kwg_j (fun x hx => by
    cases orr with
    | true => exact (hP x hx).1
    | false => exact kjn_f (hP x hx).1)
  rw [kwg_app, hwP] at hb2
  have hiL : i < L := lsg_in (w := w) (by rw [hg]; cases orr <;> decide)
  have hL := hk.2.1
  have h180 : H11_readsCondition_180 (d + 8) Th Q m M := by
    refine h11_readsCondition_180 ⟨hk.1 0 _ rfl, s11_here hk hR hs (by omega) ?_⟩
    rw [show (if jI (lsg w L i) = 124 then (1 : Int32) else 0) = jB orr by rw [hg]; cases orr <;> decide]
    refine e11_lands ?_
    refine s11_lands (all := orr) (d := d + 5) hk P W C M hR hs hP hW (by omega) (by omega) ?_
    intro M4 a1 a2
    have hR4 := krd_rf hR a2
    refine s11_here hk hR4 a1 (by omega) ?_
    rw [show (if jI (lsg w L i) = 38 then (11 : Int32) else 12) = jI (if orr then 12 else 11) by rw [hg]; cases orr <;> decide]
    refine s11_jumps hk hR4 a1 (by omega) (by rw [kfj_len]; omega) (by cases orr; exact Or.inl rfl; exact Or.inr rfl) ?_
    intro M8 t1 t2
    rw [kfj_len] at t1
    refine k M8 (krd_rf hR4 t2) t1 ⟨by simp; omega, ?_, by omega⟩ (a2.trans t2)
    simp only [kwg, List.length_append, kfj_len, List.length_cons, List.length_nil]
    rw [if_neg (by cases orr <;> simp <;> omega)]
    omega
  refine h11_readsCondition_92 ⟨hk.1 0 _ rfl, s11_here hk hR hs (by omega) ?_⟩
  rw [if_neg (by rw [hg]; cases orr <;> decide)]
  refine s11_here hk hR hs (by omega) ?_
  cases orr with
  | false => rw [if_pos (by rw [hg]; decide)]; exact h180
  | true =>
    rw [if_neg (by rw [hg]; decide)]
    refine s11_here hk hR hs (by omega) ?_
    rw [if_pos (by rw [hg]; decide)]; exact h180
theorem kfj_one {A B : List Int} {y x : Int} (hx : x = 1048576 * y + (A.length : Int)) (hA : A.length < 1048576) : kfj (A ++ [1048576 * y] ++ B) [x] = A ++ [1048576 * y + ((A.length + 1 + B.length : Nat) : Int)] ++ B := by
  have e1 : (x % 1048576).toNat = A.length := by omega
  unfold kfj kfj kjo
  rw [e1, lgetD, lset, show 1048576 * y / 1048576 = y by omega]
  congr 3
  simp
  omega
theorem kAlls (hk : kOk Th m w L) {F : Nat → Nat → lR} (hG : ∀ i c, lGd w L i (F i c)) (hF : kPie Th m w L d o F) : kAll Th m w L d o (fun i c => lloop w L (fun g => decide (g = 38)) 1 F (fun _ => ljb false c) c 200 (F i c)) := by
  intro i W C M0 Q hR0 hs0 hb0 hW hW1 h10 h11 K0 K1
  have loop : ∀ (u : Nat) (a : lR) (P C' : List Int) (M : mM), a.1.2 = 0 → (∀ x, x ∈ P → kjn false x ∧ (x % 1048576).toNat < C'.length) → kst m w L a.1.1 o (P ++ W) C' M → kfj C' P = C ++ a.2.1 → kbd a.1.1 (P ++ W) C' → Eo (krd m) M0 M →
      ((lloop w L (fun g => decide (g = 38)) 1 F (fun _ => ljb false C.length) C.length u a).1.2 = 0 → ∀ M' P C', (∀ x, x ∈ P → kjn false x ∧ (x % 1048576).toNat < C'.length) → kst m w L (lloop w L (fun g => decide (g = 38)) 1 F (fun _ => ljb false C.length) C.length u a).1.1 o (P ++ W) C' M' → kfj C' P = C ++ (lloop w L (fun g => decide (g = 38)) 1 F (fun _ => ljb false C.length) C.length u a).2.1 → kbd (lloop w L (fun g => decide (g = 38)) 1 F (fun _ => ljb false C.length) C.length u a).1.1 (P ++ W) C' → Eo (krd m) M0 M' → kH92 d Th Q m M') →
      ((lloop w L (fun g => decide (g = 38)) 1 F (fun _ => ljb false C.length) C.length u a).1.2 ≠ 0 → ∀ M', kfa m (lloop w L (fun g => decide (g = 38)) 1 F (fun _ => ljb false C.length) C.length u a).1 M' → Eo (krd m) M0 M' → Q 0 M') → kH92 d Th Q m M := by
    intro u
    induction u with
    | zero => intro a P C' M fa hP hs hf hb he K0 K1; exact K0 fa M P C' hP hs hf hb he
    | succ u ih =>
      intro a P C' M fa hP hs hf hb he K0 K1
      by_cases hT : lsg w L a.1.1 = 38
      rotate_left
      · rw [lloop_stop (by simp [hT])] at K0 K1
        exact K0 fa M P C' hP hs hf hb he
      rw [lloop_step fa (by simp [hT])] at K0 K1
      have hbb := kbd_R hb
      have hcl : C'.length = (C ++ a.2.1).length := by rw [← hf, kfj_len]
      have hcl2 : (C ++ a.2.1).length = C.length + a.2.1.length := by simp
      refine kH92_jump (orr := false) hk (krd_rf hR0 he) hs hb hT hP (kjt_of h11 (fun z => by cases z)) ?_
      intro M1 r1 r2 r3 r4
      rw [hf, hcl] at r2 r3
      simp only [Bool.false_eq_true, if_false] at r2 r3
      have hlen : (C ++ a.2.1 ++ [1048576 * 11]).length = C.length + a.2.1.length + 1 := by simp; omega
      refine hF (a.1.1 + 1) _ (C ++ a.2.1 ++ [1048576 * 11]) M1 Q r1 r2 r3 (by show 7 ≤ (1048576 * 11 + ((C ++ a.2.1).length : Int)) / 1048576; omega) (by simp) ?_ ?_
      · intro f0 M2 t1 t2 t3
        rw [hlen] at f0 t1 t2
        have hb2 := kbd_R t2
        refine kE_end hk (krd_rf r1 t3) t1 (by omega) (by show (1048576 * 11 + ((C ++ a.2.1).length : Int)) / 1048576 ≠ 10; omega) ?_
        refine ih _ [1048576 * 11 + ((C ++ a.2.1).length : Int)] _ M2 (by rw [ljb_f]; exact f0) ?_ (by rw [ljb_f]; exact t1) ?_ (by rw [ljb_f]; exact t2) ((he.trans r4).trans t3) K0 K1
        · intro x hx
          simp only [List.mem_singleton] at hx
          rw [hx]
          refine ⟨Or.inl (by omega), ?_⟩
          simp only [List.length_append, List.length_cons, List.length_nil] at hlen hcl ⊢
          omega
        · rw [kfj_one rfl (by omega)]
          unfold ljb
          rw [if_neg (by omega), hcl2]
          simp only [List.append_assoc, Bool.false_eq_true, if_false]
      · intro f0 M2 t1 t3
        rw [hlen] at f0 t1
        rw [lloop_bad (by rw [ljb_f]; exact f0)] at K1
        rw [ljb_f] at K1
        exact K1 f0 M2 t1 ((he.trans r4).trans t3)
  refine hF i W C M0 Q hR0 hs0 hb0 hW hW1 ?_ ?_
  · intro f0 M1 t1 t2 t3
    have hb2 := kbd_R t2
    refine kE_end hk (krd_rf hR0 t3) t1 (by omega) h10 ?_
    exact loop 200 _ [] _ M1 f0 (fun x hx => by cases hx) t1 rfl t2 t3 K0 K1
  · intro f0 M1 t1 t3
    have e : lloop w L (fun g => decide (g = 38)) 1 F (fun _ => ljb false C.length) C.length 200 (F i C.length) = F i C.length := lloop_bad f0
    simp only [e] at K1
    exact K1 f0 M1 t1 t3
theorem kAnys (hk : kOk Th m w L) {F : Nat → Nat → lR} (hG : ∀ i c, lGd w L i (F i c)) (hF : kAll Th m w L d o F) : kAny Th m w L d o (fun i c => lloop w L (fun g => decide (g = 124)) 1 F (fun _ => ljb true c) c 200 (F i c)) := by
  intro i W C M0 Q hR0 hs0 hb0 hW hW1 h10 h11 h12 K0 K1
  have loop : ∀ (u : Nat) (a : lR) (P C' : List Int) (M : mM), a.1.2 = 0 → (∀ x, x ∈ P → kjn true x ∧ (x % 1048576).toNat < C'.length) → kst m w L a.1.1 o (P ++ W) C' M → kfj C' P = C ++ a.2.1 → kbd a.1.1 (P ++ W) C' → Eo (krd m) M0 M →
      ((lloop w L (fun g => decide (g = 124)) 1 F (fun _ => ljb true C.length) C.length u a).1.2 = 0 → ∀ M' P C', (∀ x, x ∈ P → kjn true x ∧ (x % 1048576).toNat < C'.length) → kst m w L (lloop w L (fun g => decide (g = 124)) 1 F (fun _ => ljb true C.length) C.length u a).1.1 o (P ++ W) C' M' → kfj C' P = C ++ (lloop w L (fun g => decide (g = 124)) 1 F (fun _ => ljb true C.length) C.length u a).2.1 → kbd (lloop w L (fun g => decide (g = 124)) 1 F (fun _ => ljb true C.length) C.length u a).1.1 (P ++ W) C' → Eo (krd m) M0 M' → kH92 d Th Q m M') →
      ((lloop w L (fun g => decide (g = 124)) 1 F (fun _ => ljb true C.length) C.length u a).1.2 ≠ 0 → ∀ M', kfa m (lloop w L (fun g => decide (g = 124)) 1 F (fun _ => ljb true C.length) C.length u a).1 M' → Eo (krd m) M0 M' → Q 0 M') → kH92 d Th Q m M := by
    intro u
    induction u with
    | zero => intro a P C' M fa hP hs hf hb he K0 K1; exact K0 fa M P C' hP hs hf hb he
    | succ u ih =>
      intro a P C' M fa hP hs hf hb he K0 K1
      by_cases hT : lsg w L a.1.1 = 124
      rotate_left
      · rw [lloop_stop (by simp [hT])] at K0 K1
        exact K0 fa M P C' hP hs hf hb he
      rw [lloop_step fa (by simp [hT])] at K0 K1
      have hbb := kbd_R hb
      have hcl : C'.length = (C ++ a.2.1).length := by rw [← hf, kfj_len]
      have hcl2 : (C ++ a.2.1).length = C.length + a.2.1.length := by simp
      refine kH92_jump (orr := true) hk (krd_rf hR0 he) hs hb hT hP (kjt_of h11 (fun _ => h12)) ?_
      intro M1 r1 r2 r3 r4
      rw [hf, hcl] at r2 r3
      simp only [if_true] at r2 r3
      have hlen : (C ++ a.2.1 ++ [1048576 * 12]).length = C.length + a.2.1.length + 1 := by simp; omega
      refine hF (a.1.1 + 1) _ (C ++ a.2.1 ++ [1048576 * 12]) M1 Q r1 r2 r3 (by show 7 ≤ (1048576 * 12 + ((C ++ a.2.1).length : Int)) / 1048576; omega) (by simp) (by show (1048576 * 12 + ((C ++ a.2.1).length : Int)) / 1048576 ≠ 10; omega) (by show (1048576 * 12 + ((C ++ a.2.1).length : Int)) / 1048576 ≠ 11; omega) ?_ ?_
      · intro f0 M2 P2 C2 p1 t1 tf t2 t3
        rw [hlen] at f0 t1 tf t2
        have hb2 := kbd_R t2
        have eap : P2 ++ (1048576 * 12 + ((C ++ a.2.1).length : Int)) :: W = (P2 ++ [1048576 * 12 + ((C ++ a.2.1).length : Int)]) ++ W := by simp
        rw [eap] at t1 t2
        have hC2 : C2.length = (C ++ a.2.1 ++ [1048576 * 12] ++ (F (a.1.1 + 1) (C.length + a.2.1.length + 1)).2.1).length := by rw [← tf, kfj_len]
        refine ih _ (P2 ++ [1048576 * 12 + ((C ++ a.2.1).length : Int)]) _ M2 (by rw [ljb_f]; exact f0) ?_ (by rw [ljb_f]; exact t1) ?_ (by rw [ljb_f]; exact t2) ((he.trans r4).trans t3) K0 K1
        · intro x hx
          rcases List.mem_append.mp hx with h | h
          · exact ⟨kjn_f (p1 x h).1, (p1 x h).2⟩
          · simp only [List.mem_singleton] at h
            rw [h]
            refine ⟨Or.inr ⟨rfl, by omega⟩, ?_⟩
            rw [hC2]
            simp only [List.length_append, List.length_cons, List.length_nil] at hlen hcl ⊢
            omega
        · rw [kfj_two, tf, kfj_one rfl (by omega)]
          unfold ljb
          rw [if_neg (by omega), hcl2]
          simp only [List.append_assoc, if_true]
      · intro f0 M2 t1 t3
        rw [hlen] at f0 t1
        rw [lloop_bad (by rw [ljb_f]; exact f0)] at K1
        rw [ljb_f] at K1
        exact K1 f0 M2 t1 ((he.trans r4).trans t3)
  refine hF i W C M0 Q hR0 hs0 hb0 hW hW1 h10 h11 ?_ ?_
  · intro f0 M1 P1 C1 p1 t1 tf t2 t3
    exact loop 200 _ P1 C1 M1 f0 (fun x hx => ⟨kjn_f (p1 x hx).1, (p1 x hx).2⟩) t1 tf t2 t3 K0 K1
  · intro f0 M1 t1 t3
    have e : lloop w L (fun g => decide (g = 124)) 1 F (fun _ => ljb true C.length) C.length 200 (F i C.length) = F i C.length := lloop_bad f0
    simp only [e] at K1
    exact K1 f0 M1 t1 t3
end LT
