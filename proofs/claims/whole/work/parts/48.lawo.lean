/-! ===== a factor, a product, a sum, as the model reads them ===== -/
section LO
variable {d : Nat} {Th : mT} {M : mM} {m : Nat} {w : Nat → Int} {L : Nat} {i o : Nat} {W C : List Int}
/-- where the model goes on behind a factor: its loop in readsSum -/
abbrev kLH (d : Nat) (Th : mT) (Q : Int32 → mM → Prop) (m b : Nat) (M : mM) : Prop := H11_readsSum_14 (d + 5) Th Q m (jI b) M
/-- a factor is read, and then on in the loop -/
abbrev kRF (d : Nat) (Th : mT) (Q : Int32 → mM → Prop) (m b : Nat) (M : mM) : Prop := H11_readsFactor_0 (d + 4) Th (fun v M' => if v = 0 then Q 0 M' else kLH d Th Q m b M') m M
/-- a fault is told -/
def kfa (m : Nat) (p : Nat × Nat) (M : mM) : Prop := M.1 m 15 = jI (-1000 * (p.2 : Int) - (p.1 : Int))
/-- what waits below the sum that is read: no operation on top -/
def ktp (W : List Int) : Prop := match W with | [] => True | x :: _ => 7 ≤ x / 1048576
theorem ktp_tn {W : List Int} (all : Bool) (h : ktp W) : ktn all W := by
  cases W with
  | nil => trivial
  | cons x r => have h' : 7 ≤ x / 1048576 := h; show ¬ kcn all x; unfold kcn; omega
def kFac (Th : mT) (m : Nat) (w : Nat → Int) (L d o : Nat) (F : Nat → Nat → lR) : Prop := ∀ (b i : Nat) (W C : List Int) (M : mM) (Q : Int32 → mM → Prop), RfM m M → kst m w L i o W C M → kbd i W C → b ≤ W.length →
  ((F i C.length).1.2 = 0 → ∀ M', kst m w L (F i C.length).1.1 o W (C ++ (F i C.length).2.1) M' → kbd (F i C.length).1.1 W (C ++ (F i C.length).2.1) → Eo (krd m) M M' → kLH d Th Q m b M') →
  ((F i C.length).1.2 ≠ 0 → ∀ M', kfa m (F i C.length).1 M' → Eo (krd m) M M' → Q 0 M') → kRF d Th Q m b M
/-- a product: some of its operations may still wait -/
def kPro (Th : mT) (m : Nat) (w : Nat → Int) (L d o : Nat) (F : Nat → Nat → lR) : Prop := ∀ (b i : Nat) (W C : List Int) (M : mM) (Q : Int32 → mM → Prop), RfM m M → kst m w L i o W C M → kbd i W C → b ≤ W.length → ktn false W →
  ((F i C.length).1.2 = 0 → ∀ M' P C', (∀ x, x ∈ P → kcn false x) → kst m w L (F i C.length).1.1 o (P ++ W) C' M' → kfl C' P = C ++ (F i C.length).2.1 → kbd (F i C.length).1.1 (P ++ W) C' → Eo (krd m) M M' → kLH d Th Q m b M') →
  ((F i C.length).1.2 ≠ 0 → ∀ M', kfa m (F i C.length).1 M' → Eo (krd m) M M' → Q 0 M') → kRF d Th Q m b M
def kSum (Th : mT) (m : Nat) (w : Nat → Int) (L d o : Nat) (F : Nat → Nat → lR) : Prop := ∀ (b i : Nat) (W C : List Int) (M : mM) (Q : Int32 → mM → Prop), RfM m M → kst m w L i o W C M → kbd i W C → b ≤ W.length → ktp W →
  ((F i C.length).1.2 = 0 → ∀ M' P C', (∀ x, x ∈ P → kcn true x) → kst m w L (F i C.length).1.1 o (P ++ W) C' M' → kfl C' P = C ++ (F i C.length).2.1 → kbd (F i C.length).1.1 (P ++ W) C' → Eo (krd m) M M' → kLH d Th Q m b M') →
  ((F i C.length).1.2 ≠ 0 → ∀ M', kfa m (F i C.length).1 M' → Eo (krd m) M M' → Q 0 M') → kRF d Th Q m b M
theorem kcn_f {x : Int} (h : kcn false x) : kcn true x := by unfold kcn at h ⊢; rcases h with h | h; exact Or.inl h; exact absurd h.1 (by decide)
theorem s11_sumSign {Q : Int32 → mM → Prop} {g : Int} (hg : -1 ≤ g ∧ g ≤ 255) (k : Q (jI (if isS g || isP g then lop g else -1)) M) : P11_sumSign (d + 1) Th (jI g) M Q := by
  have rg : rI g := rI_of (by omega) (by omega)
  refine e11_sumSign ?_
  have q42 : (jI g = 42) = (g = 42) := by rw [i42, jIeq rg (rI_of (by omega) (by omega))]
  have q47 : (jI g = 47) = (g = 47) := by rw [i47, jIeq rg (rI_of (by omega) (by omega))]
  have q37 : (jI g = 37) = (g = 37) := by rw [i37, jIeq rg (rI_of (by omega) (by omega))]
  have q43 : (jI g = 43) = (g = 43) := by rw [i43, jIeq rg (rI_of (by omega) (by omega))]
  have q45 : (jI g = 45) = (g = 45) := by rw [i45, jIeq rg (rI_of (by omega) (by omega))]
  simp only [q42, q47, q37, q43, q45]
  have e : (if g = 43 then (2 : Int32) else if g = 45 then 3 else if g = 42 then 4 else if g = 47 then 5 else if g = 37 then 6 else -1) = jI (if isS g || isP g then lop g else -1) := by
    unfold isS isP lop
    by_cases h1 : g = 43
    · subst h1; rfl
    by_cases h2 : g = 45
    · subst h2; rfl
    by_cases h3 : g = 42
    · subst h3; rfl
    by_cases h4 : g = 47
    · subst h4; rfl
    by_cases h5 : g = 37
    · subst h5; rfl
    simp [h1, h2, h3, h4, h5]; rfl
  rw [e]
  exact k
/-- an operation: what waits closes, it waits, and a factor is read -/
theorem kLH_op {Q : Int32 → mM → Prop} {b : Nat} {P : List Int} (hk : kOk Th m w L) (hR : RfM m M) (hs : kst m w L i o (P ++ W) C M) (hb : kbd i (P ++ W) C) (hop : isS (lsg w L i) = true ∨ isP (lsg w L i) = true) (hP : ∀ x, x ∈ P → kcn (isS (lsg w L i)) x) (hW : ktn (isS (lsg w L i)) W)
    (k : ∀ M', RfM m M' → kst m w L (i + 1) o (1048576 * lop (lsg w L i) :: W) (kfl C P) M' → kbd (i + 1) (1048576 * lop (lsg w L i) :: W) (kfl C P) → Eo (krd m) M M' → kRF d Th Q m b M') : kLH d Th Q m b M := by
  obtain ⟨hb1, hb2, hb3⟩ := hb
  have hgb := lsg_b (w := w) (L := L) (i := i) hk.2.2
  have hopn : lop (lsg w L i) = 2 ∨ lop (lsg w L i) = 3 ∨ lop (lsg w L i) = 4 ∨ lop (lsg w L i) = 5 ∨ lop (lsg w L i) = 6 := by
    unfold isS isP at hop; simp at hop; unfold lop
    rcases hop with (h | h) | (h | h) | h <;> rw [h] <;> decide
  have hor : (isS (lsg w L i) || isP (lsg w L i)) = true := by rcases hop with h | h <;> rw [h] <;> simp
  have hcl : (if 4 ≤ jI (lop (lsg w L i)) then (0 : Int32) else 1) = jB (isS (lsg w L i)) := by
    unfold isS isP at hop
    simp at hop
    unfold lop isS
    rcases hop with (h | h) | (h | h) | h <;> rw [h] <;> decide
  have hwl : (P ++ W).length = P.length + W.length := by simp
  have hwP : kwg P = P.length := kcn_wg (fun x hx => by
    cases hz : isS (lsg w L i) with
    | true => rw [hz] at hP; exact hP x hx
    | false => rw [hz] at hP; exact kcn_f (hP x hx))
  rw [kwg_app, hwP] at hb2
  refine h11_readsSum_14 ⟨hk.1 0 _ rfl, s11_here hk hR hs (by omega) ?_⟩
  refine s11_sumSign hgb ?_
  rw [if_pos hor]
  rw [if_neg (by rw [iN, jIeq (rI_of (by omega) (by omega)) (rI_of (by omega) (by omega))]; omega), hcl]
  refine e11_closesSums ?_
  refine s11_closesSums (d := d + 2) (L := L) hk P W C M hR hs hP hW (by omega) (by omega) ?_
  intro M14 a1 a2
  have hR14 := krd_rf hR a2
  obtain ⟨c1, c2, c3, c4, c5, c6, c7, c8, c9, c10⟩ := a1
  refine ⟨m + 9, hR14 0 23 9 (by decide), by rw [c5]; exact m_okw_jI (hk.1 9 _ rfl) (by omega) (by omega) (by omega), ?_⟩
  intro M19 h19 M20 h20
  rw [c5, jInatN _ (by omega), iU, jI_mul] at h19
  have g18 : M19.1 m 18 = jI W.length := by rw [h19]; simp [m_u, c5]
  rw [g18, i1, jI_add] at h20
  have g13 : M20.1 m 13 = jI i := by rw [h20, h19]; simp [m_u, c1]
  rw [g13, i1, jI_add]
  refine e11_readsFactor ?_
  refine k _ ?_ ?_ ?_ ?_
  · rw [h20, h19]; exact hR14.mv rfl
  · rw [h20, h19]
    refine ⟨by simp [m_u], by simp [m_u, c2], by simp [m_u, c3], by simp [m_u, c4], by simp [m_u], ⟨by simp [m_u], stk_mv (M := M14) (fun j hj => by simp [m_u]; intro z; omega) c6⟩, fun j z hz => by simp [m_u, c7 j z hz], fun j hj => by simp [m_u, c8 j hj], fun z hz => ?_, c10⟩
    rcases List.mem_cons.mp hz with h | h
    · rw [h]; unfold rC; omega
    · exact c9 z h
  · refine ⟨by simp; omega, ?_, ?_⟩
    · rw [kfl_len]; simp only [kwg]
      rw [if_pos (by left; omega)]
      omega
    · have : i < L := lsg_in (w := w) (by
        unfold isS isP at hop; simp at hop
        rcases hop with (h | h) | (h | h) | h <;> rw [h] <;> decide)
      have := hk.2.1
      omega
  · rw [h20, h19]
    exact a2.trans (((Eo.rf.ui (Or.inr (Or.inr rfl))).ui (Or.inl ⟨rfl, by omega, by omega, by omega⟩)).ui (Or.inl ⟨rfl, by omega, by omega, by omega⟩))
theorem isP_S {g : Int} (h : isP g = true) : isS g = false := by
  unfold isP at h; simp at h; unfold isS; simp; omega
theorem kProd (hk : kOk Th m w L) {F : Nat → Nat → lR} (hG : ∀ i c, lGd w L i (F i c)) (hF : kFac Th m w L d o F) : kPro Th m w L d o (fun i c => lloop w L isP 0 F ljn c 200 (F i c)) := by
  intro b i W C M0 Q hR0 hs0 hb0 hbW hW K0 K1
  have loop : ∀ (u : Nat) (a : lR) (P C' : List Int) (M : mM), a.1.2 = 0 → (∀ x, x ∈ P → kcn false x) → kst m w L a.1.1 o (P ++ W) C' M → kfl C' P = C ++ a.2.1 → kbd a.1.1 (P ++ W) C' → Eo (krd m) M0 M →
      ((lloop w L isP 0 F ljn C.length u a).1.2 = 0 → ∀ M' P C', (∀ x, x ∈ P → kcn false x) → kst m w L (lloop w L isP 0 F ljn C.length u a).1.1 o (P ++ W) C' M' → kfl C' P = C ++ (lloop w L isP 0 F ljn C.length u a).2.1 → kbd (lloop w L isP 0 F ljn C.length u a).1.1 (P ++ W) C' → Eo (krd m) M0 M' → kLH d Th Q m b M') →
      ((lloop w L isP 0 F ljn C.length u a).1.2 ≠ 0 → ∀ M', kfa m (lloop w L isP 0 F ljn C.length u a).1 M' → Eo (krd m) M0 M' → Q 0 M') → kLH d Th Q m b M := by
    intro u
    induction u with
    | zero => intro a P C' M fa hP hs hf hb he K0 K1; exact K0 fa M P C' hP hs hf hb he
    | succ u ih =>
      intro a P C' M fa hP hs hf hb he K0 K1
      by_cases hT : isP (lsg w L a.1.1) = true
      rotate_left
      · rw [lloop_stop (by simpa using hT)] at K0 K1
        exact K0 fa M P C' hP hs hf hb he
      rw [lloop_step fa hT] at K0 K1
      have hS := isP_S hT
      refine kLH_op hk (krd_rf hR0 he) hs hb (Or.inr hT) (by rw [hS]; exact hP) (by rw [hS]; exact hW) ?_
      intro M1 r1 r2 r3 r4
      rw [hf] at r2 r3
      have hlen : (C ++ a.2.1).length = C.length + a.2.1.length + 0 := by simp
      refine hF b (a.1.1 + 1) _ (C ++ a.2.1) M1 Q r1 r2 r3 (by simp; omega) ?_ ?_
      · intro f0 M2 t1 t2 t3
        rw [hlen] at f0 t1 t2
        refine ih _ [1048576 * lop (lsg w L a.1.1)] _ M2 (by rw [ljn_f]; exact f0) ?_ (by rw [ljn_f]; exact t1) ?_ (by rw [ljn_f]; exact t2) ((he.trans r4).trans t3) K0 K1
        · intro x hx
          simp at hx
          rw [hx]
          unfold kcn
          left
          unfold isP at hT; simp at hT
          unfold lop
          rcases hT with (h | h) | h <;> rw [h] <;> decide
        · unfold ljn
          rw [if_neg (by omega)]
          simp only [kfl]
          rw [show 1048576 * lop (lsg w L a.1.1) / 1048576 = lop (lsg w L a.1.1) by omega]
          simp only [List.append_assoc]
      · intro f0 M2 t1 t3
        rw [hlen] at f0 t1
        rw [lloop_bad (by rw [ljn_f]; exact f0)] at K1
        rw [ljn_f] at K1
        exact K1 f0 M2 t1 ((he.trans r4).trans t3)
  refine hF b i W C M0 Q hR0 hs0 hb0 hbW ?_ ?_
  · intro f0 M1 t1 t2 t3
    exact loop 200 _ [] _ M1 f0 (fun x hx => by cases hx) t1 rfl t2 t3 K0 K1
  · intro f0 M1 t1 t3
    have e : lloop w L isP 0 F ljn C.length 200 (F i C.length) = F i C.length := lloop_bad f0
    simp only [e] at K1
    exact K1 f0 M1 t1 t3
theorem kSumm (hk : kOk Th m w L) {F : Nat → Nat → lR} (hG : ∀ i c, lGd w L i (F i c)) (hF : kPro Th m w L d o F) : kSum Th m w L d o (fun i c => lloop w L isS 0 F ljn c 200 (F i c)) := by
  intro b i W C M0 Q hR0 hs0 hb0 hbW hW K0 K1
  have loop : ∀ (u : Nat) (a : lR) (P C' : List Int) (M : mM), a.1.2 = 0 → (∀ x, x ∈ P → kcn true x) → kst m w L a.1.1 o (P ++ W) C' M → kfl C' P = C ++ a.2.1 → kbd a.1.1 (P ++ W) C' → Eo (krd m) M0 M →
      ((lloop w L isS 0 F ljn C.length u a).1.2 = 0 → ∀ M' P C', (∀ x, x ∈ P → kcn true x) → kst m w L (lloop w L isS 0 F ljn C.length u a).1.1 o (P ++ W) C' M' → kfl C' P = C ++ (lloop w L isS 0 F ljn C.length u a).2.1 → kbd (lloop w L isS 0 F ljn C.length u a).1.1 (P ++ W) C' → Eo (krd m) M0 M' → kLH d Th Q m b M') →
      ((lloop w L isS 0 F ljn C.length u a).1.2 ≠ 0 → ∀ M', kfa m (lloop w L isS 0 F ljn C.length u a).1 M' → Eo (krd m) M0 M' → Q 0 M') → kLH d Th Q m b M := by
    intro u
    induction u with
    | zero => intro a P C' M fa hP hs hf hb he K0 K1; exact K0 fa M P C' hP hs hf hb he
    | succ u ih =>
      intro a P C' M fa hP hs hf hb he K0 K1
      by_cases hT : isS (lsg w L a.1.1) = true
      rotate_left
      · rw [lloop_stop (by simpa using hT)] at K0 K1
        exact K0 fa M P C' hP hs hf hb he
      rw [lloop_step fa hT] at K0 K1
      refine kLH_op hk (krd_rf hR0 he) hs hb (Or.inl hT) (by rw [hT]; exact hP) (by rw [hT]; exact ktp_tn _ hW) ?_
      intro M1 r1 r2 r3 r4
      rw [hf] at r2 r3
      have hlen : (C ++ a.2.1).length = C.length + a.2.1.length + 0 := by simp
      have hop : lop (lsg w L a.1.1) = 2 ∨ lop (lsg w L a.1.1) = 3 := by
        unfold isS at hT; simp at hT
        unfold lop
        rcases hT with h | h <;> rw [h] <;> decide
      refine hF b (a.1.1 + 1) _ (C ++ a.2.1) M1 Q r1 r2 r3 (by simp; omega) ?_ ?_ ?_
      · show ¬ kcn false (1048576 * lop (lsg w L a.1.1))
        unfold kcn
        intro z
        rcases z with z | z
        · omega
        · exact absurd z.1 (by decide)
      · intro f0 M2 P2 C2 p1 t1 tf t2 t3
        rw [hlen] at f0 t1 tf t2
        have eap : P2 ++ 1048576 * lop (lsg w L a.1.1) :: W = (P2 ++ [1048576 * lop (lsg w L a.1.1)]) ++ W := by simp
        rw [eap] at t1 t2
        refine ih _ (P2 ++ [1048576 * lop (lsg w L a.1.1)]) _ M2 (by rw [ljn_f]; exact f0) ?_ (by rw [ljn_f]; exact t1) ?_ (by rw [ljn_f]; exact t2) ((he.trans r4).trans t3) K0 K1
        · intro x hx
          rcases List.mem_append.mp hx with h | h
          · exact kcn_f (p1 x h)
          · simp at h
            rw [h]
            unfold kcn
            right
            exact ⟨rfl, by omega⟩
        · rw [kfl_two, tf]
          unfold ljn
          rw [if_neg (by omega)]
          simp only [kfl]
          rw [show 1048576 * lop (lsg w L a.1.1) / 1048576 = lop (lsg w L a.1.1) by omega]
          simp only [List.append_assoc]
      · intro f0 M2 t1 t3
        rw [hlen] at f0 t1
        rw [lloop_bad (by rw [ljn_f]; exact f0)] at K1
        rw [ljn_f] at K1
        exact K1 f0 M2 t1 ((he.trans r4).trans t3)
  refine hF b i W C M0 Q hR0 hs0 hb0 hbW (ktp_tn _ hW) ?_ ?_
  · intro f0 M1 P1 C1 p1 t1 tf t2 t3
    exact loop 200 _ P1 C1 M1 f0 (fun x hx => kcn_f (p1 x hx)) t1 tf t2 t3 K0 K1
  · intro f0 M1 t1 t3
    have e : lloop w L isS 0 F ljn C.length 200 (F i C.length) = F i C.length := lloop_bad f0
    simp only [e] at K1
    exact K1 f0 M1 t1 t3
end LO
