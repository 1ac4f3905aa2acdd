/-! ===== WHERE ALL STANDS: the class's cells from n on, the model's from m = n + 113 on ===== -/
def ksA : List mK := [.inl 10, .inl 9, .inr (.int, false, 220), .inl 2, .inl 4, .inr (.int, false, 8), .inr (.int, false, 200), .inr (.int, false, 200), .inr ((.object RX8), false, 5), .inr (.int, false, 5), .inr (.int, false, 6), .inr (.int, false, 6), .inr (.int, false, 5), .inr (.int, false, 5), .inr (.int, false, 5), .inl 8, .inr (.int, false, 30), .inr (.int, false, 30), .inr (.int, false, 5), .inl 8, .inr (.int, false, 30), .inr (.int, false, 30), .inr (.int, false, 5), .inl 8, .inr (.int, false, 30), .inr (.int, false, 30), .inr (.int, false, 5), .inl 8, .inr (.int, false, 30), .inr (.int, false, 30), .inr (.int, false, 5), .inl 8, .inr (.int, false, 30), .inr (.int, false, 30), .inr (.int, false, 5), .inl 8, .inr (.int, false, 30), .inr (.int, false, 30), .inr (.int, false, 5), .inl 7, .inr (.long, false, 11), .inr ((.array .long), false, 5), .inr (.long, false, 11), .inr (.long, false, 11), .inr (.long, false, 11), .inr (.long, false, 11), .inr (.long, false, 11), .inr ((.array .long), false, 6), .inr (.long, false, 11), .inr (.long, false, 11), .inr (.long, false, 11), .inr (.long, false, 11), .inr (.long, false, 11), .inr (.long, false, 11), .inl 7, .inr (.long, false, 11), .inr ((.array .long), false, 5), .inr (.long, false, 11), .inr (.long, false, 11), .inr (.long, false, 11), .inr (.long, false, 11), .inr (.long, false, 11), .inr ((.array .long), false, 6), .inr (.long, false, 11), .inr (.long, false, 11), .inr (.long, false, 11), .inr (.long, false, 11), .inr (.long, false, 11), .inr (.long, false, 11), .inl 0, .inr ((.array .long), false, 11), .inr (.long, false, 11), .inr (.long, false, 11), .inr (.long, false, 11), .inr (.long, false, 11), .inr (.long, false, 11), .inr (.long, false, 11), .inr (.long, false, 11), .inr (.long, false, 11), .inr (.long, false, 11), .inr (.long, false, 11), .inr (.long, false, 11), .inr ((.array .long), false, 11), .inr (.long, false, 11), .inr (.long, false, 11), .inr (.long, false, 11), .inr (.long, false, 11), .inr (.long, false, 11), .inr (.long, false, 11), .inr (.long, false, 11), .inr (.long, false, 11), .inr (.long, false, 11), .inr (.long, false, 11), .inr (.long, false, 11), .inl 1, .inr (.long, false, 94500), .inl 8, .inr (.int, false, 30), .inr (.int, false, 30), .inr (.int, false, 5), .inl 6, .inr (.int, false, 25), .inr (.int, false, 25), .inr (.int, false, 5), .inr (.int, false, 5), .inl 5, .inr (.int, false, 120), .inl 3, .inr ((.object RX8), false, 5), .inr (.int, false, 5), .inr (.int, false, 5), .inr (.int, false, 5), .inr (.int, false, 5)]
def ksM : List mK := [.inl 11, .inr (.int, false, 5), .inr (.int, false, 6), .inr (.int, false, 6), .inr (.int, false, 5), .inr (.int, false, 5), .inr (.int, false, 5), .inr (.byte, false, 220), .inr (.int, false, 220), .inr (.int, false, 220), .inr (.int, false, 14), .inr (.int, false, 14), .inr (.int, false, 14), .inr (.int, false, 14), .inr (.int, false, 220), .inr (.int, false, 14), .inr (.int, false, 14), .inr (.int, false, 14), .inr (.int, false, 14), .inr (.int, false, 220), .inr (.int, false, 8), .inr (.long, false, 1053), .inr (.long, false, 1053), .inr (.long, false, 11), .inr (.long, false, 11), .inr (.boolean, false, 277200), .inr (.long, false, 277200), .inr (.byte, false, 277200), .inr (.int, false, 3), .inr (.int, false, 3), .inr (.int, false, 3), .inr (.int, false, 3), .inr (.int, false, 25), .inr (.int, false, 5), .inr (.int, false, 5), .inr (.int, false, 40), .inr (.int, false, 40), .inr (.int, false, 40), .inr (.int, false, 5), .inr (.int, false, 5)]
def rsA : List (Nat × Nat × Nat) := [(0, 0, 1), (0, 1, 3), (0, 2, 35), (0, 3, 39), (0, 4, 54), (0, 5, 69), (0, 6, 94), (0, 7, 100), (0, 8, 105), (0, 9, 107), (1, 0, 2), (3, 5, 4), (3, 6, 8), (3, 7, 9), (3, 8, 10), (3, 9, 11), (3, 10, 12), (3, 11, 13), (3, 12, 14), (4, 0, 5), (8, 0, 15), (8, 1, 19), (8, 2, 23), (8, 3, 27), (8, 4, 31), (15, 0, 16), (15, 1, 17), (15, 2, 18), (19, 0, 20), (19, 1, 21), (19, 2, 22), (23, 0, 24), (23, 1, 25), (23, 2, 26), (27, 0, 28), (27, 1, 29), (27, 2, 30), (31, 0, 32), (31, 1, 33), (31, 2, 34), (35, 0, 36), (35, 1, 37), (35, 2, 38), (39, 0, 40), (39, 1, 41), (39, 2, 47), (41, 0, 42), (41, 1, 43), (41, 2, 44), (41, 3, 45), (41, 4, 46), (47, 0, 48), (47, 1, 49), (47, 2, 50), (47, 3, 51), (47, 4, 52), (47, 5, 53), (54, 0, 55), (54, 1, 56), (54, 2, 62), (56, 0, 57), (56, 1, 58), (56, 2, 59), (56, 3, 60), (56, 4, 61), (62, 0, 63), (62, 1, 64), (62, 2, 65), (62, 3, 66), (62, 4, 67), (62, 5, 68), (70, 0, 71), (70, 1, 72), (70, 2, 73), (70, 3, 74), (70, 4, 75), (70, 5, 76), (70, 6, 77), (70, 7, 78), (70, 8, 79), (70, 9, 80), (70, 10, 81), (82, 0, 83), (82, 1, 84), (82, 2, 85), (82, 3, 86), (82, 4, 87), (82, 5, 88), (82, 6, 89), (82, 7, 90), (82, 8, 91), (82, 9, 92), (82, 10, 93), (94, 0, 3), (94, 3, 95), (96, 0, 97), (96, 1, 98), (96, 2, 99), (100, 0, 101), (100, 1, 102), (100, 2, 103), (100, 3, 104), (105, 0, 106), (107, 0, 3), (107, 1, 105), (107, 2, 108), (107, 3, 109), (107, 4, 110), (107, 5, 111), (107, 6, 112)]
def rsM : List (Nat × Nat × Nat) := [(0, 5, 1), (0, 6, 2), (0, 7, 3), (0, 8, 4), (0, 9, 5), (0, 10, 6), (0, 11, 7), (0, 22, 8), (0, 23, 9), (0, 24, 10), (0, 25, 11), (0, 26, 12), (0, 27, 13), (0, 28, 14), (0, 29, 15), (0, 30, 16), (0, 31, 17), (0, 32, 18), (0, 33, 19), (0, 34, 20), (0, 37, 21), (0, 38, 22), (0, 39, 23), (0, 41, 24), (0, 46, 25), (0, 47, 26), (0, 48, 27), (0, 49, 28), (0, 50, 29), (0, 51, 30), (0, 52, 31), (0, 57, 32), (0, 58, 33), (0, 59, 34), (0, 62, 35), (0, 63, 36), (0, 64, 37), (0, 65, 38), (0, 66, 39)]
def Ly (Th : mT) (n : Nat) : Prop := ∀ (i : Nat) (t : mK), ksA[i]? = some t → Th.2.2 (n + i) = some t
def LyM (Th : mT) (m : Nat) : Prop := ∀ (i : Nat) (t : mK), ksM[i]? = some t → Th.2.2 (m + i) = some t
/-- the references that stay -/
def Rf (n : Nat) (M : mM) : Prop := ∀ (o k v : Nat), (o, k, v) ∈ rsA → M.2.2 (n + o) k = some (n + v)
def RfM (m : Nat) (M : mM) : Prop := ∀ (o k v : Nat), (o, k, v) ∈ rsM → M.2.2 (m + o) k = some (m + v)
/-- the same outside of S -/
def Eo (S : Nat → Nat → Prop) (M M1 : mM) : Prop := ∀ q k, ¬ S q k → M1.1 q k = M.1 q k ∧ M1.2.1 q k = M.2.1 q k ∧ M1.2.2 q k = M.2.2 q k
theorem Eo.rf {S : Nat → Nat → Prop} {M : mM} : Eo S M M := fun _ _ _ => ⟨rfl, rfl, rfl⟩
theorem Eo.trans {S : Nat → Nat → Prop} {M M1 M2 : mM} (h1 : Eo S M M1) (h2 : Eo S M1 M2) : Eo S M M2 := fun q k h =>
  ⟨(h2 q k h).1.trans (h1 q k h).1, (h2 q k h).2.1.trans (h1 q k h).2.1, (h2 q k h).2.2.trans (h1 q k h).2.2⟩
theorem Eo.mono {S S' : Nat → Nat → Prop} {M M1 : mM} (h : Eo S M M1) (hs : ∀ q k, S q k → S' q k) : Eo S' M M1 := fun q k hn => h q k (fun z => hn (hs q k z))
theorem Eo.ui {S : Nat → Nat → Prop} {M M1 : mM} {a k : Nat} {x : Int32} (h : Eo S M M1) (hs : S a k) : Eo S M (m_ui M1 a k x) := fun q j hn => by
  have h1 := h q j hn
  refine ⟨?_, h1.2.1, h1.2.2⟩
  show (if q = a ∧ j = k then x else M1.1 q j) = _
  rw [if_neg (fun e => hn (by rw [e.1, e.2]; exact hs))]
  exact h1.1
theorem Eo.ul {S : Nat → Nat → Prop} {M M1 : mM} {a k : Nat} {x : Int64} (h : Eo S M M1) (hs : S a k) : Eo S M (m_ul M1 a k x) := fun q j hn => by
  have h1 := h q j hn
  refine ⟨h1.1, ?_, h1.2.2⟩
  show (if q = a ∧ j = k then x else M1.2.1 q j) = _
  rw [if_neg (fun e => hn (by rw [e.1, e.2]; exact hs))]
  exact h1.2.1
theorem Eo.ur {S : Nat → Nat → Prop} {M M1 : mM} {a k : Nat} {x : Option Nat} (h : Eo S M M1) (hs : S a k) : Eo S M (m_ur M1 a k x) := fun q j hn => by
  have h1 := h q j hn
  refine ⟨h1.1, h1.2.1, ?_⟩
  show (if q = a ∧ j = k then x else M1.2.2 q j) = _
  rw [if_neg (fun e => hn (by rw [e.1, e.2]; exact hs))]
  exact h1.2.2
/-- numbers that an int can be -/
def rI (z : Int) : Prop := -2147483648 ≤ z ∧ z < 2147483648
theorem rI_ex (x : Int32) : ∃ z : Int, rI z ∧ x = jI z := by
  obtain ⟨z, h1, h2, h3⟩ := jI_ex x
  exact ⟨z, ⟨h1, h2⟩, h3⟩
theorem jIlt {a b : Int} (ha : rI a) (hb : rI b) : (jI a < jI b) = (a < b) := jI_lt ha.1 ha.2 hb.1 hb.2
theorem jIle {a b : Int} (ha : rI a) (hb : rI b) : (jI a ≤ jI b) = (a ≤ b) := jI_le ha.1 ha.2 hb.1 hb.2
theorem jIeq {a b : Int} (ha : rI a) (hb : rI b) : (jI a = jI b) = (a = b) := jI_eq ha.1 ha.2 hb.1 hb.2
theorem jInat {z : Int} (h : rI z) : Int32.toNatClampNeg (jI z) = z.toNat := jI_nat h.1 h.2
theorem jInatN (k : Nat) (h : k < 2147483648) : Int32.toNatClampNeg (jI (k : Int)) = k := by
  rw [jI_nat (by omega) (by omega)]
  exact Int.toNat_natCast k
/-- truth as a number -/
def jB (b : Bool) : Int32 := if b then 1 else 0
theorem mb0 : m_bool 0 := by unfold m_bool; decide
theorem mb1 : m_bool 1 := by unfold m_bool; decide
theorem jB_bool (b : Bool) : m_bool (jB b) := by cases b; exact mb0; exact mb1
theorem s_within {d : Nat} {Th : mT} {M : mM} {Q : Int32 → mM → Prop} {x lo hi : Int32} {z : Int} (a b : Int) (hx : x = jI z) (hlo : lo = jI a) (hhi : hi = jI b) (hz : rI z) (ha : rI a) (hb : rI b) (h1 : a ≤ z → z ≤ b → Q 1 M) (h0 : ¬ (a ≤ z ∧ z ≤ b) → Q 0 M) : P10_within (d + 1) Th x lo hi M Q := by
  subst hx hlo hhi
  refine e10_within ?_
  simp only [jIlt hz ha, jIlt hb hz]
  by_cases c1 : z < a
  · simp only [if_pos c1]; exact ⟨mb0, h0 (by omega)⟩
  · simp only [if_neg c1]
    by_cases c2 : b < z
    · simp only [if_pos c2]; exact ⟨mb0, h0 (by omega)⟩
    · simp only [if_neg c2]; exact ⟨mb1, h1 (by omega) (by omega)⟩
theorem s_in {d : Nat} {Th : mT} {M : mM} {Q : Int32 → mM → Prop} {x lo hi : Int32} {z : Int} (a b : Int) (hx : x = jI z) (hlo : lo = jI a) (hhi : hi = jI b) (hz : rI z) (ha : rI a) (hb : rI b) (h1 : a ≤ z → z ≤ b → Q 1 M) (h0 : ¬ (a ≤ z ∧ z ≤ b) → Q 0 M) : P11_in (d + 1) Th x lo hi M Q := by
  subst hx hlo hhi
  refine e11_in ?_
  simp only [jIlt hz ha, jIlt hb hz]
  by_cases c1 : z < a
  · simp only [if_pos c1]; exact ⟨mb0, h0 (by omega)⟩
  · simp only [if_neg c1]
    by_cases c2 : b < z
    · simp only [if_pos c2]; exact ⟨mb0, h0 (by omega)⟩
    · simp only [if_neg c2]; exact ⟨mb1, h1 (by omega) (by omega)⟩
