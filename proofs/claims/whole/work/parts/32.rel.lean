/-! ===== WHAT THE CELLS SAY: s 0 the scalars (0 riddles 1 bands 2 delay 3 fog 4 tape 5 orders 6 log 7 X 8 drawn 9 clauses 10 text's length), s 1 hard, 2 x, 3 y, 4 clever, 5 quick, 6 follows, 7 tape's bytes, 8 orders' rows, 9 log's entries, 10 box ticks, 11 text's bytes ===== -/
abbrev mS : Type := Nat → Nat → Int
def cHill (n : Nat) (s : mS) (M : mM) : Prop := M.1 (n + 3) 0 = jI (s 0 0) ∧ M.1 (n + 3) 1 = jI (s 0 1) ∧ M.1 (n + 3) 2 = jI (s 0 2) ∧ M.1 (n + 3) 3 = jI (s 0 3) ∧
  (∀ k, M.1 (n + 9) k = jI (s 1 k)) ∧ (∀ k, M.1 (n + 10) k = jI (s 2 k)) ∧ (∀ k, M.1 (n + 11) k = jI (s 3 k)) ∧ (∀ k, M.1 (n + 12) k = jI (s 4 k)) ∧ (∀ k, M.1 (n + 13) k = jI (s 5 k)) ∧ (∀ k, M.1 (n + 14) k = jI (s 6 k))
def cTape (n : Nat) (s : mS) (M : mM) : Prop := M.1 (n + 1) 1 = jI (s 0 4) ∧ ∀ k, M.1 (n + 2) k = jI (s 7 k)
def cOrd (n : Nat) (s : mS) (M : mM) : Prop := M.1 (n + 100) 5 = jI (s 0 5) ∧ (0 < s 0 5 → M.1 (n + 100) 4 = jI (s 0 0)) ∧ ∀ k, M.1 (n + 101) k = jI (s 8 k)
def cLog (n : Nat) (s : mS) (M : mM) : Prop := M.1 (n + 105) 1 = jI (s 0 6) ∧ ∀ k, M.1 (n + 106) k = jI (s 9 k)
def cHunt (n : Nat) (s : mS) (M : mM) : Prop := M.1 (n + 107) 8 = jI (s 0 7) ∧ M.1 (n + 107) 9 = jI (s 0 8) ∧ ∀ k, M.1 (n + 112) k = jI (s 10 k)
def mHill (m : Nat) (s : mS) (M : mM) : Prop := M.1 m 0 = jI (s 0 0) ∧ M.1 m 1 = jI (s 0 1) ∧ M.1 m 2 = jI (s 0 2) ∧ M.1 m 3 = jI (s 0 3) ∧
  (∀ k, M.1 (m + 1) k = jI (s 1 k)) ∧ (∀ k, M.1 (m + 2) k = jI (s 2 k)) ∧ (∀ k, M.1 (m + 3) k = jI (s 3 k)) ∧ (∀ k, M.1 (m + 4) k = jI (s 4 k)) ∧ (∀ k, M.1 (m + 5) k = jI (s 5 k)) ∧ (∀ k, M.1 (m + 6) k = jI (s 6 k))
def sB (z : Int) : Int := if z < 128 then z else z - 256
def mTape (m : Nat) (s : mS) (M : mM) : Prop := M.1 m 12 = jI (s 0 4) ∧ ∀ k, M.1 (m + 7) k = jI (sB (s 7 k))
def mOrd (m : Nat) (s : mS) (M : mM) : Prop := M.1 m 56 = jI (s 0 5) ∧ ∀ k, M.1 (m + 32) k = jI (s 8 k)
def mLog (m : Nat) (s : mS) (M : mM) : Prop := M.1 m 60 = jI (s 0 6) ∧ (∀ k, M.1 (m + 35) k = jI (s 9 (3 * k))) ∧ (∀ k, M.1 (m + 36) k = jI (s 9 (3 * k + 1))) ∧ ∀ k, M.1 (m + 37) k = jI (s 9 (3 * k + 2))
def mHunt (m : Nat) (s : mS) (M : mM) : Prop := M.1 m 4 = jI (s 0 7) ∧ M.1 m 61 = jI (s 0 8) ∧ ∀ k, M.1 (m + 38) k = jI (s 10 k)
/-- the numbers' bounds -/
def rG (s : mS) : Prop := (0 ≤ s 0 0 ∧ s 0 0 ≤ 5) ∧ (0 ≤ s 0 1 ∧ s 0 1 ≤ 5) ∧ (1 ≤ s 0 2 ∧ s 0 2 ≤ 4) ∧ (s 0 3 = 0 ∨ s 0 3 = 1) ∧ (0 ≤ s 0 4 ∧ s 0 4 ≤ 220) ∧ (0 ≤ s 0 5 ∧ s 0 5 ≤ 5) ∧ (0 ≤ s 0 6 ∧ s 0 6 ≤ 40) ∧ (0 ≤ s 0 7 ∧ s 0 7 ≤ 65535) ∧ (s 0 8 = 0 ∨ s 0 8 = 1) ∧
  (∀ k, 0 ≤ s 1 k ∧ s 1 k ≤ 9) ∧ (∀ k, 0 ≤ s 2 k ∧ s 2 k ≤ 30) ∧ (∀ k, 0 ≤ s 3 k ∧ s 3 k ≤ 30) ∧ (∀ k, 0 ≤ s 4 k ∧ s 4 k ≤ 9) ∧ (∀ k, 0 ≤ s 5 k ∧ s 5 k ≤ 9) ∧ (∀ k : Nat, (k : Int) < s 0 1 → 1 ≤ s 5 k) ∧ (∀ k, s 6 k = 0 ∨ s 6 k = 1) ∧ (∀ k, 0 ≤ s 7 k ∧ s 7 k ≤ 255)
/-- an int of the state, put -/
abbrev sU (s : mS) (i k : Nat) (v : Int) : mS := m_u s i k v
/-! small ones -/
theorem s11_clears {d : Nat} {Th : mT} {M : mM} {Q : Int32 → mM → Prop} {m : Nat} {z : Int} (hT : LyM Th m) (h6 : M.1 m 60 = jI z) (k : Q (jI z) (m_ui (m_ui M m 60 0) m 61 0)) : P11_clears (d + 1) Th m M Q := by
  refine e11_clears ⟨hT 0 _ rfl, ?_⟩
  intro v hv M3 h3
  subst h3
  rw [hv, h6]
  exact k
theorem s10_logFalls {d : Nat} {Th : mT} {M : mM} {Q : mM → Prop} {n : Nat} (hT : Ly Th n) (hR : Rf n M) (k : Q (m_ui (m_ui M (n + 105) 1 0) (n + 107) 9 0)) : P10_logFalls (d + 2) Th n M Q := by
  refine e10_logFalls ⟨hT 0 _ rfl, n + 105, hR 0 8 105 (by decide), hT 105 _ rfl, ?_⟩
  exact e5_fall ⟨hT 105 _ rfl, n + 107, hR 0 9 107 (by decide), hT 107 _ rfl, k⟩
theorem s2_addRiddle {d : Nat} {Th : mT} {M : mM} {Q : Int32 → mM → Prop} {n r : Nat} {x1 x2 x3 c : Int32} (hT : Ly Th n) (hR : Rf n M) (h0 : M.1 (n + 3) 0 = jI r) (h4 : M.1 (n + 3) 4 = c) (hr : r < 5)
    (k : Q (jI r) (m_ui (m_ui (m_ui (m_ui (m_ui M (n + 9) r x1) (n + 10) (r + 1) x2) (n + 11) (r + 1) x3) (n + 3) 0 (jI ((r : Int) + 1))) (n + 3) 4 (c + 1))) : P2_addRiddle (d + 1) Th (n + 3) x1 x2 x3 M Q := by
  have e5 : (5 : Int32) = jI 5 := rfl
  have e0 : (0 : Int32) = jI 0 := rfl
  have e1 : (1 : Int32) = jI 1 := rfl
  have rr : rI (r : Int) := ⟨by omega, by omega⟩
  refine e2_addRiddle ⟨hT 3 _ rfl, ?_⟩
  rw [if_neg (by rw [h0, e0, jIlt rr ⟨by omega, by omega⟩]; omega), if_pos (by rw [h0, e5, jIlt rr ⟨by omega, by omega⟩]; omega)]
  refine ⟨n + 9, hR 3 7 9 (by decide), by rw [h0]; exact m_okw_jI (hT 9 _ rfl) (by omega) (by omega) (by omega), n + 10, hR 3 8 10 (by decide), ?_⟩
  intro M7 h7
  have g7 : M7.1 (n + 3) 0 = jI r := by rw [h7]; simp [m_u, h0]
  have i1 : Int32.toNatClampNeg (jI r) = r := jInatN r (by omega)
  have i2 : Int32.toNatClampNeg (jI ((r : Int) + 1)) = r + 1 := by have := jInatN (r + 1) (by omega); simpa using this
  refine ⟨by rw [g7, e1, jI_add]; exact m_okw_jI (hT 10 _ rfl) (by omega) (by omega) (by omega), n + 11, hR 3 9 11 (by decide), ?_⟩
  intro M11 h11
  have g11 : M11.1 (n + 3) 0 = jI r := by rw [h11]; simp [m_u, g7]
  refine ⟨by rw [g11, e1, jI_add]; exact m_okw_jI (hT 11 _ rfl) (by omega) (by omega) (by omega), ?_⟩
  intro M13 h13 M14 h14 M15 h15
  have g13 : M13.1 (n + 3) 0 = jI r := by rw [h13]; simp [m_u, g11]
  rw [g7, e1, jI_add, i2] at h11
  rw [g11, e1, jI_add, i2] at h13
  rw [h0, i1] at h7
  rw [g13, e1, jI_add] at h14
  have g14 : M14.1 (n + 3) 4 = c := by rw [h14, h13, h11, h7]; simp [m_u, h4]
  rw [g14] at h15
  have g15 : M15.1 (n + 3) 0 = jI ((r : Int) + 1) := by rw [h15, h14]; simp [m_u]
  rw [g15, e1, jI_sub, show (r : Int) + 1 - 1 = r by omega, h15, h14, h13, h11, h7]
  exact k
