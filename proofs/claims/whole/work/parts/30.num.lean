/-! ===== NUMBERS: an Int32 by its number, an Int64 by its number ===== -/
def jI (z : Int) : Int32 := Int32.ofInt z
def jL (z : Int) : Int64 := Int64.ofInt z
theorem jI_add (a b : Int) : jI a + jI b = jI (a + b) := (Int32.ofInt_add a b).symm
theorem jI_sub (a b : Int) : jI a - jI b = jI (a - b) := (Int32.ofInt_sub a b).symm
theorem jI_mul (a b : Int) : jI a * jI b = jI (a * b) := (Int32.ofInt_mul a b).symm
theorem jI_neg (a : Int) : -jI a = jI (-a) := Int32.neg_ofInt
theorem jI_of (n : Nat) : (Int32.ofNat n) = jI n := Int32.ofInt_eq_ofNat.symm
theorem jI_nI (n : Nat) : nI n = jI n := Int32.ofInt_eq_ofNat.symm
theorem jI_lit (n : Nat) : (OfNat.ofNat n : Int32) = jI (n : Int) := Int32.ofInt_eq_ofNat.symm
theorem jI_ex (x : Int32) : ∃ z : Int, -2147483648 ≤ z ∧ z < 2147483648 ∧ x = jI z := ⟨x.toInt, x.le_toInt, x.toInt_lt, (Int32.ofInt_toInt x).symm⟩
theorem jI_toInt {z : Int} (h1 : -2147483648 ≤ z) (h2 : z < 2147483648) : (jI z).toInt = z := Int32.toInt_ofInt_of_le h1 h2
theorem jI_lt {a b : Int} (a1 : -2147483648 ≤ a) (a2 : a < 2147483648) (b1 : -2147483648 ≤ b) (b2 : b < 2147483648) : (jI a < jI b) = (a < b) := by
  rw [Int32.lt_iff_toInt_lt, jI_toInt a1 a2, jI_toInt b1 b2]
theorem jI_le {a b : Int} (a1 : -2147483648 ≤ a) (a2 : a < 2147483648) (b1 : -2147483648 ≤ b) (b2 : b < 2147483648) : (jI a ≤ jI b) = (a ≤ b) := by
  rw [Int32.le_iff_toInt_le, jI_toInt a1 a2, jI_toInt b1 b2]
theorem jI_eq {a b : Int} (a1 : -2147483648 ≤ a) (a2 : a < 2147483648) (b1 : -2147483648 ≤ b) (b2 : b < 2147483648) : (jI a = jI b) = (a = b) := by
  refine propext ⟨fun h => ?_, fun h => by rw [h]⟩
  have := congrArg Int32.toInt h
  rwa [jI_toInt a1 a2, jI_toInt b1 b2] at this
theorem jI_nat {z : Int} (h1 : -2147483648 ≤ z) (h2 : z < 2147483648) : Int32.toNatClampNeg (jI z) = z.toNat := by
  show (jI z).toInt.toNat = _
  rw [jI_toInt h1 h2]
theorem jI_div {a b : Int} (a1 : 0 ≤ a) (a2 : a < 2147483648) (b1 : 0 < b) (b2 : b < 2147483648) : jI a / jI b = jI (a / b) := by
  have h := Int32.ofInt_tdiv (a := a) (b := b) (by show (-2147483648 : Int) ≤ a; omega) (by show a ≤ (2147483647 : Int); omega) (by show (-2147483648 : Int) ≤ b; omega) (by show b ≤ (2147483647 : Int); omega)
  rw [Int.tdiv_eq_ediv_of_nonneg a1] at h
  exact h.symm
theorem jI_rem {a b : Int} (a1 : 0 ≤ a) (a2 : a < 2147483648) (b1 : 0 < b) (b2 : b < 2147483648) : jI a - jI a / jI b * jI b = jI (a % b) := by
  rw [jI_div a1 a2 b1 b2, jI_mul, jI_sub]
  congr 1
  have := Int.emod_add_mul_ediv a b
  rw [Int.mul_comm] at this
  omega
theorem jI_in {z : Int} {n : Nat} (h1 : 0 ≤ z) (h2 : z < n) (h3 : n ≤ 2147483648) : vp_in (jI z) n := by
  unfold vp_in
  rw [jI_nat (by omega) (by omega), show (0 : Int32) = jI 0 from jI_lit 0, jI_lt (by omega) (by omega) (by omega) (by omega)]
  omega
theorem m_ok_jI {Th : mT} {a n : Nat} {ty : FieldType} {fz : Bool} {z : Int} (h : Th.2.2 a = some (.inr (ty, fz, n))) (h1 : 0 ≤ z) (h2 : z < n) (h3 : n ≤ 2147483648) : m_ok Th a ty (jI z) := ⟨fz, n, h, jI_in h1 h2 h3⟩
theorem m_okw_jI {Th : mT} {a n : Nat} {ty : FieldType} {z : Int} (h : Th.2.2 a = some (.inr (ty, false, n))) (h1 : 0 ≤ z) (h2 : z < n) (h3 : n ≤ 2147483648) : m_okw Th a ty (jI z) := ⟨n, h, jI_in h1 h2 h3⟩
/-! longs -/
theorem jL_add (a b : Int) : jL a + jL b = jL (a + b) := (Int64.ofInt_add a b).symm
theorem jL_sub (a b : Int) : jL a - jL b = jL (a - b) := (Int64.ofInt_sub a b).symm
theorem jL_mul (a b : Int) : jL a * jL b = jL (a * b) := (Int64.ofInt_mul a b).symm
theorem jL_neg (a : Int) : -jL a = jL (-a) := Int64.neg_ofInt
theorem jL_lit (n : Nat) : (OfNat.ofNat n : Int64) = jL (n : Int) := Int64.ofInt_eq_ofNat.symm
theorem jL_toInt {z : Int} (h1 : -9223372036854775808 ≤ z) (h2 : z < 9223372036854775808) : (jL z).toInt = z := Int64.toInt_ofInt_of_le h1 h2
theorem jL_lt {a b : Int} (a1 : -9223372036854775808 ≤ a) (a2 : a < 9223372036854775808) (b1 : -9223372036854775808 ≤ b) (b2 : b < 9223372036854775808) : (jL a < jL b) = (a < b) := by
  rw [Int64.lt_iff_toInt_lt, jL_toInt a1 a2, jL_toInt b1 b2]
theorem jL_le {a b : Int} (a1 : -9223372036854775808 ≤ a) (a2 : a < 9223372036854775808) (b1 : -9223372036854775808 ≤ b) (b2 : b < 9223372036854775808) : (jL a ≤ jL b) = (a ≤ b) := by
  rw [Int64.le_iff_toInt_le, jL_toInt a1 a2, jL_toInt b1 b2]
theorem jL_eq {a b : Int} (a1 : -9223372036854775808 ≤ a) (a2 : a < 9223372036854775808) (b1 : -9223372036854775808 ≤ b) (b2 : b < 9223372036854775808) : (jL a = jL b) = (a = b) := by
  refine propext ⟨fun h => ?_, fun h => by rw [h]⟩
  have := congrArg Int64.toInt h
  rwa [jL_toInt a1 a2, jL_toInt b1 b2] at this
theorem jI_long {z : Int} (h1 : -2147483648 ≤ z) (h2 : z < 2147483648) : Int32.toInt64 (jI z) = jL z := Int32.toInt64_ofInt (by show (-2147483648 : Int) ≤ z; omega) (by show z ≤ (2147483647 : Int); omega)
theorem jL_div {a b : Int} (a1 : 0 ≤ a) (a2 : a < 9223372036854775808) (b1 : 0 < b) (b2 : b < 9223372036854775808) : jL a / jL b = jL (a / b) := by
  have h := Int64.ofInt_tdiv (a := a) (b := b) (by show (-9223372036854775808 : Int) ≤ a; omega) (by show a ≤ (9223372036854775807 : Int); omega) (by show (-9223372036854775808 : Int) ≤ b; omega) (by show b ≤ (9223372036854775807 : Int); omega)
  rw [Int.tdiv_eq_ediv_of_nonneg a1] at h
  exact h.symm
theorem jL_rem {a b : Int} (a1 : 0 ≤ a) (a2 : a < 9223372036854775808) (b1 : 0 < b) (b2 : b < 9223372036854775808) : jL a - jL a / jL b * jL b = jL (a % b) := by
  rw [jL_div a1 a2 b1 b2, jL_mul, jL_sub]
  congr 1
  have := Int.emod_add_mul_ediv a b
  rw [Int.mul_comm] at this
  omega
theorem lc_eq (x y : Int64) : (lg_cmp x y = 0) = (x = y) := by
  unfold lg_cmp
  refine propext ⟨fun h => ?_, fun h => ?_⟩
  · split at h
    · exact absurd h (by decide)
    · split at h
      · assumption
      · exact absurd h (by decide)
  · subst h
    rw [if_neg (Int64.lt_irrefl), if_pos rfl]
theorem lc_le (x y : Int64) : (lg_cmp x y ≤ 0) = (x ≤ y) := by
  unfold lg_cmp
  refine propext ⟨fun h => ?_, fun h => ?_⟩
  · split at h
    · exact absurd h (by decide)
    · rename_i h1
      exact Int64.not_lt.mp h1
  · rw [if_neg (Int64.not_lt.mpr h)]
    split <;> decide
theorem lc_lt (x y : Int64) : (lg_cmp x y < 0) = (x < y) := by
  unfold lg_cmp
  refine propext ⟨fun h => ?_, fun h => ?_⟩
  · split at h
    · exact absurd h (by decide)
    · split at h
      · exact absurd h (by decide)
      · rename_i h1 h2
        exact Int64.lt_of_le_of_ne (Int64.not_lt.mp h1) h2
  · rw [if_neg (Int64.not_lt.mpr (Int64.le_of_lt h)), if_neg (fun e => by subst e; exact Int64.lt_irrefl h)]
    decide
theorem lc_ge (x y : Int64) : (0 ≤ lg_cmp x y) = (y ≤ x) := by
  refine propext ⟨fun h => ?_, fun h => ?_⟩
  · rcases Decidable.em (x < y) with q | q
    · rw [← lc_lt] at q
      exact absurd h (Int32.not_le.mpr q)
    · exact Int64.not_lt.mp q
  · refine Int32.not_lt.mp (fun q => ?_)
    rw [lc_lt] at q
    exact Int64.not_lt.mpr h q
theorem lc_gt (x y : Int64) : (0 < lg_cmp x y) = (y < x) := by
  refine propext ⟨fun h => ?_, fun h => ?_⟩
  · rcases Decidable.em (x ≤ y) with q | q
    · rw [← lc_le] at q
      exact absurd h (Int32.not_lt.mpr q)
    · exact Int64.not_le.mp q
  · refine Int32.not_le.mp (fun q => ?_)
    rw [lc_le] at q
    exact Int64.not_le.mpr h q
theorem jL_shl_k : ∀ k : Fin 64, (((jI (k.val : Int)).toInt64 &&& 63).toBitVec.smod 64).toNat = k.val := by decide +kernel
theorem jL_shl (x : Int64) {k : Int} (h1 : 0 ≤ k) (h2 : k < 64) : x <<< ((jI k).toInt64 &&& 63) = x * jL (2 ^ k.toNat) := by
  obtain ⟨n, rfl⟩ := Int.eq_ofNat_of_zero_le h1
  have hn : n < 64 := by omega
  have h := jL_shl_k ⟨n, hn⟩
  apply Int64.toBitVec_inj.mp
  show x.toBitVec <<< (((jI (n : Int)).toInt64 &&& 63).toBitVec.smod 64) = x.toBitVec * (jL (2 ^ (n : Int).toNat)).toBitVec
  rw [BitVec.shiftLeft_eq', h, BitVec.shiftLeft_eq_mul_twoPow]
  congr 1
  show BitVec.twoPow 64 n = BitVec.ofInt 64 (2 ^ (n : Int).toNat)
  apply BitVec.eq_of_toNat_eq
  rw [BitVec.toNat_twoPow, Int.toNat_natCast]
  rw [BitVec.toNat_ofInt, show ((2 : Int) ^ n) = ((2 ^ n : Nat) : Int) by simp]
  rw [← Int.natCast_emod]
  exact (Int.toNat_natCast _).symm
