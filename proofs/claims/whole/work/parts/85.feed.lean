/-! ===== FEED: both sides ===== -/
/-- a byte of a number: 0 the lowest -/
def bC (v : Int32) (k : Nat) : BitVec 8 := (v.toBitVec >>> (8 * k)).setWidth 8
def bV (v : Int32) (k : Nat) : Int := ((bC v k).toNat : Int)
theorem bV_b (v : Int32) (k : Nat) : 0 ≤ bV v k ∧ bV v k ≤ 255 := by
  have := (bC v k).isLt
  unfold bV
  omega
theorem bC_s : ∀ z : Fin 256, Int8.toInt32 (Int8.ofBitVec (BitVec.ofFin (w := 8) z)) = jI (sB (z.val : Int)) := by decide +kernel
theorem bC_u : ∀ z : Fin 256, Int32.ofBitVec ((BitVec.ofFin (w := 8) z).setWidth 32) = jI (z.val : Int) := by decide +kernel
theorem bC_and (x : BitVec 32) : x &&& 255#32 = (x.setWidth 8).setWidth 32 := by
  apply BitVec.eq_of_toNat_eq
  rw [BitVec.toNat_and, BitVec.toNat_setWidth, BitVec.toNat_setWidth]
  show x.toNat &&& (2 ^ 8 - 1) = _
  rw [Nat.and_two_pow_sub_one_eq_mod]
  omega
theorem bC_shr (x : BitVec 32) (k : Nat) (hk : k < 4) : (x.sshiftRight (8 * k)).setWidth 8 = (x >>> (8 * k)).setWidth 8 := by
  apply BitVec.eq_of_getLsbD_eq
  intro i hi
  simp only [BitVec.getLsbD_setWidth, BitVec.getLsbD_sshiftRight, BitVec.getLsbD_ushiftRight]
  rw [if_pos (by omega)]
  simp
  omega
theorem bV_u (v : Int32) (k : Nat) (h : k < 4) : (v.toUInt32 >>> ((jI (8 * (k : Int))).toUInt32 &&& Int32.toUInt32 31)).toInt32 &&& 255 = jI (bV v k) := by
  have e := bC_u (bC v k).toFin
  rw [show jI (bV v k) = jI (((bC v k).toFin.val : Nat) : Int) from rfl, ← e]
  apply Int32.toBitVec_inj.1
  show (v.toUInt32 >>> ((jI (8 * (k : Int))).toUInt32 &&& Int32.toUInt32 31)).toBitVec &&& 255#32 = (bC v k).setWidth 32
  rw [bC_and]
  unfold bC
  congr 2
  match k, h with
  | 0, _ => rfl
  | 1, _ => rfl
  | 2, _ => rfl
  | 3, _ => rfl
theorem bV_s (v : Int32) (k : Nat) (h : k < 4) : (Int32.toInt8 (((v >>> ((8 * jI (k : Int)) &&& 31))).toInt8.toInt32)).toInt32 = jI (sB (bV v k)) := by
  have e := bC_s (bC v k).toFin
  rw [show jI (sB (bV v k)) = jI (sB (((bC v k).toFin.val : Nat) : Int)) from rfl, ← e, Int8.toInt8_toInt32]
  congr 1
  apply Int8.toBitVec_inj.1
  show (v >>> ((8 * jI (k : Int)) &&& 31)).toBitVec.setWidth 8 = bC v k
  unfold bC
  rw [← bC_shr _ _ h]
  congr 1
  match k, h with
  | 0, _ => rfl
  | 1, _ => rfl
  | 2, _ => rfl
  | 3, _ => rfl
/-- a number on the tape -/
def sPut (s : mS) (v : Int32) : mS := fun i k => if i = 7 then (if (s 0 4).toNat ≤ k ∧ k < (s 0 4).toNat + 4 then bV v ((s 0 4).toNat + 3 - k) else s 7 k) else if i = 0 ∧ k = 4 then s 0 4 + 4 else s i k
