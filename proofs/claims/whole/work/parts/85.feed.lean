/-! ===== FEED: both sides ===== -/
/-- a byte of a number: 0 the lowest -/
def bC (v : Int32) (k : Nat) : BitVec 8 := (v.toBitVec >>> (8 * k)).setWidth 8
def bV (v : Int32) (k : Nat) : Int := ((bC v k).toNat : Int)
theorem bV_b (v : Int32) (k : Nat) : 0 ≤ bV v k ∧ bV v k ≤ 255 := by
  have := (bC v k).isLt
  unfold bV
  omega
theorem bC_s : ∀ z : Fin 256, Int8.toInt32 (Int8.ofBitVec (BitVec.ofFin (w := 8) z)) = jI (sB (z.val : Int)) := by decide +kernel
theorem bC_u : ∀ z : Fin 256, Int32.ofBitVec ((BitVec.ofFin (w := 8) z).setWidth 32) = jI (z.val : Int) := by decide +kernel
theorem bC_and (x : BitVec 32) : x &&& 255#32 = (x.setWidth 8).setWidth 32 := by
  apply BitVec.eq_of_toNat_eq
  rw [BitVec.toNat_and, BitVec.toNat_setWidth, BitVec.toNat_setWidth]
  show x.toNat &&& (2 ^ 8 - 1) = _
  rw [Nat.and_two_pow_sub_one_eq_mod]
  omega
theorem bC_shr (x : BitVec 32) (k : Nat) (hk : k < 4) : (x.sshiftRight (8 * k)).setWidth 8 = (x >>> (8 * k)).setWidth 8 := by
  apply BitVec.eq_of_getLsbD_eq
  intro i hi
  simp only [BitVec.getLsbD_setWidth, BitVec.getLsbD_sshiftRight, BitVec.getLsbD_ushiftRight]
  rw [if_pos (by omega)]
  rw [decide_eq_false (show ¬ 32 ≤ i by omega)]
  rfl
theorem bC_k : ∀ k : Fin 4, (((8 * jI (k.val : Int)) &&& 31).toBitVec.smod 32#32).toNat = 8 * k.val := by decide +kernel
theorem bV_u (v : Int32) (k : Nat) (h : k < 4) : (v.toUInt32 >>> ((jI (8 * (k : Int))).toUInt32 &&& Int32.toUInt32 31)).toInt32 &&& 255 = jI (bV v k) := by
  have e := bC_u (bC v k).toFin
  rw [show jI (bV v k) = jI (((bC v k).toFin.val : Nat) : Int) from rfl, ← e]
  apply Int32.toBitVec_inj.1
  show (v.toUInt32 >>> ((jI (8 * (k : Int))).toUInt32 &&& Int32.toUInt32 31)).toBitVec &&& 255#32 = (bC v k).setWidth 32
  rw [bC_and]
  unfold bC
  congr 2
  match k, h with
  | 0, _ => rfl
  | 1, _ => rfl
  | 2, _ => rfl
  | 3, _ => rfl
theorem bV_s (v : Int32) (k : Nat) (h : k < 4) : (Int32.toInt8 (((v >>> ((8 * jI (k : Int)) &&& 31))).toInt8.toInt32)).toInt32 = jI (sB (bV v k)) := by
  have e := bC_s (bC v k).toFin
  rw [show jI (sB (bV v k)) = jI (sB (((bC v k).toFin.val : Nat) : Int)) from rfl, ← e, Int8.toInt8_toInt32]
  congr 1
  apply Int8.toBitVec_inj.1
  show (v >>> ((8 * jI (k : Int)) &&& 31)).toInt8.toBitVec = bC v k
  rw [Int32.toBitVec_toInt8, BitVec.signExtend_eq_setWidth_of_le _ (by omega)]
  unfold bC
  rw [← bC_shr _ _ h]
  show (v.toBitVec.sshiftRight ((((8 * jI (k : Int)) &&& 31).toBitVec.smod 32#32).toNat)).setWidth 8 = _
  have e : (((8 * jI (k : Int)) &&& 31).toBitVec.smod 32#32).toNat = 8 * k := bC_k ⟨k, h⟩
  rw [e]
/-- a number on the tape -/
def sPut (s : mS) (v : Int32) : mS := fun i k => if i = 7 then (if (s 0 4).toNat ≤ k ∧ k < (s 0 4).toNat + 4 then bV v ((s 0 4).toNat + 3 - k) else s 7 k) else if i = 0 ∧ k = 4 then s 0 4 + 4 else s i k
/-- where the tape stands -/
def sTp (n : Nat) : Nat → Nat → Prop := fun q k => (q = n + 1 ∧ k = 1) ∨ q = n + 2
def sTm (m : Nat) : Nat → Nat → Prop := fun q k => (q = m ∧ k = 12) ∨ q = m + 7
section FD
variable {d : Nat} {Th : mT} {M : mM} {n m : Nat} {s : mS}
theorem s9_put {Q : mM → Prop} {v : Int32} (hT : Ly Th n) (hR : Rf n M) (hH : cTape n s M) (h0 : 0 ≤ s 0 4) (hl : s 0 4 + 4 ≤ 220) (k : ∀ M', cTape n (sPut s v) M' → Eo (sTp n) M M' → Q M') : P9_put (d + 1) Th (n + 1) v M Q := by
  obtain ⟨L, hL⟩ : ∃ L : Nat, s 0 4 = L := ⟨(s 0 4).toNat, by omega⟩
  have key : ∀ u (M1 : mM), u ≤ 4 → Eo (sTp n) M M1 → M1.1 (n + 1) 1 = jI ((L + (4 - u) : Nat) : Int) → (∀ k, M1.1 (n + 2) k = jI (if L ≤ k ∧ k < L + (4 - u) then bV v (L + 3 - k) else s 7 k)) → H9_put_3 (d + 1) Th Q (n + 1) v (jI (8 * ((u : Int) - 1))) M1 := by
    intro u
    induction u with
    | zero =>
      intro M1 _ e1 h1 h2
      refine h9_put_3 ?_
      rw [if_pos (by rw [jl0 (rI_of (by omega) (by omega))]; omega)]
      refine k M1 ⟨?_, ?_⟩ e1
      · rw [h1]
        show _ = jI (if (0 : Nat) = 7 then _ else if (0 : Nat) = 0 ∧ (4 : Nat) = 4 then s 0 4 + 4 else s 0 4)
        rw [if_neg (by omega), if_pos ⟨rfl, rfl⟩, hL]
        rfl
      · intro j
        rw [h2 j]
        show _ = jI (if (7 : Nat) = 7 then (if (s 0 4).toNat ≤ j ∧ j < (s 0 4).toNat + 4 then bV v ((s 0 4).toNat + 3 - j) else s 7 j) else _)
        rw [if_pos rfl, hL, Int.toNat_natCast]
    | succ u ih =>
      intro M1 hu e1 h1 h2
      have nx := ih
      rw [show 8 * (((u + 1 : Nat) : Int) - 1) = 8 * (u : Int) by omega]
      refine h9_put_3 ?_
      rw [if_neg (by rw [jl0 (rI_of (by omega) (by omega))]; omega)]
      refine ⟨hT 1 _ rfl, ?_⟩
      rw [h1, if_neg (by rw [jl0 (rI_nat (by omega))]; omega)]
      refine ⟨n + 2, (by rw [(e1 _ _ (by unfold sTp; omega)).2.2]; exact hR 1 0 2 (by decide)), _, _, _, hT 2 _ rfl, ?_⟩
      rw [show nI 220 = jI 220 from rfl, if_neg (by rw [jIle (rI_of (by omega) (by omega)) (rI_nat (by omega))]; omega)]
      refine ⟨m_okw_jI (hT 2 _ rfl) (by omega) (by omega) (by omega), ?_⟩
      intro M7 h7
      rw [jInatN _ (by omega), bV_u v u (by omega)] at h7
      rw [show M7.1 (n + 1) 1 = jI ((L + (4 - (u + 1)) : Nat) : Int) by rw [h7]; simp [m_u, h1], jI_s, show jI (8 * (u : Int)) + (-8) = jI (8 * ((u : Int) - 1)) by rw [show (-8 : Int32) = jI (-8) from rfl, jI_add]; congr 1; omega]
      have e7 : Eo (sTp n) M1 M7 := by rw [h7]; exact Eo.rf.ui (Or.inr rfl)
      refine ih _ (by omega) ((e1.trans e7).ui (Or.inl ⟨rfl, rfl⟩)) ?_ ?_
      · show (if n + 1 = n + 1 ∧ 1 = 1 then _ else M7.1 (n + 1) 1) = _
        rw [if_pos ⟨rfl, rfl⟩]
        congr 2
        omega
      · intro j
        show (if n + 2 = n + 1 ∧ j = 1 then _ else M7.1 (n + 2) j) = _
        rw [if_neg (by omega), h7]
        show (if n + 2 = n + 2 ∧ j = L + (4 - (u + 1)) then _ else M1.1 (n + 2) j) = _
        by_cases c : j = L + (4 - (u + 1))
        · rw [if_pos ⟨rfl, c⟩, if_pos (by omega), c]
          congr 2
          omega
        · rw [if_neg (fun z => c z.2), h2 j]
          by_cases c2 : L ≤ j ∧ j < L + (4 - (u + 1))
          · rw [if_pos c2, if_pos (by omega)]
          · rw [if_neg c2, if_neg (by omega)]
  refine e9_put ?_
  rw [show (24 : Int32) = jI (8 * (((4 : Nat) : Int) - 1)) from rfl]
  refine key 4 M (by omega) Eo.rf ?_ ?_
  · rw [hH.1, hL]; rfl
  · intro j
    rw [hH.2 j, if_neg (by omega)]
theorem s11_types {Q : mM → Prop} {v : Int32} (hT : LyM Th m) (hR : RfM m M) (hH : mTape m s M) (h0 : 0 ≤ s 0 4) (hl : s 0 4 + 4 ≤ 220) (k : ∀ M', mTape m (sPut s v) M' → Eo (sTm m) M M' → Q M') : P11_types (d + 1) Th m v M Q := by
  obtain ⟨L, hL⟩ : ∃ L : Nat, s 0 4 = L := ⟨(s 0 4).toNat, by omega⟩
  have key : ∀ u (M1 : mM), u ≤ 4 → Eo (sTm m) M M1 → M1.1 m 12 = jI ((L + (4 - u) : Nat) : Int) → (∀ k, M1.1 (m + 7) k = jI (sB (if L ≤ k ∧ k < L + (4 - u) then bV v (L + 3 - k) else s 7 k))) → H11_types_2 (d + 1) Th Q m v (jI ((u : Int) - 1)) M1 := by
    intro u
    induction u with
    | zero =>
      intro M1 _ e1 h1 h2
      refine h11_types_2 ?_
      rw [if_pos (by rw [jl0 (rI_of (by omega) (by omega))]; omega)]
      refine k M1 ⟨?_, ?_⟩ e1
      · rw [h1]
        show _ = jI (if (0 : Nat) = 7 then _ else if (0 : Nat) = 0 ∧ (4 : Nat) = 4 then s 0 4 + 4 else s 0 4)
        rw [if_neg (by omega), if_pos ⟨rfl, rfl⟩, hL]
        rfl
      · intro j
        rw [h2 j]
        show _ = jI (sB (if (7 : Nat) = 7 then (if (s 0 4).toNat ≤ j ∧ j < (s 0 4).toNat + 4 then bV v ((s 0 4).toNat + 3 - j) else s 7 j) else _))
        rw [if_pos rfl, hL, Int.toNat_natCast]
    | succ u ih =>
      intro M1 hu e1 h1 h2
      rw [show ((u + 1 : Nat) : Int) - 1 = (u : Int) by omega]
      refine h11_types_2 ?_
      rw [if_neg (by rw [jl0 (rI_of (by omega) (by omega))]; omega)]
      refine ⟨hT 0 _ rfl, m + 7, (by rw [(e1 _ _ (by unfold sTm; omega)).2.2]; exact hR 0 11 7 (by decide)), ?_⟩
      rw [h1]
      refine ⟨m_okw_jI (hT 7 _ rfl) (by omega) (by omega) (by omega), ?_⟩
      intro M7 h7
      rw [jInatN _ (by omega), bV_s v u (by omega)] at h7
      rw [show M7.1 m 12 = jI ((L + (4 - (u + 1)) : Nat) : Int) by rw [h7]; simp [m_u, h1], jI_s, show jI (u : Int) + (-1) = jI ((u : Int) - 1) by rw [show (-1 : Int32) = jI (-1) from rfl, jI_add]; congr 1]
      have e7 : Eo (sTm m) M1 M7 := by rw [h7]; exact Eo.rf.ui (Or.inr rfl)
      refine ih _ (by omega) ((e1.trans e7).ui (Or.inl ⟨rfl, rfl⟩)) ?_ ?_
      · show (if m = m ∧ 12 = 12 then _ else M7.1 m 12) = _
        rw [if_pos ⟨rfl, rfl⟩]
        congr 2
        omega
      · intro j
        show (if m + 7 = m ∧ j = 12 then _ else M7.1 (m + 7) j) = _
        rw [if_neg (by omega), h7]
        show (if m + 7 = m + 7 ∧ j = L + (4 - (u + 1)) then _ else M1.1 (m + 7) j) = _
        by_cases c : j = L + (4 - (u + 1))
        · rw [if_pos ⟨rfl, c⟩, if_pos (by omega), c]
          congr 3
          omega
        · rw [if_neg (fun z => c z.2), h2 j]
          by_cases c2 : L ≤ j ∧ j < L + (4 - (u + 1))
          · rw [if_pos c2, if_pos (by omega)]
          · rw [if_neg c2, if_neg (by omega)]
  refine e11_types ?_
  rw [show (3 : Int32) = jI (((4 : Nat) : Int) - 1) from rfl]
  refine key 4 M (by omega) Eo.rf ?_ ?_
  · rw [hH.1, hL]; rfl
  · intro j
    rw [hH.2 j, if_neg (by omega)]
/-- five numbers more -/
def sFeed (s : mS) (a b c d e : Int32) : mS := sPut (sPut (sPut (sPut (sPut s a) b) c) d) e
theorem sPut_4 (s : mS) (v : Int32) : sPut s v 0 4 = s 0 4 + 4 := by
  unfold sPut
  rw [if_neg (by omega), if_pos ⟨rfl, rfl⟩]
theorem sPut_o (s : mS) (v : Int32) (i k : Nat) (h : i ≠ 7) (h2 : ¬ (i = 0 ∧ k = 4)) : sPut s v i k = s i k := by
  unfold sPut
  rw [if_neg h, if_neg h2]
theorem sPut_7 {s : mS} {v : Int32} (h : ∀ k, 0 ≤ s 7 k ∧ s 7 k ≤ 255) (k : Nat) : 0 ≤ sPut s v 7 k ∧ sPut s v 7 k ≤ 255 := by
  unfold sPut
  rw [if_pos rfl]
  split
  · exact bV_b _ _
  · exact h k
theorem s10_feed {Q : Int32 → mM → Prop} {a b c e f : Int32} (hT : Ly Th n) (hR : Rf n M) (hH : cTape n s M) (hG : rG s) (k0 : ¬ s 0 4 ≤ 200 → Q (-1) M) (k1 : s 0 4 ≤ 200 → ∀ M', cTape n (sFeed s a b c e f) M' → Eo (sTp n) M M' → Q (jI (s 0 4 + 20)) M') : P10_feed (d + 2) Th n a b c e f M Q := by
  have g4 := hG.2.2.2.2.1
  refine e10_feed ⟨hT 0 _ rfl, n + 1, hR 0 0 1 (by decide), hT 1 _ rfl, ?_⟩
  have rm : ∀ M', Eo (sTp n) M M' → Rf n M' := fun M' he o k v hv => by
    rw [(he _ _ (by unfold sTp; simp [rsA] at hv; omega)).2.2]
    exact hR o k v hv
  rw [hH.1]
  by_cases q : s 0 4 ≤ 200
  rotate_left
  · rw [if_neg (by rw [show (200 : Int32) = jI 200 from rfl, jIle (rI_of (by omega) (by omega)) (rI_of (by omega) (by omega))]; exact q)]
    exact k0 q
  rw [if_pos (by rw [show (200 : Int32) = jI 200 from rfl, jIle (rI_of (by omega) (by omega)) (rI_of (by omega) (by omega))]; exact q)]
  have f1 := sPut_4 s a
  have f2 := sPut_4 (sPut s a) b
  have f3 := sPut_4 (sPut (sPut s a) b) c
  have f4 := sPut_4 (sPut (sPut (sPut s a) b) c) e
  have f5 := sPut_4 (sPut (sPut (sPut (sPut s a) b) c) e) f
  refine s9_put (d := d) hT hR hH (by omega) (by omega) (fun M1 t1 e1 => ?_)
  have R1 := rm M1 e1
  refine ⟨n + 1, R1 0 0 1 (by decide), hT 1 _ rfl, ?_⟩
  refine s9_put (d := d) hT R1 t1 (by omega) (by omega) (fun M2 t2 e2 => ?_)
  have e2 := e1.trans e2
  have R2 := rm M2 e2
  refine ⟨n + 1, R2 0 0 1 (by decide), hT 1 _ rfl, ?_⟩
  refine s9_put (d := d) hT R2 t2 (by omega) (by omega) (fun M3 t3 e3 => ?_)
  have e3 := e2.trans e3
  have R3 := rm M3 e3
  refine ⟨n + 1, R3 0 0 1 (by decide), hT 1 _ rfl, ?_⟩
  refine s9_put (d := d) hT R3 t3 (by omega) (by omega) (fun M4 t4 e4 => ?_)
  have e4 := e3.trans e4
  have R4 := rm M4 e4
  refine ⟨n + 1, R4 0 0 1 (by decide), hT 1 _ rfl, ?_⟩
  refine s9_put (d := d) hT R4 t4 (by omega) (by omega) (fun M5 t5 e5 => ?_)
  have e5 := e4.trans e5
  have R5 := rm M5 e5
  refine ⟨n + 1, R5 0 0 1 (by decide), hT 1 _ rfl, ?_⟩
  rw [t5.1, show sPut (sPut (sPut (sPut (sPut s a) b) c) e) f 0 4 = s 0 4 + 20 by omega]
  exact k1 q M5 t5 e5
theorem s11_feed {Q : Int32 → mM → Prop} {a b c e f : Int32} (hT : LyM Th m) (hR : RfM m M) (hH : mTape m s M) (hG : rG s) (k0 : ¬ s 0 4 ≤ 200 → Q (-1) M) (k1 : s 0 4 ≤ 200 → ∀ M', mTape m (sFeed s a b c e f) M' → Eo (sTm m) M M' → Q (jI (s 0 4 + 20)) M') : P11_feed (d + 2) Th m a b c e f M Q := by
  have g4 := hG.2.2.2.2.1
  refine e11_feed ⟨hT 0 _ rfl, ?_⟩
  have rm : ∀ M', Eo (sTm m) M M' → RfM m M' := fun M' he o k v hv => by
    rw [(he _ _ (by unfold sTm; simp [rsM] at hv; omega)).2.2]
    exact hR o k v hv
  rw [hH.1, i20, jI_add]
  by_cases q : s 0 4 ≤ 200
  rotate_left
  · rw [if_neg (by rw [show (220 : Int32) = jI 220 from rfl, jIle (rI_of (by omega) (by omega)) (rI_of (by omega) (by omega))]; omega)]
    exact k0 q
  rw [if_pos (by rw [show (220 : Int32) = jI 220 from rfl, jIle (rI_of (by omega) (by omega)) (rI_of (by omega) (by omega))]; omega)]
  have f1 := sPut_4 s a
  have f2 := sPut_4 (sPut s a) b
  have f3 := sPut_4 (sPut (sPut s a) b) c
  have f4 := sPut_4 (sPut (sPut (sPut s a) b) c) e
  have f5 := sPut_4 (sPut (sPut (sPut (sPut s a) b) c) e) f
  refine s11_types (d := d) hT hR hH (by omega) (by omega) (fun M1 t1 e1 => ?_)
  have R1 := rm M1 e1
  refine s11_types (d := d) hT R1 t1 (by omega) (by omega) (fun M2 t2 e2 => ?_)
  have e2 := e1.trans e2
  have R2 := rm M2 e2
  refine s11_types (d := d) hT R2 t2 (by omega) (by omega) (fun M3 t3 e3 => ?_)
  have e3 := e2.trans e3
  have R3 := rm M3 e3
  refine s11_types (d := d) hT R3 t3 (by omega) (by omega) (fun M4 t4 e4 => ?_)
  have e4 := e3.trans e4
  have R4 := rm M4 e4
  refine s11_types (d := d) hT R4 t4 (by omega) (by omega) (fun M5 t5 e5 => ?_)
  have e5 := e4.trans e5
  rw [t5.1, show sPut (sPut (sPut (sPut (sPut s a) b) c) e) f 0 4 = s 0 4 + 20 by omega]
  exact k1 q M5 t5 e5
end FD
