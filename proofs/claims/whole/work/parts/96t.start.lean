/-! ===== THE START: what both constructors leave ===== -/
/-- references written, by offsets: the last one first; a fourth number: a grid's rows -/
def sR (n : Nat) (f : Nat → Nat → Option Nat) : List (Nat × Nat × Nat × Nat) → Nat → Nat → Option Nat
  | [] => f
  | (o, k, v, 0) :: U => m_u (sR n f U) (n + o) k (some (n + v))
  | (o, _, _, N + 1) :: U => fun q j => if q = n + o ∧ j < N + 1 then some (n + o + 1 + j) else sR n f U q j
def lkR : List (Nat × Nat × Nat × Nat) → Nat → Nat → Option Nat
  | [], _, _ => none
  | (o, k, v, 0) :: U, a, j => if a = o ∧ j = k then some v else lkR U a j
  | (o, _, _, N + 1) :: U, a, j => if a = o ∧ j < N + 1 then some (o + 1 + j) else lkR U a j
theorem sR_at {n : Nat} {f : Nat → Nat → Option Nat} : ∀ (U : List (Nat × Nat × Nat × Nat)) (a j v : Nat), lkR U a j = some v → sR n f U (n + a) j = some (n + v)
  | [], a, j, v, h => by cases h
  | (o, k, w, 0) :: U, a, j, v, h => by
    rw [lkR] at h
    show (if n + a = n + o ∧ j = k then some (n + w) else sR n f U (n + a) j) = _
    by_cases c : a = o ∧ j = k
    · rw [if_pos c] at h
      rw [if_pos ⟨by omega, c.2⟩, Option.some.inj h]
    · rw [if_neg c] at h
      rw [if_neg (fun q => c ⟨by omega, q.2⟩)]
      exact sR_at U a j v h
  | (o, k, w, N + 1) :: U, a, j, v, h => by
    rw [lkR] at h
    show (if n + a = n + o ∧ j < N + 1 then some (n + o + 1 + j) else sR n f U (n + a) j) = _
    by_cases c : a = o ∧ j < N + 1
    · rw [if_pos c] at h
      rw [if_pos ⟨by omega, c.2⟩, ← Option.some.inj h]
      congr 1; omega
    · rw [if_neg c] at h
      rw [if_neg (fun q => c ⟨by omega, q.2⟩)]
      exact sR_at U a j v h
def stU : List (Nat × Nat × Nat × Nat) := [(113, 66, 152, 0), (113, 65, 151, 0), (113, 64, 150, 0), (113, 63, 149, 0), (113, 62, 148, 0), (113, 59, 147, 0), (113, 58, 146, 0), (113, 57, 145, 0), (113, 52, 144, 0), (113, 51, 143, 0), (113, 50, 142, 0), (113, 49, 141, 0), (113, 48, 140, 0), (113, 47, 139, 0), (113, 46, 138, 0), (113, 41, 137, 0), (113, 39, 136, 0), (113, 38, 135, 0), (113, 37, 134, 0), (113, 34, 133, 0), (113, 33, 132, 0), (113, 32, 131, 0), (113, 31, 130, 0), (113, 30, 129, 0), (113, 29, 128, 0), (113, 28, 127, 0), (113, 27, 126, 0), (113, 26, 125, 0), (113, 25, 124, 0), (113, 24, 123, 0), (113, 23, 122, 0), (113, 22, 121, 0), (113, 11, 120, 0), (113, 10, 119, 0), (113, 9, 118, 0), (113, 8, 117, 0), (113, 7, 116, 0), (113, 6, 115, 0), (113, 5, 114, 0), (0, 9, 107, 0), (107, 1, 105, 0), (107, 0, 3, 0), (107, 6, 112, 0), (107, 5, 111, 0), (107, 4, 110, 0), (107, 3, 109, 0), (107, 2, 108, 0), (0, 8, 105, 0), (105, 0, 106, 0), (0, 7, 100, 0), (100, 3, 104, 0), (100, 2, 103, 0), (100, 1, 102, 0), (100, 0, 101, 0), (0, 6, 94, 0), (94, 2, 96, 0), (94, 1, 96, 0), (96, 2, 99, 0), (96, 1, 98, 0), (96, 0, 97, 0), (94, 0, 3, 0), (94, 3, 95, 0), (0, 5, 69, 0), (69, 1, 82, 0), (82, 0, 0, 11), (69, 0, 70, 0), (70, 0, 0, 11), (0, 4, 54, 0), (54, 2, 62, 0), (62, 0, 0, 6), (54, 1, 56, 0), (56, 0, 0, 5), (54, 0, 55, 0), (0, 3, 39, 0), (39, 2, 47, 0), (47, 0, 0, 6), (39, 1, 41, 0), (41, 0, 0, 5), (39, 0, 40, 0), (0, 2, 35, 0), (35, 2, 38, 0), (35, 1, 37, 0), (35, 0, 36, 0), (0, 1, 3, 0), (8, 4, 31, 0), (31, 2, 34, 0), (31, 1, 33, 0), (31, 0, 32, 0), (8, 3, 27, 0), (27, 2, 30, 0), (27, 1, 29, 0), (27, 0, 28, 0), (8, 2, 23, 0), (23, 2, 26, 0), (23, 1, 25, 0), (23, 0, 24, 0), (8, 1, 19, 0), (19, 2, 22, 0), (19, 1, 21, 0), (19, 0, 20, 0), (8, 0, 15, 0), (15, 2, 18, 0), (15, 1, 17, 0), (15, 0, 16, 0), (3, 12, 14, 0), (3, 11, 13, 0), (3, 10, 12, 0), (3, 9, 11, 0), (3, 8, 10, 0), (3, 7, 9, 0), (3, 6, 8, 0), (3, 5, 4, 0), (4, 5, 6, 0), (4, 2, 7, 0), (4, 1, 6, 0), (4, 0, 5, 0), (0, 0, 1, 0), (1, 0, 2, 0)]
theorem stU_A : ∀ x ∈ rsA, lkR stU x.1 x.2.1 = some x.2.2 := by decide +kernel
theorem stU_M : ∀ x ∈ rsM, lkR stU (113 + x.1) x.2.1 = some (113 + x.2.2) := by decide +kernel
section ST
variable {n la b L : Nat} {xs : Nat → Int32}
set_option maxRecDepth 100000 in
set_option maxHeartbeats 4000000 in
theorem st_r : (lw_M1 n la b xs).2.2 = sR n (fun _ _ => none) stU := rfl
theorem st_A : Rf n (lw_M1 n la b xs) := fun o k v h => by
  rw [st_r]
  exact sR_at stU o k v (stU_A (o, k, v) h)
theorem st_M : RfM (n + 113) (lw_M1 n la b xs) := fun o k v h => by
  rw [st_r, Nat.add_assoc, Nat.add_assoc]
  exact sR_at stU _ k _ (stU_M (o, k, v) h)
set_option maxRecDepth 100000 in
theorem st_i0 (q k : Nat) : (lw_M1 n la b xs).1 q k = if q = n + 113 ∧ k = 4 then 1 else if q = n + 113 ∧ k = 2 then 2 else if q = n + 107 ∧ k = 8 then 1 else if q = n + 96 ∧ k = 3 then -1 else if q = n + 94 ∧ k = 5 then -1 else if q = n + 94 ∧ k = 4 then -1 else if q = n + 35 ∧ k = 3 then -1 else if q = n + 31 ∧ k = 3 then -1 else if q = n + 27 ∧ k = 3 then -1 else if q = n + 23 ∧ k = 3 then -1 else if q = n + 19 ∧ k = 3 then -1 else if q = n + 15 ∧ k = 3 then -1 else if q = n + 3 ∧ k = 2 then 2 else (lw_M la b xs).1 q k := rfl
theorem st_z {q k : Nat} (h1 : b < n) (h2 : la < n) (hq : n ≤ q) : (lw_M la b xs).1 q k = 0 := by
  show (if q = b then xs k else if q = la then lw_let k else 0) = 0
  rw [if_neg (by omega), if_neg (by omega)]
theorem st_0 {q k : Nat} (h1 : b < n) (h2 : la < n) (hq : n ≤ q) (h : ¬ ((q = n + 113 ∧ (k = 4 ∨ k = 2)) ∨ (q = n + 107 ∧ k = 8) ∨ (q = n + 96 ∧ k = 3) ∨ (q = n + 94 ∧ (k = 4 ∨ k = 5)) ∨ (q = n + 35 ∧ k = 3) ∨ (q = n + 31 ∧ k = 3) ∨ (q = n + 27 ∧ k = 3) ∨ (q = n + 23 ∧ k = 3) ∨ (q = n + 19 ∧ k = 3) ∨ (q = n + 15 ∧ k = 3) ∨ (q = n + 3 ∧ k = 2))) : (lw_M1 n la b xs).1 q k = 0 := by
  rw [st_i0, if_neg (by omega), if_neg (by omega), if_neg (by omega), if_neg (by omega), if_neg (by omega), if_neg (by omega), if_neg (by omega), if_neg (by omega), if_neg (by omega), if_neg (by omega), if_neg (by omega), if_neg (by omega), if_neg (by omega)]
  exact st_z h1 h2 hq
set_option maxRecDepth 100000 in
theorem st_ks : ([.inl 10] ++ ks_10 ++ [.inl 11] ++ ks_11 : List mK) = ksA ++ ksM := rfl
theorem st_LA : Ly (lw_Th1 n la b L) n := fun i t h => by
  refine m_ap_at i ?_ rfl
  rw [st_ks, List.getElem?_append_left (List.getElem?_eq_some_iff.mp h).1]
  exact h
theorem st_LM : LyM (lw_Th1 n la b L) (n + 113) := fun i t h => by
  refine m_ap_at (113 + i) ?_ (Nat.add_assoc _ _ _)
  rw [st_ks, List.getElem?_append_right (by show 113 ≤ 113 + i; omega)]
  show ksM[113 + i - 113]? = _
  rw [Nat.add_sub_cancel_left]
  exact h
/-- the state at first -/
def s0S : mS := fun i k => if i = 0 ∧ k = 2 then 2 else if i = 0 ∧ k = 7 then 1 else 0
theorem s0_cl : lawCl s0S = [] := ltx_zero _
theorem s0_J : Js s0S := by
  refine ⟨⟨⟨by decide, by decide⟩, ⟨by decide, by decide⟩, ⟨by decide, by decide⟩, Or.inl rfl, ⟨by decide, by decide⟩, ⟨by decide, by decide⟩, ⟨by decide, by decide⟩, ⟨by decide, by decide⟩, Or.inl rfl, fun k => ?_, fun k => ?_, fun k => ?_, fun k => ?_, fun k => ?_, fun k hk => ?_, fun k => Or.inl rfl, fun k => ?_⟩, ⟨⟨by decide, by decide⟩, fun k => ?_, Or.inl rfl, ?_⟩, fun k => ?_, fun i hi => ?_, fun i hi => ?_, fun k hk => rfl⟩
  · exact ⟨by show (0 : Int) ≤ 0; omega, by show (0 : Int) ≤ 9; omega⟩
  · exact ⟨by show (0 : Int) ≤ 0; omega, by show (0 : Int) ≤ 30; omega⟩
  · exact ⟨by show (0 : Int) ≤ 0; omega, by show (0 : Int) ≤ 30; omega⟩
  · exact ⟨by show (0 : Int) ≤ 0; omega, by show (0 : Int) ≤ 9; omega⟩
  · exact ⟨by show (0 : Int) ≤ 0; omega, by show (0 : Int) ≤ 9; omega⟩
  · have : (k : Int) < 0 := hk
    omega
  · exact ⟨by show (0 : Int) ≤ 0; omega, by show (0 : Int) ≤ 255; omega⟩
  · exact ⟨by show (0 : Int) ≤ 0; omega, by show (0 : Int) ≤ 255; omega⟩
  · rw [s0_cl]; rfl
  · exact ⟨by show (0 : Int) ≤ 0; omega, by show (0 : Int) ≤ 10; omega⟩
  · have : (i : Int) < 0 := hi
    omega
  · have : (i : Int) < 0 := hi
    omega
set_option maxHeartbeats 1000000 in
theorem st_J (h1 : b < n) (h2 : la < n) (h3 : la ≠ b) : Jv (lw_Th1 n la b L) n b s0S 0 (lw_M1 n la b xs) := by
  have z : ∀ q k, n ≤ q → ¬ ((q = n + 113 ∧ (k = 4 ∨ k = 2)) ∨ (q = n + 107 ∧ k = 8) ∨ (q = n + 96 ∧ k = 3) ∨ (q = n + 94 ∧ (k = 4 ∨ k = 5)) ∨ (q = n + 35 ∧ k = 3) ∨ (q = n + 31 ∧ k = 3) ∨ (q = n + 27 ∧ k = 3) ∨ (q = n + 23 ∧ k = 3) ∨ (q = n + 19 ∧ k = 3) ∨ (q = n + 15 ∧ k = 3) ∨ (q = n + 3 ∧ k = 2)) → (lw_M1 n la b xs).1 q k = jI 0 := fun q k a c => st_0 h1 h2 a c
  have hlet : (lw_Th n la b L).2.2 (lw_Th n la b L).2.1 = some (.inr (.char, true, 8)) ∧ (lw_Th n la b L).2.1 < (lw_Th n la b L).1 := by
    refine ⟨?_, h2⟩
    show (if la = b then (some (.inr (.int, true, L)) : Option mK) else if la = la then some (.inr (.char, true, 8)) else none) = _
    rw [if_neg h3, if_pos rfl]
  have hgT : gTh (lw_Th1 n la b L) n := ⟨st_LA, h2, (m_ap_let hlet).1⟩
  have hA : Rf n (lw_M1 n la b xs) := st_A
  have hM : RfM (n + 113) (lw_M1 n la b xs) := st_M
  have gl : gLt (lw_Th1 n la b L) (lw_M1 n la b xs) := fun k hk => by
    show (lw_M1 n la b xs).1 la k = lw_let k
    rw [st_i0, if_neg (by omega), if_neg (by omega), if_neg (by omega), if_neg (by omega), if_neg (by omega), if_neg (by omega), if_neg (by omega), if_neg (by omega), if_neg (by omega), if_neg (by omega), if_neg (by omega), if_neg (by omega), if_neg (by omega)]
    show (if la = b then xs k else if la = la then lw_let k else 0) = _
    rw [if_neg h3, if_pos rfl]
  have v2 : (lw_M1 n la b xs).1 (n + 3) 2 = jI 2 := by
    rw [st_i0, if_neg (by omega), if_neg (by omega), if_neg (by omega), if_neg (by omega), if_neg (by omega), if_neg (by omega), if_neg (by omega), if_neg (by omega), if_neg (by omega), if_neg (by omega), if_neg (by omega), if_neg (by omega), if_pos ⟨rfl, rfl⟩]; rfl
  have v94 : (lw_M1 n la b xs).1 (n + 94) 4 = jI (-1) := by
    rw [st_i0, if_neg (by omega), if_neg (by omega), if_neg (by omega), if_neg (by omega), if_neg (by omega), if_pos ⟨rfl, rfl⟩]; rfl
  have v95 : (lw_M1 n la b xs).1 (n + 94) 5 = jI (-1) := by
    rw [st_i0, if_neg (by omega), if_neg (by omega), if_neg (by omega), if_neg (by omega), if_pos ⟨rfl, rfl⟩]; rfl
  have v8 : (lw_M1 n la b xs).1 (n + 107) 8 = jI 1 := by
    rw [st_i0, if_neg (by omega), if_neg (by omega), if_pos ⟨rfl, rfl⟩]; rfl
  have m2 : (lw_M1 n la b xs).1 (n + 113) 2 = jI 2 := by
    rw [st_i0, if_neg (by omega), if_pos ⟨rfl, rfl⟩]; rfl
  have m4 : (lw_M1 n la b xs).1 (n + 113) 4 = jI 1 := by
    rw [st_i0, if_pos ⟨rfl, rfl⟩]; rfl
  have sk : ∀ j, j < 5 → (lw_M1 n la b xs).1 (aSk n j) 3 = jI (-1) := fun j hj => by
    unfold aSk
    rw [st_i0]
    have : j = 0 ∨ j = 1 ∨ j = 2 ∨ j = 3 ∨ j = 4 := by omega
    rcases this with q | q | q | q | q <;> subst q
    · rw [if_neg (by omega), if_neg (by omega), if_neg (by omega), if_neg (by omega), if_neg (by omega), if_neg (by omega), if_neg (by omega), if_neg (by omega), if_neg (by omega), if_neg (by omega), if_neg (by omega), if_pos ⟨by omega, rfl⟩]; rfl
    · rw [if_neg (by omega), if_neg (by omega), if_neg (by omega), if_neg (by omega), if_neg (by omega), if_neg (by omega), if_neg (by omega), if_neg (by omega), if_neg (by omega), if_neg (by omega), if_pos ⟨by omega, rfl⟩]; rfl
    · rw [if_neg (by omega), if_neg (by omega), if_neg (by omega), if_neg (by omega), if_neg (by omega), if_neg (by omega), if_neg (by omega), if_neg (by omega), if_neg (by omega), if_pos ⟨by omega, rfl⟩]; rfl
    · rw [if_neg (by omega), if_neg (by omega), if_neg (by omega), if_neg (by omega), if_neg (by omega), if_neg (by omega), if_neg (by omega), if_neg (by omega), if_pos ⟨by omega, rfl⟩]; rfl
    · rw [if_neg (by omega), if_neg (by omega), if_neg (by omega), if_neg (by omega), if_neg (by omega), if_neg (by omega), if_neg (by omega), if_pos ⟨by omega, rfl⟩]; rfl
  have law : cLaw n s0S (lw_M1 n la b xs) := by
    refine ⟨n + 6, n + 7, Or.inl ⟨rfl, rfl⟩, ?_, ?_, z _ _ (by omega) (by omega), z _ _ (by omega) (by omega), fun k hk => ?_⟩
    · rw [st_r]; exact sR_at stU 4 1 6 (by decide +kernel)
    · rw [st_r]; exact sR_at stU 4 2 7 (by decide +kernel)
    · have : (k : Int) < 0 := hk
      omega
  have hill : cHill n s0S (lw_M1 n la b xs) := ⟨z _ _ (by omega) (by omega), z _ _ (by omega) (by omega), v2, z _ _ (by omega) (by omega), fun k => z _ _ (by omega) (by omega), fun k => z _ _ (by omega) (by omega), fun k => z _ _ (by omega) (by omega), fun k => z _ _ (by omega) (by omega), fun k => z _ _ (by omega) (by omega), fun k => z _ _ (by omega) (by omega)⟩
  have km : KM (lw_Th1 n la b L) n s0S 0 (lw_M1 n la b xs) := ⟨⟨hA, gl, hill, law⟩, z _ _ (by omega) (by omega), ⟨by omega, by omega⟩, fun j hj => ⟨-1, sk j hj, by omega, by omega, fun q => by omega, fun q => absurd q (by show ¬ (0 : Int) = 1; omega)⟩⟩
  refine ⟨⟨hgT, st_LM, h1⟩, s0_J, ⟨km, ⟨-1, -1, 0, 0, ⟨rI_of (by omega) (by omega), rI_of (by omega) (by omega), rI0, rI0⟩, ⟨v94, v95, z _ _ (by omega) (by omega), z _ _ (by omega) (by omega)⟩, by omega, Or.inl rfl⟩, ⟨z _ _ (by omega) (by omega), fun k => z _ _ (by omega) (by omega)⟩, ⟨z _ _ (by omega) (by omega), fun q => absurd q (by show ¬ (0 : Int) < 0; omega), fun k => z _ _ (by omega) (by omega)⟩, ⟨z _ _ (by omega) (by omega), fun k => z _ _ (by omega) (by omega)⟩, ⟨v8, z _ _ (by omega) (by omega), fun k => z _ _ (by omega) (by omega)⟩, Or.inl ⟨?_, ?_⟩⟩, ⟨⟨hM, ⟨z _ _ (by omega) (by omega), z _ _ (by omega) (by omega), m2, z _ _ (by omega) (by omega), fun k => z _ _ (by omega) (by omega), fun k => z _ _ (by omega) (by omega), fun k => z _ _ (by omega) (by omega), fun k => z _ _ (by omega) (by omega), fun k => z _ _ (by omega) (by omega), fun k => z _ _ (by omega) (by omega)⟩, ?_⟩, ⟨z _ _ (by omega) (by omega), fun k => z _ _ (by omega) (by omega)⟩, ⟨z _ _ (by omega) (by omega), fun k => z _ _ (by omega) (by omega)⟩, ⟨z _ _ (by omega) (by omega), fun k => z _ _ (by omega) (by omega), fun k => z _ _ (by omega) (by omega), fun k => z _ _ (by omega) (by omega)⟩, ⟨m4, z _ _ (by omega) (by omega), fun k => z _ _ (by omega) (by omega)⟩⟩⟩
  · rw [st_r]; exact sR_at stU 69 0 70 (by decide +kernel)
  · rw [st_r]; exact sR_at stU 69 1 82 (by decide +kernel)
  · rw [s0_cl]
    exact ⟨z _ _ (by omega) (by omega), fun k x hx => by simp [lcod] at hx, fun j t ht => by simp [ltab] at ht⟩
theorem st_x {k : Nat} (h1 : b < n) : (lw_M1 n la b xs).1 b k = xs k := by
  rw [st_i0, if_neg (by omega), if_neg (by omega), if_neg (by omega), if_neg (by omega), if_neg (by omega), if_neg (by omega), if_neg (by omega), if_neg (by omega), if_neg (by omega), if_neg (by omega), if_neg (by omega), if_neg (by omega), if_neg (by omega)]
  show (if b = b then xs k else _) = _
  rw [if_pos rfl]
theorem st_b (h1 : b < n) : (lw_Th1 n la b L).2.2 b = some (.inr (.int, true, L)) := by
  refine m_ap_lt ?_ h1
  show (if b = b then (some (.inr (.int, true, L)) : Option mK) else _) = _
  rw [if_pos rfl]
end ST
