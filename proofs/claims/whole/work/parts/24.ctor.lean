/-! ===== CONSTRUCTORS ===== -/
def m_ap (Th : mT) (ks : List mK) : mT := (Th.1 + ks.length, Th.2.1, fun q => if Th.1 ≤ q ∧ q < Th.1 + ks.length then ks[q - Th.1]? else Th.2.2 q)
theorem m_ap_nil (Th : mT) : m_ap Th [] = Th := by
  have : (fun q => if Th.1 ≤ q ∧ q < Th.1 + ([] : List mK).length then ([] : List mK)[q - Th.1]? else Th.2.2 q) = Th.2.2 := by
    funext q
    rw [if_neg (by show ¬ (_ ∧ q < Th.1 + 0); omega)]
  show (Th.1 + 0, Th.2.1, _) = _
  rw [this]
  rfl
theorem m_ap_al (Th : mT) (ks : List mK) (t : mK) : m_al (m_ap Th ks) t = m_ap Th (ks ++ [t]) := by
  show (Th.1 + ks.length + 1, Th.2.1, _) = (Th.1 + (ks ++ [t]).length, Th.2.1, _)
  rw [show Th.1 + ks.length + 1 = Th.1 + (ks ++ [t]).length by simp; omega]
  congr 2
  funext q
  show (if q = Th.1 + ks.length then some t else if Th.1 ≤ q ∧ q < Th.1 + ks.length then ks[q - Th.1]? else Th.2.2 q) = if Th.1 ≤ q ∧ q < Th.1 + (ks ++ [t]).length then (ks ++ [t])[q - Th.1]? else Th.2.2 q
  rw [show (ks ++ [t]).length = ks.length + 1 by simp]
  by_cases h : q = Th.1 + ks.length
  · rw [if_pos h, if_pos (by omega), List.getElem?_append_right (by omega), show q - Th.1 - ks.length = 0 by omega]
    rfl
  · rw [if_neg h]
    by_cases h2 : Th.1 ≤ q ∧ q < Th.1 + ks.length
    · rw [if_pos h2, if_pos (by omega), List.getElem?_append_left (by omega)]
    · rw [if_neg h2, if_neg (by omega)]
theorem m_ap_gr (Th : mT) (ks : List mK) (N K : Nat) : m_gr (m_ap Th ks) N K = m_ap Th (ks ++ (.inr (.array .long, false, N) :: List.replicate N (.inr (.long, false, K)))) := by
  have hlen : (ks ++ ((.inr (.array .long, false, N) : mK) :: List.replicate N (.inr (.long, false, K)))).length = ks.length + 1 + N := by simp; omega
  show (Th.1 + ks.length + 1 + N, Th.2.1, _) = (Th.1 + (ks ++ _).length, Th.2.1, _)
  rw [show Th.1 + ks.length + 1 + N = Th.1 + (ks ++ ((.inr (.array .long, false, N) : mK) :: List.replicate N (.inr (.long, false, K)))).length by rw [hlen]; omega]
  congr 2
  funext q
  show (if q = Th.1 + ks.length then some _ else if Th.1 + ks.length < q ∧ q < Th.1 + ks.length + 1 + N then some _ else if Th.1 ≤ q ∧ q < Th.1 + ks.length then ks[q - Th.1]? else Th.2.2 q) = if Th.1 ≤ q ∧ q < Th.1 + (ks ++ _).length then (ks ++ _)[q - Th.1]? else Th.2.2 q
  rw [hlen]
  by_cases h : q = Th.1 + ks.length
  · rw [if_pos h, if_pos (by omega), List.getElem?_append_right (by omega), show q - Th.1 - ks.length = 0 by omega]
    rfl
  · rw [if_neg h]
    by_cases h1 : Th.1 + ks.length < q ∧ q < Th.1 + ks.length + 1 + N
    · rw [if_pos h1, if_pos (by omega), List.getElem?_append_right (by omega), show q - Th.1 - ks.length = (q - Th.1 - ks.length - 1) + 1 by omega, List.getElem?_cons_succ, List.getElem?_replicate, if_pos (by omega)]
    · rw [if_neg h1]
      by_cases h2 : Th.1 ≤ q ∧ q < Th.1 + ks.length
      · rw [if_pos h2, if_pos (by omega), List.getElem?_append_left (by omega)]
      · rw [if_neg h2, if_neg (by omega)]
theorem m_ap_ap (Th : mT) (ks ls : List mK) : m_ap (m_ap Th ks) ls = m_ap Th (ks ++ ls) := by
  show (Th.1 + ks.length + ls.length, Th.2.1, _) = (Th.1 + (ks ++ ls).length, Th.2.1, _)
  rw [show Th.1 + ks.length + ls.length = Th.1 + (ks ++ ls).length by simp; omega]
  congr 2
  funext q
  show (if Th.1 + ks.length ≤ q ∧ q < Th.1 + ks.length + ls.length then ls[q - (Th.1 + ks.length)]? else if Th.1 ≤ q ∧ q < Th.1 + ks.length then ks[q - Th.1]? else Th.2.2 q) = if Th.1 ≤ q ∧ q < Th.1 + (ks ++ ls).length then (ks ++ ls)[q - Th.1]? else Th.2.2 q
  rw [show (ks ++ ls).length = ks.length + ls.length by simp]
  by_cases h : Th.1 + ks.length ≤ q ∧ q < Th.1 + ks.length + ls.length
  · rw [if_pos h, if_pos (by omega), List.getElem?_append_right (by omega), Nat.sub_sub]
  · rw [if_neg h]
    by_cases h2 : Th.1 ≤ q ∧ q < Th.1 + ks.length
    · rw [if_pos h2, if_pos (by omega), List.getElem?_append_left (by omega)]
    · rw [if_neg h2, if_neg (by omega)]
theorem m_ap_lt {Th : mT} {ks : List mK} {q : Nat} {t : mK} (h : Th.2.2 q = some t) (hq : q < Th.1) : (m_ap Th ks).2.2 q = some t := (if_neg (by omega)).trans h
theorem m_ap_at {Th : mT} {ks : List mK} {q : Nat} {t : mK} (i : Nat) (h : ks[i]? = some t) (hq : q = Th.1 + i) : (m_ap Th ks).2.2 q = some t := by
  have hi := (List.getElem?_eq_some_iff.mp h).1
  show (if Th.1 ≤ q ∧ q < Th.1 + ks.length then ks[q - Th.1]? else Th.2.2 q) = _
  rw [if_pos (by omega), show q - Th.1 = i by omega]
  exact h
theorem m_ap_let {Th : mT} {ks : List mK} (h : Th.2.2 Th.2.1 = some (.inr (.char, true, 8)) ∧ Th.2.1 < Th.1) : (m_ap Th ks).2.2 (m_ap Th ks).2.1 = some (.inr (.char, true, 8)) ∧ (m_ap Th ks).2.1 < (m_ap Th ks).1 :=
  ⟨m_ap_lt h.1 h.2, by show Th.2.1 < Th.1 + _; have := h.2; omega⟩
theorem m_ap_1 {Th : mT} {ks : List mK} {a n : Nat} (hn : Th.1 = a + 1) (hl : ks.length = n) : (m_ap Th ks).1 = a + (n + 1) := by
  show Th.1 + ks.length = _
  omega
theorem in_X10 : Cond.instantiable RX10 10 ∈ lw_ok := m_w1 15 (by decide +kernel) (by decide +kernel)
theorem ini_X10 : Cond.initialized RX10 ∈ lw_ok := m_w1 1 (by decide +kernel) (by decide +kernel)
theorem zt_X10 : ∀ k, k < 10 → m_zt (m_ty 10 k) = true := by decide
theorem in_X9 : Cond.instantiable RX9 2 ∈ lw_ok := m_w1 23 (by decide +kernel) (by decide +kernel)
theorem ini_X9 : Cond.initialized RX9 ∈ lw_ok := m_w1 2 (by decide +kernel) (by decide +kernel)
theorem zt_X9 : ∀ k, k < 2 → m_zt (m_ty 9 k) = true := by decide
theorem in_X2 : Cond.instantiable RX2 13 ∈ lw_ok := m_w1 38 (by decide +kernel) (by decide +kernel)
theorem ini_X2 : Cond.initialized RX2 ∈ lw_ok := m_w1 3 (by decide +kernel) (by decide +kernel)
theorem zt_X2 : ∀ k, k < 13 → m_zt (m_ty 2 k) = true := by decide
theorem in_X4 : Cond.instantiable RX4 11 ∈ lw_ok := m_w1 44 (by decide +kernel) (by decide +kernel)
theorem ini_X4 : Cond.initialized RX4 ∈ lw_ok := m_w1 4 (by decide +kernel) (by decide +kernel)
theorem zt_X4 : ∀ k, k < 11 → m_zt (m_ty 4 k) = true := by decide
theorem in_X8 : Cond.instantiable RX8 4 ∈ lw_ok := m_w1 88 (by decide +kernel) (by decide +kernel)
theorem ini_X8 : Cond.initialized RX8 ∈ lw_ok := m_w1 5 (by decide +kernel) (by decide +kernel)
theorem zt_X8 : ∀ k, k < 4 → m_zt (m_ty 8 k) = true := by decide
theorem in_X7 : Cond.instantiable RX7 5 ∈ lw_ok := m_w1 166 (by decide +kernel) (by decide +kernel)
theorem ini_X7 : Cond.initialized RX7 ∈ lw_ok := m_w1 6 (by decide +kernel) (by decide +kernel)
theorem zt_X7 : ∀ k, k < 5 → m_zt (m_ty 7 k) = true := by decide
theorem in_X0 : Cond.instantiable RX0 2 ∈ lw_ok := m_w1 192 (by decide +kernel) (by decide +kernel)
theorem ini_X0 : Cond.initialized RX0 ∈ lw_ok := m_w1 7 (by decide +kernel) (by decide +kernel)
theorem zt_X0 : ∀ k, k < 2 → m_zt (m_ty 0 k) = true := by decide
theorem in_X1 : Cond.instantiable RX1 9 ∈ lw_ok := m_w1 206 (by decide +kernel) (by decide +kernel)
theorem ini_X1 : Cond.initialized RX1 ∈ lw_ok := m_w1 8 (by decide +kernel) (by decide +kernel)
theorem zt_X1 : ∀ k, k < 9 → m_zt (m_ty 1 k) = true := by decide
theorem in_X6 : Cond.instantiable RX6 7 ∈ lw_ok := m_w2 3 (by decide +kernel) (by decide +kernel)
theorem ini_X6 : Cond.initialized RX6 ∈ lw_ok := m_w1 9 (by decide +kernel) (by decide +kernel)
theorem zt_X6 : ∀ k, k < 7 → m_zt (m_ty 6 k) = true := by decide
theorem in_X5 : Cond.instantiable RX5 2 ∈ lw_ok := m_w2 33 (by decide +kernel) (by decide +kernel)
theorem ini_X5 : Cond.initialized RX5 ∈ lw_ok := m_w1 10 (by decide +kernel) (by decide +kernel)
theorem zt_X5 : ∀ k, k < 2 → m_zt (m_ty 5 k) = true := by decide
theorem in_X3 : Cond.instantiable RX3 10 ∈ lw_ok := m_w2 48 (by decide +kernel) (by decide +kernel)
theorem ini_X3 : Cond.initialized RX3 ∈ lw_ok := m_w1 11 (by decide +kernel) (by decide +kernel)
theorem zt_X3 : ∀ k, k < 10 → m_zt (m_ty 3 k) = true := by decide
theorem in_X11 : Cond.instantiable RX11 67 ∈ lw_ok := m_w4 195 (by decide +kernel) (by decide +kernel)
theorem ini_X11 : Cond.initialized RX11 ∈ lw_ok := m_w1 12 (by decide +kernel) (by decide +kernel)
theorem zt_X11 : ∀ k, k < 67 → m_zt (m_ty 11 k) = true := by decide
theorem ac_int : Cond.arrayClass .int ∈ lw_ok := m_w1 36 (by decide +kernel) (by decide +kernel)
theorem ac_long : Cond.arrayClass .long ∈ lw_ok := m_w1 190 (by decide +kernel) (by decide +kernel)
theorem ac_byte : Cond.arrayClass .byte ∈ lw_ok := m_w5 163 (by decide +kernel) (by decide +kernel)
theorem ac_boolean : Cond.arrayClass .boolean ∈ lw_ok := m_w5 164 (by decide +kernel) (by decide +kernel)
theorem ac_char : Cond.arrayClass .char ∈ lw_ok := m_w7 71 (by decide +kernel) (by decide +kernel)
theorem cl_L_7 : Cond.classLink RL 7 RX10 ∈ lw_ok := m_w1 14 (by decide +kernel) (by decide +kernel)
theorem cl_X10_7 : Cond.classLink RX10 7 RX9 ∈ lw_ok := m_w1 22 (by decide +kernel) (by decide +kernel)
theorem cl_X10_16 : Cond.classLink RX10 16 RX2 ∈ lw_ok := m_w1 37 (by decide +kernel) (by decide +kernel)
theorem cl_X2_15 : Cond.classLink RX2 15 RX4 ∈ lw_ok := m_w1 43 (by decide +kernel) (by decide +kernel)
theorem cl_X2_22 : Cond.classLink RX2 22 RX8 ∈ lw_ok := m_w1 86 (by decide +kernel) (by decide +kernel)
theorem cl_X10_23 : Cond.classLink RX10 23 RX8 ∈ lw_ok := m_w1 163 (by decide +kernel) (by decide +kernel)
theorem cl_X10_30 : Cond.classLink RX10 30 RX7 ∈ lw_ok := m_w1 165 (by decide +kernel) (by decide +kernel)
theorem cl_X7_15 : Cond.classLink RX7 15 "[[J" ∈ lw_ok := m_w1 171 (by decide +kernel) (by decide +kernel)
theorem cl_X10_40 : Cond.classLink RX10 40 RX0 ∈ lw_ok := m_w1 191 (by decide +kernel) (by decide +kernel)
theorem cl_X0_9 : Cond.classLink RX0 9 "[[J" ∈ lw_ok := m_w1 197 (by decide +kernel) (by decide +kernel)
theorem cl_X10_47 : Cond.classLink RX10 47 RX1 ∈ lw_ok := m_w1 205 (by decide +kernel) (by decide +kernel)
theorem cl_X1_27 : Cond.classLink RX1 27 RX8 ∈ lw_ok := m_w1 212 (by decide +kernel) (by decide +kernel)
theorem cl_X10_56 : Cond.classLink RX10 56 RX6 ∈ lw_ok := m_w2 2 (by decide +kernel) (by decide +kernel)
theorem cl_X10_63 : Cond.classLink RX10 63 RX5 ∈ lw_ok := m_w2 32 (by decide +kernel) (by decide +kernel)
theorem cl_X10_70 : Cond.classLink RX10 70 RX3 ∈ lw_ok := m_w2 47 (by decide +kernel) (by decide +kernel)
theorem cl_X3_9 : Cond.classLink RX3 9 RX8 ∈ lw_ok := m_w2 53 (by decide +kernel) (by decide +kernel)
theorem cl_L_10 : Cond.classLink RL 10 RX11 ∈ lw_ok := m_w4 194 (by decide +kernel) (by decide +kernel)
def ks_9 : List mK := [] ++ [.inr (.int, false, 220)]
def mk_9 (M : mM) (a : Nat) : mM := m_ur M a 0 (some (a + 1))
set_option maxHeartbeats 4000000 in
set_option maxRecDepth 100000 in
theorem c_9_init {d : Nat} {Th : mT} {M : mM} {a : Nat}  {Q : mQ} (hn : Th.1 = a + 1) (hT : Th.2.2 a = some (.inl 9)) (hz : m_Zr Th M) (h : m_Zr (m_ap Th ks_9) (mk_9 M a ) → Q none (m_ap Th ks_9) (mk_9 M a )) : m_C (d + 1) 1 220 yX9_init cX9_init 1 none [.ref a] Th M Q := by
  refine m_C.of (by decide +kernel) (Nat.le_of_ble_eq_true rfl) ?_
  show m_W (d + 1) 1 220 yX9_init cX9_init 1 none Q 0 [(0, .ref a)] [] Th M 0 0
  refine m_aload_n dX9_init_0 rfl 0 rfl ?_
  refine m_obj l_X9_3 (Nat.le_of_ble_eq_true rfl) (Nat.le_add_left _ _) dX9_init_1 ?_
  rw [← m_ap_nil Th]
  have hz0 : m_Zr (m_ap Th []) M := by rw [m_ap_nil]; exact hz
  refine m_aload_n dX9_init_4 rfl 0 rfl ?_
  refine m_sipush (v := 220) dX9_init_5 (by decide) ?_
  refine m_newa (atype := .int) (ty := .int) (N := 220) ac_int rfl rfl (by decide +kernel) (by decide +kernel) (by decide +kernel) (Nat.le_of_ble_eq_true rfl) (Nat.le_of_ble_eq_true rfl) hz0 dX9_init_8 ?_
  rw [m_ap_1 hn (n := 0) rfl, m_ap_al]
  have hq := hz0.al (t := .inr (.int, false, 220)); rw [m_ap_al] at hq
  have hz1 := hq
  refine m_putr f_X9_9 rfl (Or.inr ⟨rfl, _, _, _, rfl, rfl⟩) dX9_init_10 (m_ap_lt hT (by omega)) ?_
  have hz2 : m_Zr (m_ap Th ([] ++ [.inr (.int, false, 220)])) (m_ur M a 0 (some (a + 1))) := hz1.ur (by rw [m_ap_1 hn (n := 1) rfl]; omega)
  exact m_return dX9_init_13 rfl (h hz2)
def ks_8 : List mK := [] ++ [.inr (.int, false, 30)] ++ [.inr (.int, false, 30)] ++ [.inr (.int, false, 5)]
def mk_8 (M : mM) (a : Nat) : mM := m_ui (m_ur (m_ur (m_ur M a 0 (some (a + 1))) a 1 (some (a + 2))) a 2 (some (a + 3))) a 3 (-1)
set_option maxHeartbeats 4000000 in
set_option maxRecDepth 100000 in
theorem c_8_init {d : Nat} {Th : mT} {M : mM} {a : Nat}  {Q : mQ} (hn : Th.1 = a + 1) (hT : Th.2.2 a = some (.inl 8)) (hz : m_Zr Th M) (h : m_Zr (m_ap Th ks_8) (mk_8 M a ) → Q none (m_ap Th ks_8) (mk_8 M a )) : m_C (d + 1) 3 65 yX8_init cX8_init 1 none [.ref a] Th M Q := by
  refine m_C.of (by decide +kernel) (Nat.le_of_ble_eq_true rfl) ?_
  show m_W (d + 1) 3 65 yX8_init cX8_init 1 none Q 0 [(0, .ref a)] [] Th M 0 0
  refine m_aload_n dX8_init_0 rfl 0 rfl ?_
  refine m_obj l_X8_3 (Nat.le_of_ble_eq_true rfl) (Nat.le_add_left _ _) dX8_init_1 ?_
  rw [← m_ap_nil Th]
  have hz0 : m_Zr (m_ap Th []) M := by rw [m_ap_nil]; exact hz
  refine m_aload_n dX8_init_4 rfl 0 rfl ?_
  refine m_bipush (v := 30) dX8_init_5 (by decide) ?_
  refine m_newa (atype := .int) (ty := .int) (N := 30) ac_int rfl rfl (by decide +kernel) (by decide +kernel) (by decide +kernel) (Nat.le_of_ble_eq_true rfl) (Nat.le_of_ble_eq_true rfl) hz0 dX8_init_7 ?_
  rw [m_ap_1 hn (n := 0) rfl, m_ap_al]
  have hq := hz0.al (t := .inr (.int, false, 30)); rw [m_ap_al] at hq
  have hz1 := hq
  refine m_putr f_X8_9 rfl (Or.inr ⟨rfl, _, _, _, rfl, rfl⟩) dX8_init_9 (m_ap_lt hT (by omega)) ?_
  have hz2 : m_Zr (m_ap Th ([] ++ [.inr (.int, false, 30)])) (m_ur M a 0 (some (a + 1))) := hz1.ur (by rw [m_ap_1 hn (n := 1) rfl]; omega)
  refine m_aload_n dX8_init_12 rfl 0 rfl ?_
  refine m_bipush (v := 30) dX8_init_13 (by decide) ?_
  refine m_newa (atype := .int) (ty := .int) (N := 30) ac_int rfl rfl (by decide +kernel) (by decide +kernel) (by decide +kernel) (Nat.le_of_ble_eq_true rfl) (Nat.le_of_ble_eq_true rfl) hz2 dX8_init_15 ?_
  rw [m_ap_1 hn (n := 1) rfl, m_ap_al]
  have hq := hz2.al (t := .inr (.int, false, 30)); rw [m_ap_al] at hq
  have hz3 := hq
  refine m_putr f_X8_15 rfl (Or.inr ⟨rfl, _, _, _, rfl, rfl⟩) dX8_init_17 (m_ap_lt hT (by omega)) ?_
  have hz4 : m_Zr (m_ap Th ([] ++ [.inr (.int, false, 30)] ++ [.inr (.int, false, 30)])) (m_ur (m_ur M a 0 (some (a + 1))) a 1 (some (a + 2))) := hz3.ur (by rw [m_ap_1 hn (n := 2) rfl]; omega)
  refine m_aload_n dX8_init_20 rfl 0 rfl ?_
  refine m_iconst (v := 5) dX8_init_21 (by decide) ?_
  refine m_newa (atype := .int) (ty := .int) (N := 5) ac_int rfl rfl (by decide +kernel) (by decide +kernel) (by decide +kernel) (Nat.le_of_ble_eq_true rfl) (Nat.le_of_ble_eq_true rfl) hz4 dX8_init_22 ?_
  rw [m_ap_1 hn (n := 2) rfl, m_ap_al]
  have hq := hz4.al (t := .inr (.int, false, 5)); rw [m_ap_al] at hq
  have hz5 := hq
  refine m_putr f_X8_18 rfl (Or.inr ⟨rfl, _, _, _, rfl, rfl⟩) dX8_init_24 (m_ap_lt hT (by omega)) ?_
  have hz6 : m_Zr (m_ap Th ([] ++ [.inr (.int, false, 30)] ++ [.inr (.int, false, 30)] ++ [.inr (.int, false, 5)])) (m_ur (m_ur (m_ur M a 0 (some (a + 1))) a 1 (some (a + 2))) a 2 (some (a + 3))) := hz5.ur (by rw [m_ap_1 hn (n := 3) rfl]; omega)
  refine m_aload_n dX8_init_27 rfl 0 rfl ?_
  refine m_iconst (v := (-1)) dX8_init_28 (by decide) ?_
  refine m_puti f_X8_21 rfl (Or.inl rfl) dX8_init_29 (m_ap_lt hT (by omega)) ⟨rfl, rfl⟩ ?_
  have hz7 : m_Zr (m_ap Th ([] ++ [.inr (.int, false, 30)] ++ [.inr (.int, false, 30)] ++ [.inr (.int, false, 5)])) (m_ui (m_ur (m_ur (m_ur M a 0 (some (a + 1))) a 1 (some (a + 2))) a 2 (some (a + 3))) a 3 (-1)) := hz6.ui (by rw [m_ap_1 hn (n := 3) rfl]; omega)
  exact m_return dX8_init_32 rfl (h hz7)
def ks_4 : List mK := [] ++ [.inr (.int, false, 8)] ++ [.inr (.int, false, 200)] ++ [.inr (.int, false, 200)]
def mk_4 (M : mM) (a : Nat) : mM := m_ur (m_ur (m_ur (m_ur M a 0 (some (a + 1))) a 1 (some (a + 2))) a 2 (some (a + 3))) a 5 (some (a + 2))
set_option maxHeartbeats 4000000 in
set_option maxRecDepth 100000 in
theorem c_4_init {d : Nat} {Th : mT} {M : mM} {a : Nat}  {Q : mQ} (hn : Th.1 = a + 1) (hT : Th.2.2 a = some (.inl 4)) (hlet : Th.2.2 Th.2.1 = some (.inr (.char, true, 8)) ∧ Th.2.1 < Th.1) (hz : m_Zr Th M) (h : m_Zr (m_ap Th ks_4) (mk_4 M a ) → Q none (m_ap Th ks_4) (mk_4 M a )) : m_C (d + 1) 3 408 yX4_init cX4_init 1 none [.ref a] Th M Q := by
  refine m_C.of (by decide +kernel) (Nat.le_of_ble_eq_true rfl) ?_
  show m_W (d + 1) 3 408 yX4_init cX4_init 1 none Q 0 [(0, .ref a)] [] Th M 0 0
  refine m_aload_n dX4_init_0 rfl 0 rfl ?_
  refine m_obj l_X4_3 (Nat.le_of_ble_eq_true rfl) (Nat.le_add_left _ _) dX4_init_1 ?_
  rw [← m_ap_nil Th]
  have hz0 : m_Zr (m_ap Th []) M := by rw [m_ap_nil]; exact hz
  refine m_aload_n dX4_init_4 rfl 0 rfl ?_
  refine m_gets f_X4_9 dX4_init_5 ?_
  refine m_alen (n := 8) dX4_init_8 (m_ap_lt hlet.1 hlet.2) ?_
  refine m_newa (atype := .int) (ty := .int) (N := 8) ac_int rfl rfl (by decide +kernel) (by decide +kernel) (by decide +kernel) (Nat.le_of_ble_eq_true rfl) (Nat.le_of_ble_eq_true rfl) hz0 dX4_init_9 ?_
  rw [m_ap_1 hn (n := 0) rfl, m_ap_al]
  have hq := hz0.al (t := .inr (.int, false, 8)); rw [m_ap_al] at hq
  have hz1 := hq
  refine m_putr f_X4_15 rfl (Or.inr ⟨rfl, _, _, _, rfl, rfl⟩) dX4_init_11 (m_ap_lt hT (by omega)) ?_
  have hz2 : m_Zr (m_ap Th ([] ++ [.inr (.int, false, 8)])) (m_ur M a 0 (some (a + 1))) := hz1.ur (by rw [m_ap_1 hn (n := 1) rfl]; omega)
  refine m_aload_n dX4_init_14 rfl 0 rfl ?_
  refine m_sipush (v := 200) dX4_init_15 (by decide) ?_
  refine m_newa (atype := .int) (ty := .int) (N := 200) ac_int rfl rfl (by decide +kernel) (by decide +kernel) (by decide +kernel) (Nat.le_of_ble_eq_true rfl) (Nat.le_of_ble_eq_true rfl) hz2 dX4_init_18 ?_
  rw [m_ap_1 hn (n := 1) rfl, m_ap_al]
  have hq := hz2.al (t := .inr (.int, false, 200)); rw [m_ap_al] at hq
  have hz3 := hq
  refine m_putr f_X4_19 rfl (Or.inl rfl) dX4_init_20 (m_ap_lt hT (by omega)) ?_
  have hz4 : m_Zr (m_ap Th ([] ++ [.inr (.int, false, 8)] ++ [.inr (.int, false, 200)])) (m_ur (m_ur M a 0 (some (a + 1))) a 1 (some (a + 2))) := hz3.ur (by rw [m_ap_1 hn (n := 2) rfl]; omega)
  refine m_aload_n dX4_init_23 rfl 0 rfl ?_
  refine m_sipush (v := 200) dX4_init_24 (by decide) ?_
  refine m_newa (atype := .int) (ty := .int) (N := 200) ac_int rfl rfl (by decide +kernel) (by decide +kernel) (by decide +kernel) (Nat.le_of_ble_eq_true rfl) (Nat.le_of_ble_eq_true rfl) hz4 dX4_init_27 ?_
  rw [m_ap_1 hn (n := 2) rfl, m_ap_al]
  have hq := hz4.al (t := .inr (.int, false, 200)); rw [m_ap_al] at hq
  have hz5 := hq
  refine m_putr f_X4_22 rfl (Or.inl rfl) dX4_init_29 (m_ap_lt hT (by omega)) ?_
  have hz6 : m_Zr (m_ap Th ([] ++ [.inr (.int, false, 8)] ++ [.inr (.int, false, 200)] ++ [.inr (.int, false, 200)])) (m_ur (m_ur (m_ur M a 0 (some (a + 1))) a 1 (some (a + 2))) a 2 (some (a + 3))) := hz5.ur (by rw [m_ap_1 hn (n := 3) rfl]; omega)
  refine m_aload_n dX4_init_32 rfl 0 rfl ?_
  refine m_aload_n dX4_init_33 rfl 0 rfl ?_
  refine m_getr (r := (a + 2)) f_X4_19 rfl dX4_init_34 (m_ap_lt hT (by omega)) (by simp [Nat.add_assoc, m_u, m_gM, mk_9, mk_8]) ?_
  refine m_putr f_X4_25 rfl (Or.inl rfl) dX4_init_37 (m_ap_lt hT (by omega)) ?_
  have hz7 : m_Zr (m_ap Th ([] ++ [.inr (.int, false, 8)] ++ [.inr (.int, false, 200)] ++ [.inr (.int, false, 200)])) (m_ur (m_ur (m_ur (m_ur M a 0 (some (a + 1))) a 1 (some (a + 2))) a 2 (some (a + 3))) a 5 (some (a + 2))) := hz6.ur (by rw [m_ap_1 hn (n := 3) rfl]; omega)
  exact m_return dX4_init_40 rfl (h hz7)
def ks_7 : List mK := [] ++ [.inr (.long, false, 11)] ++ (.inr (.array .long, false, 5) :: List.replicate 5 (.inr (.long, false, 11))) ++ (.inr (.array .long, false, 6) :: List.replicate 6 (.inr (.long, false, 11)))
def mk_7 (M : mM) (a : Nat) : mM := m_ur (m_gM (m_ur (m_gM (m_ur M a 0 (some (a + 1))) (a + 2) 5) a 1 (some (a + 2))) (a + 8) 6) a 2 (some (a + 8))
set_option maxHeartbeats 4000000 in
set_option maxRecDepth 100000 in
theorem c_7_init {d : Nat} {Th : mT} {M : mM} {a : Nat}  {Q : mQ} (hn : Th.1 = a + 1) (hT : Th.2.2 a = some (.inl 7)) (hz : m_Zr Th M) (h : m_Zr (m_ap Th ks_7) (mk_7 M a ) → Q none (m_ap Th ks_7) (mk_7 M a )) : m_C (d + 1) 14 143 yX7_init cX7_init 1 none [.ref a] Th M Q := by
  refine m_C.of (by decide +kernel) (Nat.le_of_ble_eq_true rfl) ?_
  show m_W (d + 1) 14 143 yX7_init cX7_init 1 none Q 0 [(0, .ref a)] [] Th M 0 0
  refine m_aload_n dX7_init_0 rfl 0 rfl ?_
  refine m_obj l_X7_3 (Nat.le_of_ble_eq_true rfl) (Nat.le_add_left _ _) dX7_init_1 ?_
  rw [← m_ap_nil Th]
  have hz0 : m_Zr (m_ap Th []) M := by rw [m_ap_nil]; exact hz
  refine m_aload_n dX7_init_4 rfl 0 rfl ?_
  refine m_bipush (v := 11) dX7_init_5 (by decide) ?_
  refine m_newa (atype := .long) (ty := .long) (N := 11) ac_long rfl rfl (by decide +kernel) (by decide +kernel) (by decide +kernel) (Nat.le_of_ble_eq_true rfl) (Nat.le_of_ble_eq_true rfl) hz0 dX7_init_7 ?_
  rw [m_ap_1 hn (n := 0) rfl, m_ap_al]
  have hq := hz0.al (t := .inr (.long, false, 11)); rw [m_ap_al] at hq
  have hz1 := hq
  refine m_putr f_X7_9 rfl (Or.inr ⟨rfl, _, _, _, rfl, rfl⟩) dX7_init_9 (m_ap_lt hT (by omega)) ?_
  have hz2 : m_Zr (m_ap Th ([] ++ [.inr (.long, false, 11)])) (m_ur M a 0 (some (a + 1))) := hz1.ur (by rw [m_ap_1 hn (n := 1) rfl]; omega)
  refine m_aload_n dX7_init_12 rfl 0 rfl ?_
  refine m_iconst (v := 5) dX7_init_13 (by decide) ?_
  refine m_bipush (v := 11) dX7_init_14 (by decide) ?_
  refine m_mna (N := 5) (K := 11) cl_X7_15 (by decide) (by decide) (by decide) (by decide) (by decide) (by decide) (by decide) (Nat.le_of_ble_eq_true rfl) (Nat.le_of_ble_eq_true rfl) hz2 dX7_init_16 ?_
  have hq := m_grZ (N := 5) (K := 11) hz2; rw [m_ap_1 hn (n := 1) rfl, m_ap_gr] at hq
  have hz3 := hq
  rw [m_ap_1 hn (n := 1) rfl, m_ap_gr]
  refine m_putr f_X7_17 rfl (Or.inr ⟨rfl, _, _, _, rfl, rfl⟩) dX7_init_20 (m_ap_lt hT (by omega)) ?_
  have hz4 : m_Zr (m_ap Th ([] ++ [.inr (.long, false, 11)] ++ (.inr (.array .long, false, 5) :: List.replicate 5 (.inr (.long, false, 11))))) (m_ur (m_gM (m_ur M a 0 (some (a + 1))) (a + 2) 5) a 1 (some (a + 2))) := hz3.ur (by rw [m_ap_1 hn (n := 7) rfl]; omega)
  refine m_aload_n dX7_init_23 rfl 0 rfl ?_
  refine m_bipush (v := 6) dX7_init_24 (by decide) ?_
  refine m_bipush (v := 11) dX7_init_26 (by decide) ?_
  refine m_mna (N := 6) (K := 11) cl_X7_15 (by decide) (by decide) (by decide) (by decide) (by decide) (by decide) (by decide) (Nat.le_of_ble_eq_true rfl) (Nat.le_of_ble_eq_true rfl) hz4 dX7_init_28 ?_
  have hq := m_grZ (N := 6) (K := 11) hz4; rw [m_ap_1 hn (n := 7) rfl, m_ap_gr] at hq
  have hz5 := hq
  rw [m_ap_1 hn (n := 7) rfl, m_ap_gr]
  refine m_putr f_X7_20 rfl (Or.inr ⟨rfl, _, _, _, rfl, rfl⟩) dX7_init_32 (m_ap_lt hT (by omega)) ?_
  have hz6 : m_Zr (m_ap Th ([] ++ [.inr (.long, false, 11)] ++ (.inr (.array .long, false, 5) :: List.replicate 5 (.inr (.long, false, 11))) ++ (.inr (.array .long, false, 6) :: List.replicate 6 (.inr (.long, false, 11))))) (m_ur (m_gM (m_ur (m_gM (m_ur M a 0 (some (a + 1))) (a + 2) 5) a 1 (some (a + 2))) (a + 8) 6) a 2 (some (a + 8))) := hz5.ur (by rw [m_ap_1 hn (n := 14) rfl]; omega)
  exact m_return dX7_init_35 rfl (h hz6)
def ks_0 : List mK := [] ++ (.inr (.array .long, false, 11) :: List.replicate 11 (.inr (.long, false, 11))) ++ (.inr (.array .long, false, 11) :: List.replicate 11 (.inr (.long, false, 11)))
def mk_0 (M : mM) (a : Nat) : mM := m_ur (m_gM (m_ur (m_gM M (a + 1) 11) a 0 (some (a + 1))) (a + 13) 11) a 1 (some (a + 13))
set_option maxHeartbeats 4000000 in
set_option maxRecDepth 100000 in
theorem c_0_init {d : Nat} {Th : mT} {M : mM} {a : Nat}  {Q : mQ} (hn : Th.1 = a + 1) (hT : Th.2.2 a = some (.inl 0)) (hz : m_Zr Th M) (h : m_Zr (m_ap Th ks_0) (mk_0 M a ) → Q none (m_ap Th ks_0) (mk_0 M a )) : m_C (d + 1) 24 264 yX0_init cX0_init 1 none [.ref a] Th M Q := by
  refine m_C.of (by decide +kernel) (Nat.le_of_ble_eq_true rfl) ?_
  show m_W (d + 1) 24 264 yX0_init cX0_init 1 none Q 0 [(0, .ref a)] [] Th M 0 0
  refine m_aload_n dX0_init_0 rfl 0 rfl ?_
  refine m_obj l_X0_3 (Nat.le_of_ble_eq_true rfl) (Nat.le_add_left _ _) dX0_init_1 ?_
  rw [← m_ap_nil Th]
  have hz0 : m_Zr (m_ap Th []) M := by rw [m_ap_nil]; exact hz
  refine m_aload_n dX0_init_4 rfl 0 rfl ?_
  refine m_bipush (v := 11) dX0_init_5 (by decide) ?_
  refine m_bipush (v := 11) dX0_init_7 (by decide) ?_
  refine m_mna (N := 11) (K := 11) cl_X0_9 (by decide) (by decide) (by decide) (by decide) (by decide) (by decide) (by decide) (Nat.le_of_ble_eq_true rfl) (Nat.le_of_ble_eq_true rfl) hz0 dX0_init_9 ?_
  have hq := m_grZ (N := 11) (K := 11) hz0; rw [m_ap_1 hn (n := 0) rfl, m_ap_gr] at hq
  have hz1 := hq
  rw [m_ap_1 hn (n := 0) rfl, m_ap_gr]
  refine m_putr f_X0_11 rfl (Or.inl rfl) dX0_init_13 (m_ap_lt hT (by omega)) ?_
  have hz2 : m_Zr (m_ap Th ([] ++ (.inr (.array .long, false, 11) :: List.replicate 11 (.inr (.long, false, 11))))) (m_ur (m_gM M (a + 1) 11) a 0 (some (a + 1))) := hz1.ur (by rw [m_ap_1 hn (n := 12) rfl]; omega)
  refine m_aload_n dX0_init_16 rfl 0 rfl ?_
  refine m_bipush (v := 11) dX0_init_17 (by decide) ?_
  refine m_bipush (v := 11) dX0_init_19 (by decide) ?_
  refine m_mna (N := 11) (K := 11) cl_X0_9 (by decide) (by decide) (by decide) (by decide) (by decide) (by decide) (by decide) (Nat.le_of_ble_eq_true rfl) (Nat.le_of_ble_eq_true rfl) hz2 dX0_init_21 ?_
  have hq := m_grZ (N := 11) (K := 11) hz2; rw [m_ap_1 hn (n := 12) rfl, m_ap_gr] at hq
  have hz3 := hq
  rw [m_ap_1 hn (n := 12) rfl, m_ap_gr]
  refine m_putr f_X0_16 rfl (Or.inl rfl) dX0_init_25 (m_ap_lt hT (by omega)) ?_
  have hz4 : m_Zr (m_ap Th ([] ++ (.inr (.array .long, false, 11) :: List.replicate 11 (.inr (.long, false, 11))) ++ (.inr (.array .long, false, 11) :: List.replicate 11 (.inr (.long, false, 11))))) (m_ur (m_gM (m_ur (m_gM M (a + 1) 11) a 0 (some (a + 1))) (a + 13) 11) a 1 (some (a + 13))) := hz3.ur (by rw [m_ap_1 hn (n := 24) rfl]; omega)
  exact m_return dX0_init_28 rfl (h hz4)
def ks_6 : List mK := [] ++ [.inr (.int, false, 25)] ++ [.inr (.int, false, 25)] ++ [.inr (.int, false, 5)] ++ [.inr (.int, false, 5)]
def mk_6 (M : mM) (a : Nat) : mM := m_ur (m_ur (m_ur (m_ur M a 0 (some (a + 1))) a 1 (some (a + 2))) a 2 (some (a + 3))) a 3 (some (a + 4))
set_option maxHeartbeats 4000000 in
set_option maxRecDepth 100000 in
theorem c_6_init {d : Nat} {Th : mT} {M : mM} {a : Nat}  {Q : mQ} (hn : Th.1 = a + 1) (hT : Th.2.2 a = some (.inl 6)) (hz : m_Zr Th M) (h : m_Zr (m_ap Th ks_6) (mk_6 M a ) → Q none (m_ap Th ks_6) (mk_6 M a )) : m_C (d + 1) 4 60 yX6_init cX6_init 1 none [.ref a] Th M Q := by
  refine m_C.of (by decide +kernel) (Nat.le_of_ble_eq_true rfl) ?_
  show m_W (d + 1) 4 60 yX6_init cX6_init 1 none Q 0 [(0, .ref a)] [] Th M 0 0
  refine m_aload_n dX6_init_0 rfl 0 rfl ?_
  refine m_obj l_X6_3 (Nat.le_of_ble_eq_true rfl) (Nat.le_add_left _ _) dX6_init_1 ?_
  rw [← m_ap_nil Th]
  have hz0 : m_Zr (m_ap Th []) M := by rw [m_ap_nil]; exact hz
  refine m_aload_n dX6_init_4 rfl 0 rfl ?_
  refine m_bipush (v := 25) dX6_init_5 (by decide) ?_
  refine m_newa (atype := .int) (ty := .int) (N := 25) ac_int rfl rfl (by decide +kernel) (by decide +kernel) (by decide +kernel) (Nat.le_of_ble_eq_true rfl) (Nat.le_of_ble_eq_true rfl) hz0 dX6_init_7 ?_
  rw [m_ap_1 hn (n := 0) rfl, m_ap_al]
  have hq := hz0.al (t := .inr (.int, false, 25)); rw [m_ap_al] at hq
  have hz1 := hq
  refine m_putr f_X6_9 rfl (Or.inr ⟨rfl, _, _, _, rfl, rfl⟩) dX6_init_9 (m_ap_lt hT (by omega)) ?_
  have hz2 : m_Zr (m_ap Th ([] ++ [.inr (.int, false, 25)])) (m_ur M a 0 (some (a + 1))) := hz1.ur (by rw [m_ap_1 hn (n := 1) rfl]; omega)
  refine m_aload_n dX6_init_12 rfl 0 rfl ?_
  refine m_bipush (v := 25) dX6_init_13 (by decide) ?_
  refine m_newa (atype := .int) (ty := .int) (N := 25) ac_int rfl rfl (by decide +kernel) (by decide +kernel) (by decide +kernel) (Nat.le_of_ble_eq_true rfl) (Nat.le_of_ble_eq_true rfl) hz2 dX6_init_15 ?_
  rw [m_ap_1 hn (n := 1) rfl, m_ap_al]
  have hq := hz2.al (t := .inr (.int, false, 25)); rw [m_ap_al] at hq
  have hz3 := hq
  refine m_putr f_X6_15 rfl (Or.inr ⟨rfl, _, _, _, rfl, rfl⟩) dX6_init_17 (m_ap_lt hT (by omega)) ?_
  have hz4 : m_Zr (m_ap Th ([] ++ [.inr (.int, false, 25)] ++ [.inr (.int, false, 25)])) (m_ur (m_ur M a 0 (some (a + 1))) a 1 (some (a + 2))) := hz3.ur (by rw [m_ap_1 hn (n := 2) rfl]; omega)
  refine m_aload_n dX6_init_20 rfl 0 rfl ?_
  refine m_iconst (v := 5) dX6_init_21 (by decide) ?_
  refine m_newa (atype := .int) (ty := .int) (N := 5) ac_int rfl rfl (by decide +kernel) (by decide +kernel) (by decide +kernel) (Nat.le_of_ble_eq_true rfl) (Nat.le_of_ble_eq_true rfl) hz4 dX6_init_22 ?_
  rw [m_ap_1 hn (n := 2) rfl, m_ap_al]
  have hq := hz4.al (t := .inr (.int, false, 5)); rw [m_ap_al] at hq
  have hz5 := hq
  refine m_putr f_X6_18 rfl (Or.inr ⟨rfl, _, _, _, rfl, rfl⟩) dX6_init_24 (m_ap_lt hT (by omega)) ?_
  have hz6 : m_Zr (m_ap Th ([] ++ [.inr (.int, false, 25)] ++ [.inr (.int, false, 25)] ++ [.inr (.int, false, 5)])) (m_ur (m_ur (m_ur M a 0 (some (a + 1))) a 1 (some (a + 2))) a 2 (some (a + 3))) := hz5.ur (by rw [m_ap_1 hn (n := 3) rfl]; omega)
  refine m_aload_n dX6_init_27 rfl 0 rfl ?_
  refine m_iconst (v := 5) dX6_init_28 (by decide) ?_
  refine m_newa (atype := .int) (ty := .int) (N := 5) ac_int rfl rfl (by decide +kernel) (by decide +kernel) (by decide +kernel) (Nat.le_of_ble_eq_true rfl) (Nat.le_of_ble_eq_true rfl) hz6 dX6_init_29 ?_
  rw [m_ap_1 hn (n := 3) rfl, m_ap_al]
  have hq := hz6.al (t := .inr (.int, false, 5)); rw [m_ap_al] at hq
  have hz7 := hq
  refine m_putr f_X6_21 rfl (Or.inr ⟨rfl, _, _, _, rfl, rfl⟩) dX6_init_31 (m_ap_lt hT (by omega)) ?_
  have hz8 : m_Zr (m_ap Th ([] ++ [.inr (.int, false, 25)] ++ [.inr (.int, false, 25)] ++ [.inr (.int, false, 5)] ++ [.inr (.int, false, 5)])) (m_ur (m_ur (m_ur (m_ur M a 0 (some (a + 1))) a 1 (some (a + 2))) a 2 (some (a + 3))) a 3 (some (a + 4))) := hz7.ur (by rw [m_ap_1 hn (n := 4) rfl]; omega)
  exact m_return dX6_init_34 rfl (h hz8)
def ks_5 : List mK := [] ++ [.inr (.int, false, 120)]
def mk_5 (M : mM) (a : Nat) : mM := m_ur M a 0 (some (a + 1))
set_option maxHeartbeats 4000000 in
set_option maxRecDepth 100000 in
theorem c_5_init {d : Nat} {Th : mT} {M : mM} {a : Nat}  {Q : mQ} (hn : Th.1 = a + 1) (hT : Th.2.2 a = some (.inl 5)) (hz : m_Zr Th M) (h : m_Zr (m_ap Th ks_5) (mk_5 M a ) → Q none (m_ap Th ks_5) (mk_5 M a )) : m_C (d + 1) 1 120 yX5_init cX5_init 1 none [.ref a] Th M Q := by
  refine m_C.of (by decide +kernel) (Nat.le_of_ble_eq_true rfl) ?_
  show m_W (d + 1) 1 120 yX5_init cX5_init 1 none Q 0 [(0, .ref a)] [] Th M 0 0
  refine m_aload_n dX5_init_0 rfl 0 rfl ?_
  refine m_obj l_X5_3 (Nat.le_of_ble_eq_true rfl) (Nat.le_add_left _ _) dX5_init_1 ?_
  rw [← m_ap_nil Th]
  have hz0 : m_Zr (m_ap Th []) M := by rw [m_ap_nil]; exact hz
  refine m_aload_n dX5_init_4 rfl 0 rfl ?_
  refine m_bipush (v := 120) dX5_init_5 (by decide) ?_
  refine m_newa (atype := .int) (ty := .int) (N := 120) ac_int rfl rfl (by decide +kernel) (by decide +kernel) (by decide +kernel) (Nat.le_of_ble_eq_true rfl) (Nat.le_of_ble_eq_true rfl) hz0 dX5_init_7 ?_
  rw [m_ap_1 hn (n := 0) rfl, m_ap_al]
  have hq := hz0.al (t := .inr (.int, false, 120)); rw [m_ap_al] at hq
  have hz1 := hq
  refine m_putr f_X5_9 rfl (Or.inr ⟨rfl, _, _, _, rfl, rfl⟩) dX5_init_9 (m_ap_lt hT (by omega)) ?_
  have hz2 : m_Zr (m_ap Th ([] ++ [.inr (.int, false, 120)])) (m_ur M a 0 (some (a + 1))) := hz1.ur (by rw [m_ap_1 hn (n := 1) rfl]; omega)
  exact m_return dX5_init_12 rfl (h hz2)
def ks_2 : List mK := [] ++ [.inl 4] ++ ks_4 ++ [.inr (.object RX8, false, 5)] ++ [.inr (.int, false, 5)] ++ [.inr (.int, false, 6)] ++ [.inr (.int, false, 6)] ++ [.inr (.int, false, 5)] ++ [.inr (.int, false, 5)] ++ [.inr (.int, false, 5)] ++ [.inl 8] ++ ks_8 ++ [.inl 8] ++ ks_8 ++ [.inl 8] ++ ks_8 ++ [.inl 8] ++ ks_8 ++ [.inl 8] ++ ks_8
def mk_2 (M : mM) (a : Nat) : mM := m_ur (mk_8 (m_ur (mk_8 (m_ur (mk_8 (m_ur (mk_8 (m_ur (mk_8 (m_ur (m_ur (m_ur (m_ur (m_ur (m_ur (m_ur (m_ur (mk_4 (m_ui M a 2 2) (a + 1)) a 5 (some (a + 1))) a 6 (some (a + 5))) a 7 (some (a + 6))) a 8 (some (a + 7))) a 9 (some (a + 8))) a 10 (some (a + 9))) a 11 (some (a + 10))) a 12 (some (a + 11))) (a + 12)) (a + 5) 0 (some (a + 12))) (a + 16)) (a + 5) 1 (some (a + 16))) (a + 20)) (a + 5) 2 (some (a + 20))) (a + 24)) (a + 5) 3 (some (a + 24))) (a + 28)) (a + 5) 4 (some (a + 28))
set_option maxHeartbeats 4000000 in
set_option maxRecDepth 100000 in
theorem c_2_init {d : Nat} {Th : mT} {M : mM} {a : Nat}  {Q : mQ} (hn : Th.1 = a + 1) (hT : Th.2.2 a = some (.inl 2)) (hlet : Th.2.2 Th.2.1 = some (.inr (.char, true, 8)) ∧ Th.2.1 < Th.1) (hz : m_Zr Th M) (h : m_Zr (m_ap Th ks_2) (mk_2 M a ) → Q none (m_ap Th ks_2) (mk_2 M a )) : m_C (d + 2) 31 801 yX2_init cX2_init 2 none [.ref a] Th M Q := by
  refine m_C.of (by decide +kernel) (Nat.le_of_ble_eq_true rfl) ?_
  show m_W (d + 2) 31 801 yX2_init cX2_init 2 none Q 0 [(0, .ref a)] [] Th M 0 0
  refine m_aload_n dX2_init_0 rfl 0 rfl ?_
  refine m_obj l_X2_3 (Nat.le_of_ble_eq_true rfl) (Nat.le_add_left _ _) dX2_init_1 ?_
  rw [← m_ap_nil Th]
  have hz0 : m_Zr (m_ap Th []) M := by rw [m_ap_nil]; exact hz
  refine m_aload_n dX2_init_4 rfl 0 rfl ?_
  refine m_iconst (v := 2) dX2_init_5 (by decide) ?_
  refine m_puti f_X2_9 rfl (Or.inl rfl) dX2_init_6 (m_ap_lt hT (by omega)) ⟨rfl, rfl⟩ ?_
  have hz1 : m_Zr (m_ap Th ([])) (m_ui M a 2 2) := hz0.ui (by rw [m_ap_1 hn (n := 0) rfl]; omega)
  refine m_aload_n dX2_init_9 rfl 0 rfl ?_
  refine m_new (c := 4) rfl u_X4 tyX4_ok zt_X4 cl_X2_15 in_X4 ini_X4 (Nat.le_of_ble_eq_true rfl) (Nat.le_of_ble_eq_true rfl) hz1 dX2_init_10 ?_
  rw [m_ap_1 hn (n := 0) rfl, m_ap_al]
  have hq := hz1.al (t := .inl 4); rw [m_ap_al] at hq
  have hz2 := hq
  refine m_dup dX2_init_13 rfl ?_
  refine m_invIN (As := []) (d' := d + 1) (mc' := 3) (ms' := 408) (rest := [.ref (a + 1), .ref a]) i_4_init v_4_init rfl l_X2_17 dX2_init_14 rfl rfl (Nat.le_of_ble_eq_true rfl) (by omega) ⟨Nat.le_of_ble_eq_true rfl, Nat.le_of_ble_eq_true rfl⟩ (c_4_init (m_ap_1 (a := a) (n := 1) hn rfl) (m_ap_at 0 (by rfl) (by omega)) (m_ap_let hlet) hz2 (fun hzz => ?_))
  rw [m_ap_ap] at hzz ⊢
  show m_W (d + 2) 31 801 yX2_init cX2_init 2 none Q 17 [(0, .ref a)] [.ref (a + 1), .ref a] (m_ap Th ([] ++ [.inl 4] ++ ks_4)) (mk_4 (m_ui M a 2 2) (a + 1)) 4 419
  refine m_putr f_X2_18 rfl (Or.inr ⟨rfl, _, _, _, rfl, rfl⟩) dX2_init_17 (m_ap_lt hT (by omega)) ?_
  have hz3 : m_Zr (m_ap Th ([] ++ [.inl 4] ++ ks_4)) (m_ur (mk_4 (m_ui M a 2 2) (a + 1)) a 5 (some (a + 1))) := hzz.ur (by rw [m_ap_1 hn (n := 4) rfl]; omega)
  refine m_aload_n dX2_init_20 rfl 0 rfl ?_
  refine m_iconst (v := 5) dX2_init_21 (by decide) ?_
  refine m_anew (N := 5) cl_X2_22 (by decide) (by decide) (by decide) (Nat.le_of_ble_eq_true rfl) (Nat.le_of_ble_eq_true rfl) hz3 dX2_init_22 ?_
  rw [m_ap_1 hn (n := 4) rfl, m_ap_al]
  have hq := hz3.al (t := .inr (.object RX8, false, 5)); rw [m_ap_al] at hq
  have hz4 := hq
  refine m_putr f_X2_24 rfl (Or.inr ⟨rfl, _, _, _, rfl, rfl⟩) dX2_init_25 (m_ap_lt hT (by omega)) ?_
  have hz5 : m_Zr (m_ap Th ([] ++ [.inl 4] ++ ks_4 ++ [.inr (.object RX8, false, 5)])) (m_ur (m_ur (mk_4 (m_ui M a 2 2) (a + 1)) a 5 (some (a + 1))) a 6 (some (a + 5))) := hz4.ur (by rw [m_ap_1 hn (n := 5) rfl]; omega)
  refine m_aload_n dX2_init_28 rfl 0 rfl ?_
  refine m_iconst (v := 5) dX2_init_29 (by decide) ?_
  refine m_newa (atype := .int) (ty := .int) (N := 5) ac_int rfl rfl (by decide +kernel) (by decide +kernel) (by decide +kernel) (Nat.le_of_ble_eq_true rfl) (Nat.le_of_ble_eq_true rfl) hz5 dX2_init_30 ?_
  rw [m_ap_1 hn (n := 5) rfl, m_ap_al]
  have hq := hz5.al (t := .inr (.int, false, 5)); rw [m_ap_al] at hq
  have hz6 := hq
  refine m_putr f_X2_28 rfl (Or.inr ⟨rfl, _, _, _, rfl, rfl⟩) dX2_init_32 (m_ap_lt hT (by omega)) ?_
  have hz7 : m_Zr (m_ap Th ([] ++ [.inl 4] ++ ks_4 ++ [.inr (.object RX8, false, 5)] ++ [.inr (.int, false, 5)])) (m_ur (m_ur (m_ur (mk_4 (m_ui M a 2 2) (a + 1)) a 5 (some (a + 1))) a 6 (some (a + 5))) a 7 (some (a + 6))) := hz6.ur (by rw [m_ap_1 hn (n := 6) rfl]; omega)
  refine m_aload_n dX2_init_35 rfl 0 rfl ?_
  refine m_bipush (v := 6) dX2_init_36 (by decide) ?_
  refine m_newa (atype := .int) (ty := .int) (N := 6) ac_int rfl rfl (by decide +kernel) (by decide +kernel) (by decide +kernel) (Nat.le_of_ble_eq_true rfl) (Nat.le_of_ble_eq_true rfl) hz7 dX2_init_38 ?_
  rw [m_ap_1 hn (n := 6) rfl, m_ap_al]
  have hq := hz7.al (t := .inr (.int, false, 6)); rw [m_ap_al] at hq
  have hz8 := hq
  refine m_putr f_X2_32 rfl (Or.inr ⟨rfl, _, _, _, rfl, rfl⟩) dX2_init_40 (m_ap_lt hT (by omega)) ?_
  have hz9 : m_Zr (m_ap Th ([] ++ [.inl 4] ++ ks_4 ++ [.inr (.object RX8, false, 5)] ++ [.inr (.int, false, 5)] ++ [.inr (.int, false, 6)])) (m_ur (m_ur (m_ur (m_ur (mk_4 (m_ui M a 2 2) (a + 1)) a 5 (some (a + 1))) a 6 (some (a + 5))) a 7 (some (a + 6))) a 8 (some (a + 7))) := hz8.ur (by rw [m_ap_1 hn (n := 7) rfl]; omega)
  refine m_aload_n dX2_init_43 rfl 0 rfl ?_
  refine m_bipush (v := 6) dX2_init_44 (by decide) ?_
  refine m_newa (atype := .int) (ty := .int) (N := 6) ac_int rfl rfl (by decide +kernel) (by decide +kernel) (by decide +kernel) (Nat.le_of_ble_eq_true rfl) (Nat.le_of_ble_eq_true rfl) hz9 dX2_init_46 ?_
  rw [m_ap_1 hn (n := 7) rfl, m_ap_al]
  have hq := hz9.al (t := .inr (.int, false, 6)); rw [m_ap_al] at hq
  have hz10 := hq
  refine m_putr f_X2_35 rfl (Or.inr ⟨rfl, _, _, _, rfl, rfl⟩) dX2_init_48 (m_ap_lt hT (by omega)) ?_
  have hz11 : m_Zr (m_ap Th ([] ++ [.inl 4] ++ ks_4 ++ [.inr (.object RX8, false, 5)] ++ [.inr (.int, false, 5)] ++ [.inr (.int, false, 6)] ++ [.inr (.int, false, 6)])) (m_ur (m_ur (m_ur (m_ur (m_ur (mk_4 (m_ui M a 2 2) (a + 1)) a 5 (some (a + 1))) a 6 (some (a + 5))) a 7 (some (a + 6))) a 8 (some (a + 7))) a 9 (some (a + 8))) := hz10.ur (by rw [m_ap_1 hn (n := 8) rfl]; omega)
  refine m_aload_n dX2_init_51 rfl 0 rfl ?_
  refine m_iconst (v := 5) dX2_init_52 (by decide) ?_
  refine m_newa (atype := .int) (ty := .int) (N := 5) ac_int rfl rfl (by decide +kernel) (by decide +kernel) (by decide +kernel) (Nat.le_of_ble_eq_true rfl) (Nat.le_of_ble_eq_true rfl) hz11 dX2_init_53 ?_
  rw [m_ap_1 hn (n := 8) rfl, m_ap_al]
  have hq := hz11.al (t := .inr (.int, false, 5)); rw [m_ap_al] at hq
  have hz12 := hq
  refine m_putr f_X2_38 rfl (Or.inr ⟨rfl, _, _, _, rfl, rfl⟩) dX2_init_55 (m_ap_lt hT (by omega)) ?_
  have hz13 : m_Zr (m_ap Th ([] ++ [.inl 4] ++ ks_4 ++ [.inr (.object RX8, false, 5)] ++ [.inr (.int, false, 5)] ++ [.inr (.int, false, 6)] ++ [.inr (.int, false, 6)] ++ [.inr (.int, false, 5)])) (m_ur (m_ur (m_ur (m_ur (m_ur (m_ur (mk_4 (m_ui M a 2 2) (a + 1)) a 5 (some (a + 1))) a 6 (some (a + 5))) a 7 (some (a + 6))) a 8 (some (a + 7))) a 9 (some (a + 8))) a 10 (some (a + 9))) := hz12.ur (by rw [m_ap_1 hn (n := 9) rfl]; omega)
  refine m_aload_n dX2_init_58 rfl 0 rfl ?_
  refine m_iconst (v := 5) dX2_init_59 (by decide) ?_
  refine m_newa (atype := .int) (ty := .int) (N := 5) ac_int rfl rfl (by decide +kernel) (by decide +kernel) (by decide +kernel) (Nat.le_of_ble_eq_true rfl) (Nat.le_of_ble_eq_true rfl) hz13 dX2_init_60 ?_
  rw [m_ap_1 hn (n := 9) rfl, m_ap_al]
  have hq := hz13.al (t := .inr (.int, false, 5)); rw [m_ap_al] at hq
  have hz14 := hq
  refine m_putr f_X2_41 rfl (Or.inr ⟨rfl, _, _, _, rfl, rfl⟩) dX2_init_62 (m_ap_lt hT (by omega)) ?_
  have hz15 : m_Zr (m_ap Th ([] ++ [.inl 4] ++ ks_4 ++ [.inr (.object RX8, false, 5)] ++ [.inr (.int, false, 5)] ++ [.inr (.int, false, 6)] ++ [.inr (.int, false, 6)] ++ [.inr (.int, false, 5)] ++ [.inr (.int, false, 5)])) (m_ur (m_ur (m_ur (m_ur (m_ur (m_ur (m_ur (mk_4 (m_ui M a 2 2) (a + 1)) a 5 (some (a + 1))) a 6 (some (a + 5))) a 7 (some (a + 6))) a 8 (some (a + 7))) a 9 (some (a + 8))) a 10 (some (a + 9))) a 11 (some (a + 10))) := hz14.ur (by rw [m_ap_1 hn (n := 10) rfl]; omega)
  refine m_aload_n dX2_init_65 rfl 0 rfl ?_
  refine m_iconst (v := 5) dX2_init_66 (by decide) ?_
  refine m_newa (atype := .int) (ty := .int) (N := 5) ac_int rfl rfl (by decide +kernel) (by decide +kernel) (by decide +kernel) (Nat.le_of_ble_eq_true rfl) (Nat.le_of_ble_eq_true rfl) hz15 dX2_init_67 ?_
  rw [m_ap_1 hn (n := 10) rfl, m_ap_al]
  have hq := hz15.al (t := .inr (.int, false, 5)); rw [m_ap_al] at hq
  have hz16 := hq
  refine m_putr f_X2_44 rfl (Or.inr ⟨rfl, _, _, _, rfl, rfl⟩) dX2_init_69 (m_ap_lt hT (by omega)) ?_
  have hz17 : m_Zr (m_ap Th ([] ++ [.inl 4] ++ ks_4 ++ [.inr (.object RX8, false, 5)] ++ [.inr (.int, false, 5)] ++ [.inr (.int, false, 6)] ++ [.inr (.int, false, 6)] ++ [.inr (.int, false, 5)] ++ [.inr (.int, false, 5)] ++ [.inr (.int, false, 5)])) (m_ur (m_ur (m_ur (m_ur (m_ur (m_ur (m_ur (m_ur (mk_4 (m_ui M a 2 2) (a + 1)) a 5 (some (a + 1))) a 6 (some (a + 5))) a 7 (some (a + 6))) a 8 (some (a + 7))) a 9 (some (a + 8))) a 10 (some (a + 9))) a 11 (some (a + 10))) a 12 (some (a + 11))) := hz16.ur (by rw [m_ap_1 hn (n := 11) rfl]; omega)
  refine m_iconst (v := 0) dX2_init_72 (by decide) ?_
  refine m_istore_n (lv' := [(1, .int 0), (0, .ref a)]) dX2_init_73 rfl (by decide) rfl ?_
  refine m_iload_n dX2_init_74 rfl 0 rfl ?_
  refine m_aload_n dX2_init_75 rfl 1 rfl ?_
  refine m_getr (r := (a + 5)) f_X2_24 rfl dX2_init_76 (m_ap_lt hT (by omega)) (by simp [Nat.add_assoc, m_u, m_gM, mk_9, mk_8, mk_4, mk_7, mk_0, mk_6, mk_5]) ?_
  refine m_alen (n := 5) dX2_init_79 (m_ap_at 4 (by rfl) (by omega)) ?_
  refine m_icmp_ge (tgt := 102) dX2_init_80 (by decide) (fun c1 => ?_) (fun c1 => ?_)
  · exact absurd c1 (by decide)
  refine m_aload_n dX2_init_83 rfl 1 rfl ?_
  refine m_getr (r := (a + 5)) f_X2_24 rfl dX2_init_84 (m_ap_lt hT (by omega)) (by simp [Nat.add_assoc, m_u, m_gM, mk_9, mk_8, mk_4, mk_7, mk_0, mk_6, mk_5]) ?_
  refine m_iload_n dX2_init_87 rfl 0 rfl ?_
  refine m_new (c := 8) rfl u_X8 tyX8_ok zt_X8 cl_X2_22 in_X8 ini_X8 (Nat.le_of_ble_eq_true rfl) (Nat.le_of_ble_eq_true rfl) hz17 dX2_init_88 ?_
  rw [m_ap_1 hn (n := 11) rfl, m_ap_al]
  have hq := hz17.al (t := .inl 8); rw [m_ap_al] at hq
  have hz18 := hq
  refine m_dup dX2_init_91 rfl ?_
  refine m_invIN (As := []) (d' := d + 1) (mc' := 3) (ms' := 65) (rest := [.ref (a + 12), .int 0, .ref (a + 5)]) i_8_init v_8_init rfl l_X2_47 dX2_init_92 rfl rfl (Nat.le_of_ble_eq_true rfl) (by omega) ⟨Nat.le_of_ble_eq_true rfl, Nat.le_of_ble_eq_true rfl⟩ (c_8_init (m_ap_1 (a := a) (n := 12) hn rfl) (m_ap_at 11 (by rfl) (by omega)) hz18 (fun hzz => ?_))
  rw [m_ap_ap] at hzz ⊢
  show m_W (d + 2) 31 801 yX2_init cX2_init 2 none Q 95 [(1, .int 0), (0, .ref a)] [.ref (a + 12), .int 0, .ref (a + 5)] (m_ap Th ([] ++ [.inl 4] ++ ks_4 ++ [.inr (.object RX8, false, 5)] ++ [.inr (.int, false, 5)] ++ [.inr (.int, false, 6)] ++ [.inr (.int, false, 6)] ++ [.inr (.int, false, 5)] ++ [.inr (.int, false, 5)] ++ [.inr (.int, false, 5)] ++ [.inl 8] ++ ks_8)) (mk_8 (m_ur (m_ur (m_ur (m_ur (m_ur (m_ur (m_ur (m_ur (mk_4 (m_ui M a 2 2) (a + 1)) a 5 (some (a + 1))) a 6 (some (a + 5))) a 7 (some (a + 6))) a 8 (some (a + 7))) a 9 (some (a + 8))) a 10 (some (a + 9))) a 11 (some (a + 10))) a 12 (some (a + 11))) (a + 12)) 15 525
  refine m_aast (i0 := 0) (ci := 8) (r := (RX8, TX8, 4)) rfl dX2_init_95 ⟨5, m_ap_at 4 (by rfl) (by omega), by unfold vp_in; decide⟩ (m_ap_at 11 (by rfl) (by omega)) ?_
  rw [show Int32.toNatClampNeg 0 = 0 from rfl]
  have hz19 : m_Zr (m_ap Th ([] ++ [.inl 4] ++ ks_4 ++ [.inr (.object RX8, false, 5)] ++ [.inr (.int, false, 5)] ++ [.inr (.int, false, 6)] ++ [.inr (.int, false, 6)] ++ [.inr (.int, false, 5)] ++ [.inr (.int, false, 5)] ++ [.inr (.int, false, 5)] ++ [.inl 8] ++ ks_8)) (m_ur (mk_8 (m_ur (m_ur (m_ur (m_ur (m_ur (m_ur (m_ur (m_ur (mk_4 (m_ui M a 2 2) (a + 1)) a 5 (some (a + 1))) a 6 (some (a + 5))) a 7 (some (a + 6))) a 8 (some (a + 7))) a 9 (some (a + 8))) a 10 (some (a + 9))) a 11 (some (a + 10))) a 12 (some (a + 11))) (a + 12)) (a + 5) 0 (some (a + 12))) := hzz.ur (by rw [m_ap_1 hn (n := 15) rfl]; omega)
  refine m_iinc (v := 1) (lv' := [(1, .int 1), (0, .ref a)]) dX2_init_96 0 rfl (by decide) (by decide) rfl ?_
  refine m_goto (tgt := 74) dX2_init_99 (by decide) ?_
  refine m_iload_n dX2_init_74 rfl 0 rfl ?_
  refine m_aload_n dX2_init_75 rfl 1 rfl ?_
  refine m_getr (r := (a + 5)) f_X2_24 rfl dX2_init_76 (m_ap_lt hT (by omega)) (by simp [Nat.add_assoc, m_u, m_gM, mk_9, mk_8, mk_4, mk_7, mk_0, mk_6, mk_5]) ?_
  refine m_alen (n := 5) dX2_init_79 (m_ap_at 4 (by rfl) (by omega)) ?_
  refine m_icmp_ge (tgt := 102) dX2_init_80 (by decide) (fun c1 => ?_) (fun c1 => ?_)
  · exact absurd c1 (by decide)
  refine m_aload_n dX2_init_83 rfl 1 rfl ?_
  refine m_getr (r := (a + 5)) f_X2_24 rfl dX2_init_84 (m_ap_lt hT (by omega)) (by simp [Nat.add_assoc, m_u, m_gM, mk_9, mk_8, mk_4, mk_7, mk_0, mk_6, mk_5]) ?_
  refine m_iload_n dX2_init_87 rfl 0 rfl ?_
  refine m_new (c := 8) rfl u_X8 tyX8_ok zt_X8 cl_X2_22 in_X8 ini_X8 (Nat.le_of_ble_eq_true rfl) (Nat.le_of_ble_eq_true rfl) hz19 dX2_init_88 ?_
  rw [m_ap_1 hn (n := 15) rfl, m_ap_al]
  have hq := hz19.al (t := .inl 8); rw [m_ap_al] at hq
  have hz20 := hq
  refine m_dup dX2_init_91 rfl ?_
  refine m_invIN (As := []) (d' := d + 1) (mc' := 3) (ms' := 65) (rest := [.ref (a + 16), .int 1, .ref (a + 5)]) i_8_init v_8_init rfl l_X2_47 dX2_init_92 rfl rfl (Nat.le_of_ble_eq_true rfl) (by omega) ⟨Nat.le_of_ble_eq_true rfl, Nat.le_of_ble_eq_true rfl⟩ (c_8_init (m_ap_1 (a := a) (n := 16) hn rfl) (m_ap_at 15 (by rfl) (by omega)) hz20 (fun hzz => ?_))
  rw [m_ap_ap] at hzz ⊢
  show m_W (d + 2) 31 801 yX2_init cX2_init 2 none Q 95 [(1, .int 1), (0, .ref a)] [.ref (a + 16), .int 1, .ref (a + 5)] (m_ap Th ([] ++ [.inl 4] ++ ks_4 ++ [.inr (.object RX8, false, 5)] ++ [.inr (.int, false, 5)] ++ [.inr (.int, false, 6)] ++ [.inr (.int, false, 6)] ++ [.inr (.int, false, 5)] ++ [.inr (.int, false, 5)] ++ [.inr (.int, false, 5)] ++ [.inl 8] ++ ks_8 ++ [.inl 8] ++ ks_8)) (mk_8 (m_ur (mk_8 (m_ur (m_ur (m_ur (m_ur (m_ur (m_ur (m_ur (m_ur (mk_4 (m_ui M a 2 2) (a + 1)) a 5 (some (a + 1))) a 6 (some (a + 5))) a 7 (some (a + 6))) a 8 (some (a + 7))) a 9 (some (a + 8))) a 10 (some (a + 9))) a 11 (some (a + 10))) a 12 (some (a + 11))) (a + 12)) (a + 5) 0 (some (a + 12))) (a + 16)) 19 594
  refine m_aast (i0 := 0) (ci := 8) (r := (RX8, TX8, 4)) rfl dX2_init_95 ⟨5, m_ap_at 4 (by rfl) (by omega), by unfold vp_in; decide⟩ (m_ap_at 15 (by rfl) (by omega)) ?_
  rw [show Int32.toNatClampNeg 1 = 1 from rfl]
  have hz21 : m_Zr (m_ap Th ([] ++ [.inl 4] ++ ks_4 ++ [.inr (.object RX8, false, 5)] ++ [.inr (.int, false, 5)] ++ [.inr (.int, false, 6)] ++ [.inr (.int, false, 6)] ++ [.inr (.int, false, 5)] ++ [.inr (.int, false, 5)] ++ [.inr (.int, false, 5)] ++ [.inl 8] ++ ks_8 ++ [.inl 8] ++ ks_8)) (m_ur (mk_8 (m_ur (mk_8 (m_ur (m_ur (m_ur (m_ur (m_ur (m_ur (m_ur (m_ur (mk_4 (m_ui M a 2 2) (a + 1)) a 5 (some (a + 1))) a 6 (some (a + 5))) a 7 (some (a + 6))) a 8 (some (a + 7))) a 9 (some (a + 8))) a 10 (some (a + 9))) a 11 (some (a + 10))) a 12 (some (a + 11))) (a + 12)) (a + 5) 0 (some (a + 12))) (a + 16)) (a + 5) 1 (some (a + 16))) := hzz.ur (by rw [m_ap_1 hn (n := 19) rfl]; omega)
  refine m_iinc (v := 2) (lv' := [(1, .int 2), (0, .ref a)]) dX2_init_96 0 rfl (by decide) (by decide) rfl ?_
  refine m_goto (tgt := 74) dX2_init_99 (by decide) ?_
  refine m_iload_n dX2_init_74 rfl 0 rfl ?_
  refine m_aload_n dX2_init_75 rfl 1 rfl ?_
  refine m_getr (r := (a + 5)) f_X2_24 rfl dX2_init_76 (m_ap_lt hT (by omega)) (by simp [Nat.add_assoc, m_u, m_gM, mk_9, mk_8, mk_4, mk_7, mk_0, mk_6, mk_5]) ?_
  refine m_alen (n := 5) dX2_init_79 (m_ap_at 4 (by rfl) (by omega)) ?_
  refine m_icmp_ge (tgt := 102) dX2_init_80 (by decide) (fun c1 => ?_) (fun c1 => ?_)
  · exact absurd c1 (by decide)
  refine m_aload_n dX2_init_83 rfl 1 rfl ?_
  refine m_getr (r := (a + 5)) f_X2_24 rfl dX2_init_84 (m_ap_lt hT (by omega)) (by simp [Nat.add_assoc, m_u, m_gM, mk_9, mk_8, mk_4, mk_7, mk_0, mk_6, mk_5]) ?_
  refine m_iload_n dX2_init_87 rfl 0 rfl ?_
  refine m_new (c := 8) rfl u_X8 tyX8_ok zt_X8 cl_X2_22 in_X8 ini_X8 (Nat.le_of_ble_eq_true rfl) (Nat.le_of_ble_eq_true rfl) hz21 dX2_init_88 ?_
  rw [m_ap_1 hn (n := 19) rfl, m_ap_al]
  have hq := hz21.al (t := .inl 8); rw [m_ap_al] at hq
  have hz22 := hq
  refine m_dup dX2_init_91 rfl ?_
  refine m_invIN (As := []) (d' := d + 1) (mc' := 3) (ms' := 65) (rest := [.ref (a + 20), .int 2, .ref (a + 5)]) i_8_init v_8_init rfl l_X2_47 dX2_init_92 rfl rfl (Nat.le_of_ble_eq_true rfl) (by omega) ⟨Nat.le_of_ble_eq_true rfl, Nat.le_of_ble_eq_true rfl⟩ (c_8_init (m_ap_1 (a := a) (n := 20) hn rfl) (m_ap_at 19 (by rfl) (by omega)) hz22 (fun hzz => ?_))
  rw [m_ap_ap] at hzz ⊢
  show m_W (d + 2) 31 801 yX2_init cX2_init 2 none Q 95 [(1, .int 2), (0, .ref a)] [.ref (a + 20), .int 2, .ref (a + 5)] (m_ap Th ([] ++ [.inl 4] ++ ks_4 ++ [.inr (.object RX8, false, 5)] ++ [.inr (.int, false, 5)] ++ [.inr (.int, false, 6)] ++ [.inr (.int, false, 6)] ++ [.inr (.int, false, 5)] ++ [.inr (.int, false, 5)] ++ [.inr (.int, false, 5)] ++ [.inl 8] ++ ks_8 ++ [.inl 8] ++ ks_8 ++ [.inl 8] ++ ks_8)) (mk_8 (m_ur (mk_8 (m_ur (mk_8 (m_ur (m_ur (m_ur (m_ur (m_ur (m_ur (m_ur (m_ur (mk_4 (m_ui M a 2 2) (a + 1)) a 5 (some (a + 1))) a 6 (some (a + 5))) a 7 (some (a + 6))) a 8 (some (a + 7))) a 9 (some (a + 8))) a 10 (some (a + 9))) a 11 (some (a + 10))) a 12 (some (a + 11))) (a + 12)) (a + 5) 0 (some (a + 12))) (a + 16)) (a + 5) 1 (some (a + 16))) (a + 20)) 23 663
  refine m_aast (i0 := 0) (ci := 8) (r := (RX8, TX8, 4)) rfl dX2_init_95 ⟨5, m_ap_at 4 (by rfl) (by omega), by unfold vp_in; decide⟩ (m_ap_at 19 (by rfl) (by omega)) ?_
  rw [show Int32.toNatClampNeg 2 = 2 from rfl]
  have hz23 : m_Zr (m_ap Th ([] ++ [.inl 4] ++ ks_4 ++ [.inr (.object RX8, false, 5)] ++ [.inr (.int, false, 5)] ++ [.inr (.int, false, 6)] ++ [.inr (.int, false, 6)] ++ [.inr (.int, false, 5)] ++ [.inr (.int, false, 5)] ++ [.inr (.int, false, 5)] ++ [.inl 8] ++ ks_8 ++ [.inl 8] ++ ks_8 ++ [.inl 8] ++ ks_8)) (m_ur (mk_8 (m_ur (mk_8 (m_ur (mk_8 (m_ur (m_ur (m_ur (m_ur (m_ur (m_ur (m_ur (m_ur (mk_4 (m_ui M a 2 2) (a + 1)) a 5 (some (a + 1))) a 6 (some (a + 5))) a 7 (some (a + 6))) a 8 (some (a + 7))) a 9 (some (a + 8))) a 10 (some (a + 9))) a 11 (some (a + 10))) a 12 (some (a + 11))) (a + 12)) (a + 5) 0 (some (a + 12))) (a + 16)) (a + 5) 1 (some (a + 16))) (a + 20)) (a + 5) 2 (some (a + 20))) := hzz.ur (by rw [m_ap_1 hn (n := 23) rfl]; omega)
  refine m_iinc (v := 3) (lv' := [(1, .int 3), (0, .ref a)]) dX2_init_96 0 rfl (by decide) (by decide) rfl ?_
  refine m_goto (tgt := 74) dX2_init_99 (by decide) ?_
  refine m_iload_n dX2_init_74 rfl 0 rfl ?_
  refine m_aload_n dX2_init_75 rfl 1 rfl ?_
  refine m_getr (r := (a + 5)) f_X2_24 rfl dX2_init_76 (m_ap_lt hT (by omega)) (by simp [Nat.add_assoc, m_u, m_gM, mk_9, mk_8, mk_4, mk_7, mk_0, mk_6, mk_5]) ?_
  refine m_alen (n := 5) dX2_init_79 (m_ap_at 4 (by rfl) (by omega)) ?_
  refine m_icmp_ge (tgt := 102) dX2_init_80 (by decide) (fun c1 => ?_) (fun c1 => ?_)
  · exact absurd c1 (by decide)
  refine m_aload_n dX2_init_83 rfl 1 rfl ?_
  refine m_getr (r := (a + 5)) f_X2_24 rfl dX2_init_84 (m_ap_lt hT (by omega)) (by simp [Nat.add_assoc, m_u, m_gM, mk_9, mk_8, mk_4, mk_7, mk_0, mk_6, mk_5]) ?_
  refine m_iload_n dX2_init_87 rfl 0 rfl ?_
  refine m_new (c := 8) rfl u_X8 tyX8_ok zt_X8 cl_X2_22 in_X8 ini_X8 (Nat.le_of_ble_eq_true rfl) (Nat.le_of_ble_eq_true rfl) hz23 dX2_init_88 ?_
  rw [m_ap_1 hn (n := 23) rfl, m_ap_al]
  have hq := hz23.al (t := .inl 8); rw [m_ap_al] at hq
  have hz24 := hq
  refine m_dup dX2_init_91 rfl ?_
  refine m_invIN (As := []) (d' := d + 1) (mc' := 3) (ms' := 65) (rest := [.ref (a + 24), .int 3, .ref (a + 5)]) i_8_init v_8_init rfl l_X2_47 dX2_init_92 rfl rfl (Nat.le_of_ble_eq_true rfl) (by omega) ⟨Nat.le_of_ble_eq_true rfl, Nat.le_of_ble_eq_true rfl⟩ (c_8_init (m_ap_1 (a := a) (n := 24) hn rfl) (m_ap_at 23 (by rfl) (by omega)) hz24 (fun hzz => ?_))
  rw [m_ap_ap] at hzz ⊢
  show m_W (d + 2) 31 801 yX2_init cX2_init 2 none Q 95 [(1, .int 3), (0, .ref a)] [.ref (a + 24), .int 3, .ref (a + 5)] (m_ap Th ([] ++ [.inl 4] ++ ks_4 ++ [.inr (.object RX8, false, 5)] ++ [.inr (.int, false, 5)] ++ [.inr (.int, false, 6)] ++ [.inr (.int, false, 6)] ++ [.inr (.int, false, 5)] ++ [.inr (.int, false, 5)] ++ [.inr (.int, false, 5)] ++ [.inl 8] ++ ks_8 ++ [.inl 8] ++ ks_8 ++ [.inl 8] ++ ks_8 ++ [.inl 8] ++ ks_8)) (mk_8 (m_ur (mk_8 (m_ur (mk_8 (m_ur (mk_8 (m_ur (m_ur (m_ur (m_ur (m_ur (m_ur (m_ur (m_ur (mk_4 (m_ui M a 2 2) (a + 1)) a 5 (some (a + 1))) a 6 (some (a + 5))) a 7 (some (a + 6))) a 8 (some (a + 7))) a 9 (some (a + 8))) a 10 (some (a + 9))) a 11 (some (a + 10))) a 12 (some (a + 11))) (a + 12)) (a + 5) 0 (some (a + 12))) (a + 16)) (a + 5) 1 (some (a + 16))) (a + 20)) (a + 5) 2 (some (a + 20))) (a + 24)) 27 732
  refine m_aast (i0 := 0) (ci := 8) (r := (RX8, TX8, 4)) rfl dX2_init_95 ⟨5, m_ap_at 4 (by rfl) (by omega), by unfold vp_in; decide⟩ (m_ap_at 23 (by rfl) (by omega)) ?_
  rw [show Int32.toNatClampNeg 3 = 3 from rfl]
  have hz25 : m_Zr (m_ap Th ([] ++ [.inl 4] ++ ks_4 ++ [.inr (.object RX8, false, 5)] ++ [.inr (.int, false, 5)] ++ [.inr (.int, false, 6)] ++ [.inr (.int, false, 6)] ++ [.inr (.int, false, 5)] ++ [.inr (.int, false, 5)] ++ [.inr (.int, false, 5)] ++ [.inl 8] ++ ks_8 ++ [.inl 8] ++ ks_8 ++ [.inl 8] ++ ks_8 ++ [.inl 8] ++ ks_8)) (m_ur (mk_8 (m_ur (mk_8 (m_ur (mk_8 (m_ur (mk_8 (m_ur (m_ur (m_ur (m_ur (m_ur (m_ur (m_ur (m_ur (mk_4 (m_ui M a 2 2) (a + 1)) a 5 (some (a + 1))) a 6 (some (a + 5))) a 7 (some (a + 6))) a 8 (some (a + 7))) a 9 (some (a + 8))) a 10 (some (a + 9))) a 11 (some (a + 10))) a 12 (some (a + 11))) (a + 12)) (a + 5) 0 (some (a + 12))) (a + 16)) (a + 5) 1 (some (a + 16))) (a + 20)) (a + 5) 2 (some (a + 20))) (a + 24)) (a + 5) 3 (some (a + 24))) := hzz.ur (by rw [m_ap_1 hn (n := 27) rfl]; omega)
  refine m_iinc (v := 4) (lv' := [(1, .int 4), (0, .ref a)]) dX2_init_96 0 rfl (by decide) (by decide) rfl ?_
  refine m_goto (tgt := 74) dX2_init_99 (by decide) ?_
  refine m_iload_n dX2_init_74 rfl 0 rfl ?_
  refine m_aload_n dX2_init_75 rfl 1 rfl ?_
  refine m_getr (r := (a + 5)) f_X2_24 rfl dX2_init_76 (m_ap_lt hT (by omega)) (by simp [Nat.add_assoc, m_u, m_gM, mk_9, mk_8, mk_4, mk_7, mk_0, mk_6, mk_5]) ?_
  refine m_alen (n := 5) dX2_init_79 (m_ap_at 4 (by rfl) (by omega)) ?_
  refine m_icmp_ge (tgt := 102) dX2_init_80 (by decide) (fun c1 => ?_) (fun c1 => ?_)
  · exact absurd c1 (by decide)
  refine m_aload_n dX2_init_83 rfl 1 rfl ?_
  refine m_getr (r := (a + 5)) f_X2_24 rfl dX2_init_84 (m_ap_lt hT (by omega)) (by simp [Nat.add_assoc, m_u, m_gM, mk_9, mk_8, mk_4, mk_7, mk_0, mk_6, mk_5]) ?_
  refine m_iload_n dX2_init_87 rfl 0 rfl ?_
  refine m_new (c := 8) rfl u_X8 tyX8_ok zt_X8 cl_X2_22 in_X8 ini_X8 (Nat.le_of_ble_eq_true rfl) (Nat.le_of_ble_eq_true rfl) hz25 dX2_init_88 ?_
  rw [m_ap_1 hn (n := 27) rfl, m_ap_al]
  have hq := hz25.al (t := .inl 8); rw [m_ap_al] at hq
  have hz26 := hq
  refine m_dup dX2_init_91 rfl ?_
  refine m_invIN (As := []) (d' := d + 1) (mc' := 3) (ms' := 65) (rest := [.ref (a + 28), .int 4, .ref (a + 5)]) i_8_init v_8_init rfl l_X2_47 dX2_init_92 rfl rfl (Nat.le_of_ble_eq_true rfl) (by omega) ⟨Nat.le_of_ble_eq_true rfl, Nat.le_of_ble_eq_true rfl⟩ (c_8_init (m_ap_1 (a := a) (n := 28) hn rfl) (m_ap_at 27 (by rfl) (by omega)) hz26 (fun hzz => ?_))
  rw [m_ap_ap] at hzz ⊢
  show m_W (d + 2) 31 801 yX2_init cX2_init 2 none Q 95 [(1, .int 4), (0, .ref a)] [.ref (a + 28), .int 4, .ref (a + 5)] (m_ap Th ([] ++ [.inl 4] ++ ks_4 ++ [.inr (.object RX8, false, 5)] ++ [.inr (.int, false, 5)] ++ [.inr (.int, false, 6)] ++ [.inr (.int, false, 6)] ++ [.inr (.int, false, 5)] ++ [.inr (.int, false, 5)] ++ [.inr (.int, false, 5)] ++ [.inl 8] ++ ks_8 ++ [.inl 8] ++ ks_8 ++ [.inl 8] ++ ks_8 ++ [.inl 8] ++ ks_8 ++ [.inl 8] ++ ks_8)) (mk_8 (m_ur (mk_8 (m_ur (mk_8 (m_ur (mk_8 (m_ur (mk_8 (m_ur (m_ur (m_ur (m_ur (m_ur (m_ur (m_ur (m_ur (mk_4 (m_ui M a 2 2) (a + 1)) a 5 (some (a + 1))) a 6 (some (a + 5))) a 7 (some (a + 6))) a 8 (some (a + 7))) a 9 (some (a + 8))) a 10 (some (a + 9))) a 11 (some (a + 10))) a 12 (some (a + 11))) (a + 12)) (a + 5) 0 (some (a + 12))) (a + 16)) (a + 5) 1 (some (a + 16))) (a + 20)) (a + 5) 2 (some (a + 20))) (a + 24)) (a + 5) 3 (some (a + 24))) (a + 28)) 31 801
  refine m_aast (i0 := 0) (ci := 8) (r := (RX8, TX8, 4)) rfl dX2_init_95 ⟨5, m_ap_at 4 (by rfl) (by omega), by unfold vp_in; decide⟩ (m_ap_at 27 (by rfl) (by omega)) ?_
  rw [show Int32.toNatClampNeg 4 = 4 from rfl]
  have hz27 : m_Zr (m_ap Th ([] ++ [.inl 4] ++ ks_4 ++ [.inr (.object RX8, false, 5)] ++ [.inr (.int, false, 5)] ++ [.inr (.int, false, 6)] ++ [.inr (.int, false, 6)] ++ [.inr (.int, false, 5)] ++ [.inr (.int, false, 5)] ++ [.inr (.int, false, 5)] ++ [.inl 8] ++ ks_8 ++ [.inl 8] ++ ks_8 ++ [.inl 8] ++ ks_8 ++ [.inl 8] ++ ks_8 ++ [.inl 8] ++ ks_8)) (m_ur (mk_8 (m_ur (mk_8 (m_ur (mk_8 (m_ur (mk_8 (m_ur (mk_8 (m_ur (m_ur (m_ur (m_ur (m_ur (m_ur (m_ur (m_ur (mk_4 (m_ui M a 2 2) (a + 1)) a 5 (some (a + 1))) a 6 (some (a + 5))) a 7 (some (a + 6))) a 8 (some (a + 7))) a 9 (some (a + 8))) a 10 (some (a + 9))) a 11 (some (a + 10))) a 12 (some (a + 11))) (a + 12)) (a + 5) 0 (some (a + 12))) (a + 16)) (a + 5) 1 (some (a + 16))) (a + 20)) (a + 5) 2 (some (a + 20))) (a + 24)) (a + 5) 3 (some (a + 24))) (a + 28)) (a + 5) 4 (some (a + 28))) := hzz.ur (by rw [m_ap_1 hn (n := 31) rfl]; omega)
  refine m_iinc (v := 5) (lv' := [(1, .int 5), (0, .ref a)]) dX2_init_96 0 rfl (by decide) (by decide) rfl ?_
  refine m_goto (tgt := 74) dX2_init_99 (by decide) ?_
  refine m_iload_n dX2_init_74 rfl 0 rfl ?_
  refine m_aload_n dX2_init_75 rfl 1 rfl ?_
  refine m_getr (r := (a + 5)) f_X2_24 rfl dX2_init_76 (m_ap_lt hT (by omega)) (by simp [Nat.add_assoc, m_u, m_gM, mk_9, mk_8, mk_4, mk_7, mk_0, mk_6, mk_5]) ?_
  refine m_alen (n := 5) dX2_init_79 (m_ap_at 4 (by rfl) (by omega)) ?_
  refine m_icmp_ge (tgt := 102) dX2_init_80 (by decide) (fun c1 => ?_) (fun c1 => ?_)
  rotate_left
  · exact absurd (by decide) c1
  exact m_return dX2_init_102 rfl (h hz27)
def ks_1 : List mK := [] ++ [.inr (.long, false, 94500)] ++ [.inl 8] ++ ks_8
def mk_1 (M : mM) (a p1 : Nat) : mM := m_ur (m_ur (mk_8 (m_ur (m_ui (m_ui (m_ur M a 3 (some (a + 1))) a 4 (-1)) a 5 (-1)) a 0 (some p1)) (a + 2)) a 1 (some (a + 2))) a 2 (some (a + 2))
set_option maxHeartbeats 4000000 in
set_option maxRecDepth 100000 in
theorem c_1_init {d : Nat} {Th : mT} {M : mM} {a : Nat} {p1 : Nat} {Q : mQ} (hn : Th.1 = a + 1) (hT : Th.2.2 a = some (.inl 1)) (hz : m_Zr Th M) (h : m_Zr (m_ap Th ks_1) (mk_1 M a p1) → Q none (m_ap Th ks_1) (mk_1 M a p1)) : m_C (d + 2) 5 94569 yX1_init cX1_init 2 none [.ref a, .ref p1] Th M Q := by
  refine m_C.of (by decide +kernel) (Nat.le_of_ble_eq_true rfl) ?_
  show m_W (d + 2) 5 94569 yX1_init cX1_init 2 none Q 0 [(0, .ref a), (1, .ref p1)] [] Th M 0 0
  refine m_aload_n dX1_init_0 rfl 0 rfl ?_
  refine m_obj l_X1_5 (Nat.le_of_ble_eq_true rfl) (Nat.le_add_left _ _) dX1_init_1 ?_
  rw [← m_ap_nil Th]
  have hz0 : m_Zr (m_ap Th []) M := by rw [m_ap_nil]; exact hz
  refine m_aload_n dX1_init_4 rfl 0 rfl ?_
  refine m_ldc k_X1_11 dX1_init_5 ?_
  refine m_newa (atype := .long) (ty := .long) (N := 94500) ac_long rfl rfl (by decide +kernel) (by decide +kernel) (by decide +kernel) (Nat.le_of_ble_eq_true rfl) (Nat.le_of_ble_eq_true rfl) hz0 dX1_init_7 ?_
  rw [m_ap_1 hn (n := 0) rfl, m_ap_al]
  have hq := hz0.al (t := .inr (.long, false, 94500)); rw [m_ap_al] at hq
  have hz1 := hq
  refine m_putr f_X1_12 rfl (Or.inr ⟨rfl, _, _, _, rfl, rfl⟩) dX1_init_9 (m_ap_lt hT (by omega)) ?_
  have hz2 : m_Zr (m_ap Th ([] ++ [.inr (.long, false, 94500)])) (m_ur M a 3 (some (a + 1))) := hz1.ur (by rw [m_ap_1 hn (n := 1) rfl]; omega)
  refine m_aload_n dX1_init_12 rfl 0 rfl ?_
  refine m_iconst (v := (-1)) dX1_init_13 (by decide) ?_
  refine m_puti f_X1_16 rfl (Or.inl rfl) dX1_init_14 (m_ap_lt hT (by omega)) ⟨rfl, rfl⟩ ?_
  have hz3 : m_Zr (m_ap Th ([] ++ [.inr (.long, false, 94500)])) (m_ui (m_ur M a 3 (some (a + 1))) a 4 (-1)) := hz2.ui (by rw [m_ap_1 hn (n := 1) rfl]; omega)
  refine m_aload_n dX1_init_17 rfl 0 rfl ?_
  refine m_iconst (v := (-1)) dX1_init_18 (by decide) ?_
  refine m_puti f_X1_20 rfl (Or.inl rfl) dX1_init_19 (m_ap_lt hT (by omega)) ⟨rfl, rfl⟩ ?_
  have hz4 : m_Zr (m_ap Th ([] ++ [.inr (.long, false, 94500)])) (m_ui (m_ui (m_ur M a 3 (some (a + 1))) a 4 (-1)) a 5 (-1)) := hz3.ui (by rw [m_ap_1 hn (n := 1) rfl]; omega)
  refine m_aload_n dX1_init_22 rfl 0 rfl ?_
  refine m_aload_n dX1_init_23 rfl 1 rfl ?_
  refine m_putr f_X1_23 rfl (Or.inr ⟨rfl, _, _, _, rfl, rfl⟩) dX1_init_24 (m_ap_lt hT (by omega)) ?_
  have hz5 : m_Zr (m_ap Th ([] ++ [.inr (.long, false, 94500)])) (m_ur (m_ui (m_ui (m_ur M a 3 (some (a + 1))) a 4 (-1)) a 5 (-1)) a 0 (some p1)) := hz4.ur (by rw [m_ap_1 hn (n := 1) rfl]; omega)
  refine m_aload_n dX1_init_27 rfl 0 rfl ?_
  refine m_new (c := 8) rfl u_X8 tyX8_ok zt_X8 cl_X1_27 in_X8 ini_X8 (Nat.le_of_ble_eq_true rfl) (Nat.le_of_ble_eq_true rfl) hz5 dX1_init_28 ?_
  rw [m_ap_1 hn (n := 1) rfl, m_ap_al]
  have hq := hz5.al (t := .inl 8); rw [m_ap_al] at hq
  have hz6 := hq
  refine m_dup dX1_init_31 rfl ?_
  refine m_invIN (As := []) (d' := d + 1) (mc' := 3) (ms' := 65) (rest := [.ref (a + 2), .ref a]) i_8_init v_8_init rfl l_X1_29 dX1_init_32 rfl rfl (Nat.le_of_ble_eq_true rfl) (by omega) ⟨Nat.le_of_ble_eq_true rfl, Nat.le_of_ble_eq_true rfl⟩ (c_8_init (m_ap_1 (a := a) (n := 2) hn rfl) (m_ap_at 1 (by rfl) (by omega)) hz6 (fun hzz => ?_))
  rw [m_ap_ap] at hzz ⊢
  show m_W (d + 2) 5 94569 yX1_init cX1_init 2 none Q 35 [(0, .ref a), (1, .ref p1)] [.ref (a + 2), .ref a] (m_ap Th ([] ++ [.inr (.long, false, 94500)] ++ [.inl 8] ++ ks_8)) (mk_8 (m_ur (m_ui (m_ui (m_ur M a 3 (some (a + 1))) a 4 (-1)) a 5 (-1)) a 0 (some p1)) (a + 2)) 5 94569
  refine m_putr f_X1_30 rfl (Or.inl rfl) dX1_init_35 (m_ap_lt hT (by omega)) ?_
  have hz7 : m_Zr (m_ap Th ([] ++ [.inr (.long, false, 94500)] ++ [.inl 8] ++ ks_8)) (m_ur (mk_8 (m_ur (m_ui (m_ui (m_ur M a 3 (some (a + 1))) a 4 (-1)) a 5 (-1)) a 0 (some p1)) (a + 2)) a 1 (some (a + 2))) := hzz.ur (by rw [m_ap_1 hn (n := 5) rfl]; omega)
  refine m_aload_n dX1_init_38 rfl 0 rfl ?_
  refine m_aload_n dX1_init_39 rfl 0 rfl ?_
  refine m_getr (r := (a + 2)) f_X1_30 rfl dX1_init_40 (m_ap_lt hT (by omega)) (by simp [Nat.add_assoc, m_u, m_gM, mk_9, mk_8, mk_4, mk_7, mk_0, mk_6, mk_5, mk_2]) ?_
  refine m_putr f_X1_34 rfl (Or.inl rfl) dX1_init_43 (m_ap_lt hT (by omega)) ?_
  have hz8 : m_Zr (m_ap Th ([] ++ [.inr (.long, false, 94500)] ++ [.inl 8] ++ ks_8)) (m_ur (m_ur (mk_8 (m_ur (m_ui (m_ui (m_ur M a 3 (some (a + 1))) a 4 (-1)) a 5 (-1)) a 0 (some p1)) (a + 2)) a 1 (some (a + 2))) a 2 (some (a + 2))) := hz7.ur (by rw [m_ap_1 hn (n := 5) rfl]; omega)
  exact m_return dX1_init_46 rfl (h hz8)
def ks_3 : List mK := [] ++ [.inr (.object RX8, false, 5)] ++ [.inr (.int, false, 5)] ++ [.inr (.int, false, 5)] ++ [.inr (.int, false, 5)] ++ [.inr (.int, false, 5)]
def mk_3 (M : mM) (a p1 p2 : Nat) : mM := m_ur (m_ur (m_ui (m_ur (m_ur (m_ur (m_ur (m_ur M a 2 (some (a + 1))) a 3 (some (a + 2))) a 4 (some (a + 3))) a 5 (some (a + 4))) a 6 (some (a + 5))) a 8 1) a 0 (some p1)) a 1 (some p2)
set_option maxHeartbeats 4000000 in
set_option maxRecDepth 100000 in
theorem c_3_init {d : Nat} {Th : mT} {M : mM} {a : Nat} {p1 : Nat} {p2 : Nat} {Q : mQ} (hn : Th.1 = a + 1) (hT : Th.2.2 a = some (.inl 3)) (hz : m_Zr Th M) (h : m_Zr (m_ap Th ks_3) (mk_3 M a p1 p2) → Q none (m_ap Th ks_3) (mk_3 M a p1 p2)) : m_C (d + 1) 5 25 yX3_init cX3_init 3 none [.ref a, .ref p1, .ref p2] Th M Q := by
  refine m_C.of (by decide +kernel) (Nat.le_of_ble_eq_true rfl) ?_
  show m_W (d + 1) 5 25 yX3_init cX3_init 3 none Q 0 [(0, .ref a), (1, .ref p1), (2, .ref p2)] [] Th M 0 0
  refine m_aload_n dX3_init_0 rfl 0 rfl ?_
  refine m_obj l_X3_3 (Nat.le_of_ble_eq_true rfl) (Nat.le_add_left _ _) dX3_init_1 ?_
  rw [← m_ap_nil Th]
  have hz0 : m_Zr (m_ap Th []) M := by rw [m_ap_nil]; exact hz
  refine m_aload_n dX3_init_4 rfl 0 rfl ?_
  refine m_iconst (v := 5) dX3_init_5 (by decide) ?_
  refine m_anew (N := 5) cl_X3_9 (by decide) (by decide) (by decide) (Nat.le_of_ble_eq_true rfl) (Nat.le_of_ble_eq_true rfl) hz0 dX3_init_6 ?_
  rw [m_ap_1 hn (n := 0) rfl, m_ap_al]
  have hq := hz0.al (t := .inr (.object RX8, false, 5)); rw [m_ap_al] at hq
  have hz1 := hq
  refine m_putr f_X3_11 rfl (Or.inr ⟨rfl, _, _, _, rfl, rfl⟩) dX3_init_9 (m_ap_lt hT (by omega)) ?_
  have hz2 : m_Zr (m_ap Th ([] ++ [.inr (.object RX8, false, 5)])) (m_ur M a 2 (some (a + 1))) := hz1.ur (by rw [m_ap_1 hn (n := 1) rfl]; omega)
  refine m_aload_n dX3_init_12 rfl 0 rfl ?_
  refine m_iconst (v := 5) dX3_init_13 (by decide) ?_
  refine m_newa (atype := .int) (ty := .int) (N := 5) ac_int rfl rfl (by decide +kernel) (by decide +kernel) (by decide +kernel) (Nat.le_of_ble_eq_true rfl) (Nat.le_of_ble_eq_true rfl) hz2 dX3_init_14 ?_
  rw [m_ap_1 hn (n := 1) rfl, m_ap_al]
  have hq := hz2.al (t := .inr (.int, false, 5)); rw [m_ap_al] at hq
  have hz3 := hq
  refine m_putr f_X3_17 rfl (Or.inr ⟨rfl, _, _, _, rfl, rfl⟩) dX3_init_16 (m_ap_lt hT (by omega)) ?_
  have hz4 : m_Zr (m_ap Th ([] ++ [.inr (.object RX8, false, 5)] ++ [.inr (.int, false, 5)])) (m_ur (m_ur M a 2 (some (a + 1))) a 3 (some (a + 2))) := hz3.ur (by rw [m_ap_1 hn (n := 2) rfl]; omega)
  refine m_aload_n dX3_init_19 rfl 0 rfl ?_
  refine m_iconst (v := 5) dX3_init_20 (by decide) ?_
  refine m_newa (atype := .int) (ty := .int) (N := 5) ac_int rfl rfl (by decide +kernel) (by decide +kernel) (by decide +kernel) (Nat.le_of_ble_eq_true rfl) (Nat.le_of_ble_eq_true rfl) hz4 dX3_init_21 ?_
  rw [m_ap_1 hn (n := 2) rfl, m_ap_al]
  have hq := hz4.al (t := .inr (.int, false, 5)); rw [m_ap_al] at hq
  have hz5 := hq
  refine m_putr f_X3_21 rfl (Or.inr ⟨rfl, _, _, _, rfl, rfl⟩) dX3_init_23 (m_ap_lt hT (by omega)) ?_
  have hz6 : m_Zr (m_ap Th ([] ++ [.inr (.object RX8, false, 5)] ++ [.inr (.int, false, 5)] ++ [.inr (.int, false, 5)])) (m_ur (m_ur (m_ur M a 2 (some (a + 1))) a 3 (some (a + 2))) a 4 (some (a + 3))) := hz5.ur (by rw [m_ap_1 hn (n := 3) rfl]; omega)
  refine m_aload_n dX3_init_26 rfl 0 rfl ?_
  refine m_iconst (v := 5) dX3_init_27 (by decide) ?_
  refine m_newa (atype := .int) (ty := .int) (N := 5) ac_int rfl rfl (by decide +kernel) (by decide +kernel) (by decide +kernel) (Nat.le_of_ble_eq_true rfl) (Nat.le_of_ble_eq_true rfl) hz6 dX3_init_28 ?_
  rw [m_ap_1 hn (n := 3) rfl, m_ap_al]
  have hq := hz6.al (t := .inr (.int, false, 5)); rw [m_ap_al] at hq
  have hz7 := hq
  refine m_putr f_X3_24 rfl (Or.inr ⟨rfl, _, _, _, rfl, rfl⟩) dX3_init_30 (m_ap_lt hT (by omega)) ?_
  have hz8 : m_Zr (m_ap Th ([] ++ [.inr (.object RX8, false, 5)] ++ [.inr (.int, false, 5)] ++ [.inr (.int, false, 5)] ++ [.inr (.int, false, 5)])) (m_ur (m_ur (m_ur (m_ur M a 2 (some (a + 1))) a 3 (some (a + 2))) a 4 (some (a + 3))) a 5 (some (a + 4))) := hz7.ur (by rw [m_ap_1 hn (n := 4) rfl]; omega)
  refine m_aload_n dX3_init_33 rfl 0 rfl ?_
  refine m_iconst (v := 5) dX3_init_34 (by decide) ?_
  refine m_newa (atype := .int) (ty := .int) (N := 5) ac_int rfl rfl (by decide +kernel) (by decide +kernel) (by decide +kernel) (Nat.le_of_ble_eq_true rfl) (Nat.le_of_ble_eq_true rfl) hz8 dX3_init_35 ?_
  rw [m_ap_1 hn (n := 4) rfl, m_ap_al]
  have hq := hz8.al (t := .inr (.int, false, 5)); rw [m_ap_al] at hq
  have hz9 := hq
  refine m_putr f_X3_27 rfl (Or.inr ⟨rfl, _, _, _, rfl, rfl⟩) dX3_init_37 (m_ap_lt hT (by omega)) ?_
  have hz10 : m_Zr (m_ap Th ([] ++ [.inr (.object RX8, false, 5)] ++ [.inr (.int, false, 5)] ++ [.inr (.int, false, 5)] ++ [.inr (.int, false, 5)] ++ [.inr (.int, false, 5)])) (m_ur (m_ur (m_ur (m_ur (m_ur M a 2 (some (a + 1))) a 3 (some (a + 2))) a 4 (some (a + 3))) a 5 (some (a + 4))) a 6 (some (a + 5))) := hz9.ur (by rw [m_ap_1 hn (n := 5) rfl]; omega)
  refine m_aload_n dX3_init_40 rfl 0 rfl ?_
  refine m_iconst (v := 1) dX3_init_41 (by decide) ?_
  refine m_puti f_X3_30 rfl (Or.inl rfl) dX3_init_42 (m_ap_lt hT (by omega)) ⟨rfl, rfl⟩ ?_
  have hz11 : m_Zr (m_ap Th ([] ++ [.inr (.object RX8, false, 5)] ++ [.inr (.int, false, 5)] ++ [.inr (.int, false, 5)] ++ [.inr (.int, false, 5)] ++ [.inr (.int, false, 5)])) (m_ui (m_ur (m_ur (m_ur (m_ur (m_ur M a 2 (some (a + 1))) a 3 (some (a + 2))) a 4 (some (a + 3))) a 5 (some (a + 4))) a 6 (some (a + 5))) a 8 1) := hz10.ui (by rw [m_ap_1 hn (n := 5) rfl]; omega)
  refine m_aload_n dX3_init_45 rfl 0 rfl ?_
  refine m_aload_n dX3_init_46 rfl 1 rfl ?_
  refine m_putr f_X3_34 rfl (Or.inr ⟨rfl, _, _, _, rfl, rfl⟩) dX3_init_47 (m_ap_lt hT (by omega)) ?_
  have hz12 : m_Zr (m_ap Th ([] ++ [.inr (.object RX8, false, 5)] ++ [.inr (.int, false, 5)] ++ [.inr (.int, false, 5)] ++ [.inr (.int, false, 5)] ++ [.inr (.int, false, 5)])) (m_ur (m_ui (m_ur (m_ur (m_ur (m_ur (m_ur M a 2 (some (a + 1))) a 3 (some (a + 2))) a 4 (some (a + 3))) a 5 (some (a + 4))) a 6 (some (a + 5))) a 8 1) a 0 (some p1)) := hz11.ur (by rw [m_ap_1 hn (n := 5) rfl]; omega)
  refine m_aload_n dX3_init_50 rfl 0 rfl ?_
  refine m_aload_n dX3_init_51 rfl 2 rfl ?_
  refine m_putr f_X3_38 rfl (Or.inr ⟨rfl, _, _, _, rfl, rfl⟩) dX3_init_52 (m_ap_lt hT (by omega)) ?_
  have hz13 : m_Zr (m_ap Th ([] ++ [.inr (.object RX8, false, 5)] ++ [.inr (.int, false, 5)] ++ [.inr (.int, false, 5)] ++ [.inr (.int, false, 5)] ++ [.inr (.int, false, 5)])) (m_ur (m_ur (m_ui (m_ur (m_ur (m_ur (m_ur (m_ur M a 2 (some (a + 1))) a 3 (some (a + 2))) a 4 (some (a + 3))) a 5 (some (a + 4))) a 6 (some (a + 5))) a 8 1) a 0 (some p1)) a 1 (some p2)) := hz12.ur (by rw [m_ap_1 hn (n := 5) rfl]; omega)
  exact m_return dX3_init_55 rfl (h hz13)
