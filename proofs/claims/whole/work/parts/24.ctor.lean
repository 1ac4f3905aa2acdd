/-! ===== CONSTRUCTORS ===== -/
def m_ap (Th : mT) (ks : List mK) : mT := (Th.1 + ks.length, Th.2.1, fun q => if Th.1 ≤ q ∧ q < Th.1 + ks.length then ks[q - Th.1]? else Th.2.2 q)
theorem m_ap_nil (Th : mT) : m_ap Th [] = Th := by
  have : (fun q => if Th.1 ≤ q ∧ q < Th.1 + ([] : List mK).length then ([] : List mK)[q - Th.1]? else Th.2.2 q) = Th.2.2 := by
    funext q
    rw [if_neg (by show ¬ (_ ∧ q < Th.1 + 0); omega)]
  show (Th.1 + 0, Th.2.1, _) = _
  rw [this]
  rfl
theorem m_ap_al (Th : mT) (ks : List mK) (t : mK) : m_al (m_ap Th ks) t = m_ap Th (ks ++ [t]) := by
  show (Th.1 + ks.length + 1, Th.2.1, _) = (Th.1 + (ks ++ [t]).length, Th.2.1, _)
  rw [show Th.1 + ks.length + 1 = Th.1 + (ks ++ [t]).length by simp; omega]
  congr 2
  funext q
  show (if q = Th.1 + ks.length then some t else if Th.1 ≤ q ∧ q < Th.1 + ks.length then ks[q - Th.1]? else Th.2.2 q) = if Th.1 ≤ q ∧ q < Th.1 + (ks ++ [t]).length then (ks ++ [t])[q - Th.1]? else Th.2.2 q
  rw [show (ks ++ [t]).length = ks.length + 1 by simp]
  by_cases h : q = Th.1 + ks.length
  · rw [if_pos h, if_pos (by omega), List.getElem?_append_right (by omega), show q - Th.1 - ks.length = 0 by omega]
    rfl
  · rw [if_neg h]
    by_cases h2 : Th.1 ≤ q ∧ q < Th.1 + ks.length
    · rw [if_pos h2, if_pos (by omega), List.getElem?_append_left (by omega)]
    · rw [if_neg h2, if_neg (by omega)]
theorem m_ap_gr (Th : mT) (ks : List mK) (N K : Nat) : m_gr (m_ap Th ks) N K = m_ap Th (ks ++ (.inr (.array .long, false, N) :: List.replicate N (.inr (.long, false, K)))) := by
  have hlen : (ks ++ ((.inr (.array .long, false, N) : mK) :: List.replicate N (.inr (.long, false, K)))).length = ks.length + 1 + N := by simp; omega
  show (Th.1 + ks.length + 1 + N, Th.2.1, _) = (Th.1 + (ks ++ _).length, Th.2.1, _)
  rw [show Th.1 + ks.length + 1 + N = Th.1 + (ks ++ ((.inr (.array .long, false, N) : mK) :: List.replicate N (.inr (.long, false, K)))).length by rw [hlen]; omega]
  congr 2
  funext q
  show (if q = Th.1 + ks.length then some _ else if Th.1 + ks.length < q ∧ q < Th.1 + ks.length + 1 + N then some _ else if Th.1 ≤ q ∧ q < Th.1 + ks.length then ks[q - Th.1]? else Th.2.2 q) = if Th.1 ≤ q ∧ q < Th.1 + (ks ++ _).length then (ks ++ _)[q - Th.1]? else Th.2.2 q
  rw [hlen]
  by_cases h : q = Th.1 + ks.length
  · rw [if_pos h, if_pos (by omega), List.getElem?_append_right (by omega), show q - Th.1 - ks.length = 0 by omega]
    rfl
  · rw [if_neg h]
    by_cases h1 : Th.1 + ks.length < q ∧ q < Th.1 + ks.length + 1 + N
    · rw [if_pos h1, if_pos (by omega), List.getElem?_append_right (by omega), show q - Th.1 - ks.length = (q - Th.1 - ks.length - 1) + 1 by omega, List.getElem?_cons_succ, List.getElem?_replicate, if_pos (by omega)]
    · rw [if_neg h1]
      by_cases h2 : Th.1 ≤ q ∧ q < Th.1 + ks.length
      · rw [if_pos h2, if_pos (by omega), List.getElem?_append_left (by omega)]
      · rw [if_neg h2, if_neg (by omega)]
theorem m_ap_ap (Th : mT) (ks ls : List mK) : m_ap (m_ap Th ks) ls = m_ap Th (ks ++ ls) := by
  show (Th.1 + ks.length + ls.length, Th.2.1, _) = (Th.1 + (ks ++ ls).length, Th.2.1, _)
  rw [show Th.1 + ks.length + ls.length = Th.1 + (ks ++ ls).length by simp; omega]
  congr 2
  funext q
  show (if Th.1 + ks.length ≤ q ∧ q < Th.1 + ks.length + ls.length then ls[q - (Th.1 + ks.length)]? else if Th.1 ≤ q ∧ q < Th.1 + ks.length then ks[q - Th.1]? else Th.2.2 q) = if Th.1 ≤ q ∧ q < Th.1 + (ks ++ ls).length then (ks ++ ls)[q - Th.1]? else Th.2.2 q
  rw [show (ks ++ ls).length = ks.length + ls.length by simp]
  by_cases h : Th.1 + ks.length ≤ q ∧ q < Th.1 + ks.length + ls.length
  · rw [if_pos h, if_pos (by omega), List.getElem?_append_right (by omega), Nat.sub_sub]
  · rw [if_neg h]
    by_cases h2 : Th.1 ≤ q ∧ q < Th.1 + ks.length
    · rw [if_pos h2, if_pos (by omega), List.getElem?_append_left (by omega)]
    · rw [if_neg h2, if_neg (by omega)]
theorem m_ap_lt {Th : mT} {ks : List mK} {q : Nat} {t : mK} (h : Th.2.2 q = some t) (hq : q < Th.1) : (m_ap Th ks).2.2 q = some t := (if_neg (by omega)).trans h
theorem m_ap_at {Th : mT} {ks : List mK} {q : Nat} {t : mK} (i : Nat) (h : ks[i]? = some t) (hq : q = Th.1 + i) : (m_ap Th ks).2.2 q = some t := by
  have hi := (List.getElem?_eq_some_iff.mp h).1
  show (if Th.1 ≤ q ∧ q < Th.1 + ks.length then ks[q - Th.1]? else Th.2.2 q) = _
  rw [if_pos (by omega), show q - Th.1 = i by omega]
  exact h
theorem m_ap_let {Th : mT} {ks : List mK} (h : Th.2.2 Th.2.1 = some (.inr (.char, true, 8)) ∧ Th.2.1 < Th.1) : (m_ap Th ks).2.2 (m_ap Th ks).2.1 = some (.inr (.char, true, 8)) ∧ (m_ap Th ks).2.1 < (m_ap Th ks).1 :=
  ⟨m_ap_lt h.1 h.2, by show Th.2.1 < Th.1 + _; have := h.2; omega⟩
theorem m_ap_1 {Th : mT} {ks : List mK} {a n : Nat} (hn : Th.1 = a + 1) (hl : ks.length = n) : (m_ap Th ks).1 = a + (n + 1) := by
  show Th.1 + ks.length = _
  omega
theorem in_X10 : Cond.instantiable RX10 10 ∈ lw_ok := m_w1 15 (by decide +kernel) (by decide +kernel)
theorem ini_X10 : Cond.initialized RX10 ∈ lw_ok := m_w1 1 (by decide +kernel) (by decide +kernel)
theorem zt_X10 : ∀ k, k < 10 → m_zt (m_ty 10 k) = true := by decide
theorem in_X9 : Cond.instantiable RX9 2 ∈ lw_ok := m_w1 23 (by decide +kernel) (by decide +kernel)
theorem ini_X9 : Cond.initialized RX9 ∈ lw_ok := m_w1 2 (by decide +kernel) (by decide +kernel)
theorem zt_X9 : ∀ k, k < 2 → m_zt (m_ty 9 k) = true := by decide
theorem in_X2 : Cond.instantiable RX2 13 ∈ lw_ok := m_w1 38 (by decide +kernel) (by decide +kernel)
theorem ini_X2 : Cond.initialized RX2 ∈ lw_ok := m_w1 3 (by decide +kernel) (by decide +kernel)
theorem zt_X2 : ∀ k, k < 13 → m_zt (m_ty 2 k) = true := by decide
theorem in_X4 : Cond.instantiable RX4 11 ∈ lw_ok := m_w1 44 (by decide +kernel) (by decide +kernel)
theorem ini_X4 : Cond.initialized RX4 ∈ lw_ok := m_w1 4 (by decide +kernel) (by decide +kernel)
theorem zt_X4 : ∀ k, k < 11 → m_zt (m_ty 4 k) = true := by decide
theorem in_X8 : Cond.instantiable RX8 4 ∈ lw_ok := m_w1 88 (by decide +kernel) (by decide +kernel)
theorem ini_X8 : Cond.initialized RX8 ∈ lw_ok := m_w1 5 (by decide +kernel) (by decide +kernel)
theorem zt_X8 : ∀ k, k < 4 → m_zt (m_ty 8 k) = true := by decide
theorem in_X7 : Cond.instantiable RX7 5 ∈ lw_ok := m_w1 166 (by decide +kernel) (by decide +kernel)
theorem ini_X7 : Cond.initialized RX7 ∈ lw_ok := m_w1 6 (by decide +kernel) (by decide +kernel)
theorem zt_X7 : ∀ k, k < 5 → m_zt (m_ty 7 k) = true := by decide
theorem in_X0 : Cond.instantiable RX0 2 ∈ lw_ok := m_w1 192 (by decide +kernel) (by decide +kernel)
theorem ini_X0 : Cond.initialized RX0 ∈ lw_ok := m_w1 7 (by decide +kernel) (by decide +kernel)
theorem zt_X0 : ∀ k, k < 2 → m_zt (m_ty 0 k) = true := by decide
theorem in_X1 : Cond.instantiable RX1 9 ∈ lw_ok := m_w1 206 (by decide +kernel) (by decide +kernel)
theorem ini_X1 : Cond.initialized RX1 ∈ lw_ok := m_w1 8 (by decide +kernel) (by decide +kernel)
theorem zt_X1 : ∀ k, k < 9 → m_zt (m_ty 1 k) = true := by decide
theorem in_X6 : Cond.instantiable RX6 7 ∈ lw_ok := m_w2 3 (by decide +kernel) (by decide +kernel)
theorem ini_X6 : Cond.initialized RX6 ∈ lw_ok := m_w1 9 (by decide +kernel) (by decide +kernel)
theorem zt_X6 : ∀ k, k < 7 → m_zt (m_ty 6 k) = true := by decide
theorem in_X5 : Cond.instantiable RX5 2 ∈ lw_ok := m_w2 33 (by decide +kernel) (by decide +kernel)
theorem ini_X5 : Cond.initialized RX5 ∈ lw_ok := m_w1 10 (by decide +kernel) (by decide +kernel)
theorem zt_X5 : ∀ k, k < 2 → m_zt (m_ty 5 k) = true := by decide
theorem in_X3 : Cond.instantiable RX3 10 ∈ lw_ok := m_w2 48 (by decide +kernel) (by decide +kernel)
theorem ini_X3 : Cond.initialized RX3 ∈ lw_ok := m_w1 11 (by decide +kernel) (by decide +kernel)
theorem zt_X3 : ∀ k, k < 10 → m_zt (m_ty 3 k) = true := by decide
theorem in_X11 : Cond.instantiable RX11 67 ∈ lw_ok := m_w4 195 (by decide +kernel) (by decide +kernel)
theorem ini_X11 : Cond.initialized RX11 ∈ lw_ok := m_w1 12 (by decide +kernel) (by decide +kernel)
theorem zt_X11 : ∀ k, k < 67 → m_zt (m_ty 11 k) = true := by decide
theorem ac_int : Cond.arrayClass .int ∈ lw_ok := m_w1 36 (by decide +kernel) (by decide +kernel)
theorem ac_long : Cond.arrayClass .long ∈ lw_ok := m_w1 190 (by decide +kernel) (by decide +kernel)
theorem ac_byte : Cond.arrayClass .byte ∈ lw_ok := m_w5 163 (by decide +kernel) (by decide +kernel)
theorem ac_boolean : Cond.arrayClass .boolean ∈ lw_ok := m_w5 164 (by decide +kernel) (by decide +kernel)
theorem ac_char : Cond.arrayClass .char ∈ lw_ok := m_w7 71 (by decide +kernel) (by decide +kernel)
theorem cl_L_7 : Cond.classLink RL 7 RX10 ∈ lw_ok := m_w1 14 (by decide +kernel) (by decide +kernel)
theorem cl_X10_7 : Cond.classLink RX10 7 RX9 ∈ lw_ok := m_w1 22 (by decide +kernel) (by decide +kernel)
theorem cl_X10_16 : Cond.classLink RX10 16 RX2 ∈ lw_ok := m_w1 37 (by decide +kernel) (by decide +kernel)
theorem cl_X2_15 : Cond.classLink RX2 15 RX4 ∈ lw_ok := m_w1 43 (by decide +kernel) (by decide +kernel)
theorem cl_X2_22 : Cond.classLink RX2 22 RX8 ∈ lw_ok := m_w1 86 (by decide +kernel) (by decide +kernel)
theorem cl_X10_23 : Cond.classLink RX10 23 RX8 ∈ lw_ok := m_w1 163 (by decide +kernel) (by decide +kernel)
theorem cl_X10_30 : Cond.classLink RX10 30 RX7 ∈ lw_ok := m_w1 165 (by decide +kernel) (by decide +kernel)
theorem cl_X7_15 : Cond.classLink RX7 15 "[[J" ∈ lw_ok := m_w1 171 (by decide +kernel) (by decide +kernel)
theorem cl_X10_40 : Cond.classLink RX10 40 RX0 ∈ lw_ok := m_w1 191 (by decide +kernel) (by decide +kernel)
theorem cl_X0_9 : Cond.classLink RX0 9 "[[J" ∈ lw_ok := m_w1 197 (by decide +kernel) (by decide +kernel)
theorem cl_X10_47 : Cond.classLink RX10 47 RX1 ∈ lw_ok := m_w1 205 (by decide +kernel) (by decide +kernel)
theorem cl_X1_27 : Cond.classLink RX1 27 RX8 ∈ lw_ok := m_w1 212 (by decide +kernel) (by decide +kernel)
theorem cl_X10_56 : Cond.classLink RX10 56 RX6 ∈ lw_ok := m_w2 2 (by decide +kernel) (by decide +kernel)
theorem cl_X10_63 : Cond.classLink RX10 63 RX5 ∈ lw_ok := m_w2 32 (by decide +kernel) (by decide +kernel)
theorem cl_X10_70 : Cond.classLink RX10 70 RX3 ∈ lw_ok := m_w2 47 (by decide +kernel) (by decide +kernel)
theorem cl_X3_9 : Cond.classLink RX3 9 RX8 ∈ lw_ok := m_w2 53 (by decide +kernel) (by decide +kernel)
theorem cl_L_10 : Cond.classLink RL 10 RX11 ∈ lw_ok := m_w4 194 (by decide +kernel) (by decide +kernel)
def ks_9 : List mK := [] ++ [.inr (.int, false, 220)]
def mk_9 (M : mM) (a : Nat) : mM := m_ur M a 0 (some (a + 1))
set_option maxHeartbeats 4000000 in
set_option maxRecDepth 100000 in
theorem c_9_init {d : Nat} {Th : mT} {M : mM} {a : Nat}  {Q : mQ} (hn : Th.1 = a + 1) (hT : Th.2.2 a = some (.inl 9)) (hz : m_Zr Th M) (h : m_Zr (m_ap Th ks_9) (mk_9 M a ) → Q none (m_ap Th ks_9) (mk_9 M a )) : m_C (d + 1) 1 220 yX9_init cX9_init 1 none [.ref a] Th M Q := by
  refine m_C.of (by decide +kernel) (Nat.le_of_ble_eq_true rfl) ?_
  show m_W (d + 1) 1 220 yX9_init cX9_init 1 none Q 0 [(0, .ref a)] [] Th M 0 0
  refine m_aload_n dX9_init_0 rfl 0 rfl ?_
  refine m_obj l_X9_3 (Nat.le_of_ble_eq_true rfl) (Nat.le_add_left _ _) dX9_init_1 ?_
  rw [← m_ap_nil Th]
  have hz0 : m_Zr (m_ap Th []) M := by rw [m_ap_nil]; exact hz
  refine m_aload_n dX9_init_4 rfl 0 rfl ?_
  refine m_sipush (v := 220) dX9_init_5 (by decide) ?_
  refine m_newa (atype := .int) (ty := .int) (N := 220) ac_int rfl rfl (by decide) (by decide) (by decide) (Nat.le_of_ble_eq_true rfl) (Nat.le_of_ble_eq_true rfl) hz0 dX9_init_8 ?_
  rw [m_ap_1 hn (n := 0) rfl, m_ap_al]
  have hq := hz0.al (t := .inr (.int, false, 220)); rw [m_ap_al] at hq
  have hz1 := hq
  refine m_putr f_X9_9 rfl (Or.inr ⟨rfl, _, _, _, rfl, rfl⟩) dX9_init_10 (m_ap_lt hT (by omega)) ?_
  have hz2 : m_Zr (m_ap Th [] ++ [.inr (.int, false, 220)]) (m_ur M a 0 (some (a + 1))) := hz1.ur (by rw [m_ap_1 hn (n := 1) rfl]; omega)
  exact m_return dX9_init_13 rfl (h hz2)
def ks_8 : List mK := [] ++ [.inr (.int, false, 30)] ++ [.inr (.int, false, 30)] ++ [.inr (.int, false, 5)]
def mk_8 (M : mM) (a : Nat) : mM := m_ui (m_ur (m_ur (m_ur M a 0 (some (a + 1))) a 1 (some (a + 2))) a 2 (some (a + 3))) a 3 (-1)
set_option maxHeartbeats 4000000 in
set_option maxRecDepth 100000 in
theorem c_8_init {d : Nat} {Th : mT} {M : mM} {a : Nat}  {Q : mQ} (hn : Th.1 = a + 1) (hT : Th.2.2 a = some (.inl 8)) (hz : m_Zr Th M) (h : m_Zr (m_ap Th ks_8) (mk_8 M a ) → Q none (m_ap Th ks_8) (mk_8 M a )) : m_C (d + 1) 3 65 yX8_init cX8_init 1 none [.ref a] Th M Q := by
  refine m_C.of (by decide +kernel) (Nat.le_of_ble_eq_true rfl) ?_
  show m_W (d + 1) 3 65 yX8_init cX8_init 1 none Q 0 [(0, .ref a)] [] Th M 0 0
  refine m_aload_n dX8_init_0 rfl 0 rfl ?_
  refine m_obj l_X8_3 (Nat.le_of_ble_eq_true rfl) (Nat.le_add_left _ _) dX8_init_1 ?_
  rw [← m_ap_nil Th]
  have hz0 : m_Zr (m_ap Th []) M := by rw [m_ap_nil]; exact hz
  refine m_aload_n dX8_init_4 rfl 0 rfl ?_
  refine m_bipush (v := 30) dX8_init_5 (by decide) ?_
  refine m_newa (atype := .int) (ty := .int) (N := 30) ac_int rfl rfl (by decide) (by decide) (by decide) (Nat.le_of_ble_eq_true rfl) (Nat.le_of_ble_eq_true rfl) hz0 dX8_init_7 ?_
  rw [m_ap_1 hn (n := 0) rfl, m_ap_al]
  have hq := hz0.al (t := .inr (.int, false, 30)); rw [m_ap_al] at hq
  have hz1 := hq
  refine m_putr f_X8_9 rfl (Or.inr ⟨rfl, _, _, _, rfl, rfl⟩) dX8_init_9 (m_ap_lt hT (by omega)) ?_
  have hz2 : m_Zr (m_ap Th [] ++ [.inr (.int, false, 30)]) (m_ur M a 0 (some (a + 1))) := hz1.ur (by rw [m_ap_1 hn (n := 1) rfl]; omega)
  refine m_aload_n dX8_init_12 rfl 0 rfl ?_
  refine m_bipush (v := 30) dX8_init_13 (by decide) ?_
  refine m_newa (atype := .int) (ty := .int) (N := 30) ac_int rfl rfl (by decide) (by decide) (by decide) (Nat.le_of_ble_eq_true rfl) (Nat.le_of_ble_eq_true rfl) hz2 dX8_init_15 ?_
  rw [m_ap_1 hn (n := 1) rfl, m_ap_al]
  have hq := hz2.al (t := .inr (.int, false, 30)); rw [m_ap_al] at hq
  have hz3 := hq
  refine m_putr f_X8_15 rfl (Or.inr ⟨rfl, _, _, _, rfl, rfl⟩) dX8_init_17 (m_ap_lt hT (by omega)) ?_
  have hz4 : m_Zr (m_ap Th [] ++ [.inr (.int, false, 30)] ++ [.inr (.int, false, 30)]) (m_ur (m_ur M a 0 (some (a + 1))) a 1 (some (a + 2))) := hz3.ur (by rw [m_ap_1 hn (n := 2) rfl]; omega)
  refine m_aload_n dX8_init_20 rfl 0 rfl ?_
  refine m_iconst (v := 5) dX8_init_21 (by decide) ?_
  refine m_newa (atype := .int) (ty := .int) (N := 5) ac_int rfl rfl (by decide) (by decide) (by decide) (Nat.le_of_ble_eq_true rfl) (Nat.le_of_ble_eq_true rfl) hz4 dX8_init_22 ?_
  rw [m_ap_1 hn (n := 2) rfl, m_ap_al]
  have hq := hz4.al (t := .inr (.int, false, 5)); rw [m_ap_al] at hq
  have hz5 := hq
  refine m_putr f_X8_18 rfl (Or.inr ⟨rfl, _, _, _, rfl, rfl⟩) dX8_init_24 (m_ap_lt hT (by omega)) ?_
  have hz6 : m_Zr (m_ap Th [] ++ [.inr (.int, false, 30)] ++ [.inr (.int, false, 30)] ++ [.inr (.int, false, 5)]) (m_ur (m_ur (m_ur M a 0 (some (a + 1))) a 1 (some (a + 2))) a 2 (some (a + 3))) := hz5.ur (by rw [m_ap_1 hn (n := 3) rfl]; omega)
  refine m_aload_n dX8_init_27 rfl 0 rfl ?_
  refine m_iconst (v := (-1)) dX8_init_28 (by decide) ?_
  refine m_puti f_X8_21 rfl (Or.inl rfl) dX8_init_29 (m_ap_lt hT (by omega)) ⟨rfl, rfl⟩ ?_
  have hz7 : m_Zr (m_ap Th [] ++ [.inr (.int, false, 30)] ++ [.inr (.int, false, 30)] ++ [.inr (.int, false, 5)]) (m_ui (m_ur (m_ur (m_ur M a 0 (some (a + 1))) a 1 (some (a + 2))) a 2 (some (a + 3))) a 3 (-1)) := hz6.ui (by rw [m_ap_1 hn (n := 3) rfl]; omega)
  exact m_return dX8_init_32 rfl (h hz7)
def ks_4 : List mK := [] ++ [.inr (.int, false, 8)] ++ [.inr (.int, false, 200)] ++ [.inr (.int, false, 200)]
def mk_4 (M : mM) (a : Nat) : mM := m_ur (m_ur (m_ur (m_ur M a 0 (some (a + 1))) a 1 (some (a + 2))) a 2 (some (a + 3))) a 5 (some (a + 2))
set_option maxHeartbeats 4000000 in
set_option maxRecDepth 100000 in
theorem c_4_init {d : Nat} {Th : mT} {M : mM} {a : Nat}  {Q : mQ} (hn : Th.1 = a + 1) (hT : Th.2.2 a = some (.inl 4)) (hlet : Th.2.2 Th.2.1 = some (.inr (.char, true, 8)) ∧ Th.2.1 < Th.1) (hz : m_Zr Th M) (h : m_Zr (m_ap Th ks_4) (mk_4 M a ) → Q none (m_ap Th ks_4) (mk_4 M a )) : m_C (d + 1) 3 408 yX4_init cX4_init 1 none [.ref a] Th M Q := by
  refine m_C.of (by decide +kernel) (Nat.le_of_ble_eq_true rfl) ?_
  show m_W (d + 1) 3 408 yX4_init cX4_init 1 none Q 0 [(0, .ref a)] [] Th M 0 0
  refine m_aload_n dX4_init_0 rfl 0 rfl ?_
  refine m_obj l_X4_3 (Nat.le_of_ble_eq_true rfl) (Nat.le_add_left _ _) dX4_init_1 ?_
  rw [← m_ap_nil Th]
  have hz0 : m_Zr (m_ap Th []) M := by rw [m_ap_nil]; exact hz
  refine m_aload_n dX4_init_4 rfl 0 rfl ?_
  refine m_gets f_X4_9 dX4_init_5 ?_
  refine m_alen (n := 8) dX4_init_8 (m_ap_lt hlet.1 hlet.2) ?_
  refine m_newa (atype := .int) (ty := .int) (N := 8) ac_int rfl rfl (by decide) (by decide) (by decide) (Nat.le_of_ble_eq_true rfl) (Nat.le_of_ble_eq_true rfl) hz0 dX4_init_9 ?_
  rw [m_ap_1 hn (n := 0) rfl, m_ap_al]
  have hq := hz0.al (t := .inr (.int, false, 8)); rw [m_ap_al] at hq
  have hz1 := hq
  refine m_putr f_X4_15 rfl (Or.inr ⟨rfl, _, _, _, rfl, rfl⟩) dX4_init_11 (m_ap_lt hT (by omega)) ?_
  have hz2 : m_Zr (m_ap Th [] ++ [.inr (.int, false, 8)]) (m_ur M a 0 (some (a + 1))) := hz1.ur (by rw [m_ap_1 hn (n := 1) rfl]; omega)
  refine m_aload_n dX4_init_14 rfl 0 rfl ?_
  refine m_sipush (v := 200) dX4_init_15 (by decide) ?_
  refine m_newa (atype := .int) (ty := .int) (N := 200) ac_int rfl rfl (by decide) (by decide) (by decide) (Nat.le_of_ble_eq_true rfl) (Nat.le_of_ble_eq_true rfl) hz2 dX4_init_18 ?_
  rw [m_ap_1 hn (n := 1) rfl, m_ap_al]
  have hq := hz2.al (t := .inr (.int, false, 200)); rw [m_ap_al] at hq
  have hz3 := hq
  refine m_putr f_X4_19 rfl (Or.inl rfl) dX4_init_20 (m_ap_lt hT (by omega)) ?_
  have hz4 : m_Zr (m_ap Th [] ++ [.inr (.int, false, 8)] ++ [.inr (.int, false, 200)]) (m_ur (m_ur M a 0 (some (a + 1))) a 1 (some (a + 2))) := hz3.ur (by rw [m_ap_1 hn (n := 2) rfl]; omega)
  refine m_aload_n dX4_init_23 rfl 0 rfl ?_
  refine m_sipush (v := 200) dX4_init_24 (by decide) ?_
  refine m_newa (atype := .int) (ty := .int) (N := 200) ac_int rfl rfl (by decide) (by decide) (by decide) (Nat.le_of_ble_eq_true rfl) (Nat.le_of_ble_eq_true rfl) hz4 dX4_init_27 ?_
  rw [m_ap_1 hn (n := 2) rfl, m_ap_al]
  have hq := hz4.al (t := .inr (.int, false, 200)); rw [m_ap_al] at hq
  have hz5 := hq
  refine m_putr f_X4_22 rfl (Or.inl rfl) dX4_init_29 (m_ap_lt hT (by omega)) ?_
  have hz6 : m_Zr (m_ap Th [] ++ [.inr (.int, false, 8)] ++ [.inr (.int, false, 200)] ++ [.inr (.int, false, 200)]) (m_ur (m_ur (m_ur M a 0 (some (a + 1))) a 1 (some (a + 2))) a 2 (some (a + 3))) := hz5.ur (by rw [m_ap_1 hn (n := 3) rfl]; omega)
  refine m_aload_n dX4_init_32 rfl 0 rfl ?_
  refine m_aload_n dX4_init_33 rfl 0 rfl ?_
  refine m_getr (r := (a + 2)) f_X4_19 rfl dX4_init_34 (m_ap_lt hT (by omega)) (by simp [m_u, m_gM, mk_9, mk_8]) ?_
  refine m_putr f_X4_25 rfl (Or.inl rfl) dX4_init_37 (m_ap_lt hT (by omega)) ?_
  have hz7 : m_Zr (m_ap Th [] ++ [.inr (.int, false, 8)] ++ [.inr (.int, false, 200)] ++ [.inr (.int, false, 200)]) (m_ur (m_ur (m_ur (m_ur M a 0 (some (a + 1))) a 1 (some (a + 2))) a 2 (some (a + 3))) a 5 (some (a + 2))) := hz6.ur (by rw [m_ap_1 hn (n := 3) rfl]; omega)
  exact m_return dX4_init_40 rfl (h hz7)
def ks_7 : List mK := [] ++ [.inr (.long, false, 11)] ++ (.inr (.array .long, false, 5) :: List.replicate 5 (.inr (.long, false, 11))) ++ (.inr (.array .long, false, 6) :: List.replicate 6 (.inr (.long, false, 11)))
def mk_7 (M : mM) (a : Nat) : mM := m_ur (m_gM (m_ur (m_gM (m_ur M a 0 (some (a + 1))) (a + 2) 5) a 1 (some (a + 2))) (a + 8) 6) a 2 (some (a + 8))
set_option maxHeartbeats 4000000 in
set_option maxRecDepth 100000 in
theorem c_7_init {d : Nat} {Th : mT} {M : mM} {a : Nat}  {Q : mQ} (hn : Th.1 = a + 1) (hT : Th.2.2 a = some (.inl 7)) (hz : m_Zr Th M) (h : m_Zr (m_ap Th ks_7) (mk_7 M a ) → Q none (m_ap Th ks_7) (mk_7 M a )) : m_C (d + 1) 14 143 yX7_init cX7_init 1 none [.ref a] Th M Q := by
  refine m_C.of (by decide +kernel) (Nat.le_of_ble_eq_true rfl) ?_
  show m_W (d + 1) 14 143 yX7_init cX7_init 1 none Q 0 [(0, .ref a)] [] Th M 0 0
  refine m_aload_n dX7_init_0 rfl 0 rfl ?_
  refine m_obj l_X7_3 (Nat.le_of_ble_eq_true rfl) (Nat.le_add_left _ _) dX7_init_1 ?_
  rw [← m_ap_nil Th]
  have hz0 : m_Zr (m_ap Th []) M := by rw [m_ap_nil]; exact hz
  refine m_aload_n dX7_init_4 rfl 0 rfl ?_
  refine m_bipush (v := 11) dX7_init_5 (by decide) ?_
  refine m_newa (atype := .long) (ty := .long) (N := 11) ac_long rfl rfl (by decide) (by decide) (by decide) (Nat.le_of_ble_eq_true rfl) (Nat.le_of_ble_eq_true rfl) hz0 dX7_init_7 ?_
  rw [m_ap_1 hn (n := 0) rfl, m_ap_al]
  have hq := hz0.al (t := .inr (.long, false, 11)); rw [m_ap_al] at hq
  have hz1 := hq
  refine m_putr f_X7_9 rfl (Or.inr ⟨rfl, _, _, _, rfl, rfl⟩) dX7_init_9 (m_ap_lt hT (by omega)) ?_
  have hz2 : m_Zr (m_ap Th [] ++ [.inr (.long, false, 11)]) (m_ur M a 0 (some (a + 1))) := hz1.ur (by rw [m_ap_1 hn (n := 1) rfl]; omega)
  refine m_aload_n dX7_init_12 rfl 0 rfl ?_
  refine m_iconst (v := 5) dX7_init_13 (by decide) ?_
  refine m_bipush (v := 11) dX7_init_14 (by decide) ?_
  refine m_mna (N := 5) (K := 11) cl_X7_15 (by decide) (by decide) (by decide) (by decide) (by decide) (by decide) (by decide) (Nat.le_of_ble_eq_true rfl) (Nat.le_of_ble_eq_true rfl) hz2 dX7_init_16 ?_
  have hq := m_grZ (N := 5) (K := 11) hz2; rw [m_ap_1 hn (n := 1) rfl, m_ap_gr] at hq
  have hz3 := hq
  rw [m_ap_1 hn (n := 1) rfl, m_ap_gr]
  refine m_putr f_X7_17 rfl (Or.inr ⟨rfl, _, _, _, rfl, rfl⟩) dX7_init_20 (m_ap_lt hT (by omega)) ?_
  have hz4 : m_Zr (m_ap Th [] ++ [.inr (.long, false, 11)] ++ (.inr (.array .long, false, 5) :: List.replicate 5 (.inr (.long, false, 11)))) (m_ur (m_gM (m_ur M a 0 (some (a + 1))) (a + 2) 5) a 1 (some (a + 2))) := hz3.ur (by rw [m_ap_1 hn (n := 7) rfl]; omega)
  refine m_aload_n dX7_init_23 rfl 0 rfl ?_
  refine m_bipush (v := 6) dX7_init_24 (by decide) ?_
  refine m_bipush (v := 11) dX7_init_26 (by decide) ?_
  refine m_mna (N := 6) (K := 11) cl_X7_15 (by decide) (by decide) (by decide) (by decide) (by decide) (by decide) (by decide) (Nat.le_of_ble_eq_true rfl) (Nat.le_of_ble_eq_true rfl) hz4 dX7_init_28 ?_
  have hq := m_grZ (N := 6) (K := 11) hz4; rw [m_ap_1 hn (n := 7) rfl, m_ap_gr] at hq
  have hz5 := hq
  rw [m_ap_1 hn (n := 7) rfl, m_ap_gr]
  refine m_putr f_X7_20 rfl (Or.inr ⟨rfl, _, _, _, rfl, rfl⟩) dX7_init_32 (m_ap_lt hT (by omega)) ?_
  have hz6 : m_Zr (m_ap Th [] ++ [.inr (.long, false, 11)] ++ (.inr (.array .long, false, 5) :: List.replicate 5 (.inr (.long, false, 11))) ++ (.inr (.array .long, false, 6) :: List.replicate 6 (.inr (.long, false, 11)))) (m_ur (m_gM (m_ur (m_gM (m_ur M a 0 (some (a + 1))) (a + 2) 5) a 1 (some (a + 2))) (a + 8) 6) a 2 (some (a + 8))) := hz5.ur (by rw [m_ap_1 hn (n := 14) rfl]; omega)
  exact m_return dX7_init_35 rfl (h hz6)
def ks_0 : List mK := [] ++ (.inr (.array .long, false, 11) :: List.replicate 11 (.inr (.long, false, 11))) ++ (.inr (.array .long, false, 11) :: List.replicate 11 (.inr (.long, false, 11)))
def mk_0 (M : mM) (a : Nat) : mM := m_ur (m_gM (m_ur (m_gM M (a + 1) 11) a 0 (some (a + 1))) (a + 13) 11) a 1 (some (a + 13))
set_option maxHeartbeats 4000000 in
set_option maxRecDepth 100000 in
theorem c_0_init {d : Nat} {Th : mT} {M : mM} {a : Nat}  {Q : mQ} (hn : Th.1 = a + 1) (hT : Th.2.2 a = some (.inl 0)) (hz : m_Zr Th M) (h : m_Zr (m_ap Th ks_0) (mk_0 M a ) → Q none (m_ap Th ks_0) (mk_0 M a )) : m_C (d + 1) 24 264 yX0_init cX0_init 1 none [.ref a] Th M Q := by
  refine m_C.of (by decide +kernel) (Nat.le_of_ble_eq_true rfl) ?_
  show m_W (d + 1) 24 264 yX0_init cX0_init 1 none Q 0 [(0, .ref a)] [] Th M 0 0
  refine m_aload_n dX0_init_0 rfl 0 rfl ?_
  refine m_obj l_X0_3 (Nat.le_of_ble_eq_true rfl) (Nat.le_add_left _ _) dX0_init_1 ?_
  rw [← m_ap_nil Th]
  have hz0 : m_Zr (m_ap Th []) M := by rw [m_ap_nil]; exact hz
  refine m_aload_n dX0_init_4 rfl 0 rfl ?_
  refine m_bipush (v := 11) dX0_init_5 (by decide) ?_
  refine m_bipush (v := 11) dX0_init_7 (by decide) ?_
  refine m_mna (N := 11) (K := 11) cl_X0_9 (by decide) (by decide) (by decide) (by decide) (by decide) (by decide) (by decide) (Nat.le_of_ble_eq_true rfl) (Nat.le_of_ble_eq_true rfl) hz0 dX0_init_9 ?_
  have hq := m_grZ (N := 11) (K := 11) hz0; rw [m_ap_1 hn (n := 0) rfl, m_ap_gr] at hq
  have hz1 := hq
  rw [m_ap_1 hn (n := 0) rfl, m_ap_gr]
  refine m_putr f_X0_11 rfl (Or.inl rfl) dX0_init_13 (m_ap_lt hT (by omega)) ?_
  have hz2 : m_Zr (m_ap Th [] ++ (.inr (.array .long, false, 11) :: List.replicate 11 (.inr (.long, false, 11)))) (m_ur (m_gM M (a + 1) 11) a 0 (some (a + 1))) := hz1.ur (by rw [m_ap_1 hn (n := 12) rfl]; omega)
  refine m_aload_n dX0_init_16 rfl 0 rfl ?_
  refine m_bipush (v := 11) dX0_init_17 (by decide) ?_
  refine m_bipush (v := 11) dX0_init_19 (by decide) ?_
  refine m_mna (N := 11) (K := 11) cl_X0_9 (by decide) (by decide) (by decide) (by decide) (by decide) (by decide) (by decide) (Nat.le_of_ble_eq_true rfl) (Nat.le_of_ble_eq_true rfl) hz2 dX0_init_21 ?_
  have hq := m_grZ (N := 11) (K := 11) hz2; rw [m_ap_1 hn (n := 12) rfl, m_ap_gr] at hq
  have hz3 := hq
  rw [m_ap_1 hn (n := 12) rfl, m_ap_gr]
  refine m_putr f_X0_16 rfl (Or.inl rfl) dX0_init_25 (m_ap_lt hT (by omega)) ?_
  have hz4 : m_Zr (m_ap Th [] ++ (.inr (.array .long, false, 11) :: List.replicate 11 (.inr (.long, false, 11))) ++ (.inr (.array .long, false, 11) :: List.replicate 11 (.inr (.long, false, 11)))) (m_ur (m_gM (m_ur (m_gM M (a + 1) 11) a 0 (some (a + 1))) (a + 13) 11) a 1 (some (a + 13))) := hz3.ur (by rw [m_ap_1 hn (n := 24) rfl]; omega)
  exact m_return dX0_init_28 rfl (h hz4)
def ks_6 : List mK := [] ++ [.inr (.int, false, 25)] ++ [.inr (.int, false, 25)] ++ [.inr (.int, false, 5)] ++ [.inr (.int, false, 5)]
def mk_6 (M : mM) (a : Nat) : mM := m_ur (m_ur (m_ur (m_ur M a 0 (some (a + 1))) a 1 (some (a + 2))) a 2 (some (a + 3))) a 3 (some (a + 4))
set_option maxHeartbeats 4000000 in
set_option maxRecDepth 100000 in
theorem c_6_init {d : Nat} {Th : mT} {M : mM} {a : Nat}  {Q : mQ} (hn : Th.1 = a + 1) (hT : Th.2.2 a = some (.inl 6)) (hz : m_Zr Th M) (h : m_Zr (m_ap Th ks_6) (mk_6 M a ) → Q none (m_ap Th ks_6) (mk_6 M a )) : m_C (d + 1) 4 60 yX6_init cX6_init 1 none [.ref a] Th M Q := by
  refine m_C.of (by decide +kernel) (Nat.le_of_ble_eq_true rfl) ?_
  show m_W (d + 1) 4 60 yX6_init cX6_init 1 none Q 0 [(0, .ref a)] [] Th M 0 0
  refine m_aload_n dX6_init_0 rfl 0 rfl ?_
  refine m_obj l_X6_3 (Nat.le_of_ble_eq_true rfl) (Nat.le_add_left _ _) dX6_init_1 ?_
  rw [← m_ap_nil Th]
  have hz0 : m_Zr (m_ap Th []) M := by rw [m_ap_nil]; exact hz
  refine m_aload_n dX6_init_4 rfl 0 rfl ?_
  refine m_bipush (v := 25) dX6_init_5 (by decide) ?_
  refine m_newa (atype := .int) (ty := .int) (N := 25) ac_int rfl rfl (by decide) (by decide) (by decide) (Nat.le_of_ble_eq_true rfl) (Nat.le_of_ble_eq_true rfl) hz0 dX6_init_7 ?_
  rw [m_ap_1 hn (n := 0) rfl, m_ap_al]
  have hq := hz0.al (t := .inr (.int, false, 25)); rw [m_ap_al] at hq
  have hz1 := hq
  refine m_putr f_X6_9 rfl (Or.inr ⟨rfl, _, _, _, rfl, rfl⟩) dX6_init_9 (m_ap_lt hT (by omega)) ?_
  have hz2 : m_Zr (m_ap Th [] ++ [.inr (.int, false, 25)]) (m_ur M a 0 (some (a + 1))) := hz1.ur (by rw [m_ap_1 hn (n := 1) rfl]; omega)
  refine m_aload_n dX6_init_12 rfl 0 rfl ?_
  refine m_bipush (v := 25) dX6_init_13 (by decide) ?_
  refine m_newa (atype := .int) (ty := .int) (N := 25) ac_int rfl rfl (by decide) (by decide) (by decide) (Nat.le_of_ble_eq_true rfl) (Nat.le_of_ble_eq_true rfl) hz2 dX6_init_15 ?_
  rw [m_ap_1 hn (n := 1) rfl, m_ap_al]
  have hq := hz2.al (t := .inr (.int, false, 25)); rw [m_ap_al] at hq
  have hz3 := hq
  refine m_putr f_X6_15 rfl (Or.inr ⟨rfl, _, _, _, rfl, rfl⟩) dX6_init_17 (m_ap_lt hT (by omega)) ?_
  have hz4 : m_Zr (m_ap Th [] ++ [.inr (.int, false, 25)] ++ [.inr (.int, false, 25)]) (m_ur (m_ur M a 0 (some (a + 1))) a 1 (some (a + 2))) := hz3.ur (by rw [m_ap_1 hn (n := 2) rfl]; omega)
  refine m_aload_n dX6_init_20 rfl 0 rfl ?_
  refine m_iconst (v := 5) dX6_init_21 (by decide) ?_
  refine m_newa (atype := .int) (ty := .int) (N := 5) ac_int rfl rfl (by decide) (by decide) (by decide) (Nat.le_of_ble_eq_true rfl) (Nat.le_of_ble_eq_true rfl) hz4 dX6_init_22 ?_
  rw [m_ap_1 hn (n := 2) rfl, m_ap_al]
  have hq := hz4.al (t := .inr (.int, false, 5)); rw [m_ap_al] at hq
  have hz5 := hq
  refine m_putr f_X6_18 rfl (Or.inr ⟨rfl, _, _, _, rfl, rfl⟩) dX6_init_24 (m_ap_lt hT (by omega)) ?_
  have hz6 : m_Zr (m_ap Th [] ++ [.inr (.int, false, 25)] ++ [.inr (.int, false, 25)] ++ [.inr (.int, false, 5)]) (m_ur (m_ur (m_ur M a 0 (some (a + 1))) a 1 (some (a + 2))) a 2 (some (a + 3))) := hz5.ur (by rw [m_ap_1 hn (n := 3) rfl]; omega)
  refine m_aload_n dX6_init_27 rfl 0 rfl ?_
  refine m_iconst (v := 5) dX6_init_28 (by decide) ?_
  refine m_newa (atype := .int) (ty := .int) (N := 5) ac_int rfl rfl (by decide) (by decide) (by decide) (Nat.le_of_ble_eq_true rfl) (Nat.le_of_ble_eq_true rfl) hz6 dX6_init_29 ?_
  rw [m_ap_1 hn (n := 3) rfl, m_ap_al]
  have hq := hz6.al (t := .inr (.int, false, 5)); rw [m_ap_al] at hq
  have hz7 := hq
  refine m_putr f_X6_21 rfl (Or.inr ⟨rfl, _, _, _, rfl, rfl⟩) dX6_init_31 (m_ap_lt hT (by omega)) ?_
  have hz8 : m_Zr (m_ap Th [] ++ [.inr (.int, false, 25)] ++ [.inr (.int, false, 25)] ++ [.inr (.int, false, 5)] ++ [.inr (.int, false, 5)]) (m_ur (m_ur (m_ur (m_ur M a 0 (some (a + 1))) a 1 (some (a + 2))) a 2 (some (a + 3))) a 3 (some (a + 4))) := hz7.ur (by rw [m_ap_1 hn (n := 4) rfl]; omega)
  exact m_return dX6_init_34 rfl (h hz8)
def ks_5 : List mK := [] ++ [.inr (.int, false, 120)]
def mk_5 (M : mM) (a : Nat) : mM := m_ur M a 0 (some (a + 1))
set_option maxHeartbeats 4000000 in
set_option maxRecDepth 100000 in
theorem c_5_init {d : Nat} {Th : mT} {M : mM} {a : Nat}  {Q : mQ} (hn : Th.1 = a + 1) (hT : Th.2.2 a = some (.inl 5)) (hz : m_Zr Th M) (h : m_Zr (m_ap Th ks_5) (mk_5 M a ) → Q none (m_ap Th ks_5) (mk_5 M a )) : m_C (d + 1) 1 120 yX5_init cX5_init 1 none [.ref a] Th M Q := by
  refine m_C.of (by decide +kernel) (Nat.le_of_ble_eq_true rfl) ?_
  show m_W (d + 1) 1 120 yX5_init cX5_init 1 none Q 0 [(0, .ref a)] [] Th M 0 0
  refine m_aload_n dX5_init_0 rfl 0 rfl ?_
  refine m_obj l_X5_3 (Nat.le_of_ble_eq_true rfl) (Nat.le_add_left _ _) dX5_init_1 ?_
  rw [← m_ap_nil Th]
  have hz0 : m_Zr (m_ap Th []) M := by rw [m_ap_nil]; exact hz
  refine m_aload_n dX5_init_4 rfl 0 rfl ?_
  refine m_bipush (v := 120) dX5_init_5 (by decide) ?_
  refine m_newa (atype := .int) (ty := .int) (N := 120) ac_int rfl rfl (by decide) (by decide) (by decide) (Nat.le_of_ble_eq_true rfl) (Nat.le_of_ble_eq_true rfl) hz0 dX5_init_7 ?_
  rw [m_ap_1 hn (n := 0) rfl, m_ap_al]
  have hq := hz0.al (t := .inr (.int, false, 120)); rw [m_ap_al] at hq
  have hz1 := hq
  refine m_putr f_X5_9 rfl (Or.inr ⟨rfl, _, _, _, rfl, rfl⟩) dX5_init_9 (m_ap_lt hT (by omega)) ?_
  have hz2 : m_Zr (m_ap Th [] ++ [.inr (.int, false, 120)]) (m_ur M a 0 (some (a + 1))) := hz1.ur (by rw [m_ap_1 hn (n := 1) rfl]; omega)
  exact m_return dX5_init_12 rfl (h hz2)
def ks_2 : List mK := [] ++ [.inl 4] ++ ks_4 ++ [.inr (.object RX8, false, 5)] ++ [.inr (.int, false, 5)] ++ [.inr (.int, false, 6)] ++ [.inr (.int, false, 6)] ++ [.inr (.int, false, 5)] ++ [.inr (.int, false, 5)] ++ [.inr (.int, false, 5)] ++ [.inl 8] ++ ks_8 ++ [.inl 8] ++ ks_8 ++ [.inl 8] ++ ks_8 ++ [.inl 8] ++ ks_8 ++ [.inl 8] ++ ks_8
def mk_2 (M : mM) (a : Nat) : mM := m_ur (mk_8 (m_ur (mk_8 (m_ur (mk_8 (m_ur (mk_8 (m_ur (mk_8 (m_ur (m_ur (m_ur (m_ur (m_ur (m_ur (m_ur (m_ur (mk_4 (m_ui M a 2 2) (a + 1)) a 5 (some (a + 1))) a 6 (some (a + 5))) a 7 (some (a + 6))) a 8 (some (a + 7))) a 9 (some (a + 8))) a 10 (some (a + 9))) a 11 (some (a + 10))) a 12 (some (a + 11))) (a + 12)) (a + 5) 0 (some (a + 12))) (a + 16)) (a + 5) 1 (some (a + 16))) (a + 20)) (a + 5) 2 (some (a + 20))) (a + 24)) (a + 5) 3 (some (a + 24))) (a + 28)) (a + 5) 4 (some (a + 28))
set_option maxHeartbeats 4000000 in
set_option maxRecDepth 100000 in
theorem c_2_init {d : Nat} {Th : mT} {M : mM} {a : Nat}  {Q : mQ} (hn : Th.1 = a + 1) (hT : Th.2.2 a = some (.inl 2)) (hlet : Th.2.2 Th.2.1 = some (.inr (.char, true, 8)) ∧ Th.2.1 < Th.1) (hz : m_Zr Th M) (h : m_Zr (m_ap Th ks_2) (mk_2 M a ) → Q none (m_ap Th ks_2) (mk_2 M a )) : m_C (d + 2) 31 801 yX2_init cX2_init 2 none [.ref a] Th M Q := by
  refine m_C.of (by decide +kernel) (Nat.le_of_ble_eq_true rfl) ?_
  show m_W (d + 2) 31 801 yX2_init cX2_init 2 none Q 0 [(0, .ref a)] [] Th M 0 0
  refine m_aload_n dX2_init_0 rfl 0 rfl ?_
  refine m_obj l_X2_3 (Nat.le_of_ble_eq_true rfl) (Nat.le_add_left _ _) dX2_init_1 ?_
  rw [← m_ap_nil Th]
  have hz0 : m_Zr (m_ap Th []) M := by rw [m_ap_nil]; exact hz
  refine m_aload_n dX2_init_4 rfl 0 rfl ?_
  refine m_iconst (v := 2) dX2_init_5 (by decide) ?_
  refine m_puti f_X2_9 rfl (Or.inl rfl) dX2_init_6 (m_ap_lt hT (by omega)) ⟨rfl, rfl⟩ ?_
  have hz1 : m_Zr (m_ap Th []) (m_ui M a 2 2) := hz0.ui (by rw [m_ap_1 hn (n := 0) rfl]; omega)
  refine m_aload_n dX2_init_9 rfl 0 rfl ?_
  refine m_new (c := 4) rfl u_X4 tyX4_ok zt_X4 cl_X2_15 in_X4 ini_X4 (Nat.le_of_ble_eq_true rfl) (Nat.le_of_ble_eq_true rfl) hz1 dX2_init_10 ?_
  rw [m_ap_1 hn (n := 0) rfl, m_ap_al]
  have hq := hz1.al (t := .inl 4); rw [m_ap_al] at hq
  have hz2 := hq
  refine m_dup dX2_init_13 rfl ?_
  refine m_invIN (As := []) (d' := d + 1) (mc' := 3) (ms' := 408) (rest := [.ref (a + 1), .ref a]) i_4_init v_4_init rfl l_X2_17 dX2_init_14 rfl rfl (Nat.le_of_ble_eq_true rfl) (by omega) ⟨Nat.le_of_ble_eq_true rfl, Nat.le_of_ble_eq_true rfl⟩ (c_4_init (m_ap_1 hn rfl) (m_ap_at 0 (by rfl) (by omega)) (m_ap_let hlet) hz2 (fun hzz => ?_))
  rw [m_ap_ap] at hzz ⊢
  show m_W (d + 2) 31 801 yX2_init cX2_init 2 none Q 17 [(0, .ref a)] [.ref (a + 1), .ref a] (m_ap Th ([] ++ [.inl 4] ++ ks_4)) (mk_4 (m_ui M a 2 2) (a + 1)) 4 419
  refine m_putr f_X2_18 rfl (Or.inr ⟨rfl, _, _, _, rfl, rfl⟩) dX2_init_17 (m_ap_lt hT (by omega)) ?_
  have hz3 : m_Zr (m_ap Th [] ++ [.inl 4] ++ ks_4) (m_ur (mk_4 (m_ui M a 2 2) (a + 1)) a 5 (some (a + 1))) := hzz.ur (by rw [m_ap_1 hn (n := 4) rfl]; omega)
  refine m_aload_n dX2_init_20 rfl 0 rfl ?_
  refine m_iconst (v := 5) dX2_init_21 (by decide) ?_
  refine m_anew (N := 5) cl_X2_22 (by decide) (by decide) (by decide) (Nat.le_of_ble_eq_true rfl) (Nat.le_of_ble_eq_true rfl) hz3 dX2_init_22 ?_
  rw [m_ap_1 hn (n := 4) rfl, m_ap_al]
  have hq := hz3.al (t := .inr (.object RX8, false, 5)); rw [m_ap_al] at hq
  have hz4 := hq
  refine m_putr f_X2_24 rfl (Or.inr ⟨rfl, _, _, _, rfl, rfl⟩) dX2_init_25 (m_ap_lt hT (by omega)) ?_
  have hz5 : m_Zr (m_ap Th [] ++ [.inl 4] ++ ks_4 ++ [.inr (.object RX8, false, 5)]) (m_ur (m_ur (mk_4 (m_ui M a 2 2) (a + 1)) a 5 (some (a + 1))) a 6 (some (a + 5))) := hz4.ur (by rw [m_ap_1 hn (n := 5) rfl]; omega)
  refine m_aload_n dX2_init_28 rfl 0 rfl ?_
  refine m_iconst (v := 5) dX2_init_29 (by decide) ?_
  refine m_newa (atype := .int) (ty := .int) (N := 5) ac_int rfl rfl (by decide) (by decide) (by decide) (Nat.le_of_ble_eq_true rfl) (Nat.le_of_ble_eq_true rfl) hz5 dX2_init_30 ?_
  rw [m_ap_1 hn (n := 5) rfl, m_ap_al]
  have hq := hz5.al (t := .inr (.int, false, 5)); rw [m_ap_al] at hq
  have hz6 := hq
  refine m_putr f_X2_28 rfl (Or.inr ⟨rfl, _, _, _, rfl, rfl⟩) dX2_init_32 (m_ap_lt hT (by omega)) ?_
  have hz7 : m_Zr (m_ap Th [] ++ [.inl 4] ++ ks_4 ++ [.inr (.object RX8, false, 5)] ++ [.inr (.int, false, 5)]) (m_ur (m_ur (m_ur (mk_4 (m_ui M a 2 2) (a + 1)) a 5 (some (a + 1))) a 6 (some (a + 5))) a 7 (some (a + 6))) := hz6.ur (by rw [m_ap_1 hn (n := 6) rfl]; omega)
  refine m_aload_n dX2_init_35 rfl 0 rfl ?_
  refine m_bipush (v := 6) dX2_init_36 (by decide) ?_
  refine m_newa (atype := .int) (ty := .int) (N := 6) ac_int rfl rfl (by decide) (by decide) (by decide) (Nat.le_of_ble_eq_true rfl) (Nat.le_of_ble_eq_true rfl) hz7 dX2_init_38 ?_
  rw [m_ap_1 hn (n := 6) rfl, m_ap_al]
  have hq := hz7.al (t := .inr (.int, false, 6)); rw [m_ap_al] at hq
  have hz8 := hq
  refine m_putr f_X2_32 rfl (Or.inr ⟨rfl, _, _, _, rfl, rfl⟩) dX2_init_40 (m_ap_lt hT (by omega)) ?_
  have hz9 : m_Zr (m_ap Th [] ++ [.inl 4] ++ ks_4 ++ [.inr (.object RX8, false, 5)] ++ [.inr (.int, false, 5)] ++ [.inr (.int, false, 6)]) (m_ur (m_ur (m_ur (m_ur (mk_4 (m_ui M a 2 2) (a + 1)) a 5 (some (a + 1))) a 6 (some (a + 5))) a 7 (some (a + 6))) a 8 (some (a + 7))) := hz8.ur (by rw [m_ap_1 hn (n := 7) rfl]; omega)
  refine m_aload_n dX2_init_43 rfl 0 rfl ?_
  refine m_bipush (v := 6) dX2_init_44 (by decide) ?_
  refine m_newa (atype := .int) (ty := .int) (N := 6) ac_int rfl rfl (by decide) (by decide) (by decide) (Nat.le_of_ble_eq_true rfl) (Nat.le_of_ble_eq_true rfl) hz9 dX2_init_46 ?_
  rw [m_ap_1 hn (n := 7) rfl, m_ap_al]
  have hq := hz9.al (t := .inr (.int, false, 6)); rw [m_ap_al] at hq
  have hz10 := hq
  refine m_putr f_X2_35 rfl (Or.inr ⟨rfl, _, _, _, rfl, rfl⟩) dX2_init_48 (m_ap_lt hT (by omega)) ?_
  have hz11 : m_Zr (m_ap Th [] ++ [.inl 4] ++ ks_4 ++ [.inr (.object RX8, false, 5)] ++ [.inr (.int, false, 5)] ++ [.inr (.int, false, 6)] ++ [.inr (.int, false, 6)]) (m_ur (m_ur (m_ur (m_ur (m_ur (mk_4 (m_ui M a 2 2) (a + 1)) a 5 (some (a + 1))) a 6 (some (a + 5))) a 7 (some (a + 6))) a 8 (some (a + 7))) a 9 (some (a + 8))) := hz10.ur (by rw [m_ap_1 hn (n := 8) rfl]; omega)
  refine m_aload_n dX2_init_51 rfl 0 rfl ?_
  refine m_iconst (v := 5) dX2_init_52 (by decide) ?_
  refine m_newa (atype := .int) (ty := .int) (N := 5) ac_int rfl rfl (by decide) (by decide) (by decide) (Nat.le_of_ble_eq_true rfl) (Nat.le_of_ble_eq_true rfl) hz11 dX2_init_53 ?_
  rw [m_ap_1 hn (n := 8) rfl, m_ap_al]
  have hq := hz11.al (t := .inr (.int, false, 5)); rw [m_ap_al] at hq
  have hz12 := hq
  refine m_putr f_X2_38 rfl (Or.inr ⟨rfl, _, _, _, rfl, rfl⟩) dX2_init_55 (m_ap_lt hT (by omega)) ?_
  have hz13 : m_Zr (m_ap Th [] ++ [.inl 4] ++ ks_4 ++ [.inr (.object RX8, false, 5)] ++ [.inr (.int, false, 5)] ++ [.inr (.int, false, 6)] ++ [.inr (.int, false, 6)] ++ [.inr (.int, false, 5)]) (m_ur (m_ur (m_ur (m_ur (m_ur (m_ur (mk_4 (m_ui M a 2 2) (a + 1)) a 5 (some (a + 1))) a 6 (some (a + 5))) a 7 (some (a + 6))) a 8 (some (a + 7))) a 9 (some (a + 8))) a 10 (some (a + 9))) := hz12.ur (by rw [m_ap_1 hn (n := 9) rfl]; omega)
  refine m_aload_n dX2_init_58 rfl 0 rfl ?_
  refine m_iconst (v := 5) dX2_init_59 (by decide) ?_
  refine m_newa (atype := .int) (ty := .int) (N := 5) ac_int rfl rfl (by decide) (by decide) (by decide) (Nat.le_of_ble_eq_true rfl) (Nat.le_of_ble_eq_true rfl) hz13 dX2_init_60 ?_
  rw [m_ap_1 hn (n := 9) rfl, m_ap_al]
  have hq := hz13.al (t := .inr (.int, false, 5)); rw [m_ap_al] at hq
  have hz14 := hq
  refine m_putr f_X2_41 rfl (Or.inr ⟨rfl, _, _, _, rfl, rfl⟩) dX2_init_62 (m_ap_lt hT (by omega)) ?_
  have hz15 : m_Zr (m_ap Th [] ++ [.inl 4] ++ ks_4 ++ [.inr (.object RX8, false, 5)] ++ [.inr (.int, false, 5)] ++ [.inr (.int, false, 6)] ++ [.inr (.int, false, 6)] ++ [.inr (.int, false, 5)] ++ [.inr (.int, false, 5)]) (m_ur (m_ur (m_ur (m_ur (m_ur (m_ur (m_ur (mk_4 (m_ui M a 2 2) (a + 1)) a 5 (some (a + 1))) a 6 (some (a + 5))) a 7 (some (a + 6))) a 8 (some (a + 7))) a 9 (some (a + 8))) a 10 (some (a + 9))) a 11 (some (a + 10))) := hz14.ur (by rw [m_ap_1 hn (n := 10) rfl]; omega)
  refine m_aload_n dX2_init_65 rfl 0 rfl ?_
  refine m_iconst (v := 5) dX2_init_66 (by decide) ?_
  refine m_newa (atype := .int) (ty := .int) (N := 5) ac_int rfl rfl (by decide) (by decide) (by decide) (Nat.le_of_ble_eq_true rfl) (Nat.le_of_ble_eq_true rfl) hz15 dX2_init_67 ?_
  rw [m_ap_1 hn (n := 10) rfl, m_ap_al]
  have hq := hz15.al (t := .inr (.int, false, 5)); rw [m_ap_al] at hq
  have hz16 := hq
  refine m_putr f_X2_44 rfl (Or.inr ⟨rfl, _, _, _, rfl, rfl⟩) dX2_init_69 (m_ap_lt hT (by omega)) ?_
  have hz17 : m_Zr (m_ap Th [] ++ [.inl 4] ++ ks_4 ++ [.inr (.object RX8, false, 5)] ++ [.inr (.int, false, 5)] ++ [.inr (.int, false, 6)] ++ [.inr (.int, false, 6)] ++ [.inr (.int, false, 5)] ++ [.inr (.int, false, 5)] ++ [.inr (.int, false, 5)]) (m_ur (m_ur (m_ur (m_ur (m_ur (m_ur (m_ur (m_ur (mk_4 (m_ui M a 2 2) (a + 1)) a 5 (some (a + 1))) a 6 (some (a + 5))) a 7 (some (a + 6))) a 8 (some (a + 7))) a 9 (some (a + 8))) a 10 (some (a + 9))) a 11 (some (a + 10))) a 12 (some (a + 11))) := hz16.ur (by rw [m_ap_1 hn (n := 11) rfl]; omega)
  refine m_iconst (v := 0) dX2_init_72 (by decide) ?_
  refine m_istore_n (lv' := [(1, .int 0), (0, .ref a)]) dX2_init_73 rfl (by decide) rfl ?_
  refine m_iload_n dX2_init_74 rfl 0 rfl ?_
  refine m_aload_n dX2_init_75 rfl 1 rfl ?_
  refine m_getr (r := (a + 5)) f_X2_24 rfl dX2_init_76 (m_ap_lt hT (by omega)) (by simp [m_u, m_gM, mk_9, mk_8, mk_4, mk_7, mk_0, mk_6, mk_5]) ?_
  refine m_alen (n := 5) dX2_init_79 (m_ap_at 4 (by rfl) (by omega)) ?_
  refine m_icmp_ge (tgt := 102) dX2_init_80 (by decide) (fun c1 => ?_) (fun c1 => ?_)
  · exact absurd c1 (by decide)
  refine m_aload_n dX2_init_83 rfl 1 rfl ?_
  refine m_getr (r := (a + 5)) f_X2_24 rfl dX2_init_84 (m_ap_lt hT (by omega)) (by simp [m_u, m_gM, mk_9, mk_8, mk_4, mk_7, mk_0, mk_6, mk_5]) ?_
  refine m_iload_n dX2_init_87 rfl 0 rfl ?_
  refine m_new (c := 8) rfl u_X8 tyX8_ok zt_X8 cl_X2_22 in_X8 ini_X8 (Nat.le_of_ble_eq_true rfl) (Nat.le_of_ble_eq_true rfl) hz17 dX2_init_88 ?_
  rw [m_ap_1 hn (n := 11) rfl, m_ap_al]
  have hq := hz17.al (t := .inl 8); rw [m_ap_al] at hq
  have hz18 := hq
  refine m_dup dX2_init_91 rfl ?_
  refine m_invIN (As := []) (d' := d + 1) (mc' := 3) (ms' := 65) (rest := [.ref (a + 12), .int 0, .ref (a + 5)]) i_8_init v_8_init rfl l_X2_47 dX2_init_92 rfl rfl (Nat.le_of_ble_eq_true rfl) (by omega) ⟨Nat.le_of_ble_eq_true rfl, Nat.le_of_ble_eq_true rfl⟩ (c_8_init (m_ap_1 hn rfl) (m_ap_at 11 (by rfl) (by omega)) hz18 (fun hzz => ?_))
  rw [m_ap_ap] at hzz ⊢
  show m_W (d + 2) 31 801 yX2_init cX2_init 2 none Q 95 [(1, .int 0), (0, .ref a)] [.ref (a + 12), .int 0, .ref (a + 5)] (m_ap Th ([] ++ [.inl 4] ++ ks_4 ++ [.inr (.object RX8, false, 5)] ++ [.inr (.int, false, 5)] ++ [.inr (.int, false, 6)] ++ [.inr (.int, false, 6)] ++ [.inr (.int, false, 5)] ++ [.inr (.int, false, 5)] ++ [.inr (.int, false, 5)] ++ [.inl 8] ++ ks_8)) (mk_8 (m_ur (m_ur (m_ur (m_ur (m_ur (m_ur (m_ur (m_ur (mk_4 (m_ui M a 2 2) (a + 1)) a 5 (some (a + 1))) a 6 (some (a + 5))) a 7 (some (a + 6))) a 8 (some (a + 7))) a 9 (some (a + 8))) a 10 (some (a + 9))) a 11 (some (a + 10))) a 12 (some (a + 11))) (a + 12)) 15 525
  refine m_aast (i0 := 0) (ci := 8) (r := (RX8, TX8, 4)) rfl dX2_init_95 ⟨5, m_ap_at 4 (by rfl) (by omega), by unfold vp_in; decide⟩ (m_ap_at 11 (by rfl) (by omega)) ?_
  rw [show Int32.toNatClampNeg 0 = 0 from rfl]
  have hz19 : m_Zr (m_ap Th [] ++ [.inl 4] ++ ks_4 ++ [.inr (.object RX8, false, 5)] ++ [.inr (.int, false, 5)] ++ [.inr (.int, false, 6)] ++ [.inr (.int, false, 6)] ++ [.inr (.int, false, 5)] ++ [.inr (.int, false, 5)] ++ [.inr (.int, false, 5)] ++ [.inl 8] ++ ks_8) (m_ur (mk_8 (m_ur (m_ur (m_ur (m_ur (m_ur (m_ur (m_ur (m_ur (mk_4 (m_ui M a 2 2) (a + 1)) a 5 (some (a + 1))) a 6 (some (a + 5))) a 7 (some (a + 6))) a 8 (some (a + 7))) a 9 (some (a + 8))) a 10 (some (a + 9))) a 11 (some (a + 10))) a 12 (some (a + 11))) (a + 12)) (a + 5) 0 (some (a + 12))) := hzz.ur (by rw [m_ap_1 hn (n := 15) rfl]; omega)
  refine m_iinc (v := 1) (lv' := [(1, .int 1), (0, .ref a)]) dX2_init_96 0 rfl (by decide) (by decide) rfl ?_
  refine m_goto (tgt := 74) dX2_init_99 (by decide) ?_
  refine m_iload_n dX2_init_74 rfl 0 rfl ?_
  refine m_aload_n dX2_init_75 rfl 1 rfl ?_
  refine m_getr (r := (a + 5)) f_X2_24 rfl dX2_init_76 (m_ap_lt hT (by omega)) (by simp [m_u, m_gM, mk_9, mk_8, mk_4, mk_7, mk_0, mk_6, mk_5]) ?_
  refine m_alen (n := 5) dX2_init_79 (m_ap_at 4 (by rfl) (by omega)) ?_
  refine m_icmp_ge (tgt := 102) dX2_init_80 (by decide) (fun c1 => ?_) (fun c1 => ?_)
  · exact absurd c1 (by decide)
  refine m_aload_n dX2_init_83 rfl 1 rfl ?_
  refine m_getr (r := (a + 5)) f_X2_24 rfl dX2_init_84 (m_ap_lt hT (by omega)) (by simp [m_u, m_gM, mk_9, mk_8, mk_4, mk_7, mk_0, mk_6, mk_5]) ?_
  refine m_iload_n dX2_init_87 rfl 0 rfl ?_
  refine m_new (c := 8) rfl u_X8 tyX8_ok zt_X8 cl_X2_22 in_X8 ini_X8 (Nat.le_of_ble_eq_true rfl) (Nat.le_of_ble_eq_true rfl) hz19 dX2_init_88 ?_
  rw [m_ap_1 hn (n := 15) rfl, m_ap_al]
  have hq := hz19.al (t := .inl 8); rw [m_ap_al] at hq
  have hz20 := hq
  refine m_dup dX2_init_91 rfl ?_
  refine m_invIN (As := []) (d' := d + 1) (mc' := 3) (ms' := 65) (rest := [.ref (a + 16), .int 1, .ref (a + 5)]) i_8_init v_8_init rfl l_X2_47 dX2_init_92 rfl rfl (Nat.le_of_ble_eq_true rfl) (by omega) ⟨Nat.le_of_ble_eq_true rfl, Nat.le_of_ble_eq_true rfl⟩ (c_8_init (m_ap_1 hn rfl) (m_ap_at 15 (by rfl) (by omega)) hz20 (fun hzz => ?_))
  rw [m_ap_ap] at hzz ⊢
  show m_W (d + 2) 31 801 yX2_init cX2_init 2 none Q 95 [(1, .int 1), (0, .ref a)] [.ref (a + 16), .int 1, .ref (a + 5)] (m_ap Th ([] ++ [.inl 4] ++ ks_4 ++ [.inr (.object RX8, false, 5)] ++ [.inr (.int, false, 5)] ++ [.inr (.int, false, 6)] ++ [.inr (.int, false, 6)] ++ [.inr (.int, false, 5)] ++ [.inr (.int, false, 5)] ++ [.inr (.int, false, 5)] ++ [.inl 8] ++ ks_8 ++ [.inl 8] ++ ks_8)) (mk_8 (m_ur (mk_8 (m_ur (m_ur (m_ur (m_ur (m_ur (m_ur (m_ur (m_ur (mk_4 (m_ui M a 2 2) (a + 1)) a 5 (some (a + 1))) a 6 (some (a + 5))) a 7 (some (a + 6))) a 8 (some (a + 7))) a 9 (some (a + 8))) a 10 (some (a + 9))) a 11 (some (a + 10))) a 12 (some (a + 11))) (a + 12)) (a + 5) 0 (some (a + 12))) (a + 16)) 19 594
  refine m_aast (i0 := 0) (ci := 8) (r := (RX8, TX8, 4)) rfl dX2_init_95 ⟨5, m_ap_at 4 (by rfl) (by omega), by unfold vp_in; decide⟩ (m_ap_at 15 (by rfl) (by omega)) ?_
  rw [show Int32.toNatClampNeg 1 = 1 from rfl]
  have hz21 : m_Zr (m_ap Th [] ++ [.inl 4] ++ ks_4 ++ [.inr (.object RX8, false, 5)] ++ [.inr (.int, false, 5)] ++ [.inr (.int, false, 6)] ++ [.inr (.int, false, 6)] ++ [.inr (.int, false, 5)] ++ [.inr (.int, false, 5)] ++ [.inr (.int, false, 5)] ++ [.inl 8] ++ ks_8 ++ [.inl 8] ++ ks_8) (m_ur (mk_8 (m_ur (mk_8 (m_ur (m_ur (m_ur (m_ur (m_ur (m_ur (m_ur (m_ur (mk_4 (m_ui M a 2 2) (a + 1)) a 5 (some (a + 1))) a 6 (some (a + 5))) a 7 (some (a + 6))) a 8 (some (a + 7))) a 9 (some (a + 8))) a 10 (some (a + 9))) a 11 (some (a + 10))) a 12 (some (a + 11))) (a + 12)) (a + 5) 0 (some (a + 12))) (a + 16)) (a + 5) 1 (some (a + 16))) := hzz.ur (by rw [m_ap_1 hn (n := 19) rfl]; omega)
  refine m_iinc (v := 2) (lv' := [(1, .int 2), (0, .ref a)]) dX2_init_96 0 rfl (by decide) (by decide) rfl ?_
  refine m_goto (tgt := 74) dX2_init_99 (by decide) ?_
  refine m_iload_n dX2_init_74 rfl 0 rfl ?_
  refine m_aload_n dX2_init_75 rfl 1 rfl ?_
  refine m_getr (r := (a + 5)) f_X2_24 rfl dX2_init_76 (m_ap_lt hT (by omega)) (by simp [m_u, m_gM, mk_9, mk_8, mk_4, mk_7, mk_0, mk_6, mk_5]) ?_
  refine m_alen (n := 5) dX2_init_79 (m_ap_at 4 (by rfl) (by omega)) ?_
  refine m_icmp_ge (tgt := 102) dX2_init_80 (by decide) (fun c1 => ?_) (fun c1 => ?_)
  · exact absurd c1 (by decide)
  refine m_aload_n dX2_init_83 rfl 1 rfl ?_
  refine m_getr (r := (a + 5)) f_X2_24 rfl dX2_init_84 (m_ap_lt hT (by omega)) (by simp [m_u, m_gM, mk_9, mk_8, mk_4, mk_7, mk_0, mk_6, mk_5]) ?_
  refine m_iload_n dX2_init_87 rfl 0 rfl ?_
  refine m_new (c := 8) rfl u_X8 tyX8_ok zt_X8 cl_X2_22 in_X8 ini_X8 (Nat.le_of_ble_eq_true rfl) (Nat.le_of_ble_eq_true rfl) hz21 dX2_init_88 ?_
  rw [m_ap_1 hn (n := 19) rfl, m_ap_al]
  have hq := hz21.al (t := .inl 8); rw [m_ap_al] at hq
  have hz22 := hq
  refine m_dup dX2_init_91 rfl ?_
  refine m_invIN (As := []) (d' := d + 1) (mc' := 3) (ms' := 65) (rest := [.ref (a + 20), .int 2, .ref (a + 5)]) i_8_init v_8_init rfl l_X2_47 dX2_init_92 rfl rfl (Nat.le_of_ble_eq_true rfl) (by omega) ⟨Nat.le_of_ble_eq_true rfl, Nat.le_of_ble_eq_true rfl⟩ (c_8_init (m_ap_1 hn rfl) (m_ap_at 19 (by rfl) (by omega)) hz22 (fun hzz => ?_))
  rw [m_ap_ap] at hzz ⊢
  show m_W (d + 2) 31 801 yX2_init cX2_init 2 none Q 95 [(1, .int 2), (0, .ref a)] [.ref (a + 20), .int 2, .ref (a + 5)] (m_ap Th ([] ++ [.inl 4] ++ ks_4 ++ [.inr (.object RX8, false, 5)] ++ [.inr (.int, false, 5)] ++ [.inr (.int, false, 6)] ++ [.inr (.int, false, 6)] ++ [.inr (.int, false, 5)] ++ [.inr (.int, false, 5)] ++ [.inr (.int, false, 5)] ++ [.inl 8] ++ ks_8 ++ [.inl 8] ++ ks_8 ++ [.inl 8] ++ ks_8)) (mk_8 (m_ur (mk_8 (m_ur (mk_8 (m_ur (m_ur (m_ur (m_ur (m_ur (m_ur (m_ur (m_ur (mk_4 (m_ui M a 2 2) (a + 1)) a 5 (some (a + 1))) a 6 (some (a + 5))) a 7 (some (a + 6))) a 8 (some (a + 7))) a 9 (some (a + 8))) a 10 (some (a + 9))) a 11 (some (a + 10))) a 12 (some (a + 11))) (a + 12)) (a + 5) 0 (some (a + 12))) (a + 16)) (a + 5) 1 (some (a + 16))) (a + 20)) 23 663
  refine m_aast (i0 := 0) (ci := 8) (r := (RX8, TX8, 4)) rfl dX2_init_95 ⟨5, m_ap_at 4 (by rfl) (by omega), by unfold vp_in; decide⟩ (m_ap_at 19 (by rfl) (by omega)) ?_
  rw [show Int32.toNatClampNeg 2 = 2 from rfl]
  have hz23 : m_Zr (m_ap Th [] ++ [.inl 4] ++ ks_4 ++ [.inr (.object RX8, false, 5)] ++ [.inr (.int, false, 5)] ++ [.inr (.int, false, 6)] ++ [.inr (.int, false, 6)] ++ [.inr (.int, false, 5)] ++ [.inr (.int, false, 5)] ++ [.inr (.int, false, 5)] ++ [.inl 8] ++ ks_8 ++ [.inl 8] ++ ks_8 ++ [.inl 8] ++ ks_8) (m_ur (mk_8 (m_ur (mk_8 (m_ur (mk_8 (m_ur (m_ur (m_ur (m_ur (m_ur (m_ur (m_ur (m_ur (mk_4 (m_ui M a 2 2) (a + 1)) a 5 (some (a + 1))) a 6 (some (a + 5))) a 7 (some (a + 6))) a 8 (some (a + 7))) a 9 (some (a + 8))) a 10 (some (a + 9))) a 11 (some (a + 10))) a 12 (some (a + 11))) (a + 12)) (a + 5) 0 (some (a + 12))) (a + 16)) (a + 5) 1 (some (a + 16))) (a + 20)) (a + 5) 2 (some (a + 20))) := hzz.ur (by rw [m_ap_1 hn (n := 23) rfl]; omega)
  refine m_iinc (v := 3) (lv' := [(1, .int 3), (0, .ref a)]) dX2_init_96 0 rfl (by decide) (by decide) rfl ?_
  refine m_goto (tgt := 74) dX2_init_99 (by decide) ?_
  refine m_iload_n dX2_init_74 rfl 0 rfl ?_
  refine m_aload_n dX2_init_75 rfl 1 rfl ?_
  refine m_getr (r := (a + 5)) f_X2_24 rfl dX2_init_76 (m_ap_lt hT (by omega)) (by simp [m_u, m_gM, mk_9, mk_8, mk_4, mk_7, mk_0, mk_6, mk_5]) ?_
  refine m_alen (n := 5) dX2_init_79 (m_ap_at 4 (by rfl) (by omega)) ?_
  refine m_icmp_ge (tgt := 102) dX2_init_80 (by decide) (fun c1 => ?_) (fun c1 => ?_)
  · exact absurd c1 (by decide)
  refine m_aload_n dX2_init_83 rfl 1 rfl ?_
  refine m_getr (r := (a + 5)) f_X2_24 rfl dX2_init_84 (m_ap_lt hT (by omega)) (by simp [m_u, m_gM, mk_9, mk_8, mk_4, mk_7, mk_0, mk_6, mk_5]) ?_
  refine m_iload_n dX2_init_87 rfl 0 rfl ?_
  refine m_new (c := 8) rfl u_X8 tyX8_ok zt_X8 cl_X2_22 in_X8 ini_X8 (Nat.le_of_ble_eq_true rfl) (Nat.le_of_ble_eq_true rfl) hz23 dX2_init_88 ?_
  rw [m_ap_1 hn (n := 23) rfl, m_ap_al]
  have hq := hz23.al (t := .inl 8); rw [m_ap_al] at hq
  have hz24 := hq
  refine m_dup dX2_init_91 rfl ?_
  refine m_invIN (As := []) (d' := d + 1) (mc' := 3) (ms' := 65) (rest := [.ref (a + 24), .int 3, .ref (a + 5)]) i_8_init v_8_init rfl l_X2_47 dX2_init_92 rfl rfl (Nat.le_of_ble_eq_true rfl) (by omega) ⟨Nat.le_of_ble_eq_true rfl, Nat.le_of_ble_eq_true rfl⟩ (c_8_init (m_ap_1 hn rfl) (m_ap_at 23 (by rfl) (by omega)) hz24 (fun hzz => ?_))
  rw [m_ap_ap] at hzz ⊢
  show m_W (d + 2) 31 801 yX2_init cX2_init 2 none Q 95 [(1, .int 3), (0, .ref a)] [.ref (a + 24), .int 3, .ref (a + 5)] (m_ap Th ([] ++ [.inl 4] ++ ks_4 ++ [.inr (.object RX8, false, 5)] ++ [.inr (.int, false, 5)] ++ [.inr (.int, false, 6)] ++ [.inr (.int, false, 6)] ++ [.inr (.int, false, 5)] ++ [.inr (.int, false, 5)] ++ [.inr (.int, false, 5)] ++ [.inl 8] ++ ks_8 ++ [.inl 8] ++ ks_8 ++ [.inl 8] ++ ks_8 ++ [.inl 8] ++ ks_8)) (mk_8 (m_ur (mk_8 (m_ur (mk_8 (m_ur (mk_8 (m_ur (m_ur (m_ur (m_ur (m_ur (m_ur (m_ur (m_ur (mk_4 (m_ui M a 2 2) (a + 1)) a 5 (some (a + 1))) a 6 (some (a + 5))) a 7 (some (a + 6))) a 8 (some (a + 7))) a 9 (some (a + 8))) a 10 (some (a + 9))) a 11 (some (a + 10))) a 12 (some (a + 11))) (a + 12)) (a + 5) 0 (some (a + 12))) (a + 16)) (a + 5) 1 (some (a + 16))) (a + 20)) (a + 5) 2 (some (a + 20))) (a + 24)) 27 732
  refine m_aast (i0 := 0) (ci := 8) (r := (RX8, TX8, 4)) rfl dX2_init_95 ⟨5, m_ap_at 4 (by rfl) (by omega), by unfold vp_in; decide⟩ (m_ap_at 23 (by rfl) (by omega)) ?_
  rw [show Int32.toNatClampNeg 3 = 3 from rfl]
  have hz25 : m_Zr (m_ap Th [] ++ [.inl 4] ++ ks_4 ++ [.inr (.object RX8, false, 5)] ++ [.inr (.int, false, 5)] ++ [.inr (.int, false, 6)] ++ [.inr (.int, false, 6)] ++ [.inr (.int, false, 5)] ++ [.inr (.int, false, 5)] ++ [.inr (.int, false, 5)] ++ [.inl 8] ++ ks_8 ++ [.inl 8] ++ ks_8 ++ [.inl 8] ++ ks_8 ++ [.inl 8] ++ ks_8) (m_ur (mk_8 (m_ur (mk_8 (m_ur (mk_8 (m_ur (mk_8 (m_ur (m_ur (m_ur (m_ur (m_ur (m_ur (m_ur (m_ur (mk_4 (m_ui M a 2 2) (a + 1)) a 5 (some (a + 1))) a 6 (some (a + 5))) a 7 (some (a + 6))) a 8 (some (a + 7))) a 9 (some (a + 8))) a 10 (some (a + 9))) a 11 (some (a + 10))) a 12 (some (a + 11))) (a + 12)) (a + 5) 0 (some (a + 12))) (a + 16)) (a + 5) 1 (some (a + 16))) (a + 20)) (a + 5) 2 (some (a + 20))) (a + 24)) (a + 5) 3 (some (a + 24))) := hzz.ur (by rw [m_ap_1 hn (n := 27) rfl]; omega)
  refine m_iinc (v := 4) (lv' := [(1, .int 4), (0, .ref a)]) dX2_init_96 0 rfl (by decide) (by decide) rfl ?_
  refine m_goto (tgt := 74) dX2_init_99 (by decide) ?_
  refine m_iload_n dX2_init_74 rfl 0 rfl ?_
  refine m_aload_n dX2_init_75 rfl 1 rfl ?_
  refine m_getr (r := (a + 5)) f_X2_24 rfl dX2_init_76 (m_ap_lt hT (by omega)) (by simp [m_u, m_gM, mk_9, mk_8, mk_4, mk_7, mk_0, mk_6, mk_5]) ?_
  refine m_alen (n := 5) dX2_init_79 (m_ap_at 4 (by rfl) (by omega)) ?_
  refine m_icmp_ge (tgt := 102) dX2_init_80 (by decide) (fun c1 => ?_) (fun c1 => ?_)
  · exact absurd c1 (by decide)
  refine m_aload_n dX2_init_83 rfl 1 rfl ?_
  refine m_getr (r := (a + 5)) f_X2_24 rfl dX2_init_84 (m_ap_lt hT (by omega)) (by simp [m_u, m_gM, mk_9, mk_8, mk_4, mk_7, mk_0, mk_6, mk_5]) ?_
  refine m_iload_n dX2_init_87 rfl 0 rfl ?_
  refine m_new (c := 8) rfl u_X8 tyX8_ok zt_X8 cl_X2_22 in_X8 ini_X8 (Nat.le_of_ble_eq_true rfl) (Nat.le_of_ble_eq_true rfl) hz25 dX2_init_88 ?_
  rw [m_ap_1 hn (n := 27) rfl, m_ap_al]
  have hq := hz25.al (t := .inl 8); rw [m_ap_al] at hq
  have hz26 := hq
  refine m_dup dX2_init_91 rfl ?_
  refine m_invIN (As := []) (d' := d + 1) (mc' := 3) (ms' := 65) (rest := [.ref (a + 28), .int 4, .ref (a + 5)]) i_8_init v_8_init rfl l_X2_47 dX2_init_92 rfl rfl (Nat.le_of_ble_eq_true rfl) (by omega) ⟨Nat.le_of_ble_eq_true rfl, Nat.le_of_ble_eq_true rfl⟩ (c_8_init (m_ap_1 hn rfl) (m_ap_at 27 (by rfl) (by omega)) hz26 (fun hzz => ?_))
  rw [m_ap_ap] at hzz ⊢
  show m_W (d + 2) 31 801 yX2_init cX2_init 2 none Q 95 [(1, .int 4), (0, .ref a)] [.ref (a + 28), .int 4, .ref (a + 5)] (m_ap Th ([] ++ [.inl 4] ++ ks_4 ++ [.inr (.object RX8, false, 5)] ++ [.inr (.int, false, 5)] ++ [.inr (.int, false, 6)] ++ [.inr (.int, false, 6)] ++ [.inr (.int, false, 5)] ++ [.inr (.int, false, 5)] ++ [.inr (.int, false, 5)] ++ [.inl 8] ++ ks_8 ++ [.inl 8] ++ ks_8 ++ [.inl 8] ++ ks_8 ++ [.inl 8] ++ ks_8 ++ [.inl 8] ++ ks_8)) (mk_8 (m_ur (mk_8 (m_ur (mk_8 (m_ur (mk_8 (m_ur (mk_8 (m_ur (m_ur (m_ur (m_ur (m_ur (m_ur (m_ur (m_ur (mk_4 (m_ui M a 2 2) (a + 1)) a 5 (some (a + 1))) a 6 (some (a + 5))) a 7 (some (a + 6))) a 8 (some (a + 7))) a 9 (some (a + 8))) a 10 (some (a + 9))) a 11 (some (a + 10))) a 12 (some (a + 11))) (a + 12)) (a + 5) 0 (some (a + 12))) (a + 16)) (a + 5) 1 (some (a + 16))) (a + 20)) (a + 5) 2 (some (a + 20))) (a + 24)) (a + 5) 3 (some (a + 24))) (a + 28)) 31 801
  refine m_aast (i0 := 0) (ci := 8) (r := (RX8, TX8, 4)) rfl dX2_init_95 ⟨5, m_ap_at 4 (by rfl) (by omega), by unfold vp_in; decide⟩ (m_ap_at 27 (by rfl) (by omega)) ?_
  rw [show Int32.toNatClampNeg 4 = 4 from rfl]
  have hz27 : m_Zr (m_ap Th [] ++ [.inl 4] ++ ks_4 ++ [.inr (.object RX8, false, 5)] ++ [.inr (.int, false, 5)] ++ [.inr (.int, false, 6)] ++ [.inr (.int, false, 6)] ++ [.inr (.int, false, 5)] ++ [.inr (.int, false, 5)] ++ [.inr (.int, false, 5)] ++ [.inl 8] ++ ks_8 ++ [.inl 8] ++ ks_8 ++ [.inl 8] ++ ks_8 ++ [.inl 8] ++ ks_8 ++ [.inl 8] ++ ks_8) (m_ur (mk_8 (m_ur (mk_8 (m_ur (mk_8 (m_ur (mk_8 (m_ur (mk_8 (m_ur (m_ur (m_ur (m_ur (m_ur (m_ur (m_ur (m_ur (mk_4 (m_ui M a 2 2) (a + 1)) a 5 (some (a + 1))) a 6 (some (a + 5))) a 7 (some (a + 6))) a 8 (some (a + 7))) a 9 (some (a + 8))) a 10 (some (a + 9))) a 11 (some (a + 10))) a 12 (some (a + 11))) (a + 12)) (a + 5) 0 (some (a + 12))) (a + 16)) (a + 5) 1 (some (a + 16))) (a + 20)) (a + 5) 2 (some (a + 20))) (a + 24)) (a + 5) 3 (some (a + 24))) (a + 28)) (a + 5) 4 (some (a + 28))) := hzz.ur (by rw [m_ap_1 hn (n := 31) rfl]; omega)
  refine m_iinc (v := 5) (lv' := [(1, .int 5), (0, .ref a)]) dX2_init_96 0 rfl (by decide) (by decide) rfl ?_
  refine m_goto (tgt := 74) dX2_init_99 (by decide) ?_
  refine m_iload_n dX2_init_74 rfl 0 rfl ?_
  refine m_aload_n dX2_init_75 rfl 1 rfl ?_
  refine m_getr (r := (a + 5)) f_X2_24 rfl dX2_init_76 (m_ap_lt hT (by omega)) (by simp [m_u, m_gM, mk_9, mk_8, mk_4, mk_7, mk_0, mk_6, mk_5]) ?_
  refine m_alen (n := 5) dX2_init_79 (m_ap_at 4 (by rfl) (by omega)) ?_
  refine m_icmp_ge (tgt := 102) dX2_init_80 (by decide) (fun c1 => ?_) (fun c1 => ?_)
  rotate_left
  · exact absurd (by decide) c1
  exact m_return dX2_init_102 rfl (h hz27)
def ks_1 : List mK := [] ++ [.inr (.long, false, 94500)] ++ [.inl 8] ++ ks_8
def mk_1 (M : mM) (a p1 : Nat) : mM := m_ur (m_ur (mk_8 (m_ur (m_ui (m_ui (m_ur M a 3 (some (a + 1))) a 4 (-1)) a 5 (-1)) a 0 (some p1)) (a + 2)) a 1 (some (a + 2))) a 2 (some (a + 2))
set_option maxHeartbeats 4000000 in
set_option maxRecDepth 100000 in
theorem c_1_init {d : Nat} {Th : mT} {M : mM} {a : Nat} {p1 : Nat} {Q : mQ} (hn : Th.1 = a + 1) (hT : Th.2.2 a = some (.inl 1)) (hz : m_Zr Th M) (h : m_Zr (m_ap Th ks_1) (mk_1 M a p1) → Q none (m_ap Th ks_1) (mk_1 M a p1)) : m_C (d + 2) 5 94569 yX1_init cX1_init 2 none [.ref a, .ref p1] Th M Q := by
  refine m_C.of (by decide +kernel) (Nat.le_of_ble_eq_true rfl) ?_
  show m_W (d + 2) 5 94569 yX1_init cX1_init 2 none Q 0 [(0, .ref a), (1, .ref p1)] [] Th M 0 0
  refine m_aload_n dX1_init_0 rfl 0 rfl ?_
  refine m_obj l_X1_5 (Nat.le_of_ble_eq_true rfl) (Nat.le_add_left _ _) dX1_init_1 ?_
  rw [← m_ap_nil Th]
  have hz0 : m_Zr (m_ap Th []) M := by rw [m_ap_nil]; exact hz
  refine m_aload_n dX1_init_4 rfl 0 rfl ?_
  refine m_ldc k_X1_11 dX1_init_5 ?_
  refine m_newa (atype := .long) (ty := .long) (N := 94500) ac_long rfl rfl (by decide) (by decide) (by decide) (Nat.le_of_ble_eq_true rfl) (Nat.le_of_ble_eq_true rfl) hz0 dX1_init_7 ?_
  rw [m_ap_1 hn (n := 0) rfl, m_ap_al]
  have hq := hz0.al (t := .inr (.long, false, 94500)); rw [m_ap_al] at hq
  have hz1 := hq
  refine m_putr f_X1_12 rfl (Or.inr ⟨rfl, _, _, _, rfl, rfl⟩) dX1_init_9 (m_ap_lt hT (by omega)) ?_
  have hz2 : m_Zr (m_ap Th [] ++ [.inr (.long, false, 94500)]) (m_ur M a 3 (some (a + 1))) := hz1.ur (by rw [m_ap_1 hn (n := 1) rfl]; omega)
  refine m_aload_n dX1_init_12 rfl 0 rfl ?_
  refine m_iconst (v := (-1)) dX1_init_13 (by decide) ?_
  refine m_puti f_X1_16 rfl (Or.inl rfl) dX1_init_14 (m_ap_lt hT (by omega)) ⟨rfl, rfl⟩ ?_
  have hz3 : m_Zr (m_ap Th [] ++ [.inr (.long, false, 94500)]) (m_ui (m_ur M a 3 (some (a + 1))) a 4 (-1)) := hz2.ui (by rw [m_ap_1 hn (n := 1) rfl]; omega)
  refine m_aload_n dX1_init_17 rfl 0 rfl ?_
  refine m_iconst (v := (-1)) dX1_init_18 (by decide) ?_
  refine m_puti f_X1_20 rfl (Or.inl rfl) dX1_init_19 (m_ap_lt hT (by omega)) ⟨rfl, rfl⟩ ?_
  have hz4 : m_Zr (m_ap Th [] ++ [.inr (.long, false, 94500)]) (m_ui (m_ui (m_ur M a 3 (some (a + 1))) a 4 (-1)) a 5 (-1)) := hz3.ui (by rw [m_ap_1 hn (n := 1) rfl]; omega)
  refine m_aload_n dX1_init_22 rfl 0 rfl ?_
  refine m_aload_n dX1_init_23 rfl 1 rfl ?_
  refine m_putr f_X1_23 rfl (Or.inr ⟨rfl, _, _, _, rfl, rfl⟩) dX1_init_24 (m_ap_lt hT (by omega)) ?_
  have hz5 : m_Zr (m_ap Th [] ++ [.inr (.long, false, 94500)]) (m_ur (m_ui (m_ui (m_ur M a 3 (some (a + 1))) a 4 (-1)) a 5 (-1)) a 0 (some p1)) := hz4.ur (by rw [m_ap_1 hn (n := 1) rfl]; omega)
  refine m_aload_n dX1_init_27 rfl 0 rfl ?_
  refine m_new (c := 8) rfl u_X8 tyX8_ok zt_X8 cl_X1_27 in_X8 ini_X8 (Nat.le_of_ble_eq_true rfl) (Nat.le_of_ble_eq_true rfl) hz5 dX1_init_28 ?_
  rw [m_ap_1 hn (n := 1) rfl, m_ap_al]
  have hq := hz5.al (t := .inl 8); rw [m_ap_al] at hq
  have hz6 := hq
  refine m_dup dX1_init_31 rfl ?_
  refine m_invIN (As := []) (d' := d + 1) (mc' := 3) (ms' := 65) (rest := [.ref (a + 2), .ref a]) i_8_init v_8_init rfl l_X1_29 dX1_init_32 rfl rfl (Nat.le_of_ble_eq_true rfl) (by omega) ⟨Nat.le_of_ble_eq_true rfl, Nat.le_of_ble_eq_true rfl⟩ (c_8_init (m_ap_1 hn rfl) (m_ap_at 1 (by rfl) (by omega)) hz6 (fun hzz => ?_))
  rw [m_ap_ap] at hzz ⊢
  show m_W (d + 2) 5 94569 yX1_init cX1_init 2 none Q 35 [(0, .ref a), (1, .ref p1)] [.ref (a + 2), .ref a] (m_ap Th ([] ++ [.inr (.long, false, 94500)] ++ [.inl 8] ++ ks_8)) (mk_8 (m_ur (m_ui (m_ui (m_ur M a 3 (some (a + 1))) a 4 (-1)) a 5 (-1)) a 0 (some p1)) (a + 2)) 5 94569
  refine m_putr f_X1_30 rfl (Or.inl rfl) dX1_init_35 (m_ap_lt hT (by omega)) ?_
  have hz7 : m_Zr (m_ap Th [] ++ [.inr (.long, false, 94500)] ++ [.inl 8] ++ ks_8) (m_ur (mk_8 (m_ur (m_ui (m_ui (m_ur M a 3 (some (a + 1))) a 4 (-1)) a 5 (-1)) a 0 (some p1)) (a + 2)) a 1 (some (a + 2))) := hzz.ur (by rw [m_ap_1 hn (n := 5) rfl]; omega)
  refine m_aload_n dX1_init_38 rfl 0 rfl ?_
  refine m_aload_n dX1_init_39 rfl 0 rfl ?_
  refine m_getr (r := (a + 2)) f_X1_30 rfl dX1_init_40 (m_ap_lt hT (by omega)) (by simp [m_u, m_gM, mk_9, mk_8, mk_4, mk_7, mk_0, mk_6, mk_5, mk_2]) ?_
  refine m_putr f_X1_34 rfl (Or.inl rfl) dX1_init_43 (m_ap_lt hT (by omega)) ?_
  have hz8 : m_Zr (m_ap Th [] ++ [.inr (.long, false, 94500)] ++ [.inl 8] ++ ks_8) (m_ur (m_ur (mk_8 (m_ur (m_ui (m_ui (m_ur M a 3 (some (a + 1))) a 4 (-1)) a 5 (-1)) a 0 (some p1)) (a + 2)) a 1 (some (a + 2))) a 2 (some (a + 2))) := hz7.ur (by rw [m_ap_1 hn (n := 5) rfl]; omega)
  exact m_return dX1_init_46 rfl (h hz8)
def ks_3 : List mK := [] ++ [.inr (.object RX8, false, 5)] ++ [.inr (.int, false, 5)] ++ [.inr (.int, false, 5)] ++ [.inr (.int, false, 5)] ++ [.inr (.int, false, 5)]
def mk_3 (M : mM) (a p1 p2 : Nat) : mM := m_ur (m_ur (m_ui (m_ur (m_ur (m_ur (m_ur (m_ur M a 2 (some (a + 1))) a 3 (some (a + 2))) a 4 (some (a + 3))) a 5 (some (a + 4))) a 6 (some (a + 5))) a 8 1) a 0 (some p1)) a 1 (some p2)
set_option maxHeartbeats 4000000 in
set_option maxRecDepth 100000 in
theorem c_3_init {d : Nat} {Th : mT} {M : mM} {a : Nat} {p1 : Nat} {p2 : Nat} {Q : mQ} (hn : Th.1 = a + 1) (hT : Th.2.2 a = some (.inl 3)) (hz : m_Zr Th M) (h : m_Zr (m_ap Th ks_3) (mk_3 M a p1 p2) → Q none (m_ap Th ks_3) (mk_3 M a p1 p2)) : m_C (d + 1) 5 25 yX3_init cX3_init 3 none [.ref a, .ref p1, .ref p2] Th M Q := by
  refine m_C.of (by decide +kernel) (Nat.le_of_ble_eq_true rfl) ?_
  show m_W (d + 1) 5 25 yX3_init cX3_init 3 none Q 0 [(0, .ref a), (1, .ref p1), (2, .ref p2)] [] Th M 0 0
  refine m_aload_n dX3_init_0 rfl 0 rfl ?_
  refine m_obj l_X3_3 (Nat.le_of_ble_eq_true rfl) (Nat.le_add_left _ _) dX3_init_1 ?_
  rw [← m_ap_nil Th]
  have hz0 : m_Zr (m_ap Th []) M := by rw [m_ap_nil]; exact hz
  refine m_aload_n dX3_init_4 rfl 0 rfl ?_
  refine m_iconst (v := 5) dX3_init_5 (by decide) ?_
  refine m_anew (N := 5) cl_X3_9 (by decide) (by decide) (by decide) (Nat.le_of_ble_eq_true rfl) (Nat.le_of_ble_eq_true rfl) hz0 dX3_init_6 ?_
  rw [m_ap_1 hn (n := 0) rfl, m_ap_al]
  have hq := hz0.al (t := .inr (.object RX8, false, 5)); rw [m_ap_al] at hq
  have hz1 := hq
  refine m_putr f_X3_11 rfl (Or.inr ⟨rfl, _, _, _, rfl, rfl⟩) dX3_init_9 (m_ap_lt hT (by omega)) ?_
  have hz2 : m_Zr (m_ap Th [] ++ [.inr (.object RX8, false, 5)]) (m_ur M a 2 (some (a + 1))) := hz1.ur (by rw [m_ap_1 hn (n := 1) rfl]; omega)
  refine m_aload_n dX3_init_12 rfl 0 rfl ?_
  refine m_iconst (v := 5) dX3_init_13 (by decide) ?_
  refine m_newa (atype := .int) (ty := .int) (N := 5) ac_int rfl rfl (by decide) (by decide) (by decide) (Nat.le_of_ble_eq_true rfl) (Nat.le_of_ble_eq_true rfl) hz2 dX3_init_14 ?_
  rw [m_ap_1 hn (n := 1) rfl, m_ap_al]
  have hq := hz2.al (t := .inr (.int, false, 5)); rw [m_ap_al] at hq
  have hz3 := hq
  refine m_putr f_X3_17 rfl (Or.inr ⟨rfl, _, _, _, rfl, rfl⟩) dX3_init_16 (m_ap_lt hT (by omega)) ?_
  have hz4 : m_Zr (m_ap Th [] ++ [.inr (.object RX8, false, 5)] ++ [.inr (.int, false, 5)]) (m_ur (m_ur M a 2 (some (a + 1))) a 3 (some (a + 2))) := hz3.ur (by rw [m_ap_1 hn (n := 2) rfl]; omega)
  refine m_aload_n dX3_init_19 rfl 0 rfl ?_
  refine m_iconst (v := 5) dX3_init_20 (by decide) ?_
  refine m_newa (atype := .int) (ty := .int) (N := 5) ac_int rfl rfl (by decide) (by decide) (by decide) (Nat.le_of_ble_eq_true rfl) (Nat.le_of_ble_eq_true rfl) hz4 dX3_init_21 ?_
  rw [m_ap_1 hn (n := 2) rfl, m_ap_al]
  have hq := hz4.al (t := .inr (.int, false, 5)); rw [m_ap_al] at hq
  have hz5 := hq
  refine m_putr f_X3_21 rfl (Or.inr ⟨rfl, _, _, _, rfl, rfl⟩) dX3_init_23 (m_ap_lt hT (by omega)) ?_
  have hz6 : m_Zr (m_ap Th [] ++ [.inr (.object RX8, false, 5)] ++ [.inr (.int, false, 5)] ++ [.inr (.int, false, 5)]) (m_ur (m_ur (m_ur M a 2 (some (a + 1))) a 3 (some (a + 2))) a 4 (some (a + 3))) := hz5.ur (by rw [m_ap_1 hn (n := 3) rfl]; omega)
  refine m_aload_n dX3_init_26 rfl 0 rfl ?_
  refine m_iconst (v := 5) dX3_init_27 (by decide) ?_
  refine m_newa (atype := .int) (ty := .int) (N := 5) ac_int rfl rfl (by decide) (by decide) (by decide) (Nat.le_of_ble_eq_true rfl) (Nat.le_of_ble_eq_true rfl) hz6 dX3_init_28 ?_
  rw [m_ap_1 hn (n := 3) rfl, m_ap_al]
  have hq := hz6.al (t := .inr (.int, false, 5)); rw [m_ap_al] at hq
  have hz7 := hq
  refine m_putr f_X3_24 rfl (Or.inr ⟨rfl, _, _, _, rfl, rfl⟩) dX3_init_30 (m_ap_lt hT (by omega)) ?_
  have hz8 : m_Zr (m_ap Th [] ++ [.inr (.object RX8, false, 5)] ++ [.inr (.int, false, 5)] ++ [.inr (.int, false, 5)] ++ [.inr (.int, false, 5)]) (m_ur (m_ur (m_ur (m_ur M a 2 (some (a + 1))) a 3 (some (a + 2))) a 4 (some (a + 3))) a 5 (some (a + 4))) := hz7.ur (by rw [m_ap_1 hn (n := 4) rfl]; omega)
  refine m_aload_n dX3_init_33 rfl 0 rfl ?_
  refine m_iconst (v := 5) dX3_init_34 (by decide) ?_
  refine m_newa (atype := .int) (ty := .int) (N := 5) ac_int rfl rfl (by decide) (by decide) (by decide) (Nat.le_of_ble_eq_true rfl) (Nat.le_of_ble_eq_true rfl) hz8 dX3_init_35 ?_
  rw [m_ap_1 hn (n := 4) rfl, m_ap_al]
  have hq := hz8.al (t := .inr (.int, false, 5)); rw [m_ap_al] at hq
  have hz9 := hq
  refine m_putr f_X3_27 rfl (Or.inr ⟨rfl, _, _, _, rfl, rfl⟩) dX3_init_37 (m_ap_lt hT (by omega)) ?_
  have hz10 : m_Zr (m_ap Th [] ++ [.inr (.object RX8, false, 5)] ++ [.inr (.int, false, 5)] ++ [.inr (.int, false, 5)] ++ [.inr (.int, false, 5)] ++ [.inr (.int, false, 5)]) (m_ur (m_ur (m_ur (m_ur (m_ur M a 2 (some (a + 1))) a 3 (some (a + 2))) a 4 (some (a + 3))) a 5 (some (a + 4))) a 6 (some (a + 5))) := hz9.ur (by rw [m_ap_1 hn (n := 5) rfl]; omega)
  refine m_aload_n dX3_init_40 rfl 0 rfl ?_
  refine m_iconst (v := 1) dX3_init_41 (by decide) ?_
  refine m_puti f_X3_30 rfl (Or.inl rfl) dX3_init_42 (m_ap_lt hT (by omega)) ⟨rfl, rfl⟩ ?_
  have hz11 : m_Zr (m_ap Th [] ++ [.inr (.object RX8, false, 5)] ++ [.inr (.int, false, 5)] ++ [.inr (.int, false, 5)] ++ [.inr (.int, false, 5)] ++ [.inr (.int, false, 5)]) (m_ui (m_ur (m_ur (m_ur (m_ur (m_ur M a 2 (some (a + 1))) a 3 (some (a + 2))) a 4 (some (a + 3))) a 5 (some (a + 4))) a 6 (some (a + 5))) a 8 1) := hz10.ui (by rw [m_ap_1 hn (n := 5) rfl]; omega)
  refine m_aload_n dX3_init_45 rfl 0 rfl ?_
  refine m_aload_n dX3_init_46 rfl 1 rfl ?_
  refine m_putr f_X3_34 rfl (Or.inr ⟨rfl, _, _, _, rfl, rfl⟩) dX3_init_47 (m_ap_lt hT (by omega)) ?_
  have hz12 : m_Zr (m_ap Th [] ++ [.inr (.object RX8, false, 5)] ++ [.inr (.int, false, 5)] ++ [.inr (.int, false, 5)] ++ [.inr (.int, false, 5)] ++ [.inr (.int, false, 5)]) (m_ur (m_ui (m_ur (m_ur (m_ur (m_ur (m_ur M a 2 (some (a + 1))) a 3 (some (a + 2))) a 4 (some (a + 3))) a 5 (some (a + 4))) a 6 (some (a + 5))) a 8 1) a 0 (some p1)) := hz11.ur (by rw [m_ap_1 hn (n := 5) rfl]; omega)
  refine m_aload_n dX3_init_50 rfl 0 rfl ?_
  refine m_aload_n dX3_init_51 rfl 2 rfl ?_
  refine m_putr f_X3_38 rfl (Or.inr ⟨rfl, _, _, _, rfl, rfl⟩) dX3_init_52 (m_ap_lt hT (by omega)) ?_
  have hz13 : m_Zr (m_ap Th [] ++ [.inr (.object RX8, false, 5)] ++ [.inr (.int, false, 5)] ++ [.inr (.int, false, 5)] ++ [.inr (.int, false, 5)] ++ [.inr (.int, false, 5)]) (m_ur (m_ur (m_ui (m_ur (m_ur (m_ur (m_ur (m_ur M a 2 (some (a + 1))) a 3 (some (a + 2))) a 4 (some (a + 3))) a 5 (some (a + 4))) a 6 (some (a + 5))) a 8 1) a 0 (some p1)) a 1 (some p2)) := hz12.ur (by rw [m_ap_1 hn (n := 5) rfl]; omega)
  exact m_return dX3_init_55 rfl (h hz13)
def ks_10 : List mK := [] ++ [.inl 9] ++ ks_9 ++ [.inl 2] ++ ks_2 ++ [.inl 8] ++ ks_8 ++ [.inl 7] ++ ks_7 ++ [.inl 7] ++ ks_7 ++ [.inl 0] ++ ks_0 ++ [.inl 1] ++ ks_1 ++ [.inl 6] ++ ks_6 ++ [.inl 5] ++ ks_5 ++ [.inl 3] ++ ks_3
def mk_10 (M : mM) (a : Nat) : mM := m_ur (mk_3 (m_ur (mk_5 (m_ur (mk_6 (m_ur (mk_1 (m_ur (mk_0 (m_ur (mk_7 (m_ur (mk_7 (m_ur (mk_8 (m_ur (mk_2 (m_ur (mk_9 (M) (a + 1)) a 0 (some (a + 1))) (a + 3)) a 1 (some (a + 3))) (a + 35)) a 2 (some (a + 35))) (a + 39)) a 3 (some (a + 39))) (a + 54)) a 4 (some (a + 54))) (a + 69)) a 5 (some (a + 69))) (a + 94) (a + 3)) a 6 (some (a + 94))) (a + 100)) a 7 (some (a + 100))) (a + 105)) a 8 (some (a + 105))) (a + 107) (a + 3) (a + 105)) a 9 (some (a + 107))
set_option maxHeartbeats 4000000 in
set_option maxRecDepth 100000 in
theorem c_10_init {d : Nat} {Th : mT} {M : mM} {a : Nat}  {Q : mQ} (hn : Th.1 = a + 1) (hT : Th.2.2 a = some (.inl 10)) (hlet : Th.2.2 Th.2.1 = some (.inr (.char, true, 8)) ∧ Th.2.1 < Th.1) (hz : m_Zr Th M) (h : m_Zr (m_ap Th ks_10) (mk_10 M a ) → Q none (m_ap Th ks_10) (mk_10 M a )) : m_C (d + 3) 112 96469 yX10_init cX10_init 1 none [.ref a] Th M Q := by
  refine m_C.of (by decide +kernel) (Nat.le_of_ble_eq_true rfl) ?_
  show m_W (d + 3) 112 96469 yX10_init cX10_init 1 none Q 0 [(0, .ref a)] [] Th M 0 0
  refine m_aload_n dX10_init_0 rfl 0 rfl ?_
  refine m_obj l_X10_1 (Nat.le_of_ble_eq_true rfl) (Nat.le_add_left _ _) dX10_init_1 ?_
  rw [← m_ap_nil Th]
  have hz0 : m_Zr (m_ap Th []) M := by rw [m_ap_nil]; exact hz
  refine m_aload_n dX10_init_4 rfl 0 rfl ?_
  refine m_new (c := 9) rfl u_X9 tyX9_ok zt_X9 cl_X10_7 in_X9 ini_X9 (Nat.le_of_ble_eq_true rfl) (Nat.le_of_ble_eq_true rfl) hz0 dX10_init_5 ?_
  rw [m_ap_1 hn (n := 0) rfl, m_ap_al]
  have hq := hz0.al (t := .inl 9); rw [m_ap_al] at hq
  have hz1 := hq
  refine m_dup dX10_init_8 rfl ?_
  refine m_invIN (As := []) (d' := d + 1) (mc' := 1) (ms' := 220) (rest := [.ref (a + 1), .ref a]) i_9_init v_9_init rfl l_X10_9 dX10_init_9 rfl rfl (Nat.le_of_ble_eq_true rfl) (by omega) ⟨Nat.le_of_ble_eq_true rfl, Nat.le_of_ble_eq_true rfl⟩ (c_9_init (m_ap_1 hn rfl) (m_ap_at 0 (by rfl) (by omega)) hz1 (fun hzz => ?_))
  rw [m_ap_ap] at hzz ⊢
  show m_W (d + 3) 112 96469 yX10_init cX10_init 1 none Q 12 [(0, .ref a)] [.ref (a + 1), .ref a] (m_ap Th ([] ++ [.inl 9] ++ ks_9)) (mk_9 (M) (a + 1)) 2 222
  refine m_putr f_X10_10 rfl (Or.inr ⟨rfl, _, _, _, rfl, rfl⟩) dX10_init_12 (m_ap_lt hT (by omega)) ?_
  have hz2 : m_Zr (m_ap Th [] ++ [.inl 9] ++ ks_9) (m_ur (mk_9 (M) (a + 1)) a 0 (some (a + 1))) := hzz.ur (by rw [m_ap_1 hn (n := 2) rfl]; omega)
  refine m_aload_n dX10_init_15 rfl 0 rfl ?_
  refine m_new (c := 2) rfl u_X2 tyX2_ok zt_X2 cl_X10_16 in_X2 ini_X2 (Nat.le_of_ble_eq_true rfl) (Nat.le_of_ble_eq_true rfl) hz2 dX10_init_16 ?_
  rw [m_ap_1 hn (n := 2) rfl, m_ap_al]
  have hq := hz2.al (t := .inl 2); rw [m_ap_al] at hq
  have hz3 := hq
  refine m_dup dX10_init_19 rfl ?_
  refine m_invI (As := []) (d' := d + 2) (mc' := 31) (ms' := 801) (rest := [.ref (a + 3), .ref a]) i_2_init v_2_init rfl l_X10_18 dX10_init_20 rfl rfl (Nat.le_of_ble_eq_true rfl) (by omega) ⟨Nat.le_of_ble_eq_true rfl, Nat.le_of_ble_eq_true rfl⟩ (c_2_init (m_ap_1 hn rfl) (m_ap_at 2 (by rfl) (by omega)) (m_ap_let hlet) hz3 (fun hzz => ?_))
  rw [m_ap_ap] at hzz ⊢
  show m_W (d + 3) 112 96469 yX10_init cX10_init 1 none Q 23 [(0, .ref a)] [.ref (a + 3), .ref a] (m_ap Th ([] ++ [.inl 9] ++ ks_9 ++ [.inl 2] ++ ks_2)) (mk_2 (m_ur (mk_9 (M) (a + 1)) a 0 (some (a + 1))) (a + 3)) 34 1036
  refine m_putr f_X10_19 rfl (Or.inr ⟨rfl, _, _, _, rfl, rfl⟩) dX10_init_23 (m_ap_lt hT (by omega)) ?_
  have hz4 : m_Zr (m_ap Th [] ++ [.inl 9] ++ ks_9 ++ [.inl 2] ++ ks_2) (m_ur (mk_2 (m_ur (mk_9 (M) (a + 1)) a 0 (some (a + 1))) (a + 3)) a 1 (some (a + 3))) := hzz.ur (by rw [m_ap_1 hn (n := 34) rfl]; omega)
  refine m_aload_n dX10_init_26 rfl 0 rfl ?_
  refine m_new (c := 8) rfl u_X8 tyX8_ok zt_X8 cl_X10_23 in_X8 ini_X8 (Nat.le_of_ble_eq_true rfl) (Nat.le_of_ble_eq_true rfl) hz4 dX10_init_27 ?_
  rw [m_ap_1 hn (n := 34) rfl, m_ap_al]
  have hq := hz4.al (t := .inl 8); rw [m_ap_al] at hq
  have hz5 := hq
  refine m_dup dX10_init_30 rfl ?_
  refine m_invIN (As := []) (d' := d + 1) (mc' := 3) (ms' := 65) (rest := [.ref (a + 35), .ref a]) i_8_init v_8_init rfl l_X10_25 dX10_init_31 rfl rfl (Nat.le_of_ble_eq_true rfl) (by omega) ⟨Nat.le_of_ble_eq_true rfl, Nat.le_of_ble_eq_true rfl⟩ (c_8_init (m_ap_1 hn rfl) (m_ap_at 34 (by rfl) (by omega)) hz5 (fun hzz => ?_))
  rw [m_ap_ap] at hzz ⊢
  show m_W (d + 3) 112 96469 yX10_init cX10_init 1 none Q 34 [(0, .ref a)] [.ref (a + 35), .ref a] (m_ap Th ([] ++ [.inl 9] ++ ks_9 ++ [.inl 2] ++ ks_2 ++ [.inl 8] ++ ks_8)) (mk_8 (m_ur (mk_2 (m_ur (mk_9 (M) (a + 1)) a 0 (some (a + 1))) (a + 3)) a 1 (some (a + 3))) (a + 35)) 38 1105
  refine m_putr f_X10_26 rfl (Or.inr ⟨rfl, _, _, _, rfl, rfl⟩) dX10_init_34 (m_ap_lt hT (by omega)) ?_
  have hz6 : m_Zr (m_ap Th [] ++ [.inl 9] ++ ks_9 ++ [.inl 2] ++ ks_2 ++ [.inl 8] ++ ks_8) (m_ur (mk_8 (m_ur (mk_2 (m_ur (mk_9 (M) (a + 1)) a 0 (some (a + 1))) (a + 3)) a 1 (some (a + 3))) (a + 35)) a 2 (some (a + 35))) := hzz.ur (by rw [m_ap_1 hn (n := 38) rfl]; omega)
  refine m_aload_n dX10_init_37 rfl 0 rfl ?_
  refine m_new (c := 7) rfl u_X7 tyX7_ok zt_X7 cl_X10_30 in_X7 ini_X7 (Nat.le_of_ble_eq_true rfl) (Nat.le_of_ble_eq_true rfl) hz6 dX10_init_38 ?_
  rw [m_ap_1 hn (n := 38) rfl, m_ap_al]
  have hq := hz6.al (t := .inl 7); rw [m_ap_al] at hq
  have hz7 := hq
  refine m_dup dX10_init_41 rfl ?_
  refine m_invIN (As := []) (d' := d + 1) (mc' := 14) (ms' := 143) (rest := [.ref (a + 39), .ref a]) i_7_init v_7_init rfl l_X10_32 dX10_init_42 rfl rfl (Nat.le_of_ble_eq_true rfl) (by omega) ⟨Nat.le_of_ble_eq_true rfl, Nat.le_of_ble_eq_true rfl⟩ (c_7_init (m_ap_1 hn rfl) (m_ap_at 38 (by rfl) (by omega)) hz7 (fun hzz => ?_))
  rw [m_ap_ap] at hzz ⊢
  show m_W (d + 3) 112 96469 yX10_init cX10_init 1 none Q 45 [(0, .ref a)] [.ref (a + 39), .ref a] (m_ap Th ([] ++ [.inl 9] ++ ks_9 ++ [.inl 2] ++ ks_2 ++ [.inl 8] ++ ks_8 ++ [.inl 7] ++ ks_7)) (mk_7 (m_ur (mk_8 (m_ur (mk_2 (m_ur (mk_9 (M) (a + 1)) a 0 (some (a + 1))) (a + 3)) a 1 (some (a + 3))) (a + 35)) a 2 (some (a + 35))) (a + 39)) 53 1253
  refine m_putr f_X10_33 rfl (Or.inr ⟨rfl, _, _, _, rfl, rfl⟩) dX10_init_45 (m_ap_lt hT (by omega)) ?_
  have hz8 : m_Zr (m_ap Th [] ++ [.inl 9] ++ ks_9 ++ [.inl 2] ++ ks_2 ++ [.inl 8] ++ ks_8 ++ [.inl 7] ++ ks_7) (m_ur (mk_7 (m_ur (mk_8 (m_ur (mk_2 (m_ur (mk_9 (M) (a + 1)) a 0 (some (a + 1))) (a + 3)) a 1 (some (a + 3))) (a + 35)) a 2 (some (a + 35))) (a + 39)) a 3 (some (a + 39))) := hzz.ur (by rw [m_ap_1 hn (n := 53) rfl]; omega)
  refine m_aload_n dX10_init_48 rfl 0 rfl ?_
  refine m_new (c := 7) rfl u_X7 tyX7_ok zt_X7 cl_X10_30 in_X7 ini_X7 (Nat.le_of_ble_eq_true rfl) (Nat.le_of_ble_eq_true rfl) hz8 dX10_init_49 ?_
  rw [m_ap_1 hn (n := 53) rfl, m_ap_al]
  have hq := hz8.al (t := .inl 7); rw [m_ap_al] at hq
  have hz9 := hq
  refine m_dup dX10_init_52 rfl ?_
  refine m_invIN (As := []) (d' := d + 1) (mc' := 14) (ms' := 143) (rest := [.ref (a + 54), .ref a]) i_7_init v_7_init rfl l_X10_32 dX10_init_53 rfl rfl (Nat.le_of_ble_eq_true rfl) (by omega) ⟨Nat.le_of_ble_eq_true rfl, Nat.le_of_ble_eq_true rfl⟩ (c_7_init (m_ap_1 hn rfl) (m_ap_at 53 (by rfl) (by omega)) hz9 (fun hzz => ?_))
  rw [m_ap_ap] at hzz ⊢
  show m_W (d + 3) 112 96469 yX10_init cX10_init 1 none Q 56 [(0, .ref a)] [.ref (a + 54), .ref a] (m_ap Th ([] ++ [.inl 9] ++ ks_9 ++ [.inl 2] ++ ks_2 ++ [.inl 8] ++ ks_8 ++ [.inl 7] ++ ks_7 ++ [.inl 7] ++ ks_7)) (mk_7 (m_ur (mk_7 (m_ur (mk_8 (m_ur (mk_2 (m_ur (mk_9 (M) (a + 1)) a 0 (some (a + 1))) (a + 3)) a 1 (some (a + 3))) (a + 35)) a 2 (some (a + 35))) (a + 39)) a 3 (some (a + 39))) (a + 54)) 68 1401
  refine m_putr f_X10_37 rfl (Or.inr ⟨rfl, _, _, _, rfl, rfl⟩) dX10_init_56 (m_ap_lt hT (by omega)) ?_
  have hz10 : m_Zr (m_ap Th [] ++ [.inl 9] ++ ks_9 ++ [.inl 2] ++ ks_2 ++ [.inl 8] ++ ks_8 ++ [.inl 7] ++ ks_7 ++ [.inl 7] ++ ks_7) (m_ur (mk_7 (m_ur (mk_7 (m_ur (mk_8 (m_ur (mk_2 (m_ur (mk_9 (M) (a + 1)) a 0 (some (a + 1))) (a + 3)) a 1 (some (a + 3))) (a + 35)) a 2 (some (a + 35))) (a + 39)) a 3 (some (a + 39))) (a + 54)) a 4 (some (a + 54))) := hzz.ur (by rw [m_ap_1 hn (n := 68) rfl]; omega)
  refine m_aload_n dX10_init_59 rfl 0 rfl ?_
  refine m_new (c := 0) rfl u_X0 tyX0_ok zt_X0 cl_X10_40 in_X0 ini_X0 (Nat.le_of_ble_eq_true rfl) (Nat.le_of_ble_eq_true rfl) hz10 dX10_init_60 ?_
  rw [m_ap_1 hn (n := 68) rfl, m_ap_al]
  have hq := hz10.al (t := .inl 0); rw [m_ap_al] at hq
  have hz11 := hq
  refine m_dup dX10_init_63 rfl ?_
  refine m_invIN (As := []) (d' := d + 1) (mc' := 24) (ms' := 264) (rest := [.ref (a + 69), .ref a]) i_0_init v_0_init rfl l_X10_42 dX10_init_64 rfl rfl (Nat.le_of_ble_eq_true rfl) (by omega) ⟨Nat.le_of_ble_eq_true rfl, Nat.le_of_ble_eq_true rfl⟩ (c_0_init (m_ap_1 hn rfl) (m_ap_at 68 (by rfl) (by omega)) hz11 (fun hzz => ?_))
  rw [m_ap_ap] at hzz ⊢
  show m_W (d + 3) 112 96469 yX10_init cX10_init 1 none Q 67 [(0, .ref a)] [.ref (a + 69), .ref a] (m_ap Th ([] ++ [.inl 9] ++ ks_9 ++ [.inl 2] ++ ks_2 ++ [.inl 8] ++ ks_8 ++ [.inl 7] ++ ks_7 ++ [.inl 7] ++ ks_7 ++ [.inl 0] ++ ks_0)) (mk_0 (m_ur (mk_7 (m_ur (mk_7 (m_ur (mk_8 (m_ur (mk_2 (m_ur (mk_9 (M) (a + 1)) a 0 (some (a + 1))) (a + 3)) a 1 (some (a + 3))) (a + 35)) a 2 (some (a + 35))) (a + 39)) a 3 (some (a + 39))) (a + 54)) a 4 (some (a + 54))) (a + 69)) 93 1667
  refine m_putr f_X10_43 rfl (Or.inr ⟨rfl, _, _, _, rfl, rfl⟩) dX10_init_67 (m_ap_lt hT (by omega)) ?_
  have hz12 : m_Zr (m_ap Th [] ++ [.inl 9] ++ ks_9 ++ [.inl 2] ++ ks_2 ++ [.inl 8] ++ ks_8 ++ [.inl 7] ++ ks_7 ++ [.inl 7] ++ ks_7 ++ [.inl 0] ++ ks_0) (m_ur (mk_0 (m_ur (mk_7 (m_ur (mk_7 (m_ur (mk_8 (m_ur (mk_2 (m_ur (mk_9 (M) (a + 1)) a 0 (some (a + 1))) (a + 3)) a 1 (some (a + 3))) (a + 35)) a 2 (some (a + 35))) (a + 39)) a 3 (some (a + 39))) (a + 54)) a 4 (some (a + 54))) (a + 69)) a 5 (some (a + 69))) := hzz.ur (by rw [m_ap_1 hn (n := 93) rfl]; omega)
  refine m_aload_n dX10_init_70 rfl 0 rfl ?_
  refine m_new (c := 1) rfl u_X1 tyX1_ok zt_X1 cl_X10_47 in_X1 ini_X1 (Nat.le_of_ble_eq_true rfl) (Nat.le_of_ble_eq_true rfl) hz12 dX10_init_71 ?_
  rw [m_ap_1 hn (n := 93) rfl, m_ap_al]
  have hq := hz12.al (t := .inl 1); rw [m_ap_al] at hq
  have hz13 := hq
  refine m_dup dX10_init_74 rfl ?_
  refine m_aload_n dX10_init_75 rfl 0 rfl ?_
  refine m_getr (r := (a + 3)) f_X10_19 rfl dX10_init_76 (m_ap_lt hT (by omega)) (by simp [m_u, m_gM, mk_9, mk_8, mk_4, mk_7, mk_0, mk_6, mk_5, mk_2, mk_1, mk_3]) ?_
  refine m_invI (As := [.ref (a + 3)]) (d' := d + 2) (mc' := 5) (ms' := 94569) (rest := [.ref (a + 94), .ref a]) i_1_init v_1_init rfl l_X10_49 dX10_init_79 rfl rfl (Nat.le_of_ble_eq_true rfl) (by omega) ⟨Nat.le_of_ble_eq_true rfl, Nat.le_of_ble_eq_true rfl⟩ (c_1_init (m_ap_1 hn rfl) (m_ap_at 93 (by rfl) (by omega)) hz13 (fun hzz => ?_))
  rw [m_ap_ap] at hzz ⊢
  show m_W (d + 3) 112 96469 yX10_init cX10_init 1 none Q 82 [(0, .ref a)] [.ref (a + 94), .ref a] (m_ap Th ([] ++ [.inl 9] ++ ks_9 ++ [.inl 2] ++ ks_2 ++ [.inl 8] ++ ks_8 ++ [.inl 7] ++ ks_7 ++ [.inl 7] ++ ks_7 ++ [.inl 0] ++ ks_0 ++ [.inl 1] ++ ks_1)) (mk_1 (m_ur (mk_0 (m_ur (mk_7 (m_ur (mk_7 (m_ur (mk_8 (m_ur (mk_2 (m_ur (mk_9 (M) (a + 1)) a 0 (some (a + 1))) (a + 3)) a 1 (some (a + 3))) (a + 35)) a 2 (some (a + 35))) (a + 39)) a 3 (some (a + 39))) (a + 54)) a 4 (some (a + 54))) (a + 69)) a 5 (some (a + 69))) (a + 94) (a + 3)) 99 96245
  refine m_putr f_X10_52 rfl (Or.inr ⟨rfl, _, _, _, rfl, rfl⟩) dX10_init_82 (m_ap_lt hT (by omega)) ?_
  have hz14 : m_Zr (m_ap Th [] ++ [.inl 9] ++ ks_9 ++ [.inl 2] ++ ks_2 ++ [.inl 8] ++ ks_8 ++ [.inl 7] ++ ks_7 ++ [.inl 7] ++ ks_7 ++ [.inl 0] ++ ks_0 ++ [.inl 1] ++ ks_1) (m_ur (mk_1 (m_ur (mk_0 (m_ur (mk_7 (m_ur (mk_7 (m_ur (mk_8 (m_ur (mk_2 (m_ur (mk_9 (M) (a + 1)) a 0 (some (a + 1))) (a + 3)) a 1 (some (a + 3))) (a + 35)) a 2 (some (a + 35))) (a + 39)) a 3 (some (a + 39))) (a + 54)) a 4 (some (a + 54))) (a + 69)) a 5 (some (a + 69))) (a + 94) (a + 3)) a 6 (some (a + 94))) := hzz.ur (by rw [m_ap_1 hn (n := 99) rfl]; omega)
  refine m_aload_n dX10_init_85 rfl 0 rfl ?_
  refine m_new (c := 6) rfl u_X6 tyX6_ok zt_X6 cl_X10_56 in_X6 ini_X6 (Nat.le_of_ble_eq_true rfl) (Nat.le_of_ble_eq_true rfl) hz14 dX10_init_86 ?_
  rw [m_ap_1 hn (n := 99) rfl, m_ap_al]
  have hq := hz14.al (t := .inl 6); rw [m_ap_al] at hq
  have hz15 := hq
  refine m_dup dX10_init_89 rfl ?_
  refine m_invIN (As := []) (d' := d + 1) (mc' := 4) (ms' := 60) (rest := [.ref (a + 100), .ref a]) i_6_init v_6_init rfl l_X10_58 dX10_init_90 rfl rfl (Nat.le_of_ble_eq_true rfl) (by omega) ⟨Nat.le_of_ble_eq_true rfl, Nat.le_of_ble_eq_true rfl⟩ (c_6_init (m_ap_1 hn rfl) (m_ap_at 99 (by rfl) (by omega)) hz15 (fun hzz => ?_))
  rw [m_ap_ap] at hzz ⊢
  show m_W (d + 3) 112 96469 yX10_init cX10_init 1 none Q 93 [(0, .ref a)] [.ref (a + 100), .ref a] (m_ap Th ([] ++ [.inl 9] ++ ks_9 ++ [.inl 2] ++ ks_2 ++ [.inl 8] ++ ks_8 ++ [.inl 7] ++ ks_7 ++ [.inl 7] ++ ks_7 ++ [.inl 0] ++ ks_0 ++ [.inl 1] ++ ks_1 ++ [.inl 6] ++ ks_6)) (mk_6 (m_ur (mk_1 (m_ur (mk_0 (m_ur (mk_7 (m_ur (mk_7 (m_ur (mk_8 (m_ur (mk_2 (m_ur (mk_9 (M) (a + 1)) a 0 (some (a + 1))) (a + 3)) a 1 (some (a + 3))) (a + 35)) a 2 (some (a + 35))) (a + 39)) a 3 (some (a + 39))) (a + 54)) a 4 (some (a + 54))) (a + 69)) a 5 (some (a + 69))) (a + 94) (a + 3)) a 6 (some (a + 94))) (a + 100)) 104 96312
  refine m_putr f_X10_59 rfl (Or.inr ⟨rfl, _, _, _, rfl, rfl⟩) dX10_init_93 (m_ap_lt hT (by omega)) ?_
  have hz16 : m_Zr (m_ap Th [] ++ [.inl 9] ++ ks_9 ++ [.inl 2] ++ ks_2 ++ [.inl 8] ++ ks_8 ++ [.inl 7] ++ ks_7 ++ [.inl 7] ++ ks_7 ++ [.inl 0] ++ ks_0 ++ [.inl 1] ++ ks_1 ++ [.inl 6] ++ ks_6) (m_ur (mk_6 (m_ur (mk_1 (m_ur (mk_0 (m_ur (mk_7 (m_ur (mk_7 (m_ur (mk_8 (m_ur (mk_2 (m_ur (mk_9 (M) (a + 1)) a 0 (some (a + 1))) (a + 3)) a 1 (some (a + 3))) (a + 35)) a 2 (some (a + 35))) (a + 39)) a 3 (some (a + 39))) (a + 54)) a 4 (some (a + 54))) (a + 69)) a 5 (some (a + 69))) (a + 94) (a + 3)) a 6 (some (a + 94))) (a + 100)) a 7 (some (a + 100))) := hzz.ur (by rw [m_ap_1 hn (n := 104) rfl]; omega)
  refine m_aload_n dX10_init_96 rfl 0 rfl ?_
  refine m_new (c := 5) rfl u_X5 tyX5_ok zt_X5 cl_X10_63 in_X5 ini_X5 (Nat.le_of_ble_eq_true rfl) (Nat.le_of_ble_eq_true rfl) hz16 dX10_init_97 ?_
  rw [m_ap_1 hn (n := 104) rfl, m_ap_al]
  have hq := hz16.al (t := .inl 5); rw [m_ap_al] at hq
  have hz17 := hq
  refine m_dup dX10_init_100 rfl ?_
  refine m_invIN (As := []) (d' := d + 1) (mc' := 1) (ms' := 120) (rest := [.ref (a + 105), .ref a]) i_5_init v_5_init rfl l_X10_65 dX10_init_101 rfl rfl (Nat.le_of_ble_eq_true rfl) (by omega) ⟨Nat.le_of_ble_eq_true rfl, Nat.le_of_ble_eq_true rfl⟩ (c_5_init (m_ap_1 hn rfl) (m_ap_at 104 (by rfl) (by omega)) hz17 (fun hzz => ?_))
  rw [m_ap_ap] at hzz ⊢
  show m_W (d + 3) 112 96469 yX10_init cX10_init 1 none Q 104 [(0, .ref a)] [.ref (a + 105), .ref a] (m_ap Th ([] ++ [.inl 9] ++ ks_9 ++ [.inl 2] ++ ks_2 ++ [.inl 8] ++ ks_8 ++ [.inl 7] ++ ks_7 ++ [.inl 7] ++ ks_7 ++ [.inl 0] ++ ks_0 ++ [.inl 1] ++ ks_1 ++ [.inl 6] ++ ks_6 ++ [.inl 5] ++ ks_5)) (mk_5 (m_ur (mk_6 (m_ur (mk_1 (m_ur (mk_0 (m_ur (mk_7 (m_ur (mk_7 (m_ur (mk_8 (m_ur (mk_2 (m_ur (mk_9 (M) (a + 1)) a 0 (some (a + 1))) (a + 3)) a 1 (some (a + 3))) (a + 35)) a 2 (some (a + 35))) (a + 39)) a 3 (some (a + 39))) (a + 54)) a 4 (some (a + 54))) (a + 69)) a 5 (some (a + 69))) (a + 94) (a + 3)) a 6 (some (a + 94))) (a + 100)) a 7 (some (a + 100))) (a + 105)) 106 96434
  refine m_putr f_X10_66 rfl (Or.inr ⟨rfl, _, _, _, rfl, rfl⟩) dX10_init_104 (m_ap_lt hT (by omega)) ?_
  have hz18 : m_Zr (m_ap Th [] ++ [.inl 9] ++ ks_9 ++ [.inl 2] ++ ks_2 ++ [.inl 8] ++ ks_8 ++ [.inl 7] ++ ks_7 ++ [.inl 7] ++ ks_7 ++ [.inl 0] ++ ks_0 ++ [.inl 1] ++ ks_1 ++ [.inl 6] ++ ks_6 ++ [.inl 5] ++ ks_5) (m_ur (mk_5 (m_ur (mk_6 (m_ur (mk_1 (m_ur (mk_0 (m_ur (mk_7 (m_ur (mk_7 (m_ur (mk_8 (m_ur (mk_2 (m_ur (mk_9 (M) (a + 1)) a 0 (some (a + 1))) (a + 3)) a 1 (some (a + 3))) (a + 35)) a 2 (some (a + 35))) (a + 39)) a 3 (some (a + 39))) (a + 54)) a 4 (some (a + 54))) (a + 69)) a 5 (some (a + 69))) (a + 94) (a + 3)) a 6 (some (a + 94))) (a + 100)) a 7 (some (a + 100))) (a + 105)) a 8 (some (a + 105))) := hzz.ur (by rw [m_ap_1 hn (n := 106) rfl]; omega)
  refine m_aload_n dX10_init_107 rfl 0 rfl ?_
  refine m_new (c := 3) rfl u_X3 tyX3_ok zt_X3 cl_X10_70 in_X3 ini_X3 (Nat.le_of_ble_eq_true rfl) (Nat.le_of_ble_eq_true rfl) hz18 dX10_init_108 ?_
  rw [m_ap_1 hn (n := 106) rfl, m_ap_al]
  have hq := hz18.al (t := .inl 3); rw [m_ap_al] at hq
  have hz19 := hq
  refine m_dup dX10_init_111 rfl ?_
  refine m_aload_n dX10_init_112 rfl 0 rfl ?_
  refine m_getr (r := (a + 3)) f_X10_19 rfl dX10_init_113 (m_ap_lt hT (by omega)) (by simp [m_u, m_gM, mk_9, mk_8, mk_4, mk_7, mk_0, mk_6, mk_5, mk_2, mk_1, mk_3]) ?_
  refine m_aload_n dX10_init_116 rfl 0 rfl ?_
  refine m_getr (r := (a + 105)) f_X10_66 rfl dX10_init_117 (m_ap_lt hT (by omega)) (by simp [m_u, m_gM, mk_9, mk_8, mk_4, mk_7, mk_0, mk_6, mk_5, mk_2, mk_1, mk_3]) ?_
  refine m_invI (As := [.ref (a + 3), .ref (a + 105)]) (d' := d + 1) (mc' := 5) (ms' := 25) (rest := [.ref (a + 107), .ref a]) i_3_init v_3_init rfl l_X10_72 dX10_init_120 rfl rfl (Nat.le_of_ble_eq_true rfl) (by omega) ⟨Nat.le_of_ble_eq_true rfl, Nat.le_of_ble_eq_true rfl⟩ (c_3_init (m_ap_1 hn rfl) (m_ap_at 106 (by rfl) (by omega)) hz19 (fun hzz => ?_))
  rw [m_ap_ap] at hzz ⊢
  show m_W (d + 3) 112 96469 yX10_init cX10_init 1 none Q 123 [(0, .ref a)] [.ref (a + 107), .ref a] (m_ap Th ([] ++ [.inl 9] ++ ks_9 ++ [.inl 2] ++ ks_2 ++ [.inl 8] ++ ks_8 ++ [.inl 7] ++ ks_7 ++ [.inl 7] ++ ks_7 ++ [.inl 0] ++ ks_0 ++ [.inl 1] ++ ks_1 ++ [.inl 6] ++ ks_6 ++ [.inl 5] ++ ks_5 ++ [.inl 3] ++ ks_3)) (mk_3 (m_ur (mk_5 (m_ur (mk_6 (m_ur (mk_1 (m_ur (mk_0 (m_ur (mk_7 (m_ur (mk_7 (m_ur (mk_8 (m_ur (mk_2 (m_ur (mk_9 (M) (a + 1)) a 0 (some (a + 1))) (a + 3)) a 1 (some (a + 3))) (a + 35)) a 2 (some (a + 35))) (a + 39)) a 3 (some (a + 39))) (a + 54)) a 4 (some (a + 54))) (a + 69)) a 5 (some (a + 69))) (a + 94) (a + 3)) a 6 (some (a + 94))) (a + 100)) a 7 (some (a + 100))) (a + 105)) a 8 (some (a + 105))) (a + 107) (a + 3) (a + 105)) 112 96469
  refine m_putr f_X10_75 rfl (Or.inr ⟨rfl, _, _, _, rfl, rfl⟩) dX10_init_123 (m_ap_lt hT (by omega)) ?_
  have hz20 : m_Zr (m_ap Th [] ++ [.inl 9] ++ ks_9 ++ [.inl 2] ++ ks_2 ++ [.inl 8] ++ ks_8 ++ [.inl 7] ++ ks_7 ++ [.inl 7] ++ ks_7 ++ [.inl 0] ++ ks_0 ++ [.inl 1] ++ ks_1 ++ [.inl 6] ++ ks_6 ++ [.inl 5] ++ ks_5 ++ [.inl 3] ++ ks_3) (m_ur (mk_3 (m_ur (mk_5 (m_ur (mk_6 (m_ur (mk_1 (m_ur (mk_0 (m_ur (mk_7 (m_ur (mk_7 (m_ur (mk_8 (m_ur (mk_2 (m_ur (mk_9 (M) (a + 1)) a 0 (some (a + 1))) (a + 3)) a 1 (some (a + 3))) (a + 35)) a 2 (some (a + 35))) (a + 39)) a 3 (some (a + 39))) (a + 54)) a 4 (some (a + 54))) (a + 69)) a 5 (some (a + 69))) (a + 94) (a + 3)) a 6 (some (a + 94))) (a + 100)) a 7 (some (a + 100))) (a + 105)) a 8 (some (a + 105))) (a + 107) (a + 3) (a + 105)) a 9 (some (a + 107))) := hzz.ur (by rw [m_ap_1 hn (n := 112) rfl]; omega)
  exact m_return dX10_init_126 rfl (h hz20)
def ks_11 : List mK := [] ++ [.inr (.int, false, 5)] ++ [.inr (.int, false, 6)] ++ [.inr (.int, false, 6)] ++ [.inr (.int, false, 5)] ++ [.inr (.int, false, 5)] ++ [.inr (.int, false, 5)] ++ [.inr (.byte, false, 220)] ++ [.inr (.int, false, 220)] ++ [.inr (.int, false, 220)] ++ [.inr (.int, false, 14)] ++ [.inr (.int, false, 14)] ++ [.inr (.int, false, 14)] ++ [.inr (.int, false, 14)] ++ [.inr (.int, false, 220)] ++ [.inr (.int, false, 14)] ++ [.inr (.int, false, 14)] ++ [.inr (.int, false, 14)] ++ [.inr (.int, false, 14)] ++ [.inr (.int, false, 220)] ++ [.inr (.int, false, 8)] ++ [.inr (.long, false, 1053)] ++ [.inr (.long, false, 1053)] ++ [.inr (.long, false, 11)] ++ [.inr (.long, false, 11)] ++ [.inr (.boolean, false, 277200)] ++ [.inr (.long, false, 277200)] ++ [.inr (.byte, false, 277200)] ++ [.inr (.int, false, 3)] ++ [.inr (.int, false, 3)] ++ [.inr (.int, false, 3)] ++ [.inr (.int, false, 3)] ++ [.inr (.int, false, 25)] ++ [.inr (.int, false, 5)] ++ [.inr (.int, false, 5)] ++ [.inr (.int, false, 40)] ++ [.inr (.int, false, 40)] ++ [.inr (.int, false, 40)] ++ [.inr (.int, false, 5)] ++ [.inr (.int, false, 5)]
def mk_11 (M : mM) (a : Nat) : mM := m_ui (m_ui (m_ur (m_ur (m_ur (m_ur (m_ur (m_ur (m_ur (m_ur (m_ur (m_ur (m_ur (m_ur (m_ur (m_ur (m_ur (m_ur (m_ur (m_ur (m_ur (m_ur (m_ur (m_ur (m_ur (m_ur (m_ur (m_ur (m_ur (m_ur (m_ur (m_ur (m_ur (m_ur (m_ur (m_ur (m_ur (m_ur (m_ur (m_ur (m_ur M a 5 (some (a + 1))) a 6 (some (a + 2))) a 7 (some (a + 3))) a 8 (some (a + 4))) a 9 (some (a + 5))) a 10 (some (a + 6))) a 11 (some (a + 7))) a 22 (some (a + 8))) a 23 (some (a + 9))) a 24 (some (a + 10))) a 25 (some (a + 11))) a 26 (some (a + 12))) a 27 (some (a + 13))) a 28 (some (a + 14))) a 29 (some (a + 15))) a 30 (some (a + 16))) a 31 (some (a + 17))) a 32 (some (a + 18))) a 33 (some (a + 19))) a 34 (some (a + 20))) a 37 (some (a + 21))) a 38 (some (a + 22))) a 39 (some (a + 23))) a 41 (some (a + 24))) a 46 (some (a + 25))) a 47 (some (a + 26))) a 48 (some (a + 27))) a 49 (some (a + 28))) a 50 (some (a + 29))) a 51 (some (a + 30))) a 52 (some (a + 31))) a 57 (some (a + 32))) a 58 (some (a + 33))) a 59 (some (a + 34))) a 62 (some (a + 35))) a 63 (some (a + 36))) a 64 (some (a + 37))) a 65 (some (a + 38))) a 66 (some (a + 39))) a 2 2) a 4 1
set_option maxHeartbeats 4000000 in
set_option maxRecDepth 100000 in
theorem c_11_init {d : Nat} {Th : mT} {M : mM} {a : Nat}  {Q : mQ} (hn : Th.1 = a + 1) (hT : Th.2.2 a = some (.inl 11)) (hz : m_Zr Th M) (h : m_Zr (m_ap Th ks_11) (mk_11 M a ) → Q none (m_ap Th ks_11) (mk_11 M a )) : m_C (d + 1) 39 835157 yX11_init cX11_init 1 none [.ref a] Th M Q := by
  refine m_C.of (by decide +kernel) (Nat.le_of_ble_eq_true rfl) ?_
  show m_W (d + 1) 39 835157 yX11_init cX11_init 1 none Q 0 [(0, .ref a)] [] Th M 0 0
  refine m_aload_n dX11_init_0 rfl 0 rfl ?_
  refine m_obj l_X11_1 (Nat.le_of_ble_eq_true rfl) (Nat.le_add_left _ _) dX11_init_1 ?_
  rw [← m_ap_nil Th]
  have hz0 : m_Zr (m_ap Th []) M := by rw [m_ap_nil]; exact hz
  refine m_aload_n dX11_init_4 rfl 0 rfl ?_
  refine m_iconst (v := 5) dX11_init_5 (by decide) ?_
  refine m_newa (atype := .int) (ty := .int) (N := 5) ac_int rfl rfl (by decide) (by decide) (by decide) (Nat.le_of_ble_eq_true rfl) (Nat.le_of_ble_eq_true rfl) hz0 dX11_init_6 ?_
  rw [m_ap_1 hn (n := 0) rfl, m_ap_al]
  have hq := hz0.al (t := .inr (.int, false, 5)); rw [m_ap_al] at hq
  have hz1 := hq
  refine m_putr f_X11_7 rfl (Or.inr ⟨rfl, _, _, _, rfl, rfl⟩) dX11_init_8 (m_ap_lt hT (by omega)) ?_
  have hz2 : m_Zr (m_ap Th [] ++ [.inr (.int, false, 5)]) (m_ur M a 5 (some (a + 1))) := hz1.ur (by rw [m_ap_1 hn (n := 1) rfl]; omega)
  refine m_aload_n dX11_init_11 rfl 0 rfl ?_
  refine m_bipush (v := 6) dX11_init_12 (by decide) ?_
  refine m_newa (atype := .int) (ty := .int) (N := 6) ac_int rfl rfl (by decide) (by decide) (by decide) (Nat.le_of_ble_eq_true rfl) (Nat.le_of_ble_eq_true rfl) hz2 dX11_init_14 ?_
  rw [m_ap_1 hn (n := 1) rfl, m_ap_al]
  have hq := hz2.al (t := .inr (.int, false, 6)); rw [m_ap_al] at hq
  have hz3 := hq
  refine m_putr f_X11_13 rfl (Or.inr ⟨rfl, _, _, _, rfl, rfl⟩) dX11_init_16 (m_ap_lt hT (by omega)) ?_
  have hz4 : m_Zr (m_ap Th [] ++ [.inr (.int, false, 5)] ++ [.inr (.int, false, 6)]) (m_ur (m_ur M a 5 (some (a + 1))) a 6 (some (a + 2))) := hz3.ur (by rw [m_ap_1 hn (n := 2) rfl]; omega)
  refine m_aload_n dX11_init_19 rfl 0 rfl ?_
  refine m_bipush (v := 6) dX11_init_20 (by decide) ?_
  refine m_newa (atype := .int) (ty := .int) (N := 6) ac_int rfl rfl (by decide) (by decide) (by decide) (Nat.le_of_ble_eq_true rfl) (Nat.le_of_ble_eq_true rfl) hz4 dX11_init_22 ?_
  rw [m_ap_1 hn (n := 2) rfl, m_ap_al]
  have hq := hz4.al (t := .inr (.int, false, 6)); rw [m_ap_al] at hq
  have hz5 := hq
  refine m_putr f_X11_16 rfl (Or.inr ⟨rfl, _, _, _, rfl, rfl⟩) dX11_init_24 (m_ap_lt hT (by omega)) ?_
  have hz6 : m_Zr (m_ap Th [] ++ [.inr (.int, false, 5)] ++ [.inr (.int, false, 6)] ++ [.inr (.int, false, 6)]) (m_ur (m_ur (m_ur M a 5 (some (a + 1))) a 6 (some (a + 2))) a 7 (some (a + 3))) := hz5.ur (by rw [m_ap_1 hn (n := 3) rfl]; omega)
  refine m_aload_n dX11_init_27 rfl 0 rfl ?_
  refine m_iconst (v := 5) dX11_init_28 (by decide) ?_
  refine m_newa (atype := .int) (ty := .int) (N := 5) ac_int rfl rfl (by decide) (by decide) (by decide) (Nat.le_of_ble_eq_true rfl) (Nat.le_of_ble_eq_true rfl) hz6 dX11_init_29 ?_
  rw [m_ap_1 hn (n := 3) rfl, m_ap_al]
  have hq := hz6.al (t := .inr (.int, false, 5)); rw [m_ap_al] at hq
  have hz7 := hq
  refine m_putr f_X11_19 rfl (Or.inr ⟨rfl, _, _, _, rfl, rfl⟩) dX11_init_31 (m_ap_lt hT (by omega)) ?_
  have hz8 : m_Zr (m_ap Th [] ++ [.inr (.int, false, 5)] ++ [.inr (.int, false, 6)] ++ [.inr (.int, false, 6)] ++ [.inr (.int, false, 5)]) (m_ur (m_ur (m_ur (m_ur M a 5 (some (a + 1))) a 6 (some (a + 2))) a 7 (some (a + 3))) a 8 (some (a + 4))) := hz7.ur (by rw [m_ap_1 hn (n := 4) rfl]; omega)
  refine m_aload_n dX11_init_34 rfl 0 rfl ?_
  refine m_iconst (v := 5) dX11_init_35 (by decide) ?_
  refine m_newa (atype := .int) (ty := .int) (N := 5) ac_int rfl rfl (by decide) (by decide) (by decide) (Nat.le_of_ble_eq_true rfl) (Nat.le_of_ble_eq_true rfl) hz8 dX11_init_36 ?_
  rw [m_ap_1 hn (n := 4) rfl, m_ap_al]
  have hq := hz8.al (t := .inr (.int, false, 5)); rw [m_ap_al] at hq
  have hz9 := hq
  refine m_putr f_X11_22 rfl (Or.inr ⟨rfl, _, _, _, rfl, rfl⟩) dX11_init_38 (m_ap_lt hT (by omega)) ?_
  have hz10 : m_Zr (m_ap Th [] ++ [.inr (.int, false, 5)] ++ [.inr (.int, false, 6)] ++ [.inr (.int, false, 6)] ++ [.inr (.int, false, 5)] ++ [.inr (.int, false, 5)]) (m_ur (m_ur (m_ur (m_ur (m_ur M a 5 (some (a + 1))) a 6 (some (a + 2))) a 7 (some (a + 3))) a 8 (some (a + 4))) a 9 (some (a + 5))) := hz9.ur (by rw [m_ap_1 hn (n := 5) rfl]; omega)
  refine m_aload_n dX11_init_41 rfl 0 rfl ?_
  refine m_iconst (v := 5) dX11_init_42 (by decide) ?_
  refine m_newa (atype := .int) (ty := .int) (N := 5) ac_int rfl rfl (by decide) (by decide) (by decide) (Nat.le_of_ble_eq_true rfl) (Nat.le_of_ble_eq_true rfl) hz10 dX11_init_43 ?_
  rw [m_ap_1 hn (n := 5) rfl, m_ap_al]
  have hq := hz10.al (t := .inr (.int, false, 5)); rw [m_ap_al] at hq
  have hz11 := hq
  refine m_putr f_X11_25 rfl (Or.inr ⟨rfl, _, _, _, rfl, rfl⟩) dX11_init_45 (m_ap_lt hT (by omega)) ?_
  have hz12 : m_Zr (m_ap Th [] ++ [.inr (.int, false, 5)] ++ [.inr (.int, false, 6)] ++ [.inr (.int, false, 6)] ++ [.inr (.int, false, 5)] ++ [.inr (.int, false, 5)] ++ [.inr (.int, false, 5)]) (m_ur (m_ur (m_ur (m_ur (m_ur (m_ur M a 5 (some (a + 1))) a 6 (some (a + 2))) a 7 (some (a + 3))) a 8 (some (a + 4))) a 9 (some (a + 5))) a 10 (some (a + 6))) := hz11.ur (by rw [m_ap_1 hn (n := 6) rfl]; omega)
  refine m_aload_n dX11_init_48 rfl 0 rfl ?_
  refine m_sipush (v := 220) dX11_init_49 (by decide) ?_
  refine m_newa (atype := .byte) (ty := .byte) (N := 220) ac_byte rfl rfl (by decide) (by decide) (by decide) (Nat.le_of_ble_eq_true rfl) (Nat.le_of_ble_eq_true rfl) hz12 dX11_init_52 ?_
  rw [m_ap_1 hn (n := 6) rfl, m_ap_al]
  have hq := hz12.al (t := .inr (.byte, false, 220)); rw [m_ap_al] at hq
  have hz13 := hq
  refine m_putr f_X11_28 rfl (Or.inr ⟨rfl, _, _, _, rfl, rfl⟩) dX11_init_54 (m_ap_lt hT (by omega)) ?_
  have hz14 : m_Zr (m_ap Th [] ++ [.inr (.int, false, 5)] ++ [.inr (.int, false, 6)] ++ [.inr (.int, false, 6)] ++ [.inr (.int, false, 5)] ++ [.inr (.int, false, 5)] ++ [.inr (.int, false, 5)] ++ [.inr (.byte, false, 220)]) (m_ur (m_ur (m_ur (m_ur (m_ur (m_ur (m_ur M a 5 (some (a + 1))) a 6 (some (a + 2))) a 7 (some (a + 3))) a 8 (some (a + 4))) a 9 (some (a + 5))) a 10 (some (a + 6))) a 11 (some (a + 7))) := hz13.ur (by rw [m_ap_1 hn (n := 7) rfl]; omega)
  refine m_aload_n dX11_init_57 rfl 0 rfl ?_
  refine m_sipush (v := 220) dX11_init_58 (by decide) ?_
  refine m_newa (atype := .int) (ty := .int) (N := 220) ac_int rfl rfl (by decide) (by decide) (by decide) (Nat.le_of_ble_eq_true rfl) (Nat.le_of_ble_eq_true rfl) hz14 dX11_init_61 ?_
  rw [m_ap_1 hn (n := 7) rfl, m_ap_al]
  have hq := hz14.al (t := .inr (.int, false, 220)); rw [m_ap_al] at hq
  have hz15 := hq
  refine m_putr f_X11_32 rfl (Or.inr ⟨rfl, _, _, _, rfl, rfl⟩) dX11_init_63 (m_ap_lt hT (by omega)) ?_
  have hz16 : m_Zr (m_ap Th [] ++ [.inr (.int, false, 5)] ++ [.inr (.int, false, 6)] ++ [.inr (.int, false, 6)] ++ [.inr (.int, false, 5)] ++ [.inr (.int, false, 5)] ++ [.inr (.int, false, 5)] ++ [.inr (.byte, false, 220)] ++ [.inr (.int, false, 220)]) (m_ur (m_ur (m_ur (m_ur (m_ur (m_ur (m_ur (m_ur M a 5 (some (a + 1))) a 6 (some (a + 2))) a 7 (some (a + 3))) a 8 (some (a + 4))) a 9 (some (a + 5))) a 10 (some (a + 6))) a 11 (some (a + 7))) a 22 (some (a + 8))) := hz15.ur (by rw [m_ap_1 hn (n := 8) rfl]; omega)
  refine m_aload_n dX11_init_66 rfl 0 rfl ?_
  refine m_sipush (v := 220) dX11_init_67 (by decide) ?_
  refine m_newa (atype := .int) (ty := .int) (N := 220) ac_int rfl rfl (by decide) (by decide) (by decide) (Nat.le_of_ble_eq_true rfl) (Nat.le_of_ble_eq_true rfl) hz16 dX11_init_70 ?_
  rw [m_ap_1 hn (n := 8) rfl, m_ap_al]
  have hq := hz16.al (t := .inr (.int, false, 220)); rw [m_ap_al] at hq
  have hz17 := hq
  refine m_putr f_X11_35 rfl (Or.inr ⟨rfl, _, _, _, rfl, rfl⟩) dX11_init_72 (m_ap_lt hT (by omega)) ?_
  have hz18 : m_Zr (m_ap Th [] ++ [.inr (.int, false, 5)] ++ [.inr (.int, false, 6)] ++ [.inr (.int, false, 6)] ++ [.inr (.int, false, 5)] ++ [.inr (.int, false, 5)] ++ [.inr (.int, false, 5)] ++ [.inr (.byte, false, 220)] ++ [.inr (.int, false, 220)] ++ [.inr (.int, false, 220)]) (m_ur (m_ur (m_ur (m_ur (m_ur (m_ur (m_ur (m_ur (m_ur M a 5 (some (a + 1))) a 6 (some (a + 2))) a 7 (some (a + 3))) a 8 (some (a + 4))) a 9 (some (a + 5))) a 10 (some (a + 6))) a 11 (some (a + 7))) a 22 (some (a + 8))) a 23 (some (a + 9))) := hz17.ur (by rw [m_ap_1 hn (n := 9) rfl]; omega)
  refine m_aload_n dX11_init_75 rfl 0 rfl ?_
  refine m_bipush (v := 14) dX11_init_76 (by decide) ?_
  refine m_newa (atype := .int) (ty := .int) (N := 14) ac_int rfl rfl (by decide) (by decide) (by decide) (Nat.le_of_ble_eq_true rfl) (Nat.le_of_ble_eq_true rfl) hz18 dX11_init_78 ?_
  rw [m_ap_1 hn (n := 9) rfl, m_ap_al]
  have hq := hz18.al (t := .inr (.int, false, 14)); rw [m_ap_al] at hq
  have hz19 := hq
  refine m_putr f_X11_38 rfl (Or.inr ⟨rfl, _, _, _, rfl, rfl⟩) dX11_init_80 (m_ap_lt hT (by omega)) ?_
  have hz20 : m_Zr (m_ap Th [] ++ [.inr (.int, false, 5)] ++ [.inr (.int, false, 6)] ++ [.inr (.int, false, 6)] ++ [.inr (.int, false, 5)] ++ [.inr (.int, false, 5)] ++ [.inr (.int, false, 5)] ++ [.inr (.byte, false, 220)] ++ [.inr (.int, false, 220)] ++ [.inr (.int, false, 220)] ++ [.inr (.int, false, 14)]) (m_ur (m_ur (m_ur (m_ur (m_ur (m_ur (m_ur (m_ur (m_ur (m_ur M a 5 (some (a + 1))) a 6 (some (a + 2))) a 7 (some (a + 3))) a 8 (some (a + 4))) a 9 (some (a + 5))) a 10 (some (a + 6))) a 11 (some (a + 7))) a 22 (some (a + 8))) a 23 (some (a + 9))) a 24 (some (a + 10))) := hz19.ur (by rw [m_ap_1 hn (n := 10) rfl]; omega)
  refine m_aload_n dX11_init_83 rfl 0 rfl ?_
  refine m_bipush (v := 14) dX11_init_84 (by decide) ?_
  refine m_newa (atype := .int) (ty := .int) (N := 14) ac_int rfl rfl (by decide) (by decide) (by decide) (Nat.le_of_ble_eq_true rfl) (Nat.le_of_ble_eq_true rfl) hz20 dX11_init_86 ?_
  rw [m_ap_1 hn (n := 10) rfl, m_ap_al]
  have hq := hz20.al (t := .inr (.int, false, 14)); rw [m_ap_al] at hq
  have hz21 := hq
  refine m_putr f_X11_41 rfl (Or.inr ⟨rfl, _, _, _, rfl, rfl⟩) dX11_init_88 (m_ap_lt hT (by omega)) ?_
  have hz22 : m_Zr (m_ap Th [] ++ [.inr (.int, false, 5)] ++ [.inr (.int, false, 6)] ++ [.inr (.int, false, 6)] ++ [.inr (.int, false, 5)] ++ [.inr (.int, false, 5)] ++ [.inr (.int, false, 5)] ++ [.inr (.byte, false, 220)] ++ [.inr (.int, false, 220)] ++ [.inr (.int, false, 220)] ++ [.inr (.int, false, 14)] ++ [.inr (.int, false, 14)]) (m_ur (m_ur (m_ur (m_ur (m_ur (m_ur (m_ur (m_ur (m_ur (m_ur (m_ur M a 5 (some (a + 1))) a 6 (some (a + 2))) a 7 (some (a + 3))) a 8 (some (a + 4))) a 9 (some (a + 5))) a 10 (some (a + 6))) a 11 (some (a + 7))) a 22 (some (a + 8))) a 23 (some (a + 9))) a 24 (some (a + 10))) a 25 (some (a + 11))) := hz21.ur (by rw [m_ap_1 hn (n := 11) rfl]; omega)
  refine m_aload_n dX11_init_91 rfl 0 rfl ?_
  refine m_bipush (v := 14) dX11_init_92 (by decide) ?_
  refine m_newa (atype := .int) (ty := .int) (N := 14) ac_int rfl rfl (by decide) (by decide) (by decide) (Nat.le_of_ble_eq_true rfl) (Nat.le_of_ble_eq_true rfl) hz22 dX11_init_94 ?_
  rw [m_ap_1 hn (n := 11) rfl, m_ap_al]
  have hq := hz22.al (t := .inr (.int, false, 14)); rw [m_ap_al] at hq
  have hz23 := hq
  refine m_putr f_X11_44 rfl (Or.inr ⟨rfl, _, _, _, rfl, rfl⟩) dX11_init_96 (m_ap_lt hT (by omega)) ?_
  have hz24 : m_Zr (m_ap Th [] ++ [.inr (.int, false, 5)] ++ [.inr (.int, false, 6)] ++ [.inr (.int, false, 6)] ++ [.inr (.int, false, 5)] ++ [.inr (.int, false, 5)] ++ [.inr (.int, false, 5)] ++ [.inr (.byte, false, 220)] ++ [.inr (.int, false, 220)] ++ [.inr (.int, false, 220)] ++ [.inr (.int, false, 14)] ++ [.inr (.int, false, 14)] ++ [.inr (.int, false, 14)]) (m_ur (m_ur (m_ur (m_ur (m_ur (m_ur (m_ur (m_ur (m_ur (m_ur (m_ur (m_ur M a 5 (some (a + 1))) a 6 (some (a + 2))) a 7 (some (a + 3))) a 8 (some (a + 4))) a 9 (some (a + 5))) a 10 (some (a + 6))) a 11 (some (a + 7))) a 22 (some (a + 8))) a 23 (some (a + 9))) a 24 (some (a + 10))) a 25 (some (a + 11))) a 26 (some (a + 12))) := hz23.ur (by rw [m_ap_1 hn (n := 12) rfl]; omega)
  refine m_aload_n dX11_init_99 rfl 0 rfl ?_
  refine m_bipush (v := 14) dX11_init_100 (by decide) ?_
  refine m_newa (atype := .int) (ty := .int) (N := 14) ac_int rfl rfl (by decide) (by decide) (by decide) (Nat.le_of_ble_eq_true rfl) (Nat.le_of_ble_eq_true rfl) hz24 dX11_init_102 ?_
  rw [m_ap_1 hn (n := 12) rfl, m_ap_al]
  have hq := hz24.al (t := .inr (.int, false, 14)); rw [m_ap_al] at hq
  have hz25 := hq
  refine m_putr f_X11_47 rfl (Or.inr ⟨rfl, _, _, _, rfl, rfl⟩) dX11_init_104 (m_ap_lt hT (by omega)) ?_
  have hz26 : m_Zr (m_ap Th [] ++ [.inr (.int, false, 5)] ++ [.inr (.int, false, 6)] ++ [.inr (.int, false, 6)] ++ [.inr (.int, false, 5)] ++ [.inr (.int, false, 5)] ++ [.inr (.int, false, 5)] ++ [.inr (.byte, false, 220)] ++ [.inr (.int, false, 220)] ++ [.inr (.int, false, 220)] ++ [.inr (.int, false, 14)] ++ [.inr (.int, false, 14)] ++ [.inr (.int, false, 14)] ++ [.inr (.int, false, 14)]) (m_ur (m_ur (m_ur (m_ur (m_ur (m_ur (m_ur (m_ur (m_ur (m_ur (m_ur (m_ur (m_ur M a 5 (some (a + 1))) a 6 (some (a + 2))) a 7 (some (a + 3))) a 8 (some (a + 4))) a 9 (some (a + 5))) a 10 (some (a + 6))) a 11 (some (a + 7))) a 22 (some (a + 8))) a 23 (some (a + 9))) a 24 (some (a + 10))) a 25 (some (a + 11))) a 26 (some (a + 12))) a 27 (some (a + 13))) := hz25.ur (by rw [m_ap_1 hn (n := 13) rfl]; omega)
  refine m_aload_n dX11_init_107 rfl 0 rfl ?_
  refine m_sipush (v := 220) dX11_init_108 (by decide) ?_
  refine m_newa (atype := .int) (ty := .int) (N := 220) ac_int rfl rfl (by decide) (by decide) (by decide) (Nat.le_of_ble_eq_true rfl) (Nat.le_of_ble_eq_true rfl) hz26 dX11_init_111 ?_
  rw [m_ap_1 hn (n := 13) rfl, m_ap_al]
  have hq := hz26.al (t := .inr (.int, false, 220)); rw [m_ap_al] at hq
  have hz27 := hq
  refine m_putr f_X11_50 rfl (Or.inr ⟨rfl, _, _, _, rfl, rfl⟩) dX11_init_113 (m_ap_lt hT (by omega)) ?_
  have hz28 : m_Zr (m_ap Th [] ++ [.inr (.int, false, 5)] ++ [.inr (.int, false, 6)] ++ [.inr (.int, false, 6)] ++ [.inr (.int, false, 5)] ++ [.inr (.int, false, 5)] ++ [.inr (.int, false, 5)] ++ [.inr (.byte, false, 220)] ++ [.inr (.int, false, 220)] ++ [.inr (.int, false, 220)] ++ [.inr (.int, false, 14)] ++ [.inr (.int, false, 14)] ++ [.inr (.int, false, 14)] ++ [.inr (.int, false, 14)] ++ [.inr (.int, false, 220)]) (m_ur (m_ur (m_ur (m_ur (m_ur (m_ur (m_ur (m_ur (m_ur (m_ur (m_ur (m_ur (m_ur (m_ur M a 5 (some (a + 1))) a 6 (some (a + 2))) a 7 (some (a + 3))) a 8 (some (a + 4))) a 9 (some (a + 5))) a 10 (some (a + 6))) a 11 (some (a + 7))) a 22 (some (a + 8))) a 23 (some (a + 9))) a 24 (some (a + 10))) a 25 (some (a + 11))) a 26 (some (a + 12))) a 27 (some (a + 13))) a 28 (some (a + 14))) := hz27.ur (by rw [m_ap_1 hn (n := 14) rfl]; omega)
  refine m_aload_n dX11_init_116 rfl 0 rfl ?_
  refine m_bipush (v := 14) dX11_init_117 (by decide) ?_
  refine m_newa (atype := .int) (ty := .int) (N := 14) ac_int rfl rfl (by decide) (by decide) (by decide) (Nat.le_of_ble_eq_true rfl) (Nat.le_of_ble_eq_true rfl) hz28 dX11_init_119 ?_
  rw [m_ap_1 hn (n := 14) rfl, m_ap_al]
  have hq := hz28.al (t := .inr (.int, false, 14)); rw [m_ap_al] at hq
  have hz29 := hq
  refine m_putr f_X11_53 rfl (Or.inr ⟨rfl, _, _, _, rfl, rfl⟩) dX11_init_121 (m_ap_lt hT (by omega)) ?_
  have hz30 : m_Zr (m_ap Th [] ++ [.inr (.int, false, 5)] ++ [.inr (.int, false, 6)] ++ [.inr (.int, false, 6)] ++ [.inr (.int, false, 5)] ++ [.inr (.int, false, 5)] ++ [.inr (.int, false, 5)] ++ [.inr (.byte, false, 220)] ++ [.inr (.int, false, 220)] ++ [.inr (.int, false, 220)] ++ [.inr (.int, false, 14)] ++ [.inr (.int, false, 14)] ++ [.inr (.int, false, 14)] ++ [.inr (.int, false, 14)] ++ [.inr (.int, false, 220)] ++ [.inr (.int, false, 14)]) (m_ur (m_ur (m_ur (m_ur (m_ur (m_ur (m_ur (m_ur (m_ur (m_ur (m_ur (m_ur (m_ur (m_ur (m_ur M a 5 (some (a + 1))) a 6 (some (a + 2))) a 7 (some (a + 3))) a 8 (some (a + 4))) a 9 (some (a + 5))) a 10 (some (a + 6))) a 11 (some (a + 7))) a 22 (some (a + 8))) a 23 (some (a + 9))) a 24 (some (a + 10))) a 25 (some (a + 11))) a 26 (some (a + 12))) a 27 (some (a + 13))) a 28 (some (a + 14))) a 29 (some (a + 15))) := hz29.ur (by rw [m_ap_1 hn (n := 15) rfl]; omega)
  refine m_aload_n dX11_init_124 rfl 0 rfl ?_
  refine m_bipush (v := 14) dX11_init_125 (by decide) ?_
  refine m_newa (atype := .int) (ty := .int) (N := 14) ac_int rfl rfl (by decide) (by decide) (by decide) (Nat.le_of_ble_eq_true rfl) (Nat.le_of_ble_eq_true rfl) hz30 dX11_init_127 ?_
  rw [m_ap_1 hn (n := 15) rfl, m_ap_al]
  have hq := hz30.al (t := .inr (.int, false, 14)); rw [m_ap_al] at hq
  have hz31 := hq
  refine m_putr f_X11_56 rfl (Or.inr ⟨rfl, _, _, _, rfl, rfl⟩) dX11_init_129 (m_ap_lt hT (by omega)) ?_
  have hz32 : m_Zr (m_ap Th [] ++ [.inr (.int, false, 5)] ++ [.inr (.int, false, 6)] ++ [.inr (.int, false, 6)] ++ [.inr (.int, false, 5)] ++ [.inr (.int, false, 5)] ++ [.inr (.int, false, 5)] ++ [.inr (.byte, false, 220)] ++ [.inr (.int, false, 220)] ++ [.inr (.int, false, 220)] ++ [.inr (.int, false, 14)] ++ [.inr (.int, false, 14)] ++ [.inr (.int, false, 14)] ++ [.inr (.int, false, 14)] ++ [.inr (.int, false, 220)] ++ [.inr (.int, false, 14)] ++ [.inr (.int, false, 14)]) (m_ur (m_ur (m_ur (m_ur (m_ur (m_ur (m_ur (m_ur (m_ur (m_ur (m_ur (m_ur (m_ur (m_ur (m_ur (m_ur M a 5 (some (a + 1))) a 6 (some (a + 2))) a 7 (some (a + 3))) a 8 (some (a + 4))) a 9 (some (a + 5))) a 10 (some (a + 6))) a 11 (some (a + 7))) a 22 (some (a + 8))) a 23 (some (a + 9))) a 24 (some (a + 10))) a 25 (some (a + 11))) a 26 (some (a + 12))) a 27 (some (a + 13))) a 28 (some (a + 14))) a 29 (some (a + 15))) a 30 (some (a + 16))) := hz31.ur (by rw [m_ap_1 hn (n := 16) rfl]; omega)
  refine m_aload_n dX11_init_132 rfl 0 rfl ?_
  refine m_bipush (v := 14) dX11_init_133 (by decide) ?_
  refine m_newa (atype := .int) (ty := .int) (N := 14) ac_int rfl rfl (by decide) (by decide) (by decide) (Nat.le_of_ble_eq_true rfl) (Nat.le_of_ble_eq_true rfl) hz32 dX11_init_135 ?_
  rw [m_ap_1 hn (n := 16) rfl, m_ap_al]
  have hq := hz32.al (t := .inr (.int, false, 14)); rw [m_ap_al] at hq
  have hz33 := hq
  refine m_putr f_X11_59 rfl (Or.inr ⟨rfl, _, _, _, rfl, rfl⟩) dX11_init_137 (m_ap_lt hT (by omega)) ?_
  have hz34 : m_Zr (m_ap Th [] ++ [.inr (.int, false, 5)] ++ [.inr (.int, false, 6)] ++ [.inr (.int, false, 6)] ++ [.inr (.int, false, 5)] ++ [.inr (.int, false, 5)] ++ [.inr (.int, false, 5)] ++ [.inr (.byte, false, 220)] ++ [.inr (.int, false, 220)] ++ [.inr (.int, false, 220)] ++ [.inr (.int, false, 14)] ++ [.inr (.int, false, 14)] ++ [.inr (.int, false, 14)] ++ [.inr (.int, false, 14)] ++ [.inr (.int, false, 220)] ++ [.inr (.int, false, 14)] ++ [.inr (.int, false, 14)] ++ [.inr (.int, false, 14)]) (m_ur (m_ur (m_ur (m_ur (m_ur (m_ur (m_ur (m_ur (m_ur (m_ur (m_ur (m_ur (m_ur (m_ur (m_ur (m_ur (m_ur M a 5 (some (a + 1))) a 6 (some (a + 2))) a 7 (some (a + 3))) a 8 (some (a + 4))) a 9 (some (a + 5))) a 10 (some (a + 6))) a 11 (some (a + 7))) a 22 (some (a + 8))) a 23 (some (a + 9))) a 24 (some (a + 10))) a 25 (some (a + 11))) a 26 (some (a + 12))) a 27 (some (a + 13))) a 28 (some (a + 14))) a 29 (some (a + 15))) a 30 (some (a + 16))) a 31 (some (a + 17))) := hz33.ur (by rw [m_ap_1 hn (n := 17) rfl]; omega)
  refine m_aload_n dX11_init_140 rfl 0 rfl ?_
  refine m_bipush (v := 14) dX11_init_141 (by decide) ?_
  refine m_newa (atype := .int) (ty := .int) (N := 14) ac_int rfl rfl (by decide) (by decide) (by decide) (Nat.le_of_ble_eq_true rfl) (Nat.le_of_ble_eq_true rfl) hz34 dX11_init_143 ?_
  rw [m_ap_1 hn (n := 17) rfl, m_ap_al]
  have hq := hz34.al (t := .inr (.int, false, 14)); rw [m_ap_al] at hq
  have hz35 := hq
  refine m_putr f_X11_62 rfl (Or.inr ⟨rfl, _, _, _, rfl, rfl⟩) dX11_init_145 (m_ap_lt hT (by omega)) ?_
  have hz36 : m_Zr (m_ap Th [] ++ [.inr (.int, false, 5)] ++ [.inr (.int, false, 6)] ++ [.inr (.int, false, 6)] ++ [.inr (.int, false, 5)] ++ [.inr (.int, false, 5)] ++ [.inr (.int, false, 5)] ++ [.inr (.byte, false, 220)] ++ [.inr (.int, false, 220)] ++ [.inr (.int, false, 220)] ++ [.inr (.int, false, 14)] ++ [.inr (.int, false, 14)] ++ [.inr (.int, false, 14)] ++ [.inr (.int, false, 14)] ++ [.inr (.int, false, 220)] ++ [.inr (.int, false, 14)] ++ [.inr (.int, false, 14)] ++ [.inr (.int, false, 14)] ++ [.inr (.int, false, 14)]) (m_ur (m_ur (m_ur (m_ur (m_ur (m_ur (m_ur (m_ur (m_ur (m_ur (m_ur (m_ur (m_ur (m_ur (m_ur (m_ur (m_ur (m_ur M a 5 (some (a + 1))) a 6 (some (a + 2))) a 7 (some (a + 3))) a 8 (some (a + 4))) a 9 (some (a + 5))) a 10 (some (a + 6))) a 11 (some (a + 7))) a 22 (some (a + 8))) a 23 (some (a + 9))) a 24 (some (a + 10))) a 25 (some (a + 11))) a 26 (some (a + 12))) a 27 (some (a + 13))) a 28 (some (a + 14))) a 29 (some (a + 15))) a 30 (some (a + 16))) a 31 (some (a + 17))) a 32 (some (a + 18))) := hz35.ur (by rw [m_ap_1 hn (n := 18) rfl]; omega)
  refine m_aload_n dX11_init_148 rfl 0 rfl ?_
  refine m_sipush (v := 220) dX11_init_149 (by decide) ?_
  refine m_newa (atype := .int) (ty := .int) (N := 220) ac_int rfl rfl (by decide) (by decide) (by decide) (Nat.le_of_ble_eq_true rfl) (Nat.le_of_ble_eq_true rfl) hz36 dX11_init_152 ?_
  rw [m_ap_1 hn (n := 18) rfl, m_ap_al]
  have hq := hz36.al (t := .inr (.int, false, 220)); rw [m_ap_al] at hq
  have hz37 := hq
  refine m_putr f_X11_65 rfl (Or.inr ⟨rfl, _, _, _, rfl, rfl⟩) dX11_init_154 (m_ap_lt hT (by omega)) ?_
  have hz38 : m_Zr (m_ap Th [] ++ [.inr (.int, false, 5)] ++ [.inr (.int, false, 6)] ++ [.inr (.int, false, 6)] ++ [.inr (.int, false, 5)] ++ [.inr (.int, false, 5)] ++ [.inr (.int, false, 5)] ++ [.inr (.byte, false, 220)] ++ [.inr (.int, false, 220)] ++ [.inr (.int, false, 220)] ++ [.inr (.int, false, 14)] ++ [.inr (.int, false, 14)] ++ [.inr (.int, false, 14)] ++ [.inr (.int, false, 14)] ++ [.inr (.int, false, 220)] ++ [.inr (.int, false, 14)] ++ [.inr (.int, false, 14)] ++ [.inr (.int, false, 14)] ++ [.inr (.int, false, 14)] ++ [.inr (.int, false, 220)]) (m_ur (m_ur (m_ur (m_ur (m_ur (m_ur (m_ur (m_ur (m_ur (m_ur (m_ur (m_ur (m_ur (m_ur (m_ur (m_ur (m_ur (m_ur (m_ur M a 5 (some (a + 1))) a 6 (some (a + 2))) a 7 (some (a + 3))) a 8 (some (a + 4))) a 9 (some (a + 5))) a 10 (some (a + 6))) a 11 (some (a + 7))) a 22 (some (a + 8))) a 23 (some (a + 9))) a 24 (some (a + 10))) a 25 (some (a + 11))) a 26 (some (a + 12))) a 27 (some (a + 13))) a 28 (some (a + 14))) a 29 (some (a + 15))) a 30 (some (a + 16))) a 31 (some (a + 17))) a 32 (some (a + 18))) a 33 (some (a + 19))) := hz37.ur (by rw [m_ap_1 hn (n := 19) rfl]; omega)
  refine m_aload_n dX11_init_157 rfl 0 rfl ?_
  refine m_bipush (v := 8) dX11_init_158 (by decide) ?_
  refine m_newa (atype := .int) (ty := .int) (N := 8) ac_int rfl rfl (by decide) (by decide) (by decide) (Nat.le_of_ble_eq_true rfl) (Nat.le_of_ble_eq_true rfl) hz38 dX11_init_160 ?_
  rw [m_ap_1 hn (n := 19) rfl, m_ap_al]
  have hq := hz38.al (t := .inr (.int, false, 8)); rw [m_ap_al] at hq
  have hz39 := hq
  refine m_putr f_X11_68 rfl (Or.inr ⟨rfl, _, _, _, rfl, rfl⟩) dX11_init_162 (m_ap_lt hT (by omega)) ?_
  have hz40 : m_Zr (m_ap Th [] ++ [.inr (.int, false, 5)] ++ [.inr (.int, false, 6)] ++ [.inr (.int, false, 6)] ++ [.inr (.int, false, 5)] ++ [.inr (.int, false, 5)] ++ [.inr (.int, false, 5)] ++ [.inr (.byte, false, 220)] ++ [.inr (.int, false, 220)] ++ [.inr (.int, false, 220)] ++ [.inr (.int, false, 14)] ++ [.inr (.int, false, 14)] ++ [.inr (.int, false, 14)] ++ [.inr (.int, false, 14)] ++ [.inr (.int, false, 220)] ++ [.inr (.int, false, 14)] ++ [.inr (.int, false, 14)] ++ [.inr (.int, false, 14)] ++ [.inr (.int, false, 14)] ++ [.inr (.int, false, 220)] ++ [.inr (.int, false, 8)]) (m_ur (m_ur (m_ur (m_ur (m_ur (m_ur (m_ur (m_ur (m_ur (m_ur (m_ur (m_ur (m_ur (m_ur (m_ur (m_ur (m_ur (m_ur (m_ur (m_ur M a 5 (some (a + 1))) a 6 (some (a + 2))) a 7 (some (a + 3))) a 8 (some (a + 4))) a 9 (some (a + 5))) a 10 (some (a + 6))) a 11 (some (a + 7))) a 22 (some (a + 8))) a 23 (some (a + 9))) a 24 (some (a + 10))) a 25 (some (a + 11))) a 26 (some (a + 12))) a 27 (some (a + 13))) a 28 (some (a + 14))) a 29 (some (a + 15))) a 30 (some (a + 16))) a 31 (some (a + 17))) a 32 (some (a + 18))) a 33 (some (a + 19))) a 34 (some (a + 20))) := hz39.ur (by rw [m_ap_1 hn (n := 20) rfl]; omega)
  refine m_aload_n dX11_init_165 rfl 0 rfl ?_
  refine m_sipush (v := 1053) dX11_init_166 (by decide) ?_
  refine m_newa (atype := .long) (ty := .long) (N := 1053) ac_long rfl rfl (by decide) (by decide) (by decide) (Nat.le_of_ble_eq_true rfl) (Nat.le_of_ble_eq_true rfl) hz40 dX11_init_169 ?_
  rw [m_ap_1 hn (n := 20) rfl, m_ap_al]
  have hq := hz40.al (t := .inr (.long, false, 1053)); rw [m_ap_al] at hq
  have hz41 := hq
  refine m_putr f_X11_71 rfl (Or.inr ⟨rfl, _, _, _, rfl, rfl⟩) dX11_init_171 (m_ap_lt hT (by omega)) ?_
  have hz42 : m_Zr (m_ap Th [] ++ [.inr (.int, false, 5)] ++ [.inr (.int, false, 6)] ++ [.inr (.int, false, 6)] ++ [.inr (.int, false, 5)] ++ [.inr (.int, false, 5)] ++ [.inr (.int, false, 5)] ++ [.inr (.byte, false, 220)] ++ [.inr (.int, false, 220)] ++ [.inr (.int, false, 220)] ++ [.inr (.int, false, 14)] ++ [.inr (.int, false, 14)] ++ [.inr (.int, false, 14)] ++ [.inr (.int, false, 14)] ++ [.inr (.int, false, 220)] ++ [.inr (.int, false, 14)] ++ [.inr (.int, false, 14)] ++ [.inr (.int, false, 14)] ++ [.inr (.int, false, 14)] ++ [.inr (.int, false, 220)] ++ [.inr (.int, false, 8)] ++ [.inr (.long, false, 1053)]) (m_ur (m_ur (m_ur (m_ur (m_ur (m_ur (m_ur (m_ur (m_ur (m_ur (m_ur (m_ur (m_ur (m_ur (m_ur (m_ur (m_ur (m_ur (m_ur (m_ur (m_ur M a 5 (some (a + 1))) a 6 (some (a + 2))) a 7 (some (a + 3))) a 8 (some (a + 4))) a 9 (some (a + 5))) a 10 (some (a + 6))) a 11 (some (a + 7))) a 22 (some (a + 8))) a 23 (some (a + 9))) a 24 (some (a + 10))) a 25 (some (a + 11))) a 26 (some (a + 12))) a 27 (some (a + 13))) a 28 (some (a + 14))) a 29 (some (a + 15))) a 30 (some (a + 16))) a 31 (some (a + 17))) a 32 (some (a + 18))) a 33 (some (a + 19))) a 34 (some (a + 20))) a 37 (some (a + 21))) := hz41.ur (by rw [m_ap_1 hn (n := 21) rfl]; omega)
  refine m_aload_n dX11_init_174 rfl 0 rfl ?_
  refine m_sipush (v := 1053) dX11_init_175 (by decide) ?_
  refine m_newa (atype := .long) (ty := .long) (N := 1053) ac_long rfl rfl (by decide) (by decide) (by decide) (Nat.le_of_ble_eq_true rfl) (Nat.le_of_ble_eq_true rfl) hz42 dX11_init_178 ?_
  rw [m_ap_1 hn (n := 21) rfl, m_ap_al]
  have hq := hz42.al (t := .inr (.long, false, 1053)); rw [m_ap_al] at hq
  have hz43 := hq
  refine m_putr f_X11_75 rfl (Or.inr ⟨rfl, _, _, _, rfl, rfl⟩) dX11_init_180 (m_ap_lt hT (by omega)) ?_
  have hz44 : m_Zr (m_ap Th [] ++ [.inr (.int, false, 5)] ++ [.inr (.int, false, 6)] ++ [.inr (.int, false, 6)] ++ [.inr (.int, false, 5)] ++ [.inr (.int, false, 5)] ++ [.inr (.int, false, 5)] ++ [.inr (.byte, false, 220)] ++ [.inr (.int, false, 220)] ++ [.inr (.int, false, 220)] ++ [.inr (.int, false, 14)] ++ [.inr (.int, false, 14)] ++ [.inr (.int, false, 14)] ++ [.inr (.int, false, 14)] ++ [.inr (.int, false, 220)] ++ [.inr (.int, false, 14)] ++ [.inr (.int, false, 14)] ++ [.inr (.int, false, 14)] ++ [.inr (.int, false, 14)] ++ [.inr (.int, false, 220)] ++ [.inr (.int, false, 8)] ++ [.inr (.long, false, 1053)] ++ [.inr (.long, false, 1053)]) (m_ur (m_ur (m_ur (m_ur (m_ur (m_ur (m_ur (m_ur (m_ur (m_ur (m_ur (m_ur (m_ur (m_ur (m_ur (m_ur (m_ur (m_ur (m_ur (m_ur (m_ur (m_ur M a 5 (some (a + 1))) a 6 (some (a + 2))) a 7 (some (a + 3))) a 8 (some (a + 4))) a 9 (some (a + 5))) a 10 (some (a + 6))) a 11 (some (a + 7))) a 22 (some (a + 8))) a 23 (some (a + 9))) a 24 (some (a + 10))) a 25 (some (a + 11))) a 26 (some (a + 12))) a 27 (some (a + 13))) a 28 (some (a + 14))) a 29 (some (a + 15))) a 30 (some (a + 16))) a 31 (some (a + 17))) a 32 (some (a + 18))) a 33 (some (a + 19))) a 34 (some (a + 20))) a 37 (some (a + 21))) a 38 (some (a + 22))) := hz43.ur (by rw [m_ap_1 hn (n := 22) rfl]; omega)
  refine m_aload_n dX11_init_183 rfl 0 rfl ?_
  refine m_bipush (v := 11) dX11_init_184 (by decide) ?_
  refine m_newa (atype := .long) (ty := .long) (N := 11) ac_long rfl rfl (by decide) (by decide) (by decide) (Nat.le_of_ble_eq_true rfl) (Nat.le_of_ble_eq_true rfl) hz44 dX11_init_186 ?_
  rw [m_ap_1 hn (n := 22) rfl, m_ap_al]
  have hq := hz44.al (t := .inr (.long, false, 11)); rw [m_ap_al] at hq
  have hz45 := hq
  refine m_putr f_X11_78 rfl (Or.inr ⟨rfl, _, _, _, rfl, rfl⟩) dX11_init_188 (m_ap_lt hT (by omega)) ?_
  have hz46 : m_Zr (m_ap Th [] ++ [.inr (.int, false, 5)] ++ [.inr (.int, false, 6)] ++ [.inr (.int, false, 6)] ++ [.inr (.int, false, 5)] ++ [.inr (.int, false, 5)] ++ [.inr (.int, false, 5)] ++ [.inr (.byte, false, 220)] ++ [.inr (.int, false, 220)] ++ [.inr (.int, false, 220)] ++ [.inr (.int, false, 14)] ++ [.inr (.int, false, 14)] ++ [.inr (.int, false, 14)] ++ [.inr (.int, false, 14)] ++ [.inr (.int, false, 220)] ++ [.inr (.int, false, 14)] ++ [.inr (.int, false, 14)] ++ [.inr (.int, false, 14)] ++ [.inr (.int, false, 14)] ++ [.inr (.int, false, 220)] ++ [.inr (.int, false, 8)] ++ [.inr (.long, false, 1053)] ++ [.inr (.long, false, 1053)] ++ [.inr (.long, false, 11)]) (m_ur (m_ur (m_ur (m_ur (m_ur (m_ur (m_ur (m_ur (m_ur (m_ur (m_ur (m_ur (m_ur (m_ur (m_ur (m_ur (m_ur (m_ur (m_ur (m_ur (m_ur (m_ur (m_ur M a 5 (some (a + 1))) a 6 (some (a + 2))) a 7 (some (a + 3))) a 8 (some (a + 4))) a 9 (some (a + 5))) a 10 (some (a + 6))) a 11 (some (a + 7))) a 22 (some (a + 8))) a 23 (some (a + 9))) a 24 (some (a + 10))) a 25 (some (a + 11))) a 26 (some (a + 12))) a 27 (some (a + 13))) a 28 (some (a + 14))) a 29 (some (a + 15))) a 30 (some (a + 16))) a 31 (some (a + 17))) a 32 (some (a + 18))) a 33 (some (a + 19))) a 34 (some (a + 20))) a 37 (some (a + 21))) a 38 (some (a + 22))) a 39 (some (a + 23))) := hz45.ur (by rw [m_ap_1 hn (n := 23) rfl]; omega)
  refine m_aload_n dX11_init_191 rfl 0 rfl ?_
  refine m_bipush (v := 11) dX11_init_192 (by decide) ?_
  refine m_newa (atype := .long) (ty := .long) (N := 11) ac_long rfl rfl (by decide) (by decide) (by decide) (Nat.le_of_ble_eq_true rfl) (Nat.le_of_ble_eq_true rfl) hz46 dX11_init_194 ?_
  rw [m_ap_1 hn (n := 23) rfl, m_ap_al]
  have hq := hz46.al (t := .inr (.long, false, 11)); rw [m_ap_al] at hq
  have hz47 := hq
  refine m_putr f_X11_81 rfl (Or.inr ⟨rfl, _, _, _, rfl, rfl⟩) dX11_init_196 (m_ap_lt hT (by omega)) ?_
  have hz48 : m_Zr (m_ap Th [] ++ [.inr (.int, false, 5)] ++ [.inr (.int, false, 6)] ++ [.inr (.int, false, 6)] ++ [.inr (.int, false, 5)] ++ [.inr (.int, false, 5)] ++ [.inr (.int, false, 5)] ++ [.inr (.byte, false, 220)] ++ [.inr (.int, false, 220)] ++ [.inr (.int, false, 220)] ++ [.inr (.int, false, 14)] ++ [.inr (.int, false, 14)] ++ [.inr (.int, false, 14)] ++ [.inr (.int, false, 14)] ++ [.inr (.int, false, 220)] ++ [.inr (.int, false, 14)] ++ [.inr (.int, false, 14)] ++ [.inr (.int, false, 14)] ++ [.inr (.int, false, 14)] ++ [.inr (.int, false, 220)] ++ [.inr (.int, false, 8)] ++ [.inr (.long, false, 1053)] ++ [.inr (.long, false, 1053)] ++ [.inr (.long, false, 11)] ++ [.inr (.long, false, 11)]) (m_ur (m_ur (m_ur (m_ur (m_ur (m_ur (m_ur (m_ur (m_ur (m_ur (m_ur (m_ur (m_ur (m_ur (m_ur (m_ur (m_ur (m_ur (m_ur (m_ur (m_ur (m_ur (m_ur (m_ur M a 5 (some (a + 1))) a 6 (some (a + 2))) a 7 (some (a + 3))) a 8 (some (a + 4))) a 9 (some (a + 5))) a 10 (some (a + 6))) a 11 (some (a + 7))) a 22 (some (a + 8))) a 23 (some (a + 9))) a 24 (some (a + 10))) a 25 (some (a + 11))) a 26 (some (a + 12))) a 27 (some (a + 13))) a 28 (some (a + 14))) a 29 (some (a + 15))) a 30 (some (a + 16))) a 31 (some (a + 17))) a 32 (some (a + 18))) a 33 (some (a + 19))) a 34 (some (a + 20))) a 37 (some (a + 21))) a 38 (some (a + 22))) a 39 (some (a + 23))) a 41 (some (a + 24))) := hz47.ur (by rw [m_ap_1 hn (n := 24) rfl]; omega)
  refine m_aload_n dX11_init_199 rfl 0 rfl ?_
  refine m_ldc k_X11_84 dX11_init_200 ?_
  refine m_newa (atype := .boolean) (ty := .boolean) (N := 277200) ac_boolean rfl rfl (by decide) (by decide) (by decide) (Nat.le_of_ble_eq_true rfl) (Nat.le_of_ble_eq_true rfl) hz48 dX11_init_202 ?_
  rw [m_ap_1 hn (n := 24) rfl, m_ap_al]
  have hq := hz48.al (t := .inr (.boolean, false, 277200)); rw [m_ap_al] at hq
  have hz49 := hq
  refine m_putr f_X11_85 rfl (Or.inr ⟨rfl, _, _, _, rfl, rfl⟩) dX11_init_204 (m_ap_lt hT (by omega)) ?_
  have hz50 : m_Zr (m_ap Th [] ++ [.inr (.int, false, 5)] ++ [.inr (.int, false, 6)] ++ [.inr (.int, false, 6)] ++ [.inr (.int, false, 5)] ++ [.inr (.int, false, 5)] ++ [.inr (.int, false, 5)] ++ [.inr (.byte, false, 220)] ++ [.inr (.int, false, 220)] ++ [.inr (.int, false, 220)] ++ [.inr (.int, false, 14)] ++ [.inr (.int, false, 14)] ++ [.inr (.int, false, 14)] ++ [.inr (.int, false, 14)] ++ [.inr (.int, false, 220)] ++ [.inr (.int, false, 14)] ++ [.inr (.int, false, 14)] ++ [.inr (.int, false, 14)] ++ [.inr (.int, false, 14)] ++ [.inr (.int, false, 220)] ++ [.inr (.int, false, 8)] ++ [.inr (.long, false, 1053)] ++ [.inr (.long, false, 1053)] ++ [.inr (.long, false, 11)] ++ [.inr (.long, false, 11)] ++ [.inr (.boolean, false, 277200)]) (m_ur (m_ur (m_ur (m_ur (m_ur (m_ur (m_ur (m_ur (m_ur (m_ur (m_ur (m_ur (m_ur (m_ur (m_ur (m_ur (m_ur (m_ur (m_ur (m_ur (m_ur (m_ur (m_ur (m_ur (m_ur M a 5 (some (a + 1))) a 6 (some (a + 2))) a 7 (some (a + 3))) a 8 (some (a + 4))) a 9 (some (a + 5))) a 10 (some (a + 6))) a 11 (some (a + 7))) a 22 (some (a + 8))) a 23 (some (a + 9))) a 24 (some (a + 10))) a 25 (some (a + 11))) a 26 (some (a + 12))) a 27 (some (a + 13))) a 28 (some (a + 14))) a 29 (some (a + 15))) a 30 (some (a + 16))) a 31 (some (a + 17))) a 32 (some (a + 18))) a 33 (some (a + 19))) a 34 (some (a + 20))) a 37 (some (a + 21))) a 38 (some (a + 22))) a 39 (some (a + 23))) a 41 (some (a + 24))) a 46 (some (a + 25))) := hz49.ur (by rw [m_ap_1 hn (n := 25) rfl]; omega)
  refine m_aload_n dX11_init_207 rfl 0 rfl ?_
  refine m_ldc k_X11_84 dX11_init_208 ?_
  refine m_newa (atype := .long) (ty := .long) (N := 277200) ac_long rfl rfl (by decide) (by decide) (by decide) (Nat.le_of_ble_eq_true rfl) (Nat.le_of_ble_eq_true rfl) hz50 dX11_init_210 ?_
  rw [m_ap_1 hn (n := 25) rfl, m_ap_al]
  have hq := hz50.al (t := .inr (.long, false, 277200)); rw [m_ap_al] at hq
  have hz51 := hq
  refine m_putr f_X11_89 rfl (Or.inr ⟨rfl, _, _, _, rfl, rfl⟩) dX11_init_212 (m_ap_lt hT (by omega)) ?_
  have hz52 : m_Zr (m_ap Th [] ++ [.inr (.int, false, 5)] ++ [.inr (.int, false, 6)] ++ [.inr (.int, false, 6)] ++ [.inr (.int, false, 5)] ++ [.inr (.int, false, 5)] ++ [.inr (.int, false, 5)] ++ [.inr (.byte, false, 220)] ++ [.inr (.int, false, 220)] ++ [.inr (.int, false, 220)] ++ [.inr (.int, false, 14)] ++ [.inr (.int, false, 14)] ++ [.inr (.int, false, 14)] ++ [.inr (.int, false, 14)] ++ [.inr (.int, false, 220)] ++ [.inr (.int, false, 14)] ++ [.inr (.int, false, 14)] ++ [.inr (.int, false, 14)] ++ [.inr (.int, false, 14)] ++ [.inr (.int, false, 220)] ++ [.inr (.int, false, 8)] ++ [.inr (.long, false, 1053)] ++ [.inr (.long, false, 1053)] ++ [.inr (.long, false, 11)] ++ [.inr (.long, false, 11)] ++ [.inr (.boolean, false, 277200)] ++ [.inr (.long, false, 277200)]) (m_ur (m_ur (m_ur (m_ur (m_ur (m_ur (m_ur (m_ur (m_ur (m_ur (m_ur (m_ur (m_ur (m_ur (m_ur (m_ur (m_ur (m_ur (m_ur (m_ur (m_ur (m_ur (m_ur (m_ur (m_ur (m_ur M a 5 (some (a + 1))) a 6 (some (a + 2))) a 7 (some (a + 3))) a 8 (some (a + 4))) a 9 (some (a + 5))) a 10 (some (a + 6))) a 11 (some (a + 7))) a 22 (some (a + 8))) a 23 (some (a + 9))) a 24 (some (a + 10))) a 25 (some (a + 11))) a 26 (some (a + 12))) a 27 (some (a + 13))) a 28 (some (a + 14))) a 29 (some (a + 15))) a 30 (some (a + 16))) a 31 (some (a + 17))) a 32 (some (a + 18))) a 33 (some (a + 19))) a 34 (some (a + 20))) a 37 (some (a + 21))) a 38 (some (a + 22))) a 39 (some (a + 23))) a 41 (some (a + 24))) a 46 (some (a + 25))) a 47 (some (a + 26))) := hz51.ur (by rw [m_ap_1 hn (n := 26) rfl]; omega)
  refine m_aload_n dX11_init_215 rfl 0 rfl ?_
  refine m_ldc k_X11_84 dX11_init_216 ?_
  refine m_newa (atype := .byte) (ty := .byte) (N := 277200) ac_byte rfl rfl (by decide) (by decide) (by decide) (Nat.le_of_ble_eq_true rfl) (Nat.le_of_ble_eq_true rfl) hz52 dX11_init_218 ?_
  rw [m_ap_1 hn (n := 26) rfl, m_ap_al]
  have hq := hz52.al (t := .inr (.byte, false, 277200)); rw [m_ap_al] at hq
  have hz53 := hq
  refine m_putr f_X11_92 rfl (Or.inr ⟨rfl, _, _, _, rfl, rfl⟩) dX11_init_220 (m_ap_lt hT (by omega)) ?_
  have hz54 : m_Zr (m_ap Th [] ++ [.inr (.int, false, 5)] ++ [.inr (.int, false, 6)] ++ [.inr (.int, false, 6)] ++ [.inr (.int, false, 5)] ++ [.inr (.int, false, 5)] ++ [.inr (.int, false, 5)] ++ [.inr (.byte, false, 220)] ++ [.inr (.int, false, 220)] ++ [.inr (.int, false, 220)] ++ [.inr (.int, false, 14)] ++ [.inr (.int, false, 14)] ++ [.inr (.int, false, 14)] ++ [.inr (.int, false, 14)] ++ [.inr (.int, false, 220)] ++ [.inr (.int, false, 14)] ++ [.inr (.int, false, 14)] ++ [.inr (.int, false, 14)] ++ [.inr (.int, false, 14)] ++ [.inr (.int, false, 220)] ++ [.inr (.int, false, 8)] ++ [.inr (.long, false, 1053)] ++ [.inr (.long, false, 1053)] ++ [.inr (.long, false, 11)] ++ [.inr (.long, false, 11)] ++ [.inr (.boolean, false, 277200)] ++ [.inr (.long, false, 277200)] ++ [.inr (.byte, false, 277200)]) (m_ur (m_ur (m_ur (m_ur (m_ur (m_ur (m_ur (m_ur (m_ur (m_ur (m_ur (m_ur (m_ur (m_ur (m_ur (m_ur (m_ur (m_ur (m_ur (m_ur (m_ur (m_ur (m_ur (m_ur (m_ur (m_ur (m_ur M a 5 (some (a + 1))) a 6 (some (a + 2))) a 7 (some (a + 3))) a 8 (some (a + 4))) a 9 (some (a + 5))) a 10 (some (a + 6))) a 11 (some (a + 7))) a 22 (some (a + 8))) a 23 (some (a + 9))) a 24 (some (a + 10))) a 25 (some (a + 11))) a 26 (some (a + 12))) a 27 (some (a + 13))) a 28 (some (a + 14))) a 29 (some (a + 15))) a 30 (some (a + 16))) a 31 (some (a + 17))) a 32 (some (a + 18))) a 33 (some (a + 19))) a 34 (some (a + 20))) a 37 (some (a + 21))) a 38 (some (a + 22))) a 39 (some (a + 23))) a 41 (some (a + 24))) a 46 (some (a + 25))) a 47 (some (a + 26))) a 48 (some (a + 27))) := hz53.ur (by rw [m_ap_1 hn (n := 27) rfl]; omega)
  refine m_aload_n dX11_init_223 rfl 0 rfl ?_
  refine m_iconst (v := 3) dX11_init_224 (by decide) ?_
  refine m_newa (atype := .int) (ty := .int) (N := 3) ac_int rfl rfl (by decide) (by decide) (by decide) (Nat.le_of_ble_eq_true rfl) (Nat.le_of_ble_eq_true rfl) hz54 dX11_init_225 ?_
  rw [m_ap_1 hn (n := 27) rfl, m_ap_al]
  have hq := hz54.al (t := .inr (.int, false, 3)); rw [m_ap_al] at hq
  have hz55 := hq
  refine m_putr f_X11_95 rfl (Or.inr ⟨rfl, _, _, _, rfl, rfl⟩) dX11_init_227 (m_ap_lt hT (by omega)) ?_
  have hz56 : m_Zr (m_ap Th [] ++ [.inr (.int, false, 5)] ++ [.inr (.int, false, 6)] ++ [.inr (.int, false, 6)] ++ [.inr (.int, false, 5)] ++ [.inr (.int, false, 5)] ++ [.inr (.int, false, 5)] ++ [.inr (.byte, false, 220)] ++ [.inr (.int, false, 220)] ++ [.inr (.int, false, 220)] ++ [.inr (.int, false, 14)] ++ [.inr (.int, false, 14)] ++ [.inr (.int, false, 14)] ++ [.inr (.int, false, 14)] ++ [.inr (.int, false, 220)] ++ [.inr (.int, false, 14)] ++ [.inr (.int, false, 14)] ++ [.inr (.int, false, 14)] ++ [.inr (.int, false, 14)] ++ [.inr (.int, false, 220)] ++ [.inr (.int, false, 8)] ++ [.inr (.long, false, 1053)] ++ [.inr (.long, false, 1053)] ++ [.inr (.long, false, 11)] ++ [.inr (.long, false, 11)] ++ [.inr (.boolean, false, 277200)] ++ [.inr (.long, false, 277200)] ++ [.inr (.byte, false, 277200)] ++ [.inr (.int, false, 3)]) (m_ur (m_ur (m_ur (m_ur (m_ur (m_ur (m_ur (m_ur (m_ur (m_ur (m_ur (m_ur (m_ur (m_ur (m_ur (m_ur (m_ur (m_ur (m_ur (m_ur (m_ur (m_ur (m_ur (m_ur (m_ur (m_ur (m_ur (m_ur M a 5 (some (a + 1))) a 6 (some (a + 2))) a 7 (some (a + 3))) a 8 (some (a + 4))) a 9 (some (a + 5))) a 10 (some (a + 6))) a 11 (some (a + 7))) a 22 (some (a + 8))) a 23 (some (a + 9))) a 24 (some (a + 10))) a 25 (some (a + 11))) a 26 (some (a + 12))) a 27 (some (a + 13))) a 28 (some (a + 14))) a 29 (some (a + 15))) a 30 (some (a + 16))) a 31 (some (a + 17))) a 32 (some (a + 18))) a 33 (some (a + 19))) a 34 (some (a + 20))) a 37 (some (a + 21))) a 38 (some (a + 22))) a 39 (some (a + 23))) a 41 (some (a + 24))) a 46 (some (a + 25))) a 47 (some (a + 26))) a 48 (some (a + 27))) a 49 (some (a + 28))) := hz55.ur (by rw [m_ap_1 hn (n := 28) rfl]; omega)
  refine m_aload_n dX11_init_230 rfl 0 rfl ?_
  refine m_iconst (v := 3) dX11_init_231 (by decide) ?_
  refine m_newa (atype := .int) (ty := .int) (N := 3) ac_int rfl rfl (by decide) (by decide) (by decide) (Nat.le_of_ble_eq_true rfl) (Nat.le_of_ble_eq_true rfl) hz56 dX11_init_232 ?_
  rw [m_ap_1 hn (n := 28) rfl, m_ap_al]
  have hq := hz56.al (t := .inr (.int, false, 3)); rw [m_ap_al] at hq
  have hz57 := hq
  refine m_putr f_X11_98 rfl (Or.inr ⟨rfl, _, _, _, rfl, rfl⟩) dX11_init_234 (m_ap_lt hT (by omega)) ?_
  have hz58 : m_Zr (m_ap Th [] ++ [.inr (.int, false, 5)] ++ [.inr (.int, false, 6)] ++ [.inr (.int, false, 6)] ++ [.inr (.int, false, 5)] ++ [.inr (.int, false, 5)] ++ [.inr (.int, false, 5)] ++ [.inr (.byte, false, 220)] ++ [.inr (.int, false, 220)] ++ [.inr (.int, false, 220)] ++ [.inr (.int, false, 14)] ++ [.inr (.int, false, 14)] ++ [.inr (.int, false, 14)] ++ [.inr (.int, false, 14)] ++ [.inr (.int, false, 220)] ++ [.inr (.int, false, 14)] ++ [.inr (.int, false, 14)] ++ [.inr (.int, false, 14)] ++ [.inr (.int, false, 14)] ++ [.inr (.int, false, 220)] ++ [.inr (.int, false, 8)] ++ [.inr (.long, false, 1053)] ++ [.inr (.long, false, 1053)] ++ [.inr (.long, false, 11)] ++ [.inr (.long, false, 11)] ++ [.inr (.boolean, false, 277200)] ++ [.inr (.long, false, 277200)] ++ [.inr (.byte, false, 277200)] ++ [.inr (.int, false, 3)] ++ [.inr (.int, false, 3)]) (m_ur (m_ur (m_ur (m_ur (m_ur (m_ur (m_ur (m_ur (m_ur (m_ur (m_ur (m_ur (m_ur (m_ur (m_ur (m_ur (m_ur (m_ur (m_ur (m_ur (m_ur (m_ur (m_ur (m_ur (m_ur (m_ur (m_ur (m_ur (m_ur M a 5 (some (a + 1))) a 6 (some (a + 2))) a 7 (some (a + 3))) a 8 (some (a + 4))) a 9 (some (a + 5))) a 10 (some (a + 6))) a 11 (some (a + 7))) a 22 (some (a + 8))) a 23 (some (a + 9))) a 24 (some (a + 10))) a 25 (some (a + 11))) a 26 (some (a + 12))) a 27 (some (a + 13))) a 28 (some (a + 14))) a 29 (some (a + 15))) a 30 (some (a + 16))) a 31 (some (a + 17))) a 32 (some (a + 18))) a 33 (some (a + 19))) a 34 (some (a + 20))) a 37 (some (a + 21))) a 38 (some (a + 22))) a 39 (some (a + 23))) a 41 (some (a + 24))) a 46 (some (a + 25))) a 47 (some (a + 26))) a 48 (some (a + 27))) a 49 (some (a + 28))) a 50 (some (a + 29))) := hz57.ur (by rw [m_ap_1 hn (n := 29) rfl]; omega)
  refine m_aload_n dX11_init_237 rfl 0 rfl ?_
  refine m_iconst (v := 3) dX11_init_238 (by decide) ?_
  refine m_newa (atype := .int) (ty := .int) (N := 3) ac_int rfl rfl (by decide) (by decide) (by decide) (Nat.le_of_ble_eq_true rfl) (Nat.le_of_ble_eq_true rfl) hz58 dX11_init_239 ?_
  rw [m_ap_1 hn (n := 29) rfl, m_ap_al]
  have hq := hz58.al (t := .inr (.int, false, 3)); rw [m_ap_al] at hq
  have hz59 := hq
  refine m_putr f_X11_101 rfl (Or.inr ⟨rfl, _, _, _, rfl, rfl⟩) dX11_init_241 (m_ap_lt hT (by omega)) ?_
  have hz60 : m_Zr (m_ap Th [] ++ [.inr (.int, false, 5)] ++ [.inr (.int, false, 6)] ++ [.inr (.int, false, 6)] ++ [.inr (.int, false, 5)] ++ [.inr (.int, false, 5)] ++ [.inr (.int, false, 5)] ++ [.inr (.byte, false, 220)] ++ [.inr (.int, false, 220)] ++ [.inr (.int, false, 220)] ++ [.inr (.int, false, 14)] ++ [.inr (.int, false, 14)] ++ [.inr (.int, false, 14)] ++ [.inr (.int, false, 14)] ++ [.inr (.int, false, 220)] ++ [.inr (.int, false, 14)] ++ [.inr (.int, false, 14)] ++ [.inr (.int, false, 14)] ++ [.inr (.int, false, 14)] ++ [.inr (.int, false, 220)] ++ [.inr (.int, false, 8)] ++ [.inr (.long, false, 1053)] ++ [.inr (.long, false, 1053)] ++ [.inr (.long, false, 11)] ++ [.inr (.long, false, 11)] ++ [.inr (.boolean, false, 277200)] ++ [.inr (.long, false, 277200)] ++ [.inr (.byte, false, 277200)] ++ [.inr (.int, false, 3)] ++ [.inr (.int, false, 3)] ++ [.inr (.int, false, 3)]) (m_ur (m_ur (m_ur (m_ur (m_ur (m_ur (m_ur (m_ur (m_ur (m_ur (m_ur (m_ur (m_ur (m_ur (m_ur (m_ur (m_ur (m_ur (m_ur (m_ur (m_ur (m_ur (m_ur (m_ur (m_ur (m_ur (m_ur (m_ur (m_ur (m_ur M a 5 (some (a + 1))) a 6 (some (a + 2))) a 7 (some (a + 3))) a 8 (some (a + 4))) a 9 (some (a + 5))) a 10 (some (a + 6))) a 11 (some (a + 7))) a 22 (some (a + 8))) a 23 (some (a + 9))) a 24 (some (a + 10))) a 25 (some (a + 11))) a 26 (some (a + 12))) a 27 (some (a + 13))) a 28 (some (a + 14))) a 29 (some (a + 15))) a 30 (some (a + 16))) a 31 (some (a + 17))) a 32 (some (a + 18))) a 33 (some (a + 19))) a 34 (some (a + 20))) a 37 (some (a + 21))) a 38 (some (a + 22))) a 39 (some (a + 23))) a 41 (some (a + 24))) a 46 (some (a + 25))) a 47 (some (a + 26))) a 48 (some (a + 27))) a 49 (some (a + 28))) a 50 (some (a + 29))) a 51 (some (a + 30))) := hz59.ur (by rw [m_ap_1 hn (n := 30) rfl]; omega)
  refine m_aload_n dX11_init_244 rfl 0 rfl ?_
  refine m_iconst (v := 3) dX11_init_245 (by decide) ?_
  refine m_newa (atype := .int) (ty := .int) (N := 3) ac_int rfl rfl (by decide) (by decide) (by decide) (Nat.le_of_ble_eq_true rfl) (Nat.le_of_ble_eq_true rfl) hz60 dX11_init_246 ?_
  rw [m_ap_1 hn (n := 30) rfl, m_ap_al]
  have hq := hz60.al (t := .inr (.int, false, 3)); rw [m_ap_al] at hq
  have hz61 := hq
  refine m_putr f_X11_104 rfl (Or.inr ⟨rfl, _, _, _, rfl, rfl⟩) dX11_init_248 (m_ap_lt hT (by omega)) ?_
  have hz62 : m_Zr (m_ap Th [] ++ [.inr (.int, false, 5)] ++ [.inr (.int, false, 6)] ++ [.inr (.int, false, 6)] ++ [.inr (.int, false, 5)] ++ [.inr (.int, false, 5)] ++ [.inr (.int, false, 5)] ++ [.inr (.byte, false, 220)] ++ [.inr (.int, false, 220)] ++ [.inr (.int, false, 220)] ++ [.inr (.int, false, 14)] ++ [.inr (.int, false, 14)] ++ [.inr (.int, false, 14)] ++ [.inr (.int, false, 14)] ++ [.inr (.int, false, 220)] ++ [.inr (.int, false, 14)] ++ [.inr (.int, false, 14)] ++ [.inr (.int, false, 14)] ++ [.inr (.int, false, 14)] ++ [.inr (.int, false, 220)] ++ [.inr (.int, false, 8)] ++ [.inr (.long, false, 1053)] ++ [.inr (.long, false, 1053)] ++ [.inr (.long, false, 11)] ++ [.inr (.long, false, 11)] ++ [.inr (.boolean, false, 277200)] ++ [.inr (.long, false, 277200)] ++ [.inr (.byte, false, 277200)] ++ [.inr (.int, false, 3)] ++ [.inr (.int, false, 3)] ++ [.inr (.int, false, 3)] ++ [.inr (.int, false, 3)]) (m_ur (m_ur (m_ur (m_ur (m_ur (m_ur (m_ur (m_ur (m_ur (m_ur (m_ur (m_ur (m_ur (m_ur (m_ur (m_ur (m_ur (m_ur (m_ur (m_ur (m_ur (m_ur (m_ur (m_ur (m_ur (m_ur (m_ur (m_ur (m_ur (m_ur (m_ur M a 5 (some (a + 1))) a 6 (some (a + 2))) a 7 (some (a + 3))) a 8 (some (a + 4))) a 9 (some (a + 5))) a 10 (some (a + 6))) a 11 (some (a + 7))) a 22 (some (a + 8))) a 23 (some (a + 9))) a 24 (some (a + 10))) a 25 (some (a + 11))) a 26 (some (a + 12))) a 27 (some (a + 13))) a 28 (some (a + 14))) a 29 (some (a + 15))) a 30 (some (a + 16))) a 31 (some (a + 17))) a 32 (some (a + 18))) a 33 (some (a + 19))) a 34 (some (a + 20))) a 37 (some (a + 21))) a 38 (some (a + 22))) a 39 (some (a + 23))) a 41 (some (a + 24))) a 46 (some (a + 25))) a 47 (some (a + 26))) a 48 (some (a + 27))) a 49 (some (a + 28))) a 50 (some (a + 29))) a 51 (some (a + 30))) a 52 (some (a + 31))) := hz61.ur (by rw [m_ap_1 hn (n := 31) rfl]; omega)
  refine m_aload_n dX11_init_251 rfl 0 rfl ?_
  refine m_bipush (v := 25) dX11_init_252 (by decide) ?_
  refine m_newa (atype := .int) (ty := .int) (N := 25) ac_int rfl rfl (by decide) (by decide) (by decide) (Nat.le_of_ble_eq_true rfl) (Nat.le_of_ble_eq_true rfl) hz62 dX11_init_254 ?_
  rw [m_ap_1 hn (n := 31) rfl, m_ap_al]
  have hq := hz62.al (t := .inr (.int, false, 25)); rw [m_ap_al] at hq
  have hz63 := hq
  refine m_putr f_X11_107 rfl (Or.inr ⟨rfl, _, _, _, rfl, rfl⟩) dX11_init_256 (m_ap_lt hT (by omega)) ?_
  have hz64 : m_Zr (m_ap Th [] ++ [.inr (.int, false, 5)] ++ [.inr (.int, false, 6)] ++ [.inr (.int, false, 6)] ++ [.inr (.int, false, 5)] ++ [.inr (.int, false, 5)] ++ [.inr (.int, false, 5)] ++ [.inr (.byte, false, 220)] ++ [.inr (.int, false, 220)] ++ [.inr (.int, false, 220)] ++ [.inr (.int, false, 14)] ++ [.inr (.int, false, 14)] ++ [.inr (.int, false, 14)] ++ [.inr (.int, false, 14)] ++ [.inr (.int, false, 220)] ++ [.inr (.int, false, 14)] ++ [.inr (.int, false, 14)] ++ [.inr (.int, false, 14)] ++ [.inr (.int, false, 14)] ++ [.inr (.int, false, 220)] ++ [.inr (.int, false, 8)] ++ [.inr (.long, false, 1053)] ++ [.inr (.long, false, 1053)] ++ [.inr (.long, false, 11)] ++ [.inr (.long, false, 11)] ++ [.inr (.boolean, false, 277200)] ++ [.inr (.long, false, 277200)] ++ [.inr (.byte, false, 277200)] ++ [.inr (.int, false, 3)] ++ [.inr (.int, false, 3)] ++ [.inr (.int, false, 3)] ++ [.inr (.int, false, 3)] ++ [.inr (.int, false, 25)]) (m_ur (m_ur (m_ur (m_ur (m_ur (m_ur (m_ur (m_ur (m_ur (m_ur (m_ur (m_ur (m_ur (m_ur (m_ur (m_ur (m_ur (m_ur (m_ur (m_ur (m_ur (m_ur (m_ur (m_ur (m_ur (m_ur (m_ur (m_ur (m_ur (m_ur (m_ur (m_ur M a 5 (some (a + 1))) a 6 (some (a + 2))) a 7 (some (a + 3))) a 8 (some (a + 4))) a 9 (some (a + 5))) a 10 (some (a + 6))) a 11 (some (a + 7))) a 22 (some (a + 8))) a 23 (some (a + 9))) a 24 (some (a + 10))) a 25 (some (a + 11))) a 26 (some (a + 12))) a 27 (some (a + 13))) a 28 (some (a + 14))) a 29 (some (a + 15))) a 30 (some (a + 16))) a 31 (some (a + 17))) a 32 (some (a + 18))) a 33 (some (a + 19))) a 34 (some (a + 20))) a 37 (some (a + 21))) a 38 (some (a + 22))) a 39 (some (a + 23))) a 41 (some (a + 24))) a 46 (some (a + 25))) a 47 (some (a + 26))) a 48 (some (a + 27))) a 49 (some (a + 28))) a 50 (some (a + 29))) a 51 (some (a + 30))) a 52 (some (a + 31))) a 57 (some (a + 32))) := hz63.ur (by rw [m_ap_1 hn (n := 32) rfl]; omega)
  refine m_aload_n dX11_init_259 rfl 0 rfl ?_
  refine m_iconst (v := 5) dX11_init_260 (by decide) ?_
  refine m_newa (atype := .int) (ty := .int) (N := 5) ac_int rfl rfl (by decide) (by decide) (by decide) (Nat.le_of_ble_eq_true rfl) (Nat.le_of_ble_eq_true rfl) hz64 dX11_init_261 ?_
  rw [m_ap_1 hn (n := 32) rfl, m_ap_al]
  have hq := hz64.al (t := .inr (.int, false, 5)); rw [m_ap_al] at hq
  have hz65 := hq
  refine m_putr f_X11_110 rfl (Or.inr ⟨rfl, _, _, _, rfl, rfl⟩) dX11_init_263 (m_ap_lt hT (by omega)) ?_
  have hz66 : m_Zr (m_ap Th [] ++ [.inr (.int, false, 5)] ++ [.inr (.int, false, 6)] ++ [.inr (.int, false, 6)] ++ [.inr (.int, false, 5)] ++ [.inr (.int, false, 5)] ++ [.inr (.int, false, 5)] ++ [.inr (.byte, false, 220)] ++ [.inr (.int, false, 220)] ++ [.inr (.int, false, 220)] ++ [.inr (.int, false, 14)] ++ [.inr (.int, false, 14)] ++ [.inr (.int, false, 14)] ++ [.inr (.int, false, 14)] ++ [.inr (.int, false, 220)] ++ [.inr (.int, false, 14)] ++ [.inr (.int, false, 14)] ++ [.inr (.int, false, 14)] ++ [.inr (.int, false, 14)] ++ [.inr (.int, false, 220)] ++ [.inr (.int, false, 8)] ++ [.inr (.long, false, 1053)] ++ [.inr (.long, false, 1053)] ++ [.inr (.long, false, 11)] ++ [.inr (.long, false, 11)] ++ [.inr (.boolean, false, 277200)] ++ [.inr (.long, false, 277200)] ++ [.inr (.byte, false, 277200)] ++ [.inr (.int, false, 3)] ++ [.inr (.int, false, 3)] ++ [.inr (.int, false, 3)] ++ [.inr (.int, false, 3)] ++ [.inr (.int, false, 25)] ++ [.inr (.int, false, 5)]) (m_ur (m_ur (m_ur (m_ur (m_ur (m_ur (m_ur (m_ur (m_ur (m_ur (m_ur (m_ur (m_ur (m_ur (m_ur (m_ur (m_ur (m_ur (m_ur (m_ur (m_ur (m_ur (m_ur (m_ur (m_ur (m_ur (m_ur (m_ur (m_ur (m_ur (m_ur (m_ur (m_ur M a 5 (some (a + 1))) a 6 (some (a + 2))) a 7 (some (a + 3))) a 8 (some (a + 4))) a 9 (some (a + 5))) a 10 (some (a + 6))) a 11 (some (a + 7))) a 22 (some (a + 8))) a 23 (some (a + 9))) a 24 (some (a + 10))) a 25 (some (a + 11))) a 26 (some (a + 12))) a 27 (some (a + 13))) a 28 (some (a + 14))) a 29 (some (a + 15))) a 30 (some (a + 16))) a 31 (some (a + 17))) a 32 (some (a + 18))) a 33 (some (a + 19))) a 34 (some (a + 20))) a 37 (some (a + 21))) a 38 (some (a + 22))) a 39 (some (a + 23))) a 41 (some (a + 24))) a 46 (some (a + 25))) a 47 (some (a + 26))) a 48 (some (a + 27))) a 49 (some (a + 28))) a 50 (some (a + 29))) a 51 (some (a + 30))) a 52 (some (a + 31))) a 57 (some (a + 32))) a 58 (some (a + 33))) := hz65.ur (by rw [m_ap_1 hn (n := 33) rfl]; omega)
  refine m_aload_n dX11_init_266 rfl 0 rfl ?_
  refine m_iconst (v := 5) dX11_init_267 (by decide) ?_
  refine m_newa (atype := .int) (ty := .int) (N := 5) ac_int rfl rfl (by decide) (by decide) (by decide) (Nat.le_of_ble_eq_true rfl) (Nat.le_of_ble_eq_true rfl) hz66 dX11_init_268 ?_
  rw [m_ap_1 hn (n := 33) rfl, m_ap_al]
  have hq := hz66.al (t := .inr (.int, false, 5)); rw [m_ap_al] at hq
  have hz67 := hq
  refine m_putr f_X11_113 rfl (Or.inr ⟨rfl, _, _, _, rfl, rfl⟩) dX11_init_270 (m_ap_lt hT (by omega)) ?_
  have hz68 : m_Zr (m_ap Th [] ++ [.inr (.int, false, 5)] ++ [.inr (.int, false, 6)] ++ [.inr (.int, false, 6)] ++ [.inr (.int, false, 5)] ++ [.inr (.int, false, 5)] ++ [.inr (.int, false, 5)] ++ [.inr (.byte, false, 220)] ++ [.inr (.int, false, 220)] ++ [.inr (.int, false, 220)] ++ [.inr (.int, false, 14)] ++ [.inr (.int, false, 14)] ++ [.inr (.int, false, 14)] ++ [.inr (.int, false, 14)] ++ [.inr (.int, false, 220)] ++ [.inr (.int, false, 14)] ++ [.inr (.int, false, 14)] ++ [.inr (.int, false, 14)] ++ [.inr (.int, false, 14)] ++ [.inr (.int, false, 220)] ++ [.inr (.int, false, 8)] ++ [.inr (.long, false, 1053)] ++ [.inr (.long, false, 1053)] ++ [.inr (.long, false, 11)] ++ [.inr (.long, false, 11)] ++ [.inr (.boolean, false, 277200)] ++ [.inr (.long, false, 277200)] ++ [.inr (.byte, false, 277200)] ++ [.inr (.int, false, 3)] ++ [.inr (.int, false, 3)] ++ [.inr (.int, false, 3)] ++ [.inr (.int, false, 3)] ++ [.inr (.int, false, 25)] ++ [.inr (.int, false, 5)] ++ [.inr (.int, false, 5)]) (m_ur (m_ur (m_ur (m_ur (m_ur (m_ur (m_ur (m_ur (m_ur (m_ur (m_ur (m_ur (m_ur (m_ur (m_ur (m_ur (m_ur (m_ur (m_ur (m_ur (m_ur (m_ur (m_ur (m_ur (m_ur (m_ur (m_ur (m_ur (m_ur (m_ur (m_ur (m_ur (m_ur (m_ur M a 5 (some (a + 1))) a 6 (some (a + 2))) a 7 (some (a + 3))) a 8 (some (a + 4))) a 9 (some (a + 5))) a 10 (some (a + 6))) a 11 (some (a + 7))) a 22 (some (a + 8))) a 23 (some (a + 9))) a 24 (some (a + 10))) a 25 (some (a + 11))) a 26 (some (a + 12))) a 27 (some (a + 13))) a 28 (some (a + 14))) a 29 (some (a + 15))) a 30 (some (a + 16))) a 31 (some (a + 17))) a 32 (some (a + 18))) a 33 (some (a + 19))) a 34 (some (a + 20))) a 37 (some (a + 21))) a 38 (some (a + 22))) a 39 (some (a + 23))) a 41 (some (a + 24))) a 46 (some (a + 25))) a 47 (some (a + 26))) a 48 (some (a + 27))) a 49 (some (a + 28))) a 50 (some (a + 29))) a 51 (some (a + 30))) a 52 (some (a + 31))) a 57 (some (a + 32))) a 58 (some (a + 33))) a 59 (some (a + 34))) := hz67.ur (by rw [m_ap_1 hn (n := 34) rfl]; omega)
  refine m_aload_n dX11_init_273 rfl 0 rfl ?_
  refine m_bipush (v := 40) dX11_init_274 (by decide) ?_
  refine m_newa (atype := .int) (ty := .int) (N := 40) ac_int rfl rfl (by decide) (by decide) (by decide) (Nat.le_of_ble_eq_true rfl) (Nat.le_of_ble_eq_true rfl) hz68 dX11_init_276 ?_
  rw [m_ap_1 hn (n := 34) rfl, m_ap_al]
  have hq := hz68.al (t := .inr (.int, false, 40)); rw [m_ap_al] at hq
  have hz69 := hq
  refine m_putr f_X11_116 rfl (Or.inr ⟨rfl, _, _, _, rfl, rfl⟩) dX11_init_278 (m_ap_lt hT (by omega)) ?_
  have hz70 : m_Zr (m_ap Th [] ++ [.inr (.int, false, 5)] ++ [.inr (.int, false, 6)] ++ [.inr (.int, false, 6)] ++ [.inr (.int, false, 5)] ++ [.inr (.int, false, 5)] ++ [.inr (.int, false, 5)] ++ [.inr (.byte, false, 220)] ++ [.inr (.int, false, 220)] ++ [.inr (.int, false, 220)] ++ [.inr (.int, false, 14)] ++ [.inr (.int, false, 14)] ++ [.inr (.int, false, 14)] ++ [.inr (.int, false, 14)] ++ [.inr (.int, false, 220)] ++ [.inr (.int, false, 14)] ++ [.inr (.int, false, 14)] ++ [.inr (.int, false, 14)] ++ [.inr (.int, false, 14)] ++ [.inr (.int, false, 220)] ++ [.inr (.int, false, 8)] ++ [.inr (.long, false, 1053)] ++ [.inr (.long, false, 1053)] ++ [.inr (.long, false, 11)] ++ [.inr (.long, false, 11)] ++ [.inr (.boolean, false, 277200)] ++ [.inr (.long, false, 277200)] ++ [.inr (.byte, false, 277200)] ++ [.inr (.int, false, 3)] ++ [.inr (.int, false, 3)] ++ [.inr (.int, false, 3)] ++ [.inr (.int, false, 3)] ++ [.inr (.int, false, 25)] ++ [.inr (.int, false, 5)] ++ [.inr (.int, false, 5)] ++ [.inr (.int, false, 40)]) (m_ur (m_ur (m_ur (m_ur (m_ur (m_ur (m_ur (m_ur (m_ur (m_ur (m_ur (m_ur (m_ur (m_ur (m_ur (m_ur (m_ur (m_ur (m_ur (m_ur (m_ur (m_ur (m_ur (m_ur (m_ur (m_ur (m_ur (m_ur (m_ur (m_ur (m_ur (m_ur (m_ur (m_ur (m_ur M a 5 (some (a + 1))) a 6 (some (a + 2))) a 7 (some (a + 3))) a 8 (some (a + 4))) a 9 (some (a + 5))) a 10 (some (a + 6))) a 11 (some (a + 7))) a 22 (some (a + 8))) a 23 (some (a + 9))) a 24 (some (a + 10))) a 25 (some (a + 11))) a 26 (some (a + 12))) a 27 (some (a + 13))) a 28 (some (a + 14))) a 29 (some (a + 15))) a 30 (some (a + 16))) a 31 (some (a + 17))) a 32 (some (a + 18))) a 33 (some (a + 19))) a 34 (some (a + 20))) a 37 (some (a + 21))) a 38 (some (a + 22))) a 39 (some (a + 23))) a 41 (some (a + 24))) a 46 (some (a + 25))) a 47 (some (a + 26))) a 48 (some (a + 27))) a 49 (some (a + 28))) a 50 (some (a + 29))) a 51 (some (a + 30))) a 52 (some (a + 31))) a 57 (some (a + 32))) a 58 (some (a + 33))) a 59 (some (a + 34))) a 62 (some (a + 35))) := hz69.ur (by rw [m_ap_1 hn (n := 35) rfl]; omega)
  refine m_aload_n dX11_init_281 rfl 0 rfl ?_
  refine m_bipush (v := 40) dX11_init_282 (by decide) ?_
  refine m_newa (atype := .int) (ty := .int) (N := 40) ac_int rfl rfl (by decide) (by decide) (by decide) (Nat.le_of_ble_eq_true rfl) (Nat.le_of_ble_eq_true rfl) hz70 dX11_init_284 ?_
  rw [m_ap_1 hn (n := 35) rfl, m_ap_al]
  have hq := hz70.al (t := .inr (.int, false, 40)); rw [m_ap_al] at hq
  have hz71 := hq
  refine m_putr f_X11_119 rfl (Or.inr ⟨rfl, _, _, _, rfl, rfl⟩) dX11_init_286 (m_ap_lt hT (by omega)) ?_
  have hz72 : m_Zr (m_ap Th [] ++ [.inr (.int, false, 5)] ++ [.inr (.int, false, 6)] ++ [.inr (.int, false, 6)] ++ [.inr (.int, false, 5)] ++ [.inr (.int, false, 5)] ++ [.inr (.int, false, 5)] ++ [.inr (.byte, false, 220)] ++ [.inr (.int, false, 220)] ++ [.inr (.int, false, 220)] ++ [.inr (.int, false, 14)] ++ [.inr (.int, false, 14)] ++ [.inr (.int, false, 14)] ++ [.inr (.int, false, 14)] ++ [.inr (.int, false, 220)] ++ [.inr (.int, false, 14)] ++ [.inr (.int, false, 14)] ++ [.inr (.int, false, 14)] ++ [.inr (.int, false, 14)] ++ [.inr (.int, false, 220)] ++ [.inr (.int, false, 8)] ++ [.inr (.long, false, 1053)] ++ [.inr (.long, false, 1053)] ++ [.inr (.long, false, 11)] ++ [.inr (.long, false, 11)] ++ [.inr (.boolean, false, 277200)] ++ [.inr (.long, false, 277200)] ++ [.inr (.byte, false, 277200)] ++ [.inr (.int, false, 3)] ++ [.inr (.int, false, 3)] ++ [.inr (.int, false, 3)] ++ [.inr (.int, false, 3)] ++ [.inr (.int, false, 25)] ++ [.inr (.int, false, 5)] ++ [.inr (.int, false, 5)] ++ [.inr (.int, false, 40)] ++ [.inr (.int, false, 40)]) (m_ur (m_ur (m_ur (m_ur (m_ur (m_ur (m_ur (m_ur (m_ur (m_ur (m_ur (m_ur (m_ur (m_ur (m_ur (m_ur (m_ur (m_ur (m_ur (m_ur (m_ur (m_ur (m_ur (m_ur (m_ur (m_ur (m_ur (m_ur (m_ur (m_ur (m_ur (m_ur (m_ur (m_ur (m_ur (m_ur M a 5 (some (a + 1))) a 6 (some (a + 2))) a 7 (some (a + 3))) a 8 (some (a + 4))) a 9 (some (a + 5))) a 10 (some (a + 6))) a 11 (some (a + 7))) a 22 (some (a + 8))) a 23 (some (a + 9))) a 24 (some (a + 10))) a 25 (some (a + 11))) a 26 (some (a + 12))) a 27 (some (a + 13))) a 28 (some (a + 14))) a 29 (some (a + 15))) a 30 (some (a + 16))) a 31 (some (a + 17))) a 32 (some (a + 18))) a 33 (some (a + 19))) a 34 (some (a + 20))) a 37 (some (a + 21))) a 38 (some (a + 22))) a 39 (some (a + 23))) a 41 (some (a + 24))) a 46 (some (a + 25))) a 47 (some (a + 26))) a 48 (some (a + 27))) a 49 (some (a + 28))) a 50 (some (a + 29))) a 51 (some (a + 30))) a 52 (some (a + 31))) a 57 (some (a + 32))) a 58 (some (a + 33))) a 59 (some (a + 34))) a 62 (some (a + 35))) a 63 (some (a + 36))) := hz71.ur (by rw [m_ap_1 hn (n := 36) rfl]; omega)
  refine m_aload_n dX11_init_289 rfl 0 rfl ?_
  refine m_bipush (v := 40) dX11_init_290 (by decide) ?_
  refine m_newa (atype := .int) (ty := .int) (N := 40) ac_int rfl rfl (by decide) (by decide) (by decide) (Nat.le_of_ble_eq_true rfl) (Nat.le_of_ble_eq_true rfl) hz72 dX11_init_292 ?_
  rw [m_ap_1 hn (n := 36) rfl, m_ap_al]
  have hq := hz72.al (t := .inr (.int, false, 40)); rw [m_ap_al] at hq
  have hz73 := hq
  refine m_putr f_X11_122 rfl (Or.inr ⟨rfl, _, _, _, rfl, rfl⟩) dX11_init_294 (m_ap_lt hT (by omega)) ?_
  have hz74 : m_Zr (m_ap Th [] ++ [.inr (.int, false, 5)] ++ [.inr (.int, false, 6)] ++ [.inr (.int, false, 6)] ++ [.inr (.int, false, 5)] ++ [.inr (.int, false, 5)] ++ [.inr (.int, false, 5)] ++ [.inr (.byte, false, 220)] ++ [.inr (.int, false, 220)] ++ [.inr (.int, false, 220)] ++ [.inr (.int, false, 14)] ++ [.inr (.int, false, 14)] ++ [.inr (.int, false, 14)] ++ [.inr (.int, false, 14)] ++ [.inr (.int, false, 220)] ++ [.inr (.int, false, 14)] ++ [.inr (.int, false, 14)] ++ [.inr (.int, false, 14)] ++ [.inr (.int, false, 14)] ++ [.inr (.int, false, 220)] ++ [.inr (.int, false, 8)] ++ [.inr (.long, false, 1053)] ++ [.inr (.long, false, 1053)] ++ [.inr (.long, false, 11)] ++ [.inr (.long, false, 11)] ++ [.inr (.boolean, false, 277200)] ++ [.inr (.long, false, 277200)] ++ [.inr (.byte, false, 277200)] ++ [.inr (.int, false, 3)] ++ [.inr (.int, false, 3)] ++ [.inr (.int, false, 3)] ++ [.inr (.int, false, 3)] ++ [.inr (.int, false, 25)] ++ [.inr (.int, false, 5)] ++ [.inr (.int, false, 5)] ++ [.inr (.int, false, 40)] ++ [.inr (.int, false, 40)] ++ [.inr (.int, false, 40)]) (m_ur (m_ur (m_ur (m_ur (m_ur (m_ur (m_ur (m_ur (m_ur (m_ur (m_ur (m_ur (m_ur (m_ur (m_ur (m_ur (m_ur (m_ur (m_ur (m_ur (m_ur (m_ur (m_ur (m_ur (m_ur (m_ur (m_ur (m_ur (m_ur (m_ur (m_ur (m_ur (m_ur (m_ur (m_ur (m_ur (m_ur M a 5 (some (a + 1))) a 6 (some (a + 2))) a 7 (some (a + 3))) a 8 (some (a + 4))) a 9 (some (a + 5))) a 10 (some (a + 6))) a 11 (some (a + 7))) a 22 (some (a + 8))) a 23 (some (a + 9))) a 24 (some (a + 10))) a 25 (some (a + 11))) a 26 (some (a + 12))) a 27 (some (a + 13))) a 28 (some (a + 14))) a 29 (some (a + 15))) a 30 (some (a + 16))) a 31 (some (a + 17))) a 32 (some (a + 18))) a 33 (some (a + 19))) a 34 (some (a + 20))) a 37 (some (a + 21))) a 38 (some (a + 22))) a 39 (some (a + 23))) a 41 (some (a + 24))) a 46 (some (a + 25))) a 47 (some (a + 26))) a 48 (some (a + 27))) a 49 (some (a + 28))) a 50 (some (a + 29))) a 51 (some (a + 30))) a 52 (some (a + 31))) a 57 (some (a + 32))) a 58 (some (a + 33))) a 59 (some (a + 34))) a 62 (some (a + 35))) a 63 (some (a + 36))) a 64 (some (a + 37))) := hz73.ur (by rw [m_ap_1 hn (n := 37) rfl]; omega)
  refine m_aload_n dX11_init_297 rfl 0 rfl ?_
  refine m_iconst (v := 5) dX11_init_298 (by decide) ?_
  refine m_newa (atype := .int) (ty := .int) (N := 5) ac_int rfl rfl (by decide) (by decide) (by decide) (Nat.le_of_ble_eq_true rfl) (Nat.le_of_ble_eq_true rfl) hz74 dX11_init_299 ?_
  rw [m_ap_1 hn (n := 37) rfl, m_ap_al]
  have hq := hz74.al (t := .inr (.int, false, 5)); rw [m_ap_al] at hq
  have hz75 := hq
  refine m_putr f_X11_125 rfl (Or.inr ⟨rfl, _, _, _, rfl, rfl⟩) dX11_init_301 (m_ap_lt hT (by omega)) ?_
  have hz76 : m_Zr (m_ap Th [] ++ [.inr (.int, false, 5)] ++ [.inr (.int, false, 6)] ++ [.inr (.int, false, 6)] ++ [.inr (.int, false, 5)] ++ [.inr (.int, false, 5)] ++ [.inr (.int, false, 5)] ++ [.inr (.byte, false, 220)] ++ [.inr (.int, false, 220)] ++ [.inr (.int, false, 220)] ++ [.inr (.int, false, 14)] ++ [.inr (.int, false, 14)] ++ [.inr (.int, false, 14)] ++ [.inr (.int, false, 14)] ++ [.inr (.int, false, 220)] ++ [.inr (.int, false, 14)] ++ [.inr (.int, false, 14)] ++ [.inr (.int, false, 14)] ++ [.inr (.int, false, 14)] ++ [.inr (.int, false, 220)] ++ [.inr (.int, false, 8)] ++ [.inr (.long, false, 1053)] ++ [.inr (.long, false, 1053)] ++ [.inr (.long, false, 11)] ++ [.inr (.long, false, 11)] ++ [.inr (.boolean, false, 277200)] ++ [.inr (.long, false, 277200)] ++ [.inr (.byte, false, 277200)] ++ [.inr (.int, false, 3)] ++ [.inr (.int, false, 3)] ++ [.inr (.int, false, 3)] ++ [.inr (.int, false, 3)] ++ [.inr (.int, false, 25)] ++ [.inr (.int, false, 5)] ++ [.inr (.int, false, 5)] ++ [.inr (.int, false, 40)] ++ [.inr (.int, false, 40)] ++ [.inr (.int, false, 40)] ++ [.inr (.int, false, 5)]) (m_ur (m_ur (m_ur (m_ur (m_ur (m_ur (m_ur (m_ur (m_ur (m_ur (m_ur (m_ur (m_ur (m_ur (m_ur (m_ur (m_ur (m_ur (m_ur (m_ur (m_ur (m_ur (m_ur (m_ur (m_ur (m_ur (m_ur (m_ur (m_ur (m_ur (m_ur (m_ur (m_ur (m_ur (m_ur (m_ur (m_ur (m_ur M a 5 (some (a + 1))) a 6 (some (a + 2))) a 7 (some (a + 3))) a 8 (some (a + 4))) a 9 (some (a + 5))) a 10 (some (a + 6))) a 11 (some (a + 7))) a 22 (some (a + 8))) a 23 (some (a + 9))) a 24 (some (a + 10))) a 25 (some (a + 11))) a 26 (some (a + 12))) a 27 (some (a + 13))) a 28 (some (a + 14))) a 29 (some (a + 15))) a 30 (some (a + 16))) a 31 (some (a + 17))) a 32 (some (a + 18))) a 33 (some (a + 19))) a 34 (some (a + 20))) a 37 (some (a + 21))) a 38 (some (a + 22))) a 39 (some (a + 23))) a 41 (some (a + 24))) a 46 (some (a + 25))) a 47 (some (a + 26))) a 48 (some (a + 27))) a 49 (some (a + 28))) a 50 (some (a + 29))) a 51 (some (a + 30))) a 52 (some (a + 31))) a 57 (some (a + 32))) a 58 (some (a + 33))) a 59 (some (a + 34))) a 62 (some (a + 35))) a 63 (some (a + 36))) a 64 (some (a + 37))) a 65 (some (a + 38))) := hz75.ur (by rw [m_ap_1 hn (n := 38) rfl]; omega)
  refine m_aload_n dX11_init_304 rfl 0 rfl ?_
  refine m_iconst (v := 5) dX11_init_305 (by decide) ?_
  refine m_newa (atype := .int) (ty := .int) (N := 5) ac_int rfl rfl (by decide) (by decide) (by decide) (Nat.le_of_ble_eq_true rfl) (Nat.le_of_ble_eq_true rfl) hz76 dX11_init_306 ?_
  rw [m_ap_1 hn (n := 38) rfl, m_ap_al]
  have hq := hz76.al (t := .inr (.int, false, 5)); rw [m_ap_al] at hq
  have hz77 := hq
  refine m_putr f_X11_128 rfl (Or.inr ⟨rfl, _, _, _, rfl, rfl⟩) dX11_init_308 (m_ap_lt hT (by omega)) ?_
  have hz78 : m_Zr (m_ap Th [] ++ [.inr (.int, false, 5)] ++ [.inr (.int, false, 6)] ++ [.inr (.int, false, 6)] ++ [.inr (.int, false, 5)] ++ [.inr (.int, false, 5)] ++ [.inr (.int, false, 5)] ++ [.inr (.byte, false, 220)] ++ [.inr (.int, false, 220)] ++ [.inr (.int, false, 220)] ++ [.inr (.int, false, 14)] ++ [.inr (.int, false, 14)] ++ [.inr (.int, false, 14)] ++ [.inr (.int, false, 14)] ++ [.inr (.int, false, 220)] ++ [.inr (.int, false, 14)] ++ [.inr (.int, false, 14)] ++ [.inr (.int, false, 14)] ++ [.inr (.int, false, 14)] ++ [.inr (.int, false, 220)] ++ [.inr (.int, false, 8)] ++ [.inr (.long, false, 1053)] ++ [.inr (.long, false, 1053)] ++ [.inr (.long, false, 11)] ++ [.inr (.long, false, 11)] ++ [.inr (.boolean, false, 277200)] ++ [.inr (.long, false, 277200)] ++ [.inr (.byte, false, 277200)] ++ [.inr (.int, false, 3)] ++ [.inr (.int, false, 3)] ++ [.inr (.int, false, 3)] ++ [.inr (.int, false, 3)] ++ [.inr (.int, false, 25)] ++ [.inr (.int, false, 5)] ++ [.inr (.int, false, 5)] ++ [.inr (.int, false, 40)] ++ [.inr (.int, false, 40)] ++ [.inr (.int, false, 40)] ++ [.inr (.int, false, 5)] ++ [.inr (.int, false, 5)]) (m_ur (m_ur (m_ur (m_ur (m_ur (m_ur (m_ur (m_ur (m_ur (m_ur (m_ur (m_ur (m_ur (m_ur (m_ur (m_ur (m_ur (m_ur (m_ur (m_ur (m_ur (m_ur (m_ur (m_ur (m_ur (m_ur (m_ur (m_ur (m_ur (m_ur (m_ur (m_ur (m_ur (m_ur (m_ur (m_ur (m_ur (m_ur (m_ur M a 5 (some (a + 1))) a 6 (some (a + 2))) a 7 (some (a + 3))) a 8 (some (a + 4))) a 9 (some (a + 5))) a 10 (some (a + 6))) a 11 (some (a + 7))) a 22 (some (a + 8))) a 23 (some (a + 9))) a 24 (some (a + 10))) a 25 (some (a + 11))) a 26 (some (a + 12))) a 27 (some (a + 13))) a 28 (some (a + 14))) a 29 (some (a + 15))) a 30 (some (a + 16))) a 31 (some (a + 17))) a 32 (some (a + 18))) a 33 (some (a + 19))) a 34 (some (a + 20))) a 37 (some (a + 21))) a 38 (some (a + 22))) a 39 (some (a + 23))) a 41 (some (a + 24))) a 46 (some (a + 25))) a 47 (some (a + 26))) a 48 (some (a + 27))) a 49 (some (a + 28))) a 50 (some (a + 29))) a 51 (some (a + 30))) a 52 (some (a + 31))) a 57 (some (a + 32))) a 58 (some (a + 33))) a 59 (some (a + 34))) a 62 (some (a + 35))) a 63 (some (a + 36))) a 64 (some (a + 37))) a 65 (some (a + 38))) a 66 (some (a + 39))) := hz77.ur (by rw [m_ap_1 hn (n := 39) rfl]; omega)
  refine m_aload_n dX11_init_311 rfl 0 rfl ?_
  refine m_iconst (v := 2) dX11_init_312 (by decide) ?_
  refine m_puti f_X11_131 rfl (Or.inl rfl) dX11_init_313 (m_ap_lt hT (by omega)) ⟨rfl, rfl⟩ ?_
  have hz79 : m_Zr (m_ap Th [] ++ [.inr (.int, false, 5)] ++ [.inr (.int, false, 6)] ++ [.inr (.int, false, 6)] ++ [.inr (.int, false, 5)] ++ [.inr (.int, false, 5)] ++ [.inr (.int, false, 5)] ++ [.inr (.byte, false, 220)] ++ [.inr (.int, false, 220)] ++ [.inr (.int, false, 220)] ++ [.inr (.int, false, 14)] ++ [.inr (.int, false, 14)] ++ [.inr (.int, false, 14)] ++ [.inr (.int, false, 14)] ++ [.inr (.int, false, 220)] ++ [.inr (.int, false, 14)] ++ [.inr (.int, false, 14)] ++ [.inr (.int, false, 14)] ++ [.inr (.int, false, 14)] ++ [.inr (.int, false, 220)] ++ [.inr (.int, false, 8)] ++ [.inr (.long, false, 1053)] ++ [.inr (.long, false, 1053)] ++ [.inr (.long, false, 11)] ++ [.inr (.long, false, 11)] ++ [.inr (.boolean, false, 277200)] ++ [.inr (.long, false, 277200)] ++ [.inr (.byte, false, 277200)] ++ [.inr (.int, false, 3)] ++ [.inr (.int, false, 3)] ++ [.inr (.int, false, 3)] ++ [.inr (.int, false, 3)] ++ [.inr (.int, false, 25)] ++ [.inr (.int, false, 5)] ++ [.inr (.int, false, 5)] ++ [.inr (.int, false, 40)] ++ [.inr (.int, false, 40)] ++ [.inr (.int, false, 40)] ++ [.inr (.int, false, 5)] ++ [.inr (.int, false, 5)]) (m_ui (m_ur (m_ur (m_ur (m_ur (m_ur (m_ur (m_ur (m_ur (m_ur (m_ur (m_ur (m_ur (m_ur (m_ur (m_ur (m_ur (m_ur (m_ur (m_ur (m_ur (m_ur (m_ur (m_ur (m_ur (m_ur (m_ur (m_ur (m_ur (m_ur (m_ur (m_ur (m_ur (m_ur (m_ur (m_ur (m_ur (m_ur (m_ur (m_ur M a 5 (some (a + 1))) a 6 (some (a + 2))) a 7 (some (a + 3))) a 8 (some (a + 4))) a 9 (some (a + 5))) a 10 (some (a + 6))) a 11 (some (a + 7))) a 22 (some (a + 8))) a 23 (some (a + 9))) a 24 (some (a + 10))) a 25 (some (a + 11))) a 26 (some (a + 12))) a 27 (some (a + 13))) a 28 (some (a + 14))) a 29 (some (a + 15))) a 30 (some (a + 16))) a 31 (some (a + 17))) a 32 (some (a + 18))) a 33 (some (a + 19))) a 34 (some (a + 20))) a 37 (some (a + 21))) a 38 (some (a + 22))) a 39 (some (a + 23))) a 41 (some (a + 24))) a 46 (some (a + 25))) a 47 (some (a + 26))) a 48 (some (a + 27))) a 49 (some (a + 28))) a 50 (some (a + 29))) a 51 (some (a + 30))) a 52 (some (a + 31))) a 57 (some (a + 32))) a 58 (some (a + 33))) a 59 (some (a + 34))) a 62 (some (a + 35))) a 63 (some (a + 36))) a 64 (some (a + 37))) a 65 (some (a + 38))) a 66 (some (a + 39))) a 2 2) := hz78.ui (by rw [m_ap_1 hn (n := 39) rfl]; omega)
  refine m_aload_n dX11_init_316 rfl 0 rfl ?_
  refine m_iconst (v := 1) dX11_init_317 (by decide) ?_
  refine m_puti f_X11_135 rfl (Or.inl rfl) dX11_init_318 (m_ap_lt hT (by omega)) ⟨rfl, rfl⟩ ?_
  have hz80 : m_Zr (m_ap Th [] ++ [.inr (.int, false, 5)] ++ [.inr (.int, false, 6)] ++ [.inr (.int, false, 6)] ++ [.inr (.int, false, 5)] ++ [.inr (.int, false, 5)] ++ [.inr (.int, false, 5)] ++ [.inr (.byte, false, 220)] ++ [.inr (.int, false, 220)] ++ [.inr (.int, false, 220)] ++ [.inr (.int, false, 14)] ++ [.inr (.int, false, 14)] ++ [.inr (.int, false, 14)] ++ [.inr (.int, false, 14)] ++ [.inr (.int, false, 220)] ++ [.inr (.int, false, 14)] ++ [.inr (.int, false, 14)] ++ [.inr (.int, false, 14)] ++ [.inr (.int, false, 14)] ++ [.inr (.int, false, 220)] ++ [.inr (.int, false, 8)] ++ [.inr (.long, false, 1053)] ++ [.inr (.long, false, 1053)] ++ [.inr (.long, false, 11)] ++ [.inr (.long, false, 11)] ++ [.inr (.boolean, false, 277200)] ++ [.inr (.long, false, 277200)] ++ [.inr (.byte, false, 277200)] ++ [.inr (.int, false, 3)] ++ [.inr (.int, false, 3)] ++ [.inr (.int, false, 3)] ++ [.inr (.int, false, 3)] ++ [.inr (.int, false, 25)] ++ [.inr (.int, false, 5)] ++ [.inr (.int, false, 5)] ++ [.inr (.int, false, 40)] ++ [.inr (.int, false, 40)] ++ [.inr (.int, false, 40)] ++ [.inr (.int, false, 5)] ++ [.inr (.int, false, 5)]) (m_ui (m_ui (m_ur (m_ur (m_ur (m_ur (m_ur (m_ur (m_ur (m_ur (m_ur (m_ur (m_ur (m_ur (m_ur (m_ur (m_ur (m_ur (m_ur (m_ur (m_ur (m_ur (m_ur (m_ur (m_ur (m_ur (m_ur (m_ur (m_ur (m_ur (m_ur (m_ur (m_ur (m_ur (m_ur (m_ur (m_ur (m_ur (m_ur (m_ur (m_ur M a 5 (some (a + 1))) a 6 (some (a + 2))) a 7 (some (a + 3))) a 8 (some (a + 4))) a 9 (some (a + 5))) a 10 (some (a + 6))) a 11 (some (a + 7))) a 22 (some (a + 8))) a 23 (some (a + 9))) a 24 (some (a + 10))) a 25 (some (a + 11))) a 26 (some (a + 12))) a 27 (some (a + 13))) a 28 (some (a + 14))) a 29 (some (a + 15))) a 30 (some (a + 16))) a 31 (some (a + 17))) a 32 (some (a + 18))) a 33 (some (a + 19))) a 34 (some (a + 20))) a 37 (some (a + 21))) a 38 (some (a + 22))) a 39 (some (a + 23))) a 41 (some (a + 24))) a 46 (some (a + 25))) a 47 (some (a + 26))) a 48 (some (a + 27))) a 49 (some (a + 28))) a 50 (some (a + 29))) a 51 (some (a + 30))) a 52 (some (a + 31))) a 57 (some (a + 32))) a 58 (some (a + 33))) a 59 (some (a + 34))) a 62 (some (a + 35))) a 63 (some (a + 36))) a 64 (some (a + 37))) a 65 (some (a + 38))) a 66 (some (a + 39))) a 2 2) a 4 1) := hz79.ui (by rw [m_ap_1 hn (n := 39) rfl]; omega)
  exact m_return dX11_init_321 rfl (h hz80)
