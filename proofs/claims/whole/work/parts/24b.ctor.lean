def ks_10 : List mK := [] ++ [.inl 9] ++ ks_9 ++ [.inl 2] ++ ks_2 ++ [.inl 8] ++ ks_8 ++ [.inl 7] ++ ks_7 ++ [.inl 7] ++ ks_7 ++ [.inl 0] ++ ks_0 ++ [.inl 1] ++ ks_1 ++ [.inl 6] ++ ks_6 ++ [.inl 5] ++ ks_5 ++ [.inl 3] ++ ks_3
def mk_10 (M : mM) (a : Nat) : mM := m_ur (mk_3 (m_ur (mk_5 (m_ur (mk_6 (m_ur (mk_1 (m_ur (mk_0 (m_ur (mk_7 (m_ur (mk_7 (m_ur (mk_8 (m_ur (mk_2 (m_ur (mk_9 (M) (a + 1)) a 0 (some (a + 1))) (a + 3)) a 1 (some (a + 3))) (a + 35)) a 2 (some (a + 35))) (a + 39)) a 3 (some (a + 39))) (a + 54)) a 4 (some (a + 54))) (a + 69)) a 5 (some (a + 69))) (a + 94) (a + 3)) a 6 (some (a + 94))) (a + 100)) a 7 (some (a + 100))) (a + 105)) a 8 (some (a + 105))) (a + 107) (a + 3) (a + 105)) a 9 (some (a + 107))
set_option maxHeartbeats 4000000 in
set_option maxRecDepth 100000 in
theorem c_10_init {d : Nat} {Th : mT} {M : mM} {a : Nat}  {Q : mQ} (hn : Th.1 = a + 1) (hT : Th.2.2 a = some (.inl 10)) (hlet : Th.2.2 Th.2.1 = some (.inr (.char, true, 8)) ∧ Th.2.1 < Th.1) (hz : m_Zr Th M) (h : m_Zr (m_ap Th ks_10) (mk_10 M a ) → Q none (m_ap Th ks_10) (mk_10 M a )) : m_C (d + 3) 112 96469 yX10_init cX10_init 1 none [.ref a] Th M Q := by
  refine m_C.of (by decide +kernel) (Nat.le_of_ble_eq_true rfl) ?_
  show m_W (d + 3) 112 96469 yX10_init cX10_init 1 none Q 0 [(0, .ref a)] [] Th M 0 0
  refine m_aload_n dX10_init_0 rfl 0 rfl ?_
  refine m_obj l_X10_1 (Nat.le_of_ble_eq_true rfl) (Nat.le_add_left _ _) dX10_init_1 ?_
  rw [← m_ap_nil Th]
  have hz0 : m_Zr (m_ap Th []) M := by rw [m_ap_nil]; exact hz
  refine m_aload_n dX10_init_4 rfl 0 rfl ?_
  refine m_new (c := 9) rfl u_X9 tyX9_ok zt_X9 cl_X10_7 in_X9 ini_X9 (Nat.le_of_ble_eq_true rfl) (Nat.le_of_ble_eq_true rfl) hz0 dX10_init_5 ?_
  rw [m_ap_1 hn (n := 0) rfl, m_ap_al]
  have hq := hz0.al (t := .inl 9); rw [m_ap_al] at hq
  have hz1 := hq
  refine m_dup dX10_init_8 rfl ?_
  refine m_invIN (As := []) (d' := d + 1) (mc' := 1) (ms' := 220) (rest := [.ref (a + 1), .ref a]) i_9_init v_9_init rfl l_X10_9 dX10_init_9 rfl rfl (Nat.le_of_ble_eq_true rfl) (by omega) ⟨Nat.le_of_ble_eq_true rfl, Nat.le_of_ble_eq_true rfl⟩ (c_9_init (m_ap_1 (a := a) (n := 1) hn rfl) (m_ap_at 0 (by rfl) (by omega)) hz1 (fun hzz => ?_))
  rw [m_ap_ap] at hzz ⊢
  show m_W (d + 3) 112 96469 yX10_init cX10_init 1 none Q 12 [(0, .ref a)] [.ref (a + 1), .ref a] (m_ap Th ([] ++ [.inl 9] ++ ks_9)) (mk_9 (M) (a + 1)) 2 222
  refine m_putr f_X10_10 rfl (Or.inr ⟨rfl, _, _, _, rfl, rfl⟩) dX10_init_12 (m_ap_lt hT (by omega)) ?_
  have hz2 : m_Zr (m_ap Th ([] ++ [.inl 9] ++ ks_9)) (m_ur (mk_9 (M) (a + 1)) a 0 (some (a + 1))) := hzz.ur (by rw [m_ap_1 hn (n := 2) rfl]; omega)
  refine m_aload_n dX10_init_15 rfl 0 rfl ?_
  refine m_new (c := 2) rfl u_X2 tyX2_ok zt_X2 cl_X10_16 in_X2 ini_X2 (Nat.le_of_ble_eq_true rfl) (Nat.le_of_ble_eq_true rfl) hz2 dX10_init_16 ?_
  rw [m_ap_1 hn (n := 2) rfl, m_ap_al]
  have hq := hz2.al (t := .inl 2); rw [m_ap_al] at hq
  have hz3 := hq
  refine m_dup dX10_init_19 rfl ?_
  refine m_invI (As := []) (d' := d + 2) (mc' := 31) (ms' := 801) (rest := [.ref (a + 3), .ref a]) i_2_init v_2_init rfl l_X10_18 dX10_init_20 rfl rfl (Nat.le_of_ble_eq_true rfl) (by omega) ⟨Nat.le_of_ble_eq_true rfl, Nat.le_of_ble_eq_true rfl⟩ (c_2_init (m_ap_1 (a := a) (n := 3) hn rfl) (m_ap_at 2 (by rfl) (by omega)) (m_ap_let hlet) hz3 (fun hzz => ?_))
  rw [m_ap_ap] at hzz ⊢
  show m_W (d + 3) 112 96469 yX10_init cX10_init 1 none Q 23 [(0, .ref a)] [.ref (a + 3), .ref a] (m_ap Th ([] ++ [.inl 9] ++ ks_9 ++ [.inl 2] ++ ks_2)) (mk_2 (m_ur (mk_9 (M) (a + 1)) a 0 (some (a + 1))) (a + 3)) 34 1036
  refine m_putr f_X10_19 rfl (Or.inr ⟨rfl, _, _, _, rfl, rfl⟩) dX10_init_23 (m_ap_lt hT (by omega)) ?_
  have hz4 : m_Zr (m_ap Th ([] ++ [.inl 9] ++ ks_9 ++ [.inl 2] ++ ks_2)) (m_ur (mk_2 (m_ur (mk_9 (M) (a + 1)) a 0 (some (a + 1))) (a + 3)) a 1 (some (a + 3))) := hzz.ur (by rw [m_ap_1 hn (n := 34) rfl]; omega)
  refine m_aload_n dX10_init_26 rfl 0 rfl ?_
  refine m_new (c := 8) rfl u_X8 tyX8_ok zt_X8 cl_X10_23 in_X8 ini_X8 (Nat.le_of_ble_eq_true rfl) (Nat.le_of_ble_eq_true rfl) hz4 dX10_init_27 ?_
  rw [m_ap_1 hn (n := 34) rfl, m_ap_al]
  have hq := hz4.al (t := .inl 8); rw [m_ap_al] at hq
  have hz5 := hq
  refine m_dup dX10_init_30 rfl ?_
  refine m_invIN (As := []) (d' := d + 1) (mc' := 3) (ms' := 65) (rest := [.ref (a + 35), .ref a]) i_8_init v_8_init rfl l_X10_25 dX10_init_31 rfl rfl (Nat.le_of_ble_eq_true rfl) (by omega) ⟨Nat.le_of_ble_eq_true rfl, Nat.le_of_ble_eq_true rfl⟩ (c_8_init (m_ap_1 (a := a) (n := 35) hn rfl) (m_ap_at 34 (by rfl) (by omega)) hz5 (fun hzz => ?_))
  rw [m_ap_ap] at hzz ⊢
  show m_W (d + 3) 112 96469 yX10_init cX10_init 1 none Q 34 [(0, .ref a)] [.ref (a + 35), .ref a] (m_ap Th ([] ++ [.inl 9] ++ ks_9 ++ [.inl 2] ++ ks_2 ++ [.inl 8] ++ ks_8)) (mk_8 (m_ur (mk_2 (m_ur (mk_9 (M) (a + 1)) a 0 (some (a + 1))) (a + 3)) a 1 (some (a + 3))) (a + 35)) 38 1105
  refine m_putr f_X10_26 rfl (Or.inr ⟨rfl, _, _, _, rfl, rfl⟩) dX10_init_34 (m_ap_lt hT (by omega)) ?_
  have hz6 : m_Zr (m_ap Th ([] ++ [.inl 9] ++ ks_9 ++ [.inl 2] ++ ks_2 ++ [.inl 8] ++ ks_8)) (m_ur (mk_8 (m_ur (mk_2 (m_ur (mk_9 (M) (a + 1)) a 0 (some (a + 1))) (a + 3)) a 1 (some (a + 3))) (a + 35)) a 2 (some (a + 35))) := hzz.ur (by rw [m_ap_1 hn (n := 38) rfl]; omega)
  refine m_aload_n dX10_init_37 rfl 0 rfl ?_
  refine m_new (c := 7) rfl u_X7 tyX7_ok zt_X7 cl_X10_30 in_X7 ini_X7 (Nat.le_of_ble_eq_true rfl) (Nat.le_of_ble_eq_true rfl) hz6 dX10_init_38 ?_
  rw [m_ap_1 hn (n := 38) rfl, m_ap_al]
  have hq := hz6.al (t := .inl 7); rw [m_ap_al] at hq
  have hz7 := hq
  refine m_dup dX10_init_41 rfl ?_
  refine m_invIN (As := []) (d' := d + 1) (mc' := 14) (ms' := 143) (rest := [.ref (a + 39), .ref a]) i_7_init v_7_init rfl l_X10_32 dX10_init_42 rfl rfl (Nat.le_of_ble_eq_true rfl) (by omega) ⟨Nat.le_of_ble_eq_true rfl, Nat.le_of_ble_eq_true rfl⟩ (c_7_init (m_ap_1 (a := a) (n := 39) hn rfl) (m_ap_at 38 (by rfl) (by omega)) hz7 (fun hzz => ?_))
  rw [m_ap_ap] at hzz ⊢
  show m_W (d + 3) 112 96469 yX10_init cX10_init 1 none Q 45 [(0, .ref a)] [.ref (a + 39), .ref a] (m_ap Th ([] ++ [.inl 9] ++ ks_9 ++ [.inl 2] ++ ks_2 ++ [.inl 8] ++ ks_8 ++ [.inl 7] ++ ks_7)) (mk_7 (m_ur (mk_8 (m_ur (mk_2 (m_ur (mk_9 (M) (a + 1)) a 0 (some (a + 1))) (a + 3)) a 1 (some (a + 3))) (a + 35)) a 2 (some (a + 35))) (a + 39)) 53 1253
  refine m_putr f_X10_33 rfl (Or.inr ⟨rfl, _, _, _, rfl, rfl⟩) dX10_init_45 (m_ap_lt hT (by omega)) ?_
  have hz8 : m_Zr (m_ap Th ([] ++ [.inl 9] ++ ks_9 ++ [.inl 2] ++ ks_2 ++ [.inl 8] ++ ks_8 ++ [.inl 7] ++ ks_7)) (m_ur (mk_7 (m_ur (mk_8 (m_ur (mk_2 (m_ur (mk_9 (M) (a + 1)) a 0 (some (a + 1))) (a + 3)) a 1 (some (a + 3))) (a + 35)) a 2 (some (a + 35))) (a + 39)) a 3 (some (a + 39))) := hzz.ur (by rw [m_ap_1 hn (n := 53) rfl]; omega)
  refine m_aload_n dX10_init_48 rfl 0 rfl ?_
  refine m_new (c := 7) rfl u_X7 tyX7_ok zt_X7 cl_X10_30 in_X7 ini_X7 (Nat.le_of_ble_eq_true rfl) (Nat.le_of_ble_eq_true rfl) hz8 dX10_init_49 ?_
  rw [m_ap_1 hn (n := 53) rfl, m_ap_al]
  have hq := hz8.al (t := .inl 7); rw [m_ap_al] at hq
  have hz9 := hq
  refine m_dup dX10_init_52 rfl ?_
  refine m_invIN (As := []) (d' := d + 1) (mc' := 14) (ms' := 143) (rest := [.ref (a + 54), .ref a]) i_7_init v_7_init rfl l_X10_32 dX10_init_53 rfl rfl (Nat.le_of_ble_eq_true rfl) (by omega) ⟨Nat.le_of_ble_eq_true rfl, Nat.le_of_ble_eq_true rfl⟩ (c_7_init (m_ap_1 (a := a) (n := 54) hn rfl) (m_ap_at 53 (by rfl) (by omega)) hz9 (fun hzz => ?_))
  rw [m_ap_ap] at hzz ⊢
  show m_W (d + 3) 112 96469 yX10_init cX10_init 1 none Q 56 [(0, .ref a)] [.ref (a + 54), .ref a] (m_ap Th ([] ++ [.inl 9] ++ ks_9 ++ [.inl 2] ++ ks_2 ++ [.inl 8] ++ ks_8 ++ [.inl 7] ++ ks_7 ++ [.inl 7] ++ ks_7)) (mk_7 (m_ur (mk_7 (m_ur (mk_8 (m_ur (mk_2 (m_ur (mk_9 (M) (a + 1)) a 0 (some (a + 1))) (a + 3)) a 1 (some (a + 3))) (a + 35)) a 2 (some (a + 35))) (a + 39)) a 3 (some (a + 39))) (a + 54)) 68 1401
  refine m_putr f_X10_37 rfl (Or.inr ⟨rfl, _, _, _, rfl, rfl⟩) dX10_init_56 (m_ap_lt hT (by omega)) ?_
  have hz10 : m_Zr (m_ap Th ([] ++ [.inl 9] ++ ks_9 ++ [.inl 2] ++ ks_2 ++ [.inl 8] ++ ks_8 ++ [.inl 7] ++ ks_7 ++ [.inl 7] ++ ks_7)) (m_ur (mk_7 (m_ur (mk_7 (m_ur (mk_8 (m_ur (mk_2 (m_ur (mk_9 (M) (a + 1)) a 0 (some (a + 1))) (a + 3)) a 1 (some (a + 3))) (a + 35)) a 2 (some (a + 35))) (a + 39)) a 3 (some (a + 39))) (a + 54)) a 4 (some (a + 54))) := hzz.ur (by rw [m_ap_1 hn (n := 68) rfl]; omega)
  refine m_aload_n dX10_init_59 rfl 0 rfl ?_
  refine m_new (c := 0) rfl u_X0 tyX0_ok zt_X0 cl_X10_40 in_X0 ini_X0 (Nat.le_of_ble_eq_true rfl) (Nat.le_of_ble_eq_true rfl) hz10 dX10_init_60 ?_
  rw [m_ap_1 hn (n := 68) rfl, m_ap_al]
  have hq := hz10.al (t := .inl 0); rw [m_ap_al] at hq
  have hz11 := hq
  refine m_dup dX10_init_63 rfl ?_
  refine m_invIN (As := []) (d' := d + 1) (mc' := 24) (ms' := 264) (rest := [.ref (a + 69), .ref a]) i_0_init v_0_init rfl l_X10_42 dX10_init_64 rfl rfl (Nat.le_of_ble_eq_true rfl) (by omega) ⟨Nat.le_of_ble_eq_true rfl, Nat.le_of_ble_eq_true rfl⟩ (c_0_init (m_ap_1 (a := a) (n := 69) hn rfl) (m_ap_at 68 (by rfl) (by omega)) hz11 (fun hzz => ?_))
  rw [m_ap_ap] at hzz ⊢
  show m_W (d + 3) 112 96469 yX10_init cX10_init 1 none Q 67 [(0, .ref a)] [.ref (a + 69), .ref a] (m_ap Th ([] ++ [.inl 9] ++ ks_9 ++ [.inl 2] ++ ks_2 ++ [.inl 8] ++ ks_8 ++ [.inl 7] ++ ks_7 ++ [.inl 7] ++ ks_7 ++ [.inl 0] ++ ks_0)) (mk_0 (m_ur (mk_7 (m_ur (mk_7 (m_ur (mk_8 (m_ur (mk_2 (m_ur (mk_9 (M) (a + 1)) a 0 (some (a + 1))) (a + 3)) a 1 (some (a + 3))) (a + 35)) a 2 (some (a + 35))) (a + 39)) a 3 (some (a + 39))) (a + 54)) a 4 (some (a + 54))) (a + 69)) 93 1667
  refine m_putr f_X10_43 rfl (Or.inr ⟨rfl, _, _, _, rfl, rfl⟩) dX10_init_67 (m_ap_lt hT (by omega)) ?_
  have hz12 : m_Zr (m_ap Th ([] ++ [.inl 9] ++ ks_9 ++ [.inl 2] ++ ks_2 ++ [.inl 8] ++ ks_8 ++ [.inl 7] ++ ks_7 ++ [.inl 7] ++ ks_7 ++ [.inl 0] ++ ks_0)) (m_ur (mk_0 (m_ur (mk_7 (m_ur (mk_7 (m_ur (mk_8 (m_ur (mk_2 (m_ur (mk_9 (M) (a + 1)) a 0 (some (a + 1))) (a + 3)) a 1 (some (a + 3))) (a + 35)) a 2 (some (a + 35))) (a + 39)) a 3 (some (a + 39))) (a + 54)) a 4 (some (a + 54))) (a + 69)) a 5 (some (a + 69))) := hzz.ur (by rw [m_ap_1 hn (n := 93) rfl]; omega)
  refine m_aload_n dX10_init_70 rfl 0 rfl ?_
  refine m_new (c := 1) rfl u_X1 tyX1_ok zt_X1 cl_X10_47 in_X1 ini_X1 (Nat.le_of_ble_eq_true rfl) (Nat.le_of_ble_eq_true rfl) hz12 dX10_init_71 ?_
  rw [m_ap_1 hn (n := 93) rfl, m_ap_al]
  have hq := hz12.al (t := .inl 1); rw [m_ap_al] at hq
  have hz13 := hq
  refine m_dup dX10_init_74 rfl ?_
  refine m_aload_n dX10_init_75 rfl 0 rfl ?_
  refine m_getr (r := (a + 3)) f_X10_19 rfl dX10_init_76 (m_ap_lt hT (by omega)) (by simp [Nat.add_assoc, m_u, m_gM, mk_9, mk_8, mk_4, mk_7, mk_0, mk_6, mk_5, mk_2, mk_1, mk_3]) ?_
  refine m_invI (As := [.ref (a + 3)]) (d' := d + 2) (mc' := 5) (ms' := 94569) (rest := [.ref (a + 94), .ref a]) i_1_init v_1_init rfl l_X10_49 dX10_init_79 rfl rfl (Nat.le_of_ble_eq_true rfl) (by omega) ⟨Nat.le_of_ble_eq_true rfl, Nat.le_of_ble_eq_true rfl⟩ (c_1_init (m_ap_1 (a := a) (n := 94) hn rfl) (m_ap_at 93 (by rfl) (by omega)) hz13 (fun hzz => ?_))
  rw [m_ap_ap] at hzz ⊢
  show m_W (d + 3) 112 96469 yX10_init cX10_init 1 none Q 82 [(0, .ref a)] [.ref (a + 94), .ref a] (m_ap Th ([] ++ [.inl 9] ++ ks_9 ++ [.inl 2] ++ ks_2 ++ [.inl 8] ++ ks_8 ++ [.inl 7] ++ ks_7 ++ [.inl 7] ++ ks_7 ++ [.inl 0] ++ ks_0 ++ [.inl 1] ++ ks_1)) (mk_1 (m_ur (mk_0 (m_ur (mk_7 (m_ur (mk_7 (m_ur (mk_8 (m_ur (mk_2 (m_ur (mk_9 (M) (a + 1)) a 0 (some (a + 1))) (a + 3)) a 1 (some (a + 3))) (a + 35)) a 2 (some (a + 35))) (a + 39)) a 3 (some (a + 39))) (a + 54)) a 4 (some (a + 54))) (a + 69)) a 5 (some (a + 69))) (a + 94) (a + 3)) 99 96245
  refine m_putr f_X10_52 rfl (Or.inr ⟨rfl, _, _, _, rfl, rfl⟩) dX10_init_82 (m_ap_lt hT (by omega)) ?_
  have hz14 : m_Zr (m_ap Th ([] ++ [.inl 9] ++ ks_9 ++ [.inl 2] ++ ks_2 ++ [.inl 8] ++ ks_8 ++ [.inl 7] ++ ks_7 ++ [.inl 7] ++ ks_7 ++ [.inl 0] ++ ks_0 ++ [.inl 1] ++ ks_1)) (m_ur (mk_1 (m_ur (mk_0 (m_ur (mk_7 (m_ur (mk_7 (m_ur (mk_8 (m_ur (mk_2 (m_ur (mk_9 (M) (a + 1)) a 0 (some (a + 1))) (a + 3)) a 1 (some (a + 3))) (a + 35)) a 2 (some (a + 35))) (a + 39)) a 3 (some (a + 39))) (a + 54)) a 4 (some (a + 54))) (a + 69)) a 5 (some (a + 69))) (a + 94) (a + 3)) a 6 (some (a + 94))) := hzz.ur (by rw [m_ap_1 hn (n := 99) rfl]; omega)
  refine m_aload_n dX10_init_85 rfl 0 rfl ?_
  refine m_new (c := 6) rfl u_X6 tyX6_ok zt_X6 cl_X10_56 in_X6 ini_X6 (Nat.le_of_ble_eq_true rfl) (Nat.le_of_ble_eq_true rfl) hz14 dX10_init_86 ?_
  rw [m_ap_1 hn (n := 99) rfl, m_ap_al]
  have hq := hz14.al (t := .inl 6); rw [m_ap_al] at hq
  have hz15 := hq
  refine m_dup dX10_init_89 rfl ?_
  refine m_invIN (As := []) (d' := d + 1) (mc' := 4) (ms' := 60) (rest := [.ref (a + 100), .ref a]) i_6_init v_6_init rfl l_X10_58 dX10_init_90 rfl rfl (Nat.le_of_ble_eq_true rfl) (by omega) ⟨Nat.le_of_ble_eq_true rfl, Nat.le_of_ble_eq_true rfl⟩ (c_6_init (m_ap_1 (a := a) (n := 100) hn rfl) (m_ap_at 99 (by rfl) (by omega)) hz15 (fun hzz => ?_))
  rw [m_ap_ap] at hzz ⊢
  show m_W (d + 3) 112 96469 yX10_init cX10_init 1 none Q 93 [(0, .ref a)] [.ref (a + 100), .ref a] (m_ap Th ([] ++ [.inl 9] ++ ks_9 ++ [.inl 2] ++ ks_2 ++ [.inl 8] ++ ks_8 ++ [.inl 7] ++ ks_7 ++ [.inl 7] ++ ks_7 ++ [.inl 0] ++ ks_0 ++ [.inl 1] ++ ks_1 ++ [.inl 6] ++ ks_6)) (mk_6 (m_ur (mk_1 (m_ur (mk_0 (m_ur (mk_7 (m_ur (mk_7 (m_ur (mk_8 (m_ur (mk_2 (m_ur (mk_9 (M) (a + 1)) a 0 (some (a + 1))) (a + 3)) a 1 (some (a + 3))) (a + 35)) a 2 (some (a + 35))) (a + 39)) a 3 (some (a + 39))) (a + 54)) a 4 (some (a + 54))) (a + 69)) a 5 (some (a + 69))) (a + 94) (a + 3)) a 6 (some (a + 94))) (a + 100)) 104 96312
  refine m_putr f_X10_59 rfl (Or.inr ⟨rfl, _, _, _, rfl, rfl⟩) dX10_init_93 (m_ap_lt hT (by omega)) ?_
  have hz16 : m_Zr (m_ap Th ([] ++ [.inl 9] ++ ks_9 ++ [.inl 2] ++ ks_2 ++ [.inl 8] ++ ks_8 ++ [.inl 7] ++ ks_7 ++ [.inl 7] ++ ks_7 ++ [.inl 0] ++ ks_0 ++ [.inl 1] ++ ks_1 ++ [.inl 6] ++ ks_6)) (m_ur (mk_6 (m_ur (mk_1 (m_ur (mk_0 (m_ur (mk_7 (m_ur (mk_7 (m_ur (mk_8 (m_ur (mk_2 (m_ur (mk_9 (M) (a + 1)) a 0 (some (a + 1))) (a + 3)) a 1 (some (a + 3))) (a + 35)) a 2 (some (a + 35))) (a + 39)) a 3 (some (a + 39))) (a + 54)) a 4 (some (a + 54))) (a + 69)) a 5 (some (a + 69))) (a + 94) (a + 3)) a 6 (some (a + 94))) (a + 100)) a 7 (some (a + 100))) := hzz.ur (by rw [m_ap_1 hn (n := 104) rfl]; omega)
  refine m_aload_n dX10_init_96 rfl 0 rfl ?_
  refine m_new (c := 5) rfl u_X5 tyX5_ok zt_X5 cl_X10_63 in_X5 ini_X5 (Nat.le_of_ble_eq_true rfl) (Nat.le_of_ble_eq_true rfl) hz16 dX10_init_97 ?_
  rw [m_ap_1 hn (n := 104) rfl, m_ap_al]
  have hq := hz16.al (t := .inl 5); rw [m_ap_al] at hq
  have hz17 := hq
  refine m_dup dX10_init_100 rfl ?_
  refine m_invIN (As := []) (d' := d + 1) (mc' := 1) (ms' := 120) (rest := [.ref (a + 105), .ref a]) i_5_init v_5_init rfl l_X10_65 dX10_init_101 rfl rfl (Nat.le_of_ble_eq_true rfl) (by omega) ⟨Nat.le_of_ble_eq_true rfl, Nat.le_of_ble_eq_true rfl⟩ (c_5_init (m_ap_1 (a := a) (n := 105) hn rfl) (m_ap_at 104 (by rfl) (by omega)) hz17 (fun hzz => ?_))
  rw [m_ap_ap] at hzz ⊢
  show m_W (d + 3) 112 96469 yX10_init cX10_init 1 none Q 104 [(0, .ref a)] [.ref (a + 105), .ref a] (m_ap Th ([] ++ [.inl 9] ++ ks_9 ++ [.inl 2] ++ ks_2 ++ [.inl 8] ++ ks_8 ++ [.inl 7] ++ ks_7 ++ [.inl 7] ++ ks_7 ++ [.inl 0] ++ ks_0 ++ [.inl 1] ++ ks_1 ++ [.inl 6] ++ ks_6 ++ [.inl 5] ++ ks_5)) (mk_5 (m_ur (mk_6 (m_ur (mk_1 (m_ur (mk_0 (m_ur (mk_7 (m_ur (mk_7 (m_ur (mk_8 (m_ur (mk_2 (m_ur (mk_9 (M) (a + 1)) a 0 (some (a + 1))) (a + 3)) a 1 (some (a + 3))) (a + 35)) a 2 (some (a + 35))) (a + 39)) a 3 (some (a + 39))) (a + 54)) a 4 (some (a + 54))) (a + 69)) a 5 (some (a + 69))) (a + 94) (a + 3)) a 6 (some (a + 94))) (a + 100)) a 7 (some (a + 100))) (a + 105)) 106 96434
  refine m_putr f_X10_66 rfl (Or.inr ⟨rfl, _, _, _, rfl, rfl⟩) dX10_init_104 (m_ap_lt hT (by omega)) ?_
  have hz18 : m_Zr (m_ap Th ([] ++ [.inl 9] ++ ks_9 ++ [.inl 2] ++ ks_2 ++ [.inl 8] ++ ks_8 ++ [.inl 7] ++ ks_7 ++ [.inl 7] ++ ks_7 ++ [.inl 0] ++ ks_0 ++ [.inl 1] ++ ks_1 ++ [.inl 6] ++ ks_6 ++ [.inl 5] ++ ks_5)) (m_ur (mk_5 (m_ur (mk_6 (m_ur (mk_1 (m_ur (mk_0 (m_ur (mk_7 (m_ur (mk_7 (m_ur (mk_8 (m_ur (mk_2 (m_ur (mk_9 (M) (a + 1)) a 0 (some (a + 1))) (a + 3)) a 1 (some (a + 3))) (a + 35)) a 2 (some (a + 35))) (a + 39)) a 3 (some (a + 39))) (a + 54)) a 4 (some (a + 54))) (a + 69)) a 5 (some (a + 69))) (a + 94) (a + 3)) a 6 (some (a + 94))) (a + 100)) a 7 (some (a + 100))) (a + 105)) a 8 (some (a + 105))) := hzz.ur (by rw [m_ap_1 hn (n := 106) rfl]; omega)
  refine m_aload_n dX10_init_107 rfl 0 rfl ?_
  refine m_new (c := 3) rfl u_X3 tyX3_ok zt_X3 cl_X10_70 in_X3 ini_X3 (Nat.le_of_ble_eq_true rfl) (Nat.le_of_ble_eq_true rfl) hz18 dX10_init_108 ?_
  rw [m_ap_1 hn (n := 106) rfl, m_ap_al]
  have hq := hz18.al (t := .inl 3); rw [m_ap_al] at hq
  have hz19 := hq
  refine m_dup dX10_init_111 rfl ?_
  refine m_aload_n dX10_init_112 rfl 0 rfl ?_
  refine m_getr (r := (a + 3)) f_X10_19 rfl dX10_init_113 (m_ap_lt hT (by omega)) (by simp [Nat.add_assoc, m_u, m_gM, mk_9, mk_8, mk_4, mk_7, mk_0, mk_6, mk_5, mk_2, mk_1, mk_3]) ?_
  refine m_aload_n dX10_init_116 rfl 0 rfl ?_
  refine m_getr (r := (a + 105)) f_X10_66 rfl dX10_init_117 (m_ap_lt hT (by omega)) (by simp [Nat.add_assoc, m_u, m_gM, mk_9, mk_8, mk_4, mk_7, mk_0, mk_6, mk_5, mk_2, mk_1, mk_3]) ?_
  refine m_invI (As := [.ref (a + 3), .ref (a + 105)]) (d' := d + 1) (mc' := 5) (ms' := 25) (rest := [.ref (a + 107), .ref a]) i_3_init v_3_init rfl l_X10_72 dX10_init_120 rfl rfl (Nat.le_of_ble_eq_true rfl) (by omega) ⟨Nat.le_of_ble_eq_true rfl, Nat.le_of_ble_eq_true rfl⟩ (c_3_init (m_ap_1 (a := a) (n := 107) hn rfl) (m_ap_at 106 (by rfl) (by omega)) hz19 (fun hzz => ?_))
  rw [m_ap_ap] at hzz ⊢
  show m_W (d + 3) 112 96469 yX10_init cX10_init 1 none Q 123 [(0, .ref a)] [.ref (a + 107), .ref a] (m_ap Th ([] ++ [.inl 9] ++ ks_9 ++ [.inl 2] ++ ks_2 ++ [.inl 8] ++ ks_8 ++ [.inl 7] ++ ks_7 ++ [.inl 7] ++ ks_7 ++ [.inl 0] ++ ks_0 ++ [.inl 1] ++ ks_1 ++ [.inl 6] ++ ks_6 ++ [.inl 5] ++ ks_5 ++ [.inl 3] ++ ks_3)) (mk_3 (m_ur (mk_5 (m_ur (mk_6 (m_ur (mk_1 (m_ur (mk_0 (m_ur (mk_7 (m_ur (mk_7 (m_ur (mk_8 (m_ur (mk_2 (m_ur (mk_9 (M) (a + 1)) a 0 (some (a + 1))) (a + 3)) a 1 (some (a + 3))) (a + 35)) a 2 (some (a + 35))) (a + 39)) a 3 (some (a + 39))) (a + 54)) a 4 (some (a + 54))) (a + 69)) a 5 (some (a + 69))) (a + 94) (a + 3)) a 6 (some (a + 94))) (a + 100)) a 7 (some (a + 100))) (a + 105)) a 8 (some (a + 105))) (a + 107) (a + 3) (a + 105)) 112 96469
  refine m_putr f_X10_75 rfl (Or.inr ⟨rfl, _, _, _, rfl, rfl⟩) dX10_init_123 (m_ap_lt hT (by omega)) ?_
  have hz20 : m_Zr (m_ap Th ([] ++ [.inl 9] ++ ks_9 ++ [.inl 2] ++ ks_2 ++ [.inl 8] ++ ks_8 ++ [.inl 7] ++ ks_7 ++ [.inl 7] ++ ks_7 ++ [.inl 0] ++ ks_0 ++ [.inl 1] ++ ks_1 ++ [.inl 6] ++ ks_6 ++ [.inl 5] ++ ks_5 ++ [.inl 3] ++ ks_3)) (m_ur (mk_3 (m_ur (mk_5 (m_ur (mk_6 (m_ur (mk_1 (m_ur (mk_0 (m_ur (mk_7 (m_ur (mk_7 (m_ur (mk_8 (m_ur (mk_2 (m_ur (mk_9 (M) (a + 1)) a 0 (some (a + 1))) (a + 3)) a 1 (some (a + 3))) (a + 35)) a 2 (some (a + 35))) (a + 39)) a 3 (some (a + 39))) (a + 54)) a 4 (some (a + 54))) (a + 69)) a 5 (some (a + 69))) (a + 94) (a + 3)) a 6 (some (a + 94))) (a + 100)) a 7 (some (a + 100))) (a + 105)) a 8 (some (a + 105))) (a + 107) (a + 3) (a + 105)) a 9 (some (a + 107))) := hzz.ur (by rw [m_ap_1 hn (n := 112) rfl]; omega)
  exact m_return dX10_init_126 rfl (h hz20)
