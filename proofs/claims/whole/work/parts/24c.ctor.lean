def ks_11 : List mK := [] ++ [.inr (.int, false, 5)] ++ [.inr (.int, false, 6)] ++ [.inr (.int, false, 6)] ++ [.inr (.int, false, 5)] ++ [.inr (.int, false, 5)] ++ [.inr (.int, false, 5)] ++ [.inr (.byte, false, 220)] ++ [.inr (.int, false, 220)] ++ [.inr (.int, false, 220)] ++ [.inr (.int, false, 14)] ++ [.inr (.int, false, 14)] ++ [.inr (.int, false, 14)] ++ [.inr (.int, false, 14)] ++ [.inr (.int, false, 220)] ++ [.inr (.int, false, 14)] ++ [.inr (.int, false, 14)] ++ [.inr (.int, false, 14)] ++ [.inr (.int, false, 14)] ++ [.inr (.int, false, 220)] ++ [.inr (.int, false, 8)] ++ [.inr (.long, false, 1053)] ++ [.inr (.long, false, 1053)] ++ [.inr (.long, false, 11)] ++ [.inr (.long, false, 11)] ++ [.inr (.boolean, false, 277200)] ++ [.inr (.long, false, 277200)] ++ [.inr (.byte, false, 277200)] ++ [.inr (.int, false, 3)] ++ [.inr (.int, false, 3)] ++ [.inr (.int, false, 3)] ++ [.inr (.int, false, 3)] ++ [.inr (.int, false, 25)] ++ [.inr (.int, false, 5)] ++ [.inr (.int, false, 5)] ++ [.inr (.int, false, 40)] ++ [.inr (.int, false, 40)] ++ [.inr (.int, false, 40)] ++ [.inr (.int, false, 5)] ++ [.inr (.int, false, 5)]
def mk_11 (M : mM) (a : Nat) : mM := m_ui (m_ui (m_ur (m_ur (m_ur (m_ur (m_ur (m_ur (m_ur (m_ur (m_ur (m_ur (m_ur (m_ur (m_ur (m_ur (m_ur (m_ur (m_ur (m_ur (m_ur (m_ur (m_ur (m_ur (m_ur (m_ur (m_ur (m_ur (m_ur (m_ur (m_ur (m_ur (m_ur (m_ur (m_ur (m_ur (m_ur (m_ur (m_ur (m_ur (m_ur M a 5 (some (a + 1))) a 6 (some (a + 2))) a 7 (some (a + 3))) a 8 (some (a + 4))) a 9 (some (a + 5))) a 10 (some (a + 6))) a 11 (some (a + 7))) a 22 (some (a + 8))) a 23 (some (a + 9))) a 24 (some (a + 10))) a 25 (some (a + 11))) a 26 (some (a + 12))) a 27 (some (a + 13))) a 28 (some (a + 14))) a 29 (some (a + 15))) a 30 (some (a + 16))) a 31 (some (a + 17))) a 32 (some (a + 18))) a 33 (some (a + 19))) a 34 (some (a + 20))) a 37 (some (a + 21))) a 38 (some (a + 22))) a 39 (some (a + 23))) a 41 (some (a + 24))) a 46 (some (a + 25))) a 47 (some (a + 26))) a 48 (some (a + 27))) a 49 (some (a + 28))) a 50 (some (a + 29))) a 51 (some (a + 30))) a 52 (some (a + 31))) a 57 (some (a + 32))) a 58 (some (a + 33))) a 59 (some (a + 34))) a 62 (some (a + 35))) a 63 (some (a + 36))) a 64 (some (a + 37))) a 65 (some (a + 38))) a 66 (some (a + 39))) a 2 2) a 4 1
set_option maxHeartbeats 4000000 in
set_option maxRecDepth 100000 in
theorem c_11_init {d : Nat} {Th : mT} {M : mM} {a : Nat}  {Q : mQ} (hn : Th.1 = a + 1) (hT : Th.2.2 a = some (.inl 11)) (hz : m_Zr Th M) (h : m_Zr (m_ap Th ks_11) (mk_11 M a ) → Q none (m_ap Th ks_11) (mk_11 M a )) : m_C (d + 1) 39 835157 yX11_init cX11_init 1 none [.ref a] Th M Q := by
  refine m_C.of (by decide +kernel) (Nat.le_of_ble_eq_true rfl) ?_
  show m_W (d + 1) 39 835157 yX11_init cX11_init 1 none Q 0 [(0, .ref a)] [] Th M 0 0
  refine m_aload_n dX11_init_0 rfl 0 rfl ?_
  refine m_obj l_X11_1 (Nat.le_of_ble_eq_true rfl) (Nat.le_add_left _ _) dX11_init_1 ?_
  rw [← m_ap_nil Th]
  have hz0 : m_Zr (m_ap Th []) M := by rw [m_ap_nil]; exact hz
  refine m_aload_n dX11_init_4 rfl 0 rfl ?_
  refine m_iconst (v := 5) dX11_init_5 (by decide) ?_
  refine m_newa (atype := .int) (ty := .int) (N := 5) ac_int rfl rfl (by decide +kernel) (by decide +kernel) (by decide +kernel) (Nat.le_of_ble_eq_true rfl) (Nat.le_of_ble_eq_true rfl) hz0 dX11_init_6 ?_
  rw [m_ap_1 hn (n := 0) rfl, m_ap_al]
  replace hz0 := hz0.al (t := .inr (.int, false, 5)); rw [m_ap_al] at hz0
  refine m_putr f_X11_7 rfl (Or.inr ⟨rfl, _, _, _, rfl, rfl⟩) dX11_init_8 (m_ap_lt hT (by omega)) ?_
  replace hz0 := hz0.ur (a := a) (k := 5) (x := some (a + 1)) (by rw [m_ap_1 hn (n := 1) rfl]; omega)
  generalize eM1 : m_ur M a 5 (some (a + 1)) = M1 at hz0 ⊢
  refine m_aload_n dX11_init_11 rfl 0 rfl ?_
  refine m_bipush (v := 6) dX11_init_12 (by decide) ?_
  refine m_newa (atype := .int) (ty := .int) (N := 6) ac_int rfl rfl (by decide +kernel) (by decide +kernel) (by decide +kernel) (Nat.le_of_ble_eq_true rfl) (Nat.le_of_ble_eq_true rfl) hz0 dX11_init_14 ?_
  rw [m_ap_1 hn (n := 1) rfl, m_ap_al]
  replace hz0 := hz0.al (t := .inr (.int, false, 6)); rw [m_ap_al] at hz0
  refine m_putr f_X11_13 rfl (Or.inr ⟨rfl, _, _, _, rfl, rfl⟩) dX11_init_16 (m_ap_lt hT (by omega)) ?_
  replace hz0 := hz0.ur (a := a) (k := 6) (x := some (a + 2)) (by rw [m_ap_1 hn (n := 2) rfl]; omega)
  generalize eM2 : m_ur (M1) a 6 (some (a + 2)) = M2 at hz0 ⊢
  refine m_aload_n dX11_init_19 rfl 0 rfl ?_
  refine m_bipush (v := 6) dX11_init_20 (by decide) ?_
  refine m_newa (atype := .int) (ty := .int) (N := 6) ac_int rfl rfl (by decide +kernel) (by decide +kernel) (by decide +kernel) (Nat.le_of_ble_eq_true rfl) (Nat.le_of_ble_eq_true rfl) hz0 dX11_init_22 ?_
  rw [m_ap_1 hn (n := 2) rfl, m_ap_al]
  replace hz0 := hz0.al (t := .inr (.int, false, 6)); rw [m_ap_al] at hz0
  refine m_putr f_X11_16 rfl (Or.inr ⟨rfl, _, _, _, rfl, rfl⟩) dX11_init_24 (m_ap_lt hT (by omega)) ?_
  replace hz0 := hz0.ur (a := a) (k := 7) (x := some (a + 3)) (by rw [m_ap_1 hn (n := 3) rfl]; omega)
  generalize eM3 : m_ur (M2) a 7 (some (a + 3)) = M3 at hz0 ⊢
  refine m_aload_n dX11_init_27 rfl 0 rfl ?_
  refine m_iconst (v := 5) dX11_init_28 (by decide) ?_
  refine m_newa (atype := .int) (ty := .int) (N := 5) ac_int rfl rfl (by decide +kernel) (by decide +kernel) (by decide +kernel) (Nat.le_of_ble_eq_true rfl) (Nat.le_of_ble_eq_true rfl) hz0 dX11_init_29 ?_
  rw [m_ap_1 hn (n := 3) rfl, m_ap_al]
  replace hz0 := hz0.al (t := .inr (.int, false, 5)); rw [m_ap_al] at hz0
  refine m_putr f_X11_19 rfl (Or.inr ⟨rfl, _, _, _, rfl, rfl⟩) dX11_init_31 (m_ap_lt hT (by omega)) ?_
  replace hz0 := hz0.ur (a := a) (k := 8) (x := some (a + 4)) (by rw [m_ap_1 hn (n := 4) rfl]; omega)
  generalize eM4 : m_ur (M3) a 8 (some (a + 4)) = M4 at hz0 ⊢
  refine m_aload_n dX11_init_34 rfl 0 rfl ?_
  refine m_iconst (v := 5) dX11_init_35 (by decide) ?_
  refine m_newa (atype := .int) (ty := .int) (N := 5) ac_int rfl rfl (by decide +kernel) (by decide +kernel) (by decide +kernel) (Nat.le_of_ble_eq_true rfl) (Nat.le_of_ble_eq_true rfl) hz0 dX11_init_36 ?_
  rw [m_ap_1 hn (n := 4) rfl, m_ap_al]
  replace hz0 := hz0.al (t := .inr (.int, false, 5)); rw [m_ap_al] at hz0
  refine m_putr f_X11_22 rfl (Or.inr ⟨rfl, _, _, _, rfl, rfl⟩) dX11_init_38 (m_ap_lt hT (by omega)) ?_
  replace hz0 := hz0.ur (a := a) (k := 9) (x := some (a + 5)) (by rw [m_ap_1 hn (n := 5) rfl]; omega)
  generalize eM5 : m_ur (M4) a 9 (some (a + 5)) = M5 at hz0 ⊢
  refine m_aload_n dX11_init_41 rfl 0 rfl ?_
  refine m_iconst (v := 5) dX11_init_42 (by decide) ?_
  refine m_newa (atype := .int) (ty := .int) (N := 5) ac_int rfl rfl (by decide +kernel) (by decide +kernel) (by decide +kernel) (Nat.le_of_ble_eq_true rfl) (Nat.le_of_ble_eq_true rfl) hz0 dX11_init_43 ?_
  rw [m_ap_1 hn (n := 5) rfl, m_ap_al]
  replace hz0 := hz0.al (t := .inr (.int, false, 5)); rw [m_ap_al] at hz0
  refine m_putr f_X11_25 rfl (Or.inr ⟨rfl, _, _, _, rfl, rfl⟩) dX11_init_45 (m_ap_lt hT (by omega)) ?_
  replace hz0 := hz0.ur (a := a) (k := 10) (x := some (a + 6)) (by rw [m_ap_1 hn (n := 6) rfl]; omega)
  generalize eM6 : m_ur (M5) a 10 (some (a + 6)) = M6 at hz0 ⊢
  refine m_aload_n dX11_init_48 rfl 0 rfl ?_
  refine m_sipush (v := 220) dX11_init_49 (by decide) ?_
  refine m_newa (atype := .byte) (ty := .byte) (N := 220) ac_byte rfl rfl (by decide +kernel) (by decide +kernel) (by decide +kernel) (Nat.le_of_ble_eq_true rfl) (Nat.le_of_ble_eq_true rfl) hz0 dX11_init_52 ?_
  rw [m_ap_1 hn (n := 6) rfl, m_ap_al]
  replace hz0 := hz0.al (t := .inr (.byte, false, 220)); rw [m_ap_al] at hz0
  refine m_putr f_X11_28 rfl (Or.inr ⟨rfl, _, _, _, rfl, rfl⟩) dX11_init_54 (m_ap_lt hT (by omega)) ?_
  replace hz0 := hz0.ur (a := a) (k := 11) (x := some (a + 7)) (by rw [m_ap_1 hn (n := 7) rfl]; omega)
  generalize eM7 : m_ur (M6) a 11 (some (a + 7)) = M7 at hz0 ⊢
  refine m_aload_n dX11_init_57 rfl 0 rfl ?_
  refine m_sipush (v := 220) dX11_init_58 (by decide) ?_
  refine m_newa (atype := .int) (ty := .int) (N := 220) ac_int rfl rfl (by decide +kernel) (by decide +kernel) (by decide +kernel) (Nat.le_of_ble_eq_true rfl) (Nat.le_of_ble_eq_true rfl) hz0 dX11_init_61 ?_
  rw [m_ap_1 hn (n := 7) rfl, m_ap_al]
  replace hz0 := hz0.al (t := .inr (.int, false, 220)); rw [m_ap_al] at hz0
  refine m_putr f_X11_32 rfl (Or.inr ⟨rfl, _, _, _, rfl, rfl⟩) dX11_init_63 (m_ap_lt hT (by omega)) ?_
  replace hz0 := hz0.ur (a := a) (k := 22) (x := some (a + 8)) (by rw [m_ap_1 hn (n := 8) rfl]; omega)
  generalize eM8 : m_ur (M7) a 22 (some (a + 8)) = M8 at hz0 ⊢
  refine m_aload_n dX11_init_66 rfl 0 rfl ?_
  refine m_sipush (v := 220) dX11_init_67 (by decide) ?_
  refine m_newa (atype := .int) (ty := .int) (N := 220) ac_int rfl rfl (by decide +kernel) (by decide +kernel) (by decide +kernel) (Nat.le_of_ble_eq_true rfl) (Nat.le_of_ble_eq_true rfl) hz0 dX11_init_70 ?_
  rw [m_ap_1 hn (n := 8) rfl, m_ap_al]
  replace hz0 := hz0.al (t := .inr (.int, false, 220)); rw [m_ap_al] at hz0
  refine m_putr f_X11_35 rfl (Or.inr ⟨rfl, _, _, _, rfl, rfl⟩) dX11_init_72 (m_ap_lt hT (by omega)) ?_
  replace hz0 := hz0.ur (a := a) (k := 23) (x := some (a + 9)) (by rw [m_ap_1 hn (n := 9) rfl]; omega)
  generalize eM9 : m_ur (M8) a 23 (some (a + 9)) = M9 at hz0 ⊢
  refine m_aload_n dX11_init_75 rfl 0 rfl ?_
  refine m_bipush (v := 14) dX11_init_76 (by decide) ?_
  refine m_newa (atype := .int) (ty := .int) (N := 14) ac_int rfl rfl (by decide +kernel) (by decide +kernel) (by decide +kernel) (Nat.le_of_ble_eq_true rfl) (Nat.le_of_ble_eq_true rfl) hz0 dX11_init_78 ?_
  rw [m_ap_1 hn (n := 9) rfl, m_ap_al]
  replace hz0 := hz0.al (t := .inr (.int, false, 14)); rw [m_ap_al] at hz0
  refine m_putr f_X11_38 rfl (Or.inr ⟨rfl, _, _, _, rfl, rfl⟩) dX11_init_80 (m_ap_lt hT (by omega)) ?_
  replace hz0 := hz0.ur (a := a) (k := 24) (x := some (a + 10)) (by rw [m_ap_1 hn (n := 10) rfl]; omega)
  generalize eM10 : m_ur (M9) a 24 (some (a + 10)) = M10 at hz0 ⊢
  refine m_aload_n dX11_init_83 rfl 0 rfl ?_
  refine m_bipush (v := 14) dX11_init_84 (by decide) ?_
  refine m_newa (atype := .int) (ty := .int) (N := 14) ac_int rfl rfl (by decide +kernel) (by decide +kernel) (by decide +kernel) (Nat.le_of_ble_eq_true rfl) (Nat.le_of_ble_eq_true rfl) hz0 dX11_init_86 ?_
  rw [m_ap_1 hn (n := 10) rfl, m_ap_al]
  replace hz0 := hz0.al (t := .inr (.int, false, 14)); rw [m_ap_al] at hz0
  refine m_putr f_X11_41 rfl (Or.inr ⟨rfl, _, _, _, rfl, rfl⟩) dX11_init_88 (m_ap_lt hT (by omega)) ?_
  replace hz0 := hz0.ur (a := a) (k := 25) (x := some (a + 11)) (by rw [m_ap_1 hn (n := 11) rfl]; omega)
  generalize eM11 : m_ur (M10) a 25 (some (a + 11)) = M11 at hz0 ⊢
  refine m_aload_n dX11_init_91 rfl 0 rfl ?_
  refine m_bipush (v := 14) dX11_init_92 (by decide) ?_
  refine m_newa (atype := .int) (ty := .int) (N := 14) ac_int rfl rfl (by decide +kernel) (by decide +kernel) (by decide +kernel) (Nat.le_of_ble_eq_true rfl) (Nat.le_of_ble_eq_true rfl) hz0 dX11_init_94 ?_
  rw [m_ap_1 hn (n := 11) rfl, m_ap_al]
  replace hz0 := hz0.al (t := .inr (.int, false, 14)); rw [m_ap_al] at hz0
  refine m_putr f_X11_44 rfl (Or.inr ⟨rfl, _, _, _, rfl, rfl⟩) dX11_init_96 (m_ap_lt hT (by omega)) ?_
  replace hz0 := hz0.ur (a := a) (k := 26) (x := some (a + 12)) (by rw [m_ap_1 hn (n := 12) rfl]; omega)
  generalize eM12 : m_ur (M11) a 26 (some (a + 12)) = M12 at hz0 ⊢
  refine m_aload_n dX11_init_99 rfl 0 rfl ?_
  refine m_bipush (v := 14) dX11_init_100 (by decide) ?_
  refine m_newa (atype := .int) (ty := .int) (N := 14) ac_int rfl rfl (by decide +kernel) (by decide +kernel) (by decide +kernel) (Nat.le_of_ble_eq_true rfl) (Nat.le_of_ble_eq_true rfl) hz0 dX11_init_102 ?_
  rw [m_ap_1 hn (n := 12) rfl, m_ap_al]
  replace hz0 := hz0.al (t := .inr (.int, false, 14)); rw [m_ap_al] at hz0
  refine m_putr f_X11_47 rfl (Or.inr ⟨rfl, _, _, _, rfl, rfl⟩) dX11_init_104 (m_ap_lt hT (by omega)) ?_
  replace hz0 := hz0.ur (a := a) (k := 27) (x := some (a + 13)) (by rw [m_ap_1 hn (n := 13) rfl]; omega)
  generalize eM13 : m_ur (M12) a 27 (some (a + 13)) = M13 at hz0 ⊢
  refine m_aload_n dX11_init_107 rfl 0 rfl ?_
  refine m_sipush (v := 220) dX11_init_108 (by decide) ?_
  refine m_newa (atype := .int) (ty := .int) (N := 220) ac_int rfl rfl (by decide +kernel) (by decide +kernel) (by decide +kernel) (Nat.le_of_ble_eq_true rfl) (Nat.le_of_ble_eq_true rfl) hz0 dX11_init_111 ?_
  rw [m_ap_1 hn (n := 13) rfl, m_ap_al]
  replace hz0 := hz0.al (t := .inr (.int, false, 220)); rw [m_ap_al] at hz0
  refine m_putr f_X11_50 rfl (Or.inr ⟨rfl, _, _, _, rfl, rfl⟩) dX11_init_113 (m_ap_lt hT (by omega)) ?_
  replace hz0 := hz0.ur (a := a) (k := 28) (x := some (a + 14)) (by rw [m_ap_1 hn (n := 14) rfl]; omega)
  generalize eM14 : m_ur (M13) a 28 (some (a + 14)) = M14 at hz0 ⊢
  refine m_aload_n dX11_init_116 rfl 0 rfl ?_
  refine m_bipush (v := 14) dX11_init_117 (by decide) ?_
  refine m_newa (atype := .int) (ty := .int) (N := 14) ac_int rfl rfl (by decide +kernel) (by decide +kernel) (by decide +kernel) (Nat.le_of_ble_eq_true rfl) (Nat.le_of_ble_eq_true rfl) hz0 dX11_init_119 ?_
  rw [m_ap_1 hn (n := 14) rfl, m_ap_al]
  replace hz0 := hz0.al (t := .inr (.int, false, 14)); rw [m_ap_al] at hz0
  refine m_putr f_X11_53 rfl (Or.inr ⟨rfl, _, _, _, rfl, rfl⟩) dX11_init_121 (m_ap_lt hT (by omega)) ?_
  replace hz0 := hz0.ur (a := a) (k := 29) (x := some (a + 15)) (by rw [m_ap_1 hn (n := 15) rfl]; omega)
  generalize eM15 : m_ur (M14) a 29 (some (a + 15)) = M15 at hz0 ⊢
  refine m_aload_n dX11_init_124 rfl 0 rfl ?_
  refine m_bipush (v := 14) dX11_init_125 (by decide) ?_
  refine m_newa (atype := .int) (ty := .int) (N := 14) ac_int rfl rfl (by decide +kernel) (by decide +kernel) (by decide +kernel) (Nat.le_of_ble_eq_true rfl) (Nat.le_of_ble_eq_true rfl) hz0 dX11_init_127 ?_
  rw [m_ap_1 hn (n := 15) rfl, m_ap_al]
  replace hz0 := hz0.al (t := .inr (.int, false, 14)); rw [m_ap_al] at hz0
  refine m_putr f_X11_56 rfl (Or.inr ⟨rfl, _, _, _, rfl, rfl⟩) dX11_init_129 (m_ap_lt hT (by omega)) ?_
  replace hz0 := hz0.ur (a := a) (k := 30) (x := some (a + 16)) (by rw [m_ap_1 hn (n := 16) rfl]; omega)
  generalize eM16 : m_ur (M15) a 30 (some (a + 16)) = M16 at hz0 ⊢
  refine m_aload_n dX11_init_132 rfl 0 rfl ?_
  refine m_bipush (v := 14) dX11_init_133 (by decide) ?_
  refine m_newa (atype := .int) (ty := .int) (N := 14) ac_int rfl rfl (by decide +kernel) (by decide +kernel) (by decide +kernel) (Nat.le_of_ble_eq_true rfl) (Nat.le_of_ble_eq_true rfl) hz0 dX11_init_135 ?_
  rw [m_ap_1 hn (n := 16) rfl, m_ap_al]
  replace hz0 := hz0.al (t := .inr (.int, false, 14)); rw [m_ap_al] at hz0
  refine m_putr f_X11_59 rfl (Or.inr ⟨rfl, _, _, _, rfl, rfl⟩) dX11_init_137 (m_ap_lt hT (by omega)) ?_
  replace hz0 := hz0.ur (a := a) (k := 31) (x := some (a + 17)) (by rw [m_ap_1 hn (n := 17) rfl]; omega)
  generalize eM17 : m_ur (M16) a 31 (some (a + 17)) = M17 at hz0 ⊢
  refine m_aload_n dX11_init_140 rfl 0 rfl ?_
  refine m_bipush (v := 14) dX11_init_141 (by decide) ?_
  refine m_newa (atype := .int) (ty := .int) (N := 14) ac_int rfl rfl (by decide +kernel) (by decide +kernel) (by decide +kernel) (Nat.le_of_ble_eq_true rfl) (Nat.le_of_ble_eq_true rfl) hz0 dX11_init_143 ?_
  rw [m_ap_1 hn (n := 17) rfl, m_ap_al]
  replace hz0 := hz0.al (t := .inr (.int, false, 14)); rw [m_ap_al] at hz0
  refine m_putr f_X11_62 rfl (Or.inr ⟨rfl, _, _, _, rfl, rfl⟩) dX11_init_145 (m_ap_lt hT (by omega)) ?_
  replace hz0 := hz0.ur (a := a) (k := 32) (x := some (a + 18)) (by rw [m_ap_1 hn (n := 18) rfl]; omega)
  generalize eM18 : m_ur (M17) a 32 (some (a + 18)) = M18 at hz0 ⊢
  refine m_aload_n dX11_init_148 rfl 0 rfl ?_
  refine m_sipush (v := 220) dX11_init_149 (by decide) ?_
  refine m_newa (atype := .int) (ty := .int) (N := 220) ac_int rfl rfl (by decide +kernel) (by decide +kernel) (by decide +kernel) (Nat.le_of_ble_eq_true rfl) (Nat.le_of_ble_eq_true rfl) hz0 dX11_init_152 ?_
  rw [m_ap_1 hn (n := 18) rfl, m_ap_al]
  replace hz0 := hz0.al (t := .inr (.int, false, 220)); rw [m_ap_al] at hz0
  refine m_putr f_X11_65 rfl (Or.inr ⟨rfl, _, _, _, rfl, rfl⟩) dX11_init_154 (m_ap_lt hT (by omega)) ?_
  replace hz0 := hz0.ur (a := a) (k := 33) (x := some (a + 19)) (by rw [m_ap_1 hn (n := 19) rfl]; omega)
  generalize eM19 : m_ur (M18) a 33 (some (a + 19)) = M19 at hz0 ⊢
  refine m_aload_n dX11_init_157 rfl 0 rfl ?_
  refine m_bipush (v := 8) dX11_init_158 (by decide) ?_
  refine m_newa (atype := .int) (ty := .int) (N := 8) ac_int rfl rfl (by decide +kernel) (by decide +kernel) (by decide +kernel) (Nat.le_of_ble_eq_true rfl) (Nat.le_of_ble_eq_true rfl) hz0 dX11_init_160 ?_
  rw [m_ap_1 hn (n := 19) rfl, m_ap_al]
  replace hz0 := hz0.al (t := .inr (.int, false, 8)); rw [m_ap_al] at hz0
  refine m_putr f_X11_68 rfl (Or.inr ⟨rfl, _, _, _, rfl, rfl⟩) dX11_init_162 (m_ap_lt hT (by omega)) ?_
  replace hz0 := hz0.ur (a := a) (k := 34) (x := some (a + 20)) (by rw [m_ap_1 hn (n := 20) rfl]; omega)
  generalize eM20 : m_ur (M19) a 34 (some (a + 20)) = M20 at hz0 ⊢
  refine m_aload_n dX11_init_165 rfl 0 rfl ?_
  refine m_sipush (v := 1053) dX11_init_166 (by decide) ?_
  refine m_newa (atype := .long) (ty := .long) (N := 1053) ac_long rfl rfl (by decide +kernel) (by decide +kernel) (by decide +kernel) (Nat.le_of_ble_eq_true rfl) (Nat.le_of_ble_eq_true rfl) hz0 dX11_init_169 ?_
  rw [m_ap_1 hn (n := 20) rfl, m_ap_al]
  replace hz0 := hz0.al (t := .inr (.long, false, 1053)); rw [m_ap_al] at hz0
  refine m_putr f_X11_71 rfl (Or.inr ⟨rfl, _, _, _, rfl, rfl⟩) dX11_init_171 (m_ap_lt hT (by omega)) ?_
  replace hz0 := hz0.ur (a := a) (k := 37) (x := some (a + 21)) (by rw [m_ap_1 hn (n := 21) rfl]; omega)
  generalize eM21 : m_ur (M20) a 37 (some (a + 21)) = M21 at hz0 ⊢
  refine m_aload_n dX11_init_174 rfl 0 rfl ?_
  refine m_sipush (v := 1053) dX11_init_175 (by decide) ?_
  refine m_newa (atype := .long) (ty := .long) (N := 1053) ac_long rfl rfl (by decide +kernel) (by decide +kernel) (by decide +kernel) (Nat.le_of_ble_eq_true rfl) (Nat.le_of_ble_eq_true rfl) hz0 dX11_init_178 ?_
  rw [m_ap_1 hn (n := 21) rfl, m_ap_al]
  replace hz0 := hz0.al (t := .inr (.long, false, 1053)); rw [m_ap_al] at hz0
  refine m_putr f_X11_75 rfl (Or.inr ⟨rfl, _, _, _, rfl, rfl⟩) dX11_init_180 (m_ap_lt hT (by omega)) ?_
  replace hz0 := hz0.ur (a := a) (k := 38) (x := some (a + 22)) (by rw [m_ap_1 hn (n := 22) rfl]; omega)
  generalize eM22 : m_ur (M21) a 38 (some (a + 22)) = M22 at hz0 ⊢
  refine m_aload_n dX11_init_183 rfl 0 rfl ?_
  refine m_bipush (v := 11) dX11_init_184 (by decide) ?_
  refine m_newa (atype := .long) (ty := .long) (N := 11) ac_long rfl rfl (by decide +kernel) (by decide +kernel) (by decide +kernel) (Nat.le_of_ble_eq_true rfl) (Nat.le_of_ble_eq_true rfl) hz0 dX11_init_186 ?_
  rw [m_ap_1 hn (n := 22) rfl, m_ap_al]
  replace hz0 := hz0.al (t := .inr (.long, false, 11)); rw [m_ap_al] at hz0
  refine m_putr f_X11_78 rfl (Or.inr ⟨rfl, _, _, _, rfl, rfl⟩) dX11_init_188 (m_ap_lt hT (by omega)) ?_
  replace hz0 := hz0.ur (a := a) (k := 39) (x := some (a + 23)) (by rw [m_ap_1 hn (n := 23) rfl]; omega)
  generalize eM23 : m_ur (M22) a 39 (some (a + 23)) = M23 at hz0 ⊢
  refine m_aload_n dX11_init_191 rfl 0 rfl ?_
  refine m_bipush (v := 11) dX11_init_192 (by decide) ?_
  refine m_newa (atype := .long) (ty := .long) (N := 11) ac_long rfl rfl (by decide +kernel) (by decide +kernel) (by decide +kernel) (Nat.le_of_ble_eq_true rfl) (Nat.le_of_ble_eq_true rfl) hz0 dX11_init_194 ?_
  rw [m_ap_1 hn (n := 23) rfl, m_ap_al]
  replace hz0 := hz0.al (t := .inr (.long, false, 11)); rw [m_ap_al] at hz0
  refine m_putr f_X11_81 rfl (Or.inr ⟨rfl, _, _, _, rfl, rfl⟩) dX11_init_196 (m_ap_lt hT (by omega)) ?_
  replace hz0 := hz0.ur (a := a) (k := 41) (x := some (a + 24)) (by rw [m_ap_1 hn (n := 24) rfl]; omega)
  generalize eM24 : m_ur (M23) a 41 (some (a + 24)) = M24 at hz0 ⊢
  refine m_aload_n dX11_init_199 rfl 0 rfl ?_
  refine m_ldc k_X11_84 dX11_init_200 ?_
  refine m_newa (atype := .boolean) (ty := .boolean) (N := 277200) ac_boolean rfl rfl (by decide +kernel) (by decide +kernel) (by decide +kernel) (Nat.le_of_ble_eq_true rfl) (Nat.le_of_ble_eq_true rfl) hz0 dX11_init_202 ?_
  rw [m_ap_1 hn (n := 24) rfl, m_ap_al]
  replace hz0 := hz0.al (t := .inr (.boolean, false, 277200)); rw [m_ap_al] at hz0
  refine m_putr f_X11_85 rfl (Or.inr ⟨rfl, _, _, _, rfl, rfl⟩) dX11_init_204 (m_ap_lt hT (by omega)) ?_
  replace hz0 := hz0.ur (a := a) (k := 46) (x := some (a + 25)) (by rw [m_ap_1 hn (n := 25) rfl]; omega)
  generalize eM25 : m_ur (M24) a 46 (some (a + 25)) = M25 at hz0 ⊢
  refine m_aload_n dX11_init_207 rfl 0 rfl ?_
  refine m_ldc k_X11_84 dX11_init_208 ?_
  refine m_newa (atype := .long) (ty := .long) (N := 277200) ac_long rfl rfl (by decide +kernel) (by decide +kernel) (by decide +kernel) (Nat.le_of_ble_eq_true rfl) (Nat.le_of_ble_eq_true rfl) hz0 dX11_init_210 ?_
  rw [m_ap_1 hn (n := 25) rfl, m_ap_al]
  replace hz0 := hz0.al (t := .inr (.long, false, 277200)); rw [m_ap_al] at hz0
  refine m_putr f_X11_89 rfl (Or.inr ⟨rfl, _, _, _, rfl, rfl⟩) dX11_init_212 (m_ap_lt hT (by omega)) ?_
  replace hz0 := hz0.ur (a := a) (k := 47) (x := some (a + 26)) (by rw [m_ap_1 hn (n := 26) rfl]; omega)
  generalize eM26 : m_ur (M25) a 47 (some (a + 26)) = M26 at hz0 ⊢
  refine m_aload_n dX11_init_215 rfl 0 rfl ?_
  refine m_ldc k_X11_84 dX11_init_216 ?_
  refine m_newa (atype := .byte) (ty := .byte) (N := 277200) ac_byte rfl rfl (by decide +kernel) (by decide +kernel) (by decide +kernel) (Nat.le_of_ble_eq_true rfl) (Nat.le_of_ble_eq_true rfl) hz0 dX11_init_218 ?_
  rw [m_ap_1 hn (n := 26) rfl, m_ap_al]
  replace hz0 := hz0.al (t := .inr (.byte, false, 277200)); rw [m_ap_al] at hz0
  refine m_putr f_X11_92 rfl (Or.inr ⟨rfl, _, _, _, rfl, rfl⟩) dX11_init_220 (m_ap_lt hT (by omega)) ?_
  replace hz0 := hz0.ur (a := a) (k := 48) (x := some (a + 27)) (by rw [m_ap_1 hn (n := 27) rfl]; omega)
  generalize eM27 : m_ur (M26) a 48 (some (a + 27)) = M27 at hz0 ⊢
  refine m_aload_n dX11_init_223 rfl 0 rfl ?_
  refine m_iconst (v := 3) dX11_init_224 (by decide) ?_
  refine m_newa (atype := .int) (ty := .int) (N := 3) ac_int rfl rfl (by decide +kernel) (by decide +kernel) (by decide +kernel) (Nat.le_of_ble_eq_true rfl) (Nat.le_of_ble_eq_true rfl) hz0 dX11_init_225 ?_
  rw [m_ap_1 hn (n := 27) rfl, m_ap_al]
  replace hz0 := hz0.al (t := .inr (.int, false, 3)); rw [m_ap_al] at hz0
  refine m_putr f_X11_95 rfl (Or.inr ⟨rfl, _, _, _, rfl, rfl⟩) dX11_init_227 (m_ap_lt hT (by omega)) ?_
  replace hz0 := hz0.ur (a := a) (k := 49) (x := some (a + 28)) (by rw [m_ap_1 hn (n := 28) rfl]; omega)
  generalize eM28 : m_ur (M27) a 49 (some (a + 28)) = M28 at hz0 ⊢
  refine m_aload_n dX11_init_230 rfl 0 rfl ?_
  refine m_iconst (v := 3) dX11_init_231 (by decide) ?_
  refine m_newa (atype := .int) (ty := .int) (N := 3) ac_int rfl rfl (by decide +kernel) (by decide +kernel) (by decide +kernel) (Nat.le_of_ble_eq_true rfl) (Nat.le_of_ble_eq_true rfl) hz0 dX11_init_232 ?_
  rw [m_ap_1 hn (n := 28) rfl, m_ap_al]
  replace hz0 := hz0.al (t := .inr (.int, false, 3)); rw [m_ap_al] at hz0
  refine m_putr f_X11_98 rfl (Or.inr ⟨rfl, _, _, _, rfl, rfl⟩) dX11_init_234 (m_ap_lt hT (by omega)) ?_
  replace hz0 := hz0.ur (a := a) (k := 50) (x := some (a + 29)) (by rw [m_ap_1 hn (n := 29) rfl]; omega)
  generalize eM29 : m_ur (M28) a 50 (some (a + 29)) = M29 at hz0 ⊢
  refine m_aload_n dX11_init_237 rfl 0 rfl ?_
  refine m_iconst (v := 3) dX11_init_238 (by decide) ?_
  refine m_newa (atype := .int) (ty := .int) (N := 3) ac_int rfl rfl (by decide +kernel) (by decide +kernel) (by decide +kernel) (Nat.le_of_ble_eq_true rfl) (Nat.le_of_ble_eq_true rfl) hz0 dX11_init_239 ?_
  rw [m_ap_1 hn (n := 29) rfl, m_ap_al]
  replace hz0 := hz0.al (t := .inr (.int, false, 3)); rw [m_ap_al] at hz0
  refine m_putr f_X11_101 rfl (Or.inr ⟨rfl, _, _, _, rfl, rfl⟩) dX11_init_241 (m_ap_lt hT (by omega)) ?_
  replace hz0 := hz0.ur (a := a) (k := 51) (x := some (a + 30)) (by rw [m_ap_1 hn (n := 30) rfl]; omega)
  generalize eM30 : m_ur (M29) a 51 (some (a + 30)) = M30 at hz0 ⊢
  refine m_aload_n dX11_init_244 rfl 0 rfl ?_
  refine m_iconst (v := 3) dX11_init_245 (by decide) ?_
  refine m_newa (atype := .int) (ty := .int) (N := 3) ac_int rfl rfl (by decide +kernel) (by decide +kernel) (by decide +kernel) (Nat.le_of_ble_eq_true rfl) (Nat.le_of_ble_eq_true rfl) hz0 dX11_init_246 ?_
  rw [m_ap_1 hn (n := 30) rfl, m_ap_al]
  replace hz0 := hz0.al (t := .inr (.int, false, 3)); rw [m_ap_al] at hz0
  refine m_putr f_X11_104 rfl (Or.inr ⟨rfl, _, _, _, rfl, rfl⟩) dX11_init_248 (m_ap_lt hT (by omega)) ?_
  replace hz0 := hz0.ur (a := a) (k := 52) (x := some (a + 31)) (by rw [m_ap_1 hn (n := 31) rfl]; omega)
  generalize eM31 : m_ur (M30) a 52 (some (a + 31)) = M31 at hz0 ⊢
  refine m_aload_n dX11_init_251 rfl 0 rfl ?_
  refine m_bipush (v := 25) dX11_init_252 (by decide) ?_
  refine m_newa (atype := .int) (ty := .int) (N := 25) ac_int rfl rfl (by decide +kernel) (by decide +kernel) (by decide +kernel) (Nat.le_of_ble_eq_true rfl) (Nat.le_of_ble_eq_true rfl) hz0 dX11_init_254 ?_
  rw [m_ap_1 hn (n := 31) rfl, m_ap_al]
  replace hz0 := hz0.al (t := .inr (.int, false, 25)); rw [m_ap_al] at hz0
  refine m_putr f_X11_107 rfl (Or.inr ⟨rfl, _, _, _, rfl, rfl⟩) dX11_init_256 (m_ap_lt hT (by omega)) ?_
  replace hz0 := hz0.ur (a := a) (k := 57) (x := some (a + 32)) (by rw [m_ap_1 hn (n := 32) rfl]; omega)
  generalize eM32 : m_ur (M31) a 57 (some (a + 32)) = M32 at hz0 ⊢
  refine m_aload_n dX11_init_259 rfl 0 rfl ?_
  refine m_iconst (v := 5) dX11_init_260 (by decide) ?_
  refine m_newa (atype := .int) (ty := .int) (N := 5) ac_int rfl rfl (by decide +kernel) (by decide +kernel) (by decide +kernel) (Nat.le_of_ble_eq_true rfl) (Nat.le_of_ble_eq_true rfl) hz0 dX11_init_261 ?_
  rw [m_ap_1 hn (n := 32) rfl, m_ap_al]
  replace hz0 := hz0.al (t := .inr (.int, false, 5)); rw [m_ap_al] at hz0
  refine m_putr f_X11_110 rfl (Or.inr ⟨rfl, _, _, _, rfl, rfl⟩) dX11_init_263 (m_ap_lt hT (by omega)) ?_
  replace hz0 := hz0.ur (a := a) (k := 58) (x := some (a + 33)) (by rw [m_ap_1 hn (n := 33) rfl]; omega)
  generalize eM33 : m_ur (M32) a 58 (some (a + 33)) = M33 at hz0 ⊢
  refine m_aload_n dX11_init_266 rfl 0 rfl ?_
  refine m_iconst (v := 5) dX11_init_267 (by decide) ?_
  refine m_newa (atype := .int) (ty := .int) (N := 5) ac_int rfl rfl (by decide +kernel) (by decide +kernel) (by decide +kernel) (Nat.le_of_ble_eq_true rfl) (Nat.le_of_ble_eq_true rfl) hz0 dX11_init_268 ?_
  rw [m_ap_1 hn (n := 33) rfl, m_ap_al]
  replace hz0 := hz0.al (t := .inr (.int, false, 5)); rw [m_ap_al] at hz0
  refine m_putr f_X11_113 rfl (Or.inr ⟨rfl, _, _, _, rfl, rfl⟩) dX11_init_270 (m_ap_lt hT (by omega)) ?_
  replace hz0 := hz0.ur (a := a) (k := 59) (x := some (a + 34)) (by rw [m_ap_1 hn (n := 34) rfl]; omega)
  generalize eM34 : m_ur (M33) a 59 (some (a + 34)) = M34 at hz0 ⊢
  refine m_aload_n dX11_init_273 rfl 0 rfl ?_
  refine m_bipush (v := 40) dX11_init_274 (by decide) ?_
  refine m_newa (atype := .int) (ty := .int) (N := 40) ac_int rfl rfl (by decide +kernel) (by decide +kernel) (by decide +kernel) (Nat.le_of_ble_eq_true rfl) (Nat.le_of_ble_eq_true rfl) hz0 dX11_init_276 ?_
  rw [m_ap_1 hn (n := 34) rfl, m_ap_al]
  replace hz0 := hz0.al (t := .inr (.int, false, 40)); rw [m_ap_al] at hz0
  refine m_putr f_X11_116 rfl (Or.inr ⟨rfl, _, _, _, rfl, rfl⟩) dX11_init_278 (m_ap_lt hT (by omega)) ?_
  replace hz0 := hz0.ur (a := a) (k := 62) (x := some (a + 35)) (by rw [m_ap_1 hn (n := 35) rfl]; omega)
  generalize eM35 : m_ur (M34) a 62 (some (a + 35)) = M35 at hz0 ⊢
  refine m_aload_n dX11_init_281 rfl 0 rfl ?_
  refine m_bipush (v := 40) dX11_init_282 (by decide) ?_
  refine m_newa (atype := .int) (ty := .int) (N := 40) ac_int rfl rfl (by decide +kernel) (by decide +kernel) (by decide +kernel) (Nat.le_of_ble_eq_true rfl) (Nat.le_of_ble_eq_true rfl) hz0 dX11_init_284 ?_
  rw [m_ap_1 hn (n := 35) rfl, m_ap_al]
  replace hz0 := hz0.al (t := .inr (.int, false, 40)); rw [m_ap_al] at hz0
  refine m_putr f_X11_119 rfl (Or.inr ⟨rfl, _, _, _, rfl, rfl⟩) dX11_init_286 (m_ap_lt hT (by omega)) ?_
  replace hz0 := hz0.ur (a := a) (k := 63) (x := some (a + 36)) (by rw [m_ap_1 hn (n := 36) rfl]; omega)
  generalize eM36 : m_ur (M35) a 63 (some (a + 36)) = M36 at hz0 ⊢
  refine m_aload_n dX11_init_289 rfl 0 rfl ?_
  refine m_bipush (v := 40) dX11_init_290 (by decide) ?_
  refine m_newa (atype := .int) (ty := .int) (N := 40) ac_int rfl rfl (by decide +kernel) (by decide +kernel) (by decide +kernel) (Nat.le_of_ble_eq_true rfl) (Nat.le_of_ble_eq_true rfl) hz0 dX11_init_292 ?_
  rw [m_ap_1 hn (n := 36) rfl, m_ap_al]
  replace hz0 := hz0.al (t := .inr (.int, false, 40)); rw [m_ap_al] at hz0
  refine m_putr f_X11_122 rfl (Or.inr ⟨rfl, _, _, _, rfl, rfl⟩) dX11_init_294 (m_ap_lt hT (by omega)) ?_
  replace hz0 := hz0.ur (a := a) (k := 64) (x := some (a + 37)) (by rw [m_ap_1 hn (n := 37) rfl]; omega)
  generalize eM37 : m_ur (M36) a 64 (some (a + 37)) = M37 at hz0 ⊢
  refine m_aload_n dX11_init_297 rfl 0 rfl ?_
  refine m_iconst (v := 5) dX11_init_298 (by decide) ?_
  refine m_newa (atype := .int) (ty := .int) (N := 5) ac_int rfl rfl (by decide +kernel) (by decide +kernel) (by decide +kernel) (Nat.le_of_ble_eq_true rfl) (Nat.le_of_ble_eq_true rfl) hz0 dX11_init_299 ?_
  rw [m_ap_1 hn (n := 37) rfl, m_ap_al]
  replace hz0 := hz0.al (t := .inr (.int, false, 5)); rw [m_ap_al] at hz0
  refine m_putr f_X11_125 rfl (Or.inr ⟨rfl, _, _, _, rfl, rfl⟩) dX11_init_301 (m_ap_lt hT (by omega)) ?_
  replace hz0 := hz0.ur (a := a) (k := 65) (x := some (a + 38)) (by rw [m_ap_1 hn (n := 38) rfl]; omega)
  generalize eM38 : m_ur (M37) a 65 (some (a + 38)) = M38 at hz0 ⊢
  refine m_aload_n dX11_init_304 rfl 0 rfl ?_
  refine m_iconst (v := 5) dX11_init_305 (by decide) ?_
  refine m_newa (atype := .int) (ty := .int) (N := 5) ac_int rfl rfl (by decide +kernel) (by decide +kernel) (by decide +kernel) (Nat.le_of_ble_eq_true rfl) (Nat.le_of_ble_eq_true rfl) hz0 dX11_init_306 ?_
  rw [m_ap_1 hn (n := 38) rfl, m_ap_al]
  replace hz0 := hz0.al (t := .inr (.int, false, 5)); rw [m_ap_al] at hz0
  refine m_putr f_X11_128 rfl (Or.inr ⟨rfl, _, _, _, rfl, rfl⟩) dX11_init_308 (m_ap_lt hT (by omega)) ?_
  replace hz0 := hz0.ur (a := a) (k := 66) (x := some (a + 39)) (by rw [m_ap_1 hn (n := 39) rfl]; omega)
  generalize eM39 : m_ur (M38) a 66 (some (a + 39)) = M39 at hz0 ⊢
  refine m_aload_n dX11_init_311 rfl 0 rfl ?_
  refine m_iconst (v := 2) dX11_init_312 (by decide) ?_
  refine m_puti f_X11_131 rfl (Or.inl rfl) dX11_init_313 (m_ap_lt hT (by omega)) ⟨rfl, rfl⟩ ?_
  replace hz0 := hz0.ui (a := a) (k := 2) (x := 2) (by rw [m_ap_1 hn (n := 39) rfl]; omega)
  generalize eM40 : m_ui (M39) a 2 2 = M40 at hz0 ⊢
  refine m_aload_n dX11_init_316 rfl 0 rfl ?_
  refine m_iconst (v := 1) dX11_init_317 (by decide) ?_
  refine m_puti f_X11_135 rfl (Or.inl rfl) dX11_init_318 (m_ap_lt hT (by omega)) ⟨rfl, rfl⟩ ?_
  replace hz0 := hz0.ui (a := a) (k := 4) (x := 1) (by rw [m_ap_1 hn (n := 39) rfl]; omega)
  generalize eM41 : m_ui (M40) a 4 1 = M41 at hz0 ⊢
  subst eM41
  subst eM40
  subst eM39
  subst eM38
  subst eM37
  subst eM36
  subst eM35
  subst eM34
  subst eM33
  subst eM32
  subst eM31
  subst eM30
  subst eM29
  subst eM28
  subst eM27
  subst eM26
  subst eM25
  subst eM24
  subst eM23
  subst eM22
  subst eM21
  subst eM20
  subst eM19
  subst eM18
  subst eM17
  subst eM16
  subst eM15
  subst eM14
  subst eM13
  subst eM12
  subst eM11
  subst eM10
  subst eM9
  subst eM8
  subst eM7
  subst eM6
  subst eM5
  subst eM4
  subst eM3
  subst eM2
  subst eM1
  exact m_return dX11_init_321 rfl (h hz0)
