set_option maxHeartbeats 4000000 in
set_option maxRecDepth 100000 in
theorem e6_fall {d : Nat} {Th : mT} {Q : mM → Prop} {a0 : Nat} {M : mM} (h : Th.2.2 a0 = some (.inl 6) ∧ (Q (m_ui M a0 5 0))) : P6_fall (d + 1) Th a0 M Q := by
  refine m_C.of (by decide +kernel) (Nat.le_of_ble_eq_true rfl) ?_
  show m_W (d + 1) 0 0 yX6_fall cX6_fall 1 none (m_qv Th Q) 0 [(0, .ref a0)] [] Th M 0 0
  refine m_aload_n dX6_fall_0 rfl 0 rfl ?_
  refine m_iconst (v := 0) dX6_fall_1 (by decide) ?_
  obtain ⟨q1, h⟩ := h
  refine m_puti f_X6_24 rfl (Or.inl rfl) dX6_fall_2 q1 ⟨rfl, rfl⟩ ?_
  exact m_return dX6_fall_5 rfl ⟨rfl, rfl, h⟩
set_option maxHeartbeats 4000000 in
set_option maxRecDepth 100000 in
theorem h6_add_18 {d : Nat} {Th : mT} {Q : Int32 → mM → Prop} {a0 : Nat} {a1 : Nat} {x3 : Int32} {x4 : Int32} {M : mM} (h : Th.2.2 a0 = some (.inl 6) ∧ (if ((M).1 a0 4) ≤ x4 then (H6_add_79 (d + 1) Th Q a0 a1 0 M) else (Th.2.2 a1 = some (.inl 9) ∧ (P9_byteAt d Th a1 x4 M (fun (v3 : Int32) (M2 : mM) => P10_within d Th v3 0 ((((M2).1 a0 4) - 1)) M2 (fun (v6 : Int32) (M5 : mM) => if v6 = 0 then (Q (-2) M5) else (if ((x3 >>> (v3 &&& 31)) &&& 1) = 1 then (Q (-2) M5) else (∀ xv7 : Int32, xv7 = (x3 ||| (1 <<< (v3 &&& 31))) → H6_add_18 (d + 1) Th Q a0 a1 xv7 (x4 + 1) M5)))))))) : H6_add_18 (d + 1) Th Q a0 a1 x3 x4 M := by
  show m_W (d + 1) 0 0 yX6_add cX6_add 6 (some .int) (m_qi Th Q) 18 [(0, .ref a0), (1, .ref a1), (3, .int x3), (4, .int x4)] [] Th M 0 0
  refine m_iload dX6_add_18 3 rfl ?_
  refine m_aload_n dX6_add_20 rfl 0 rfl ?_
  obtain ⟨q1, h⟩ := h
  refine m_geti f_X6_37 rfl dX6_add_21 q1 ?_
  refine m_icmp_ge (tgt := 76) dX6_add_24 (by decide) (fun c1 => ?_) (fun c1 => ?_)
  · rw [if_pos c1] at h
    refine m_iconst (v := 0) dX6_add_76 (by decide) ?_
    refine m_istore (lv' := [(4, .int 0), (0, .ref a0), (1, .ref a1), (3, .int x3)]) dX6_add_77 (by decide) rfl ?_
    exact m_sub [1, 2, 0] rfl h
  · rw [if_neg c1] at h
    refine m_aload_n dX6_add_27 rfl 1 rfl ?_
    refine m_iload dX6_add_28 3 rfl ?_
    obtain ⟨q4, h⟩ := h
    refine m_invV (ci := 9) (As := [.int x4]) (d' := d) (mc' := 0) (ms' := 0) (rest := []) i_9_byteAt v_9_byteAt t_9_byteAt l_X6_40 ⟨_, _, rfl⟩ dX6_add_30 rfl rfl q4 (Nat.le_of_ble_eq_true rfl) (Nat.le_refl _) ⟨Nat.le_refl _, Nat.le_refl _⟩ (m_Ci h (fun v3 M2 h => ?_))
    show m_W (d + 1) 0 0 yX6_add cX6_add 6 (some .int) (m_qi Th Q) 33 [(0, .ref a0), (1, .ref a1), (3, .int x3), (4, .int x4)] [.int v3] Th M2 0 0
    refine m_istore (lv' := [(5, .int v3), (0, .ref a0), (1, .ref a1), (3, .int x3), (4, .int x4)]) dX6_add_33 (by decide) rfl ?_
    refine m_iload dX6_add_35 0 rfl ?_
    refine m_iconst (v := 0) dX6_add_37 (by decide) ?_
    refine m_aload_n dX6_add_38 rfl 1 rfl ?_
    refine m_geti f_X6_37 rfl dX6_add_39 q1 ?_
    refine m_iconst (v := 1) dX6_add_42 (by decide) ?_
    refine m_isub dX6_add_43 ?_
    refine m_invSN (As := [.int v3, .int 0, .int ((((M2).1 a0 4) - 1))]) (d' := d) (mc' := 0) (ms' := 0) (rest := []) i_10_within s_10_within l_X6_46 dX6_add_44 rfl rfl (Nat.le_of_ble_eq_true rfl) (Nat.le_refl _) ⟨Nat.le_refl _, Nat.le_refl _⟩ (m_Ci h (fun v6 M5 h => ?_))
    show m_W (d + 1) 0 0 yX6_add cX6_add 6 (some .int) (m_qi Th Q) 47 [(5, .int v3), (0, .ref a0), (1, .ref a1), (3, .int x3), (4, .int x4)] [.int v6] Th M5 0 0
    refine m_if_eq (tgt := 60) dX6_add_47 (by decide) (fun c1 => ?_) (fun c1 => ?_)
    · rw [if_pos c1] at h
      refine m_bipush (v := (-2)) dX6_add_60 (by decide) ?_
      exact m_ireturn dX6_add_62 rfl rfl ⟨rfl, _, rfl, h⟩
    · rw [if_neg c1] at h
      refine m_iload_n dX6_add_50 rfl 3 rfl ?_
      refine m_iload dX6_add_51 0 rfl ?_
      refine m_ishr dX6_add_53 ?_
      refine m_iconst (v := 1) dX6_add_54 (by decide) ?_
      refine m_iand dX6_add_55 ?_
      refine m_iconst (v := 1) dX6_add_56 (by decide) ?_
      refine m_icmp_ne (tgt := 63) dX6_add_57 (by decide) (fun c1 => ?_) (fun c1 => ?_)
      · rw [if_neg c1] at h
        refine m_iload_n dX6_add_63 rfl 3 rfl ?_
        refine m_iconst (v := 1) dX6_add_64 (by decide) ?_
        refine m_iload dX6_add_65 0 rfl ?_
        refine m_ishl dX6_add_67 ?_
        refine m_ior dX6_add_68 ?_
        obtain ⟨xv7, e_xv7⟩ : ∃ xv7 : Int32, xv7 = (x3 ||| (1 <<< (v3 &&& 31))) := ⟨_, rfl⟩
        have h := h xv7 e_xv7
        rw [← e_xv7]
        refine m_istore_n (lv' := [(3, .int xv7), (5, .int v3), (0, .ref a0), (1, .ref a1), (4, .int x4)]) dX6_add_69 rfl (by decide) rfl ?_
        refine m_iinc (v := x4 + 1) (lv' := [(4, .int (x4 + 1)), (3, .int xv7), (5, .int v3), (0, .ref a0), (1, .ref a1)]) dX6_add_70 4 rfl rfl (by decide) rfl ?_
        refine m_goto (tgt := 18) dX6_add_73 (by decide) ?_
        exact m_sub [3, 4, 1, 0] rfl h
      · rw [if_pos c1] at h
        refine m_bipush (v := (-2)) dX6_add_60 (by decide) ?_
        exact m_ireturn dX6_add_62 rfl rfl ⟨rfl, _, rfl, h⟩
set_option maxHeartbeats 4000000 in
set_option maxRecDepth 100000 in
theorem h6_add_79 {d : Nat} {Th : mT} {Q : Int32 → mM → Prop} {a0 : Nat} {a1 : Nat} {x4 : Int32} {M : mM} (h : Th.2.2 a0 = some (.inl 6) ∧ (if ((M).1 a0 4) ≤ x4 then (H6_add_122 (d + 1) Th Q a0 M) else (if 5 ≤ ((M).1 a0 5) then (H6_add_122 (d + 1) Th Q a0 M) else (∃ r2 : Nat, M.2.2 a0 0 = some r2 ∧ (Th.2.2 a1 = some (.inl 9) ∧ (P9_byteAt d Th a1 x4 M (fun (v5 : Int32) (M4 : mM) => m_okw Th r2 .int (((((M).1 a0 5) * 5) + x4)) ∧ (H6_add_79 (d + 1) Th Q a0 a1 (x4 + 1) (m_ui M4 r2 (Int32.toNatClampNeg (((((M).1 a0 5) * 5) + x4))) v5))))))))) : H6_add_79 (d + 1) Th Q a0 a1 x4 M := by
  show m_W (d + 1) 0 0 yX6_add cX6_add 6 (some .int) (m_qi Th Q) 79 [(0, .ref a0), (1, .ref a1), (4, .int x4)] [] Th M 0 0
  refine m_iload dX6_add_79 2 rfl ?_
  refine m_aload_n dX6_add_81 rfl 0 rfl ?_
  obtain ⟨q1, h⟩ := h
  refine m_geti f_X6_37 rfl dX6_add_82 q1 ?_
  refine m_icmp_ge (tgt := 122) dX6_add_85 (by decide) (fun c1 => ?_) (fun c1 => ?_)
  · rw [if_pos c1] at h
    exact m_sub [0] rfl h
  · rw [if_neg c1] at h
    refine m_aload_n dX6_add_88 rfl 0 rfl ?_
    refine m_geti f_X6_24 rfl dX6_add_89 q1 ?_
    refine m_iconst (v := 5) dX6_add_92 (by decide) ?_
    refine m_icmp_ge (tgt := 122) dX6_add_93 (by decide) (fun c1 => ?_) (fun c1 => ?_)
    · rw [if_pos c1] at h
      exact m_sub [0] rfl h
    · rw [if_neg c1] at h
      refine m_aload_n dX6_add_96 rfl 0 rfl ?_
      obtain ⟨r2, q3, h⟩ := h
      refine m_getr f_X6_9 rfl dX6_add_97 q1 q3 ?_
      refine m_aload_n dX6_add_100 rfl 0 rfl ?_
      refine m_geti f_X6_24 rfl dX6_add_101 q1 ?_
      refine m_iconst (v := 5) dX6_add_104 (by decide) ?_
      refine m_imul dX6_add_105 ?_
      refine m_iload dX6_add_106 2 rfl ?_
      refine m_iadd dX6_add_108 ?_
      refine m_aload_n dX6_add_109 rfl 1 rfl ?_
      refine m_iload dX6_add_110 2 rfl ?_
      obtain ⟨q6, h⟩ := h
      refine m_invV (ci := 9) (As := [.int x4]) (d' := d) (mc' := 0) (ms' := 0) (rest := [.int (((((M).1 a0 5) * 5) + x4)), .ref r2]) i_9_byteAt v_9_byteAt t_9_byteAt l_X6_40 ⟨_, _, rfl⟩ dX6_add_112 rfl rfl q6 (Nat.le_of_ble_eq_true rfl) (Nat.le_refl _) ⟨Nat.le_refl _, Nat.le_refl _⟩ (m_Ci h (fun v5 M4 h => ?_))
      show m_W (d + 1) 0 0 yX6_add cX6_add 6 (some .int) (m_qi Th Q) 115 [(0, .ref a0), (1, .ref a1), (4, .int x4)] [.int v5, .int (((((M).1 a0 5) * 5) + x4)), .ref r2] Th M4 0 0
      obtain ⟨q7, h⟩ := h
      refine m_iast dX6_add_115 q7 ?_
      refine m_iinc (v := x4 + 1) (lv' := [(4, .int (x4 + 1)), (0, .ref a0), (1, .ref a1)]) dX6_add_116 2 rfl rfl (by decide) rfl ?_
      refine m_goto (tgt := 79) dX6_add_119 (by decide) ?_
      exact m_sub [1, 2, 0] rfl h
set_option maxHeartbeats 4000000 in
set_option maxRecDepth 100000 in
theorem h6_add_122 {d : Nat} {Th : mT} {Q : Int32 → mM → Prop} {a0 : Nat} {M : mM} (h : Th.2.2 a0 = some (.inl 6) ∧ (∀ M2 : mM, M2 = m_ui M a0 5 ((((M).1 a0 5) + 1)) → Q ((((M2).1 a0 5) - 1)) M2)) : H6_add_122 (d + 1) Th Q a0 M := by
  show m_W (d + 1) 0 0 yX6_add cX6_add 6 (some .int) (m_qi Th Q) 122 [(0, .ref a0)] [] Th M 0 0
  refine m_aload_n dX6_add_122 rfl 0 rfl ?_
  refine m_dup dX6_add_123 rfl ?_
  obtain ⟨q1, h⟩ := h
  refine m_geti f_X6_24 rfl dX6_add_124 q1 ?_
  refine m_iconst (v := 1) dX6_add_127 (by decide) ?_
  refine m_iadd dX6_add_128 ?_
  refine m_puti f_X6_24 rfl (Or.inl rfl) dX6_add_129 q1 ⟨rfl, rfl⟩ ?_
  refine m_aload_n dX6_add_132 rfl 0 rfl ?_
  obtain ⟨M2, e_M2⟩ : ∃ M2 : mM, M2 = m_ui M a0 5 ((((M).1 a0 5) + 1)) := ⟨_, rfl⟩
  have h := h M2 e_M2
  rw [← e_M2]
  refine m_geti f_X6_24 rfl dX6_add_133 q1 ?_
  refine m_iconst (v := 1) dX6_add_136 (by decide) ?_
  refine m_isub dX6_add_137 ?_
  exact m_ireturn dX6_add_138 rfl rfl ⟨rfl, _, rfl, h⟩
set_option maxHeartbeats 4000000 in
set_option maxRecDepth 100000 in
theorem e6_add {d : Nat} {Th : mT} {Q : Int32 → mM → Prop} {a0 : Nat} {a1 : Nat} {x2 : Int32} {M : mM} (h : Th.2.2 a0 = some (.inl 6) ∧ (H6_add_18 (d + 1) Th Q a0 a1 0 0 (m_ui M a0 4 ((if 0 < (if x2 < 5 then x2 else 5) then (if x2 < 5 then x2 else 5) else 0))))) : P6_add (d + 1) Th a0 a1 x2 M Q := by
  refine m_C.of (by decide +kernel) (Nat.le_of_ble_eq_true rfl) ?_
  show m_W (d + 1) 0 0 yX6_add cX6_add 6 (some .int) (m_qi Th Q) 0 [(0, .ref a0), (1, .ref a1), (2, .int x2)] [] Th M 0 0
  refine m_aload_n dX6_add_0 rfl 0 rfl ?_
  refine m_iconst (v := 0) dX6_add_1 (by decide) ?_
  refine m_iconst (v := 5) dX6_add_2 (by decide) ?_
  refine m_iload_n dX6_add_3 rfl 2 rfl ?_
  refine m_min l_X6_28 dX6_add_4 (Nat.le_of_ble_eq_true rfl) (Nat.le_add_left _ _) (Nat.le_refl _) (Nat.le_refl _) ?_
  refine m_max l_X6_34 dX6_add_7 (Nat.le_of_ble_eq_true rfl) (Nat.le_add_left _ _) (Nat.le_refl _) (Nat.le_refl _) ?_
  obtain ⟨q1, h⟩ := h
  refine m_puti f_X6_37 rfl (Or.inl rfl) dX6_add_10 q1 ⟨rfl, rfl⟩ ?_
  refine m_iconst (v := 0) dX6_add_13 (by decide) ?_
  refine m_istore_n (lv' := [(3, .int 0), (0, .ref a0), (1, .ref a1), (2, .int x2)]) dX6_add_14 rfl (by decide) rfl ?_
  refine m_iconst (v := 0) dX6_add_15 (by decide) ?_
  refine m_istore (lv' := [(4, .int 0), (3, .int 0), (0, .ref a0), (1, .ref a1), (2, .int x2)]) dX6_add_16 (by decide) rfl ?_
  exact m_sub [2, 3, 1, 0] rfl h
set_option maxHeartbeats 4000000 in
set_option maxRecDepth 100000 in
theorem e6_rowOf {d : Nat} {Th : mT} {Q : Int32 → mM → Prop} {a0 : Nat} {x1 : Int32} {M : mM} (h : if x1 < 0 then (Q (-1) M) else (if 5 ≤ x1 then (Q (-1) M) else (Th.2.2 a0 = some (.inl 6) ∧ (∃ r2 : Nat, M.2.2 a0 3 = some r2 ∧ (m_ok Th r2 .int x1 ∧ (Q (((M).1 r2 (Int32.toNatClampNeg x1))) M)))))) : P6_rowOf (d + 1) Th a0 x1 M Q := by
  refine m_C.of (by decide +kernel) (Nat.le_of_ble_eq_true rfl) ?_
  show m_W (d + 1) 0 0 yX6_rowOf cX6_rowOf 2 (some .int) (m_qi Th Q) 0 [(0, .ref a0), (1, .int x1)] [] Th M 0 0
  refine m_iload_n dX6_rowOf_0 rfl 1 rfl ?_
  refine m_if_lt (tgt := 18) dX6_rowOf_1 (by decide) (fun c1 => ?_) (fun c1 => ?_)
  · rw [if_pos c1] at h
    refine m_iconst (v := (-1)) dX6_rowOf_18 (by decide) ?_
    exact m_ireturn dX6_rowOf_19 rfl rfl ⟨rfl, _, rfl, h⟩
  · rw [if_neg c1] at h
    refine m_iload_n dX6_rowOf_4 rfl 1 rfl ?_
    refine m_iconst (v := 5) dX6_rowOf_5 (by decide) ?_
    refine m_icmp_ge (tgt := 18) dX6_rowOf_6 (by decide) (fun c1 => ?_) (fun c1 => ?_)
    · rw [if_pos c1] at h
      refine m_iconst (v := (-1)) dX6_rowOf_18 (by decide) ?_
      exact m_ireturn dX6_rowOf_19 rfl rfl ⟨rfl, _, rfl, h⟩
    · rw [if_neg c1] at h
      refine m_aload_n dX6_rowOf_9 rfl 0 rfl ?_
      obtain ⟨q1, h⟩ := h
      obtain ⟨r2, q3, h⟩ := h
      refine m_getr f_X6_21 rfl dX6_rowOf_10 q1 q3 ?_
      refine m_iload_n dX6_rowOf_13 rfl 1 rfl ?_
      obtain ⟨q4, h⟩ := h
      refine m_iald dX6_rowOf_14 q4 ?_
      refine m_goto (tgt := 19) dX6_rowOf_15 (by decide) ?_
      exact m_ireturn dX6_rowOf_19 rfl rfl ⟨rfl, _, rfl, h⟩
set_option maxHeartbeats 4000000 in
set_option maxRecDepth 100000 in
theorem h6_giveTo_19 {d : Nat} {Th : mT} {Q : mM → Prop} {a0 : Nat} {x2 : Int32} {x3 : Int32} {x4 : Int32} {M : mM} (h : if x2 ≤ x4 then (Th.2.2 a0 = some (.inl 6) ∧ (H6_giveTo_54 (d + 1) Th Q a0 x2 x3 0 (m_ui M a0 6 (-1)))) else (Th.2.2 a0 = some (.inl 6) ∧ (∃ r3 : Nat, M.2.2 a0 2 = some r3 ∧ (m_okw Th r3 .int x4 ∧ (∀ M6 : mM, M6 = m_ui M r3 (Int32.toNatClampNeg x4) 0 → ∀ xv7 : Int32, xv7 = (x3 * ((M6).1 a0 5)) → H6_giveTo_19 (d + 1) Th Q a0 x2 xv7 (x4 + 1) M6))))) : H6_giveTo_19 (d + 1) Th Q a0 x2 x3 x4 M := by
  show m_W (d + 1) 0 0 yX6_giveTo cX6_giveTo 6 none (m_qv Th Q) 19 [(0, .ref a0), (2, .int x2), (3, .int x3), (4, .int x4)] [] Th M 0 0
  refine m_iload dX6_giveTo_19 3 rfl ?_
  refine m_iload_n dX6_giveTo_21 rfl 1 rfl ?_
  refine m_icmp_ge (tgt := 46) dX6_giveTo_22 (by decide) (fun c1 => ?_) (fun c1 => ?_)
  · rw [if_pos c1] at h
    refine m_aload_n dX6_giveTo_46 rfl 0 rfl ?_
    refine m_iconst (v := (-1)) dX6_giveTo_47 (by decide) ?_
    obtain ⟨q1, h⟩ := h
    refine m_puti f_X6_53 rfl (Or.inl rfl) dX6_giveTo_48 q1 ⟨rfl, rfl⟩ ?_
    refine m_iconst (v := 0) dX6_giveTo_51 (by decide) ?_
    refine m_istore (lv' := [(4, .int 0), (0, .ref a0), (2, .int x2), (3, .int x3)]) dX6_giveTo_52 (by decide) rfl ?_
    exact m_sub [1, 2, 3, 0] rfl h
  · rw [if_neg c1] at h
    refine m_aload_n dX6_giveTo_25 rfl 0 rfl ?_
    obtain ⟨q2, h⟩ := h
    obtain ⟨r3, q4, h⟩ := h
    refine m_getr f_X6_18 rfl dX6_giveTo_26 q2 q4 ?_
    refine m_iload dX6_giveTo_29 3 rfl ?_
    refine m_iconst (v := 0) dX6_giveTo_31 (by decide) ?_
    obtain ⟨q5, h⟩ := h
    refine m_iast dX6_giveTo_32 q5 ?_
    refine m_iload_n dX6_giveTo_33 rfl 2 rfl ?_
    refine m_aload_n dX6_giveTo_34 rfl 0 rfl ?_
    obtain ⟨M6, e_M6⟩ : ∃ M6 : mM, M6 = m_ui M r3 (Int32.toNatClampNeg x4) 0 := ⟨_, rfl⟩
    have h := h M6 e_M6
    rw [← e_M6]
    refine m_geti f_X6_24 rfl dX6_giveTo_35 q2 ?_
    refine m_imul dX6_giveTo_38 ?_
    obtain ⟨xv7, e_xv7⟩ : ∃ xv7 : Int32, xv7 = (x3 * ((M6).1 a0 5)) := ⟨_, rfl⟩
    have h := h xv7 e_xv7
    rw [← e_xv7]
    refine m_istore_n (lv' := [(3, .int xv7), (0, .ref a0), (2, .int x2), (4, .int x4)]) dX6_giveTo_39 rfl (by decide) rfl ?_
    refine m_iinc (v := x4 + 1) (lv' := [(4, .int (x4 + 1)), (3, .int xv7), (0, .ref a0), (2, .int x2)]) dX6_giveTo_40 3 rfl rfl (by decide) rfl ?_
    refine m_goto (tgt := 19) dX6_giveTo_43 (by decide) ?_
    exact m_sub [2, 3, 1, 0] rfl h
set_option maxHeartbeats 4000000 in
set_option maxRecDepth 100000 in
theorem h6_giveTo_54 {d : Nat} {Th : mT} {Q : mM → Prop} {a0 : Nat} {x2 : Int32} {x3 : Int32} {x4 : Int32} {M : mM} (h : if x3 ≤ x4 then (Q M) else (Th.2.2 a0 = some (.inl 6) ∧ (P6_meetingsOfRow d Th a0 x2 M (fun (v2 : Int32) (M1 : mM) => if ((M1).1 a0 6) = (-1) then (H6_giveTo_84 (d + 1) Th Q a0 x2 x3 x4 v2 M1) else (if ((M1).1 a0 6) ≤ v2 then (H6_giveTo_95 (d + 1) Th Q a0 x2 x3 x4 M1) else (H6_giveTo_84 (d + 1) Th Q a0 x2 x3 x4 v2 M1)))))) : H6_giveTo_54 (d + 1) Th Q a0 x2 x3 x4 M := by
  show m_W (d + 1) 0 0 yX6_giveTo cX6_giveTo 6 none (m_qv Th Q) 54 [(0, .ref a0), (2, .int x2), (3, .int x3), (4, .int x4)] [] Th M 0 0
  refine m_iload dX6_giveTo_54 3 rfl ?_
  refine m_iload_n dX6_giveTo_56 rfl 2 rfl ?_
  refine m_icmp_ge (tgt := 106) dX6_giveTo_57 (by decide) (fun c1 => ?_) (fun c1 => ?_)
  · rw [if_pos c1] at h
    exact m_return dX6_giveTo_106 rfl ⟨rfl, rfl, h⟩
  · rw [if_neg c1] at h
    refine m_aload_n dX6_giveTo_60 rfl 0 rfl ?_
    refine m_iload_n dX6_giveTo_61 rfl 1 rfl ?_
    obtain ⟨q3, h⟩ := h
    refine m_invV (ci := 6) (As := [.int x2]) (d' := d) (mc' := 0) (ms' := 0) (rest := []) i_6_meetingsOfRow v_6_meetingsOfRow t_6_meetingsOfRow l_X6_56 ⟨_, _, rfl⟩ dX6_giveTo_62 rfl rfl q3 (Nat.le_of_ble_eq_true rfl) (Nat.le_refl _) ⟨Nat.le_refl _, Nat.le_refl _⟩ (m_Ci h (fun v2 M1 h => ?_))
    show m_W (d + 1) 0 0 yX6_giveTo cX6_giveTo 6 none (m_qv Th Q) 65 [(0, .ref a0), (2, .int x2), (3, .int x3), (4, .int x4)] [.int v2] Th M1 0 0
    refine m_istore (lv' := [(5, .int v2), (0, .ref a0), (2, .int x2), (3, .int x3), (4, .int x4)]) dX6_giveTo_65 (by decide) rfl ?_
    refine m_aload_n dX6_giveTo_67 rfl 1 rfl ?_
    refine m_geti f_X6_53 rfl dX6_giveTo_68 q3 ?_
    refine m_iconst (v := (-1)) dX6_giveTo_71 (by decide) ?_
    refine m_icmp_eq (tgt := 84) dX6_giveTo_72 (by decide) (fun c1 => ?_) (fun c1 => ?_)
    · rw [if_pos c1] at h
      exact m_sub [1, 2, 3, 4, 0] rfl h
    · rw [if_neg c1] at h
      refine m_iload dX6_giveTo_75 0 rfl ?_
      refine m_aload_n dX6_giveTo_77 rfl 1 rfl ?_
      refine m_geti f_X6_53 rfl dX6_giveTo_78 q3 ?_
      refine m_icmp_ge (tgt := 95) dX6_giveTo_81 (by decide) (fun c1 => ?_) (fun c1 => ?_)
      · rw [if_pos c1] at h
        exact m_sub [1, 2, 3, 4] rfl h
      · rw [if_neg c1] at h
        exact m_sub [1, 2, 3, 4, 0] rfl h
set_option maxHeartbeats 4000000 in
set_option maxRecDepth 100000 in
theorem h6_giveTo_84 {d : Nat} {Th : mT} {Q : mM → Prop} {a0 : Nat} {x2 : Int32} {x3 : Int32} {x4 : Int32} {x5 : Int32} {M : mM} (h : Th.2.2 a0 = some (.inl 6) ∧ (P6_keepRow d Th a0 x2 (m_ui M a0 6 x5) (fun M2 : mM => H6_giveTo_95 (d + 1) Th Q a0 x2 x3 x4 M2))) : H6_giveTo_84 (d + 1) Th Q a0 x2 x3 x4 x5 M := by
  show m_W (d + 1) 0 0 yX6_giveTo cX6_giveTo 6 none (m_qv Th Q) 84 [(0, .ref a0), (2, .int x2), (3, .int x3), (4, .int x4), (5, .int x5)] [] Th M 0 0
  refine m_aload_n dX6_giveTo_84 rfl 0 rfl ?_
  refine m_iload dX6_giveTo_85 4 rfl ?_
  obtain ⟨q1, h⟩ := h
  refine m_puti f_X6_53 rfl (Or.inl rfl) dX6_giveTo_87 q1 ⟨rfl, rfl⟩ ?_
  refine m_aload_n dX6_giveTo_90 rfl 0 rfl ?_
  refine m_iload_n dX6_giveTo_91 rfl 1 rfl ?_
  refine m_invV (ci := 6) (As := [.int x2]) (d' := d) (mc' := 0) (ms' := 0) (rest := []) i_6_keepRow v_6_keepRow t_6_keepRow l_X6_59 ⟨_, _, rfl⟩ dX6_giveTo_92 rfl rfl q1 (Nat.le_of_ble_eq_true rfl) (Nat.le_refl _) ⟨Nat.le_refl _, Nat.le_refl _⟩ (m_Cv h (fun M2 h => ?_))
  show m_W (d + 1) 0 0 yX6_giveTo cX6_giveTo 6 none (m_qv Th Q) 95 [(0, .ref a0), (2, .int x2), (3, .int x3), (4, .int x4), (5, .int x5)] [] Th M2 0 0
  exact m_sub [0, 1, 2, 3] rfl h
set_option maxHeartbeats 4000000 in
set_option maxRecDepth 100000 in
theorem h6_giveTo_95 {d : Nat} {Th : mT} {Q : mM → Prop} {a0 : Nat} {x2 : Int32} {x3 : Int32} {x4 : Int32} {M : mM} (h : Th.2.2 a0 = some (.inl 6) ∧ (P6_nextRow d Th a0 x2 M (fun M1 : mM => H6_giveTo_54 (d + 1) Th Q a0 x2 x3 (x4 + 1) M1))) : H6_giveTo_95 (d + 1) Th Q a0 x2 x3 x4 M := by
  show m_W (d + 1) 0 0 yX6_giveTo cX6_giveTo 6 none (m_qv Th Q) 95 [(0, .ref a0), (2, .int x2), (3, .int x3), (4, .int x4)] [] Th M 0 0
  refine m_aload_n dX6_giveTo_95 rfl 0 rfl ?_
  refine m_iload_n dX6_giveTo_96 rfl 1 rfl ?_
  obtain ⟨q3, h⟩ := h
  refine m_invV (ci := 6) (As := [.int x2]) (d' := d) (mc' := 0) (ms' := 0) (rest := []) i_6_nextRow v_6_nextRow t_6_nextRow l_X6_63 ⟨_, _, rfl⟩ dX6_giveTo_97 rfl rfl q3 (Nat.le_of_ble_eq_true rfl) (Nat.le_refl _) ⟨Nat.le_refl _, Nat.le_refl _⟩ (m_Cv h (fun M1 h => ?_))
  show m_W (d + 1) 0 0 yX6_giveTo cX6_giveTo 6 none (m_qv Th Q) 100 [(0, .ref a0), (2, .int x2), (3, .int x3), (4, .int x4)] [] Th M1 0 0
  refine m_iinc (v := x4 + 1) (lv' := [(4, .int (x4 + 1)), (0, .ref a0), (2, .int x2), (3, .int x3)]) dX6_giveTo_100 3 rfl rfl (by decide) rfl ?_
  refine m_goto (tgt := 54) dX6_giveTo_103 (by decide) ?_
  exact m_sub [1, 2, 3, 0] rfl h
set_option maxHeartbeats 4000000 in
set_option maxRecDepth 100000 in
theorem e6_giveTo {d : Nat} {Th : mT} {Q : mM → Prop} {a0 : Nat} {x1 : Int32} {M : mM} (h : Th.2.2 a0 = some (.inl 6) ∧ (P6_meetAll d Th a0 M (fun M1 : mM => ∀ xv4 : Int32, xv4 = (if 0 < (if x1 < 5 then x1 else 5) then (if x1 < 5 then x1 else 5) else 0) → H6_giveTo_19 (d + 1) Th Q a0 xv4 1 0 M1))) : P6_giveTo (d + 1) Th a0 x1 M Q := by
  refine m_C.of (by decide +kernel) (Nat.le_of_ble_eq_true rfl) ?_
  show m_W (d + 1) 0 0 yX6_giveTo cX6_giveTo 6 none (m_qv Th Q) 0 [(0, .ref a0), (1, .int x1)] [] Th M 0 0
  refine m_aload_n dX6_giveTo_0 rfl 0 rfl ?_
  obtain ⟨q3, h⟩ := h
  refine m_invV (ci := 6) (As := []) (d' := d) (mc' := 0) (ms' := 0) (rest := []) i_6_meetAll v_6_meetAll t_6_meetAll l_X6_50 ⟨_, _, rfl⟩ dX6_giveTo_1 rfl rfl q3 (Nat.le_of_ble_eq_true rfl) (Nat.le_refl _) ⟨Nat.le_refl _, Nat.le_refl _⟩ (m_Cv h (fun M1 h => ?_))
  show m_W (d + 1) 0 0 yX6_giveTo cX6_giveTo 6 none (m_qv Th Q) 4 [(0, .ref a0), (1, .int x1)] [] Th M1 0 0
  refine m_iconst (v := 0) dX6_giveTo_4 (by decide) ?_
  refine m_iconst (v := 5) dX6_giveTo_5 (by decide) ?_
  refine m_iload_n dX6_giveTo_6 rfl 1 rfl ?_
  refine m_min l_X6_28 dX6_giveTo_7 (Nat.le_of_ble_eq_true rfl) (Nat.le_add_left _ _) (Nat.le_refl _) (Nat.le_refl _) ?_
  refine m_max l_X6_34 dX6_giveTo_10 (Nat.le_of_ble_eq_true rfl) (Nat.le_add_left _ _) (Nat.le_refl _) (Nat.le_refl _) ?_
  obtain ⟨xv4, e_xv4⟩ : ∃ xv4 : Int32, xv4 = (if 0 < (if x1 < 5 then x1 else 5) then (if x1 < 5 then x1 else 5) else 0) := ⟨_, rfl⟩
  have h := h xv4 e_xv4
  rw [← e_xv4]
  refine m_istore_n (lv' := [(2, .int xv4), (0, .ref a0), (1, .int x1)]) dX6_giveTo_13 rfl (by decide) rfl ?_
  refine m_iconst (v := 1) dX6_giveTo_14 (by decide) ?_
  refine m_istore_n (lv' := [(3, .int 1), (2, .int xv4), (0, .ref a0), (1, .int x1)]) dX6_giveTo_15 rfl (by decide) rfl ?_
  refine m_iconst (v := 0) dX6_giveTo_16 (by decide) ?_
  refine m_istore (lv' := [(4, .int 0), (3, .int 1), (2, .int xv4), (0, .ref a0), (1, .int x1)]) dX6_giveTo_17 (by decide) rfl ?_
  exact m_sub [3, 2, 1, 0] rfl h
set_option maxHeartbeats 4000000 in
set_option maxRecDepth 100000 in
theorem h6_keepRow_2 {d : Nat} {Th : mT} {Q : mM → Prop} {a0 : Nat} {x1 : Int32} {x2 : Int32} {M : mM} (h : if x1 ≤ x2 then (Q M) else (Th.2.2 a0 = some (.inl 6) ∧ (∃ r2 : Nat, M.2.2 a0 3 = some r2 ∧ (∃ r4 : Nat, M.2.2 a0 2 = some r4 ∧ (m_ok Th r4 .int x2 ∧ (m_okw Th r2 .int x2 ∧ (H6_keepRow_2 (d + 1) Th Q a0 x1 (x2 + 1) (m_ui M r2 (Int32.toNatClampNeg x2) (((M).1 r4 (Int32.toNatClampNeg x2))))))))))) : H6_keepRow_2 (d + 1) Th Q a0 x1 x2 M := by
  show m_W (d + 1) 0 0 yX6_keepRow cX6_keepRow 3 none (m_qv Th Q) 2 [(0, .ref a0), (1, .int x1), (2, .int x2)] [] Th M 0 0
  refine m_iload_n dX6_keepRow_2 rfl 2 rfl ?_
  refine m_iload_n dX6_keepRow_3 rfl 1 rfl ?_
  refine m_icmp_ge (tgt := 25) dX6_keepRow_4 (by decide) (fun c1 => ?_) (fun c1 => ?_)
  · rw [if_pos c1] at h
    exact m_return dX6_keepRow_25 rfl ⟨rfl, rfl, h⟩
  · rw [if_neg c1] at h
    refine m_aload_n dX6_keepRow_7 rfl 0 rfl ?_
    obtain ⟨q1, h⟩ := h
    obtain ⟨r2, q3, h⟩ := h
    refine m_getr f_X6_21 rfl dX6_keepRow_8 q1 q3 ?_
    refine m_iload_n dX6_keepRow_11 rfl 2 rfl ?_
    refine m_aload_n dX6_keepRow_12 rfl 0 rfl ?_
    obtain ⟨r4, q5, h⟩ := h
    refine m_getr f_X6_18 rfl dX6_keepRow_13 q1 q5 ?_
    refine m_iload_n dX6_keepRow_16 rfl 2 rfl ?_
    obtain ⟨q6, h⟩ := h
    refine m_iald dX6_keepRow_17 q6 ?_
    obtain ⟨q7, h⟩ := h
    refine m_iast dX6_keepRow_18 q7 ?_
    refine m_iinc (v := x2 + 1) (lv' := [(2, .int (x2 + 1)), (0, .ref a0), (1, .int x1)]) dX6_keepRow_19 2 rfl rfl (by decide) rfl ?_
    refine m_goto (tgt := 2) dX6_keepRow_22 (by decide) ?_
    exact m_sub [1, 2, 0] rfl h
set_option maxHeartbeats 4000000 in
set_option maxRecDepth 100000 in
theorem e6_keepRow {d : Nat} {Th : mT} {Q : mM → Prop} {a0 : Nat} {x1 : Int32} {M : mM} (h : H6_keepRow_2 (d + 1) Th Q a0 x1 0 M) : P6_keepRow (d + 1) Th a0 x1 M Q := by
  refine m_C.of (by decide +kernel) (Nat.le_of_ble_eq_true rfl) ?_
  show m_W (d + 1) 0 0 yX6_keepRow cX6_keepRow 3 none (m_qv Th Q) 0 [(0, .ref a0), (1, .int x1)] [] Th M 0 0
  refine m_iconst (v := 0) dX6_keepRow_0 (by decide) ?_
  refine m_istore_n (lv' := [(2, .int 0), (0, .ref a0), (1, .int x1)]) dX6_keepRow_1 rfl (by decide) rfl ?_
  exact m_sub [1, 2, 0] rfl h
set_option maxHeartbeats 4000000 in
set_option maxRecDepth 100000 in
theorem h6_nextRow_4 {d : Nat} {Th : mT} {Q : mM → Prop} {a0 : Nat} {x2 : Int32} {M : mM} (h : if x2 < 0 then (Q M) else (Th.2.2 a0 = some (.inl 6) ∧ (∃ r2 : Nat, M.2.2 a0 2 = some r2 ∧ (m_ok Th r2 .int x2 ∧ (m_okw Th r2 .int x2 ∧ (∀ M6 : mM, M6 = m_ui M r2 (Int32.toNatClampNeg x2) ((((M).1 r2 (Int32.toNatClampNeg x2)) + 1)) → if ((M6).1 a0 5) ≤ ((M6).1 r2 (Int32.toNatClampNeg x2)) then (H6_nextRow_4 (d + 1) Th Q a0 (x2 + (-1)) (m_ui M6 r2 (Int32.toNatClampNeg x2) 0)) else (Q M6))))))) : H6_nextRow_4 (d + 1) Th Q a0 x2 M := by
  show m_W (d + 1) 0 0 yX6_nextRow cX6_nextRow 3 none (m_qv Th Q) 4 [(0, .ref a0), (2, .int x2)] [] Th M 0 0
  refine m_iload_n dX6_nextRow_4 rfl 1 rfl ?_
  refine m_if_lt (tgt := 45) dX6_nextRow_5 (by decide) (fun c1 => ?_) (fun c1 => ?_)
  · rw [if_pos c1] at h
    exact m_return dX6_nextRow_45 rfl ⟨rfl, rfl, h⟩
  · rw [if_neg c1] at h
    refine m_aload_n dX6_nextRow_8 rfl 0 rfl ?_
    obtain ⟨q1, h⟩ := h
    obtain ⟨r2, q3, h⟩ := h
    refine m_getr f_X6_18 rfl dX6_nextRow_9 q1 q3 ?_
    refine m_iload_n dX6_nextRow_12 rfl 1 rfl ?_
    refine m_dup2_11 dX6_nextRow_13 rfl rfl ?_
    obtain ⟨q4, h⟩ := h
    refine m_iald dX6_nextRow_14 q4 ?_
    refine m_iconst (v := 1) dX6_nextRow_15 (by decide) ?_
    refine m_iadd dX6_nextRow_16 ?_
    obtain ⟨q5, h⟩ := h
    refine m_iast dX6_nextRow_17 q5 ?_
    refine m_aload_n dX6_nextRow_18 rfl 0 rfl ?_
    refine m_getr f_X6_18 rfl dX6_nextRow_19 q1 q3 ?_
    refine m_iload_n dX6_nextRow_22 rfl 1 rfl ?_
    obtain ⟨M6, e_M6⟩ : ∃ M6 : mM, M6 = m_ui M r2 (Int32.toNatClampNeg x2) ((((M).1 r2 (Int32.toNatClampNeg x2)) + 1)) := ⟨_, rfl⟩
    have h := h M6 e_M6
    rw [← e_M6]
    refine m_iald dX6_nextRow_23 q4 ?_
    refine m_aload_n dX6_nextRow_24 rfl 0 rfl ?_
    refine m_geti f_X6_24 rfl dX6_nextRow_25 q1 ?_
    refine m_icmp_ge (tgt := 32) dX6_nextRow_28 (by decide) (fun c1 => ?_) (fun c1 => ?_)
    · rw [if_pos c1] at h
      refine m_aload_n dX6_nextRow_32 rfl 0 rfl ?_
      refine m_getr f_X6_18 rfl dX6_nextRow_33 q1 (by rw [e_M6]; exact q3) ?_
      refine m_iload_n dX6_nextRow_36 rfl 1 rfl ?_
      refine m_iconst (v := 0) dX6_nextRow_37 (by decide) ?_
      refine m_iast dX6_nextRow_38 q5 ?_
      refine m_iinc (v := x2 + (-1)) (lv' := [(2, .int (x2 + (-1))), (0, .ref a0)]) dX6_nextRow_39 1 rfl rfl (by decide) rfl ?_
      refine m_goto (tgt := 4) dX6_nextRow_42 (by decide) ?_
      exact m_sub [1, 0] rfl h
    · rw [if_neg c1] at h
      exact m_return dX6_nextRow_31 rfl ⟨rfl, rfl, h⟩
set_option maxHeartbeats 4000000 in
set_option maxRecDepth 100000 in
theorem e6_nextRow {d : Nat} {Th : mT} {Q : mM → Prop} {a0 : Nat} {x1 : Int32} {M : mM} (h : ∀ xv1 : Int32, xv1 = (x1 - 1) → H6_nextRow_4 (d + 1) Th Q a0 xv1 M) : P6_nextRow (d + 1) Th a0 x1 M Q := by
  refine m_C.of (by decide +kernel) (Nat.le_of_ble_eq_true rfl) ?_
  show m_W (d + 1) 0 0 yX6_nextRow cX6_nextRow 3 none (m_qv Th Q) 0 [(0, .ref a0), (1, .int x1)] [] Th M 0 0
  refine m_iload_n dX6_nextRow_0 rfl 1 rfl ?_
  refine m_iconst (v := 1) dX6_nextRow_1 (by decide) ?_
  refine m_isub dX6_nextRow_2 ?_
  obtain ⟨xv1, e_xv1⟩ : ∃ xv1 : Int32, xv1 = (x1 - 1) := ⟨_, rfl⟩
  have h := h xv1 e_xv1
  rw [← e_xv1]
  refine m_istore_n (lv' := [(2, .int xv1), (0, .ref a0), (1, .int x1)]) dX6_nextRow_3 rfl (by decide) rfl ?_
  exact m_sub [1, 0] rfl h
set_option maxHeartbeats 4000000 in
set_option maxRecDepth 100000 in
theorem h6_meetingsOfRow_4 {d : Nat} {Th : mT} {Q : Int32 → mM → Prop} {a0 : Nat} {x1 : Int32} {x2 : Int32} {x3 : Int32} {M : mM} (h : if x1 ≤ x3 then (Q x2 M) else (∀ xv1 : Int32, xv1 = (x3 + 1) → H6_meetingsOfRow_14 (d + 1) Th Q a0 x1 x2 x3 xv1 M)) : H6_meetingsOfRow_4 (d + 1) Th Q a0 x1 x2 x3 M := by
  show m_W (d + 1) 0 0 yX6_meetingsOfRow cX6_meetingsOfRow 5 (some .int) (m_qi Th Q) 4 [(0, .ref a0), (1, .int x1), (2, .int x2), (3, .int x3)] [] Th M 0 0
  refine m_iload_n dX6_meetingsOfRow_4 rfl 3 rfl ?_
  refine m_iload_n dX6_meetingsOfRow_5 rfl 1 rfl ?_
  refine m_icmp_ge (tgt := 56) dX6_meetingsOfRow_6 (by decide) (fun c1 => ?_) (fun c1 => ?_)
  · rw [if_pos c1] at h
    refine m_iload_n dX6_meetingsOfRow_56 rfl 2 rfl ?_
    exact m_ireturn dX6_meetingsOfRow_57 rfl rfl ⟨rfl, _, rfl, h⟩
  · rw [if_neg c1] at h
    refine m_iload_n dX6_meetingsOfRow_9 rfl 3 rfl ?_
    refine m_iconst (v := 1) dX6_meetingsOfRow_10 (by decide) ?_
    refine m_iadd dX6_meetingsOfRow_11 ?_
    obtain ⟨xv1, e_xv1⟩ : ∃ xv1 : Int32, xv1 = (x3 + 1) := ⟨_, rfl⟩
    have h := h xv1 e_xv1
    rw [← e_xv1]
    refine m_istore (lv' := [(4, .int xv1), (0, .ref a0), (1, .int x1), (2, .int x2), (3, .int x3)]) dX6_meetingsOfRow_12 (by decide) rfl ?_
    exact m_sub [1, 2, 3, 4, 0] rfl h
set_option maxHeartbeats 4000000 in
set_option maxRecDepth 100000 in
theorem h6_meetingsOfRow_14 {d : Nat} {Th : mT} {Q : Int32 → mM → Prop} {a0 : Nat} {x1 : Int32} {x2 : Int32} {x3 : Int32} {x4 : Int32} {M : mM} (h : if x1 ≤ x4 then (H6_meetingsOfRow_4 (d + 1) Th Q a0 x1 x2 (x3 + 1) M) else (Th.2.2 a0 = some (.inl 6) ∧ (∃ r2 : Nat, M.2.2 a0 1 = some r2 ∧ (∃ r4 : Nat, M.2.2 a0 2 = some r4 ∧ (m_ok Th r4 .int x3 ∧ (m_ok Th r4 .int x4 ∧ (m_ok Th r2 .int (((((M).1 r4 (Int32.toNatClampNeg x3)) * 5) + ((M).1 r4 (Int32.toNatClampNeg x4)))) ∧ (∀ xv9 : Int32, xv9 = (x2 + ((M).1 r2 (Int32.toNatClampNeg (((((M).1 r4 (Int32.toNatClampNeg x3)) * 5) + ((M).1 r4 (Int32.toNatClampNeg x4))))))) → H6_meetingsOfRow_14 (d + 1) Th Q a0 x1 xv9 x3 (x4 + 1) M)))))))) : H6_meetingsOfRow_14 (d + 1) Th Q a0 x1 x2 x3 x4 M := by
  show m_W (d + 1) 0 0 yX6_meetingsOfRow cX6_meetingsOfRow 5 (some .int) (m_qi Th Q) 14 [(0, .ref a0), (1, .int x1), (2, .int x2), (3, .int x3), (4, .int x4)] [] Th M 0 0
  refine m_iload dX6_meetingsOfRow_14 4 rfl ?_
  refine m_iload_n dX6_meetingsOfRow_16 rfl 1 rfl ?_
  refine m_icmp_ge (tgt := 50) dX6_meetingsOfRow_17 (by decide) (fun c1 => ?_) (fun c1 => ?_)
  · rw [if_pos c1] at h
    refine m_iinc (v := x3 + 1) (lv' := [(3, .int (x3 + 1)), (0, .ref a0), (1, .int x1), (2, .int x2), (4, .int x4)]) dX6_meetingsOfRow_50 3 rfl rfl (by decide) rfl ?_
    refine m_goto (tgt := 4) dX6_meetingsOfRow_53 (by decide) ?_
    exact m_sub [1, 2, 3, 0] rfl h
  · rw [if_neg c1] at h
    refine m_iload_n dX6_meetingsOfRow_20 rfl 2 rfl ?_
    refine m_aload_n dX6_meetingsOfRow_21 rfl 0 rfl ?_
    obtain ⟨q1, h⟩ := h
    obtain ⟨r2, q3, h⟩ := h
    refine m_getr f_X6_15 rfl dX6_meetingsOfRow_22 q1 q3 ?_
    refine m_aload_n dX6_meetingsOfRow_25 rfl 0 rfl ?_
    obtain ⟨r4, q5, h⟩ := h
    refine m_getr f_X6_18 rfl dX6_meetingsOfRow_26 q1 q5 ?_
    refine m_iload_n dX6_meetingsOfRow_29 rfl 3 rfl ?_
    obtain ⟨q6, h⟩ := h
    refine m_iald dX6_meetingsOfRow_30 q6 ?_
    refine m_iconst (v := 5) dX6_meetingsOfRow_31 (by decide) ?_
    refine m_imul dX6_meetingsOfRow_32 ?_
    refine m_aload_n dX6_meetingsOfRow_33 rfl 0 rfl ?_
    refine m_getr f_X6_18 rfl dX6_meetingsOfRow_34 q1 q5 ?_
    refine m_iload dX6_meetingsOfRow_37 4 rfl ?_
    obtain ⟨q7, h⟩ := h
    refine m_iald dX6_meetingsOfRow_39 q7 ?_
    refine m_iadd dX6_meetingsOfRow_40 ?_
    obtain ⟨q8, h⟩ := h
    refine m_iald dX6_meetingsOfRow_41 q8 ?_
    refine m_iadd dX6_meetingsOfRow_42 ?_
    obtain ⟨xv9, e_xv9⟩ : ∃ xv9 : Int32, xv9 = (x2 + ((M).1 r2 (Int32.toNatClampNeg (((((M).1 r4 (Int32.toNatClampNeg x3)) * 5) + ((M).1 r4 (Int32.toNatClampNeg x4))))))) := ⟨_, rfl⟩
    have h := h xv9 e_xv9
    rw [← e_xv9]
    refine m_istore_n (lv' := [(2, .int xv9), (0, .ref a0), (1, .int x1), (3, .int x3), (4, .int x4)]) dX6_meetingsOfRow_43 rfl (by decide) rfl ?_
    refine m_iinc (v := x4 + 1) (lv' := [(4, .int (x4 + 1)), (2, .int xv9), (0, .ref a0), (1, .int x1), (3, .int x3)]) dX6_meetingsOfRow_44 4 rfl rfl (by decide) rfl ?_
    refine m_goto (tgt := 14) dX6_meetingsOfRow_47 (by decide) ?_
    exact m_sub [2, 3, 1, 4, 0] rfl h
set_option maxHeartbeats 4000000 in
set_option maxRecDepth 100000 in
theorem e6_meetingsOfRow {d : Nat} {Th : mT} {Q : Int32 → mM → Prop} {a0 : Nat} {x1 : Int32} {M : mM} (h : H6_meetingsOfRow_4 (d + 1) Th Q a0 x1 0 0 M) : P6_meetingsOfRow (d + 1) Th a0 x1 M Q := by
  refine m_C.of (by decide +kernel) (Nat.le_of_ble_eq_true rfl) ?_
  show m_W (d + 1) 0 0 yX6_meetingsOfRow cX6_meetingsOfRow 5 (some .int) (m_qi Th Q) 0 [(0, .ref a0), (1, .int x1)] [] Th M 0 0
  refine m_iconst (v := 0) dX6_meetingsOfRow_0 (by decide) ?_
  refine m_istore_n (lv' := [(2, .int 0), (0, .ref a0), (1, .int x1)]) dX6_meetingsOfRow_1 rfl (by decide) rfl ?_
  refine m_iconst (v := 0) dX6_meetingsOfRow_2 (by decide) ?_
  refine m_istore_n (lv' := [(3, .int 0), (2, .int 0), (0, .ref a0), (1, .int x1)]) dX6_meetingsOfRow_3 rfl (by decide) rfl ?_
  exact m_sub [2, 3, 1, 0] rfl h
set_option maxHeartbeats 4000000 in
set_option maxRecDepth 100000 in
theorem h6_meetAll_2 {d : Nat} {Th : mT} {Q : mM → Prop} {a0 : Nat} {x1 : Int32} {M : mM} (h : Th.2.2 a0 = some (.inl 6) ∧ (if ((M).1 a0 5) ≤ x1 then (Q M) else (if 5 ≤ x1 then (Q M) else (H6_meetAll_17 (d + 1) Th Q a0 x1 0 M)))) : H6_meetAll_2 (d + 1) Th Q a0 x1 M := by
  show m_W (d + 1) 0 0 yX6_meetAll cX6_meetAll 5 none (m_qv Th Q) 2 [(0, .ref a0), (1, .int x1)] [] Th M 0 0
  refine m_iload_n dX6_meetAll_2 rfl 1 rfl ?_
  refine m_aload_n dX6_meetAll_3 rfl 0 rfl ?_
  obtain ⟨q1, h⟩ := h
  refine m_geti f_X6_24 rfl dX6_meetAll_4 q1 ?_
  refine m_icmp_ge (tgt := 106) dX6_meetAll_7 (by decide) (fun c1 => ?_) (fun c1 => ?_)
  · rw [if_pos c1] at h
    exact m_return dX6_meetAll_106 rfl ⟨rfl, rfl, h⟩
  · rw [if_neg c1] at h
    refine m_iload_n dX6_meetAll_10 rfl 1 rfl ?_
    refine m_iconst (v := 5) dX6_meetAll_11 (by decide) ?_
    refine m_icmp_ge (tgt := 106) dX6_meetAll_12 (by decide) (fun c1 => ?_) (fun c1 => ?_)
    · rw [if_pos c1] at h
      exact m_return dX6_meetAll_106 rfl ⟨rfl, rfl, h⟩
    · rw [if_neg c1] at h
      refine m_iconst (v := 0) dX6_meetAll_15 (by decide) ?_
      refine m_istore_n (lv' := [(2, .int 0), (0, .ref a0), (1, .int x1)]) dX6_meetAll_16 rfl (by decide) rfl ?_
      exact m_sub [1, 2, 0] rfl h
set_option maxHeartbeats 4000000 in
set_option maxRecDepth 100000 in
theorem h6_meetAll_17 {d : Nat} {Th : mT} {Q : mM → Prop} {a0 : Nat} {x1 : Int32} {x2 : Int32} {M : mM} (h : Th.2.2 a0 = some (.inl 6) ∧ (if ((M).1 a0 5) ≤ x2 then (H6_meetAll_2 (d + 1) Th Q a0 (x1 + 1) M) else (if 5 ≤ x2 then (H6_meetAll_2 (d + 1) Th Q a0 (x1 + 1) M) else (H6_meetAll_35 (d + 1) Th Q a0 x1 x2 0 1 M)))) : H6_meetAll_17 (d + 1) Th Q a0 x1 x2 M := by
  show m_W (d + 1) 0 0 yX6_meetAll cX6_meetAll 5 none (m_qv Th Q) 17 [(0, .ref a0), (1, .int x1), (2, .int x2)] [] Th M 0 0
  refine m_iload_n dX6_meetAll_17 rfl 2 rfl ?_
  refine m_aload_n dX6_meetAll_18 rfl 0 rfl ?_
  obtain ⟨q1, h⟩ := h
  refine m_geti f_X6_24 rfl dX6_meetAll_19 q1 ?_
  refine m_icmp_ge (tgt := 100) dX6_meetAll_22 (by decide) (fun c1 => ?_) (fun c1 => ?_)
  · rw [if_pos c1] at h
    refine m_iinc (v := x1 + 1) (lv' := [(1, .int (x1 + 1)), (0, .ref a0), (2, .int x2)]) dX6_meetAll_100 1 rfl rfl (by decide) rfl ?_
    refine m_goto (tgt := 2) dX6_meetAll_103 (by decide) ?_
    exact m_sub [1, 0] rfl h
  · rw [if_neg c1] at h
    refine m_iload_n dX6_meetAll_25 rfl 2 rfl ?_
    refine m_iconst (v := 5) dX6_meetAll_26 (by decide) ?_
    refine m_icmp_ge (tgt := 100) dX6_meetAll_27 (by decide) (fun c1 => ?_) (fun c1 => ?_)
    · rw [if_pos c1] at h
      refine m_iinc (v := x1 + 1) (lv' := [(1, .int (x1 + 1)), (0, .ref a0), (2, .int x2)]) dX6_meetAll_100 1 rfl rfl (by decide) rfl ?_
      refine m_goto (tgt := 2) dX6_meetAll_103 (by decide) ?_
      exact m_sub [1, 0] rfl h
    · rw [if_neg c1] at h
      refine m_iconst (v := 0) dX6_meetAll_30 (by decide) ?_
      refine m_istore_n (lv' := [(3, .int 0), (0, .ref a0), (1, .int x1), (2, .int x2)]) dX6_meetAll_31 rfl (by decide) rfl ?_
      refine m_iconst (v := 1) dX6_meetAll_32 (by decide) ?_
      refine m_istore (lv' := [(4, .int 1), (3, .int 0), (0, .ref a0), (1, .int x1), (2, .int x2)]) dX6_meetAll_33 (by decide) rfl ?_
      exact m_sub [2, 3, 4, 1, 0] rfl h
set_option maxHeartbeats 4000000 in
set_option maxRecDepth 100000 in
theorem h6_meetAll_35 {d : Nat} {Th : mT} {Q : mM → Prop} {a0 : Nat} {x1 : Int32} {x2 : Int32} {x3 : Int32} {x4 : Int32} {M : mM} (h : Th.2.2 a0 = some (.inl 6) ∧ (if ((M).1 a0 4) ≤ x4 then (∃ r2 : Nat, M.2.2 a0 1 = some r2 ∧ (m_okw Th r2 .int (((x1 * 5) + x2)) ∧ (H6_meetAll_17 (d + 1) Th Q a0 x1 (x2 + 1) (m_ui M r2 (Int32.toNatClampNeg (((x1 * 5) + x2))) x3)))) else (∃ r5 : Nat, M.2.2 a0 0 = some r5 ∧ (m_ok Th r5 .int (((x1 * 5) + x4)) ∧ (m_ok Th r5 .int (((x2 * 5) + x4)) ∧ (∀ xv9 : Int32, xv9 = (x3 + (if ((M).1 r5 (Int32.toNatClampNeg (((x1 * 5) + x4)))) = ((M).1 r5 (Int32.toNatClampNeg (((x2 * 5) + x4)))) then 1 else 0)) → H6_meetAll_35 (d + 1) Th Q a0 x1 x2 xv9 (x4 + 1) M)))))) : H6_meetAll_35 (d + 1) Th Q a0 x1 x2 x3 x4 M := by
  show m_W (d + 1) 0 0 yX6_meetAll cX6_meetAll 5 none (m_qv Th Q) 35 [(0, .ref a0), (1, .int x1), (2, .int x2), (3, .int x3), (4, .int x4)] [] Th M 0 0
  refine m_iload dX6_meetAll_35 4 rfl ?_
  refine m_aload_n dX6_meetAll_37 rfl 0 rfl ?_
  obtain ⟨q1, h⟩ := h
  refine m_geti f_X6_37 rfl dX6_meetAll_38 q1 ?_
  refine m_icmp_ge (tgt := 83) dX6_meetAll_41 (by decide) (fun c1 => ?_) (fun c1 => ?_)
  · rw [if_pos c1] at h
    refine m_aload_n dX6_meetAll_83 rfl 0 rfl ?_
    obtain ⟨r2, q3, h⟩ := h
    refine m_getr f_X6_15 rfl dX6_meetAll_84 q1 q3 ?_
    refine m_iload_n dX6_meetAll_87 rfl 1 rfl ?_
    refine m_iconst (v := 5) dX6_meetAll_88 (by decide) ?_
    refine m_imul dX6_meetAll_89 ?_
    refine m_iload_n dX6_meetAll_90 rfl 2 rfl ?_
    refine m_iadd dX6_meetAll_91 ?_
    refine m_iload_n dX6_meetAll_92 rfl 3 rfl ?_
    obtain ⟨q4, h⟩ := h
    refine m_iast dX6_meetAll_93 q4 ?_
    refine m_iinc (v := x2 + 1) (lv' := [(2, .int (x2 + 1)), (0, .ref a0), (1, .int x1), (3, .int x3), (4, .int x4)]) dX6_meetAll_94 2 rfl rfl (by decide) rfl ?_
    refine m_goto (tgt := 17) dX6_meetAll_97 (by decide) ?_
    exact m_sub [1, 2, 0] rfl h
  · rw [if_neg c1] at h
    refine m_iload_n dX6_meetAll_44 rfl 3 rfl ?_
    refine m_aload_n dX6_meetAll_45 rfl 0 rfl ?_
    obtain ⟨r5, q6, h⟩ := h
    refine m_getr f_X6_9 rfl dX6_meetAll_46 q1 q6 ?_
    refine m_iload_n dX6_meetAll_49 rfl 1 rfl ?_
    refine m_iconst (v := 5) dX6_meetAll_50 (by decide) ?_
    refine m_imul dX6_meetAll_51 ?_
    refine m_iload dX6_meetAll_52 4 rfl ?_
    refine m_iadd dX6_meetAll_54 ?_
    obtain ⟨q7, h⟩ := h
    refine m_iald dX6_meetAll_55 q7 ?_
    refine m_aload_n dX6_meetAll_56 rfl 0 rfl ?_
    refine m_getr f_X6_9 rfl dX6_meetAll_57 q1 q6 ?_
    refine m_iload_n dX6_meetAll_60 rfl 2 rfl ?_
    refine m_iconst (v := 5) dX6_meetAll_61 (by decide) ?_
    refine m_imul dX6_meetAll_62 ?_
    refine m_iload dX6_meetAll_63 4 rfl ?_
    refine m_iadd dX6_meetAll_65 ?_
    obtain ⟨q8, h⟩ := h
    refine m_iald dX6_meetAll_66 q8 ?_
    have hJ : m_W (d + 1) 0 0 yX6_meetAll cX6_meetAll 5 none (m_qv Th Q) 75 [(0, .ref a0), (1, .int x1), (2, .int x2), (3, .int x3), (4, .int x4)] [.int ((if ((M).1 r5 (Int32.toNatClampNeg (((x1 * 5) + x4)))) = ((M).1 r5 (Int32.toNatClampNeg (((x2 * 5) + x4)))) then 1 else 0)), .int x3] Th M 0 0 := by
      refine m_iadd dX6_meetAll_75 ?_
      obtain ⟨xv9, e_xv9⟩ : ∃ xv9 : Int32, xv9 = (x3 + (if ((M).1 r5 (Int32.toNatClampNeg (((x1 * 5) + x4)))) = ((M).1 r5 (Int32.toNatClampNeg (((x2 * 5) + x4)))) then 1 else 0)) := ⟨_, rfl⟩
      have h := h xv9 e_xv9
      rw [← e_xv9]
      refine m_istore_n (lv' := [(3, .int xv9), (0, .ref a0), (1, .int x1), (2, .int x2), (4, .int x4)]) dX6_meetAll_76 rfl (by decide) rfl ?_
      refine m_iinc (v := x4 + 1) (lv' := [(4, .int (x4 + 1)), (3, .int xv9), (0, .ref a0), (1, .int x1), (2, .int x2)]) dX6_meetAll_77 4 rfl rfl (by decide) rfl ?_
      refine m_goto (tgt := 35) dX6_meetAll_80 (by decide) ?_
      exact m_sub [2, 3, 4, 1, 0] rfl h
    refine m_icmp_ne (tgt := 74) dX6_meetAll_67 (by decide) (fun c1 => ?_) (fun c1 => ?_)
    · simp only [if_neg c1] at hJ
      refine m_iconst (v := 0) dX6_meetAll_74 (by decide) ?_
      exact hJ
    · simp only [if_pos c1] at hJ
      refine m_iconst (v := 1) dX6_meetAll_70 (by decide) ?_
      refine m_goto (tgt := 75) dX6_meetAll_71 (by decide) ?_
      exact hJ
set_option maxHeartbeats 4000000 in
set_option maxRecDepth 100000 in
theorem e6_meetAll {d : Nat} {Th : mT} {Q : mM → Prop} {a0 : Nat} {M : mM} (h : H6_meetAll_2 (d + 1) Th Q a0 0 M) : P6_meetAll (d + 1) Th a0 M Q := by
  refine m_C.of (by decide +kernel) (Nat.le_of_ble_eq_true rfl) ?_
  show m_W (d + 1) 0 0 yX6_meetAll cX6_meetAll 5 none (m_qv Th Q) 0 [(0, .ref a0)] [] Th M 0 0
  refine m_iconst (v := 0) dX6_meetAll_0 (by decide) ?_
  refine m_istore_n (lv' := [(1, .int 0), (0, .ref a0)]) dX6_meetAll_1 rfl (by decide) rfl ?_
  exact m_sub [1, 0] rfl h
