set_option maxHeartbeats 4000000 in
set_option maxRecDepth 100000 in
theorem h1_begin_39 {d : Nat} {Th : mT} {Q : mM → Prop} {a0 : Nat} {x1 : Int32} {x2 : Int32} {x3 : Int32} {M : mM} (h : Th.2.2 a0 = some (.inl 1) ∧ (∀ M2 : mM, M2 = m_ui M a0 4 x1 → ∀ M3 : mM, M3 = m_ui M2 a0 5 x2 → ∃ r4 : Nat, M.2.2 a0 0 = some r4 ∧ (Th.2.2 r4 = some (.inl 2) ∧ (∀ M7 : mM, M7 = m_ui M3 a0 6 x3 → ∀ M8 : mM, M8 = m_ui M7 a0 7 (((M7).1 r4 4)) → P2_followsSeen d Th r4 (((M8).1 a0 5)) M8 (fun (v10 : Int32) (M9 : mM) => m_fitI .boolean v10 ∧ (∃ r12 : Nat, M9.2.2 a0 0 = some r12 ∧ (∀ M14 : mM, M14 = m_ui M9 a0 8 v10 → Th.2.2 r12 = some (.inl 2) ∧ (P2_skill d Th r12 (((M14).1 a0 4)) M14 (fun (v16 : Nat) (M15 : mM) => ∃ r18 : Nat, (m_ur M15 a0 1 (some v16)).2.2 a0 0 = some r18 ∧ (∀ M20 : mM, M20 = m_ur M15 a0 1 (some v16) → Th.2.2 r18 = some (.inl 2) ∧ (P2_skill d Th r18 (((M20).1 a0 5)) M20 (fun (v22 : Nat) (M21 : mM) => ∃ r24 : Nat, (m_ur M21 a0 2 (some v22)).2.2 a0 0 = some r24 ∧ (Th.2.2 r24 = some (.inl 2) ∧ (∀ M27 : mM, M27 = m_ur M21 a0 2 (some v22) → ∃ r28 : Nat, M27.2.2 a0 0 = some r28 ∧ (Th.2.2 r28 = some (.inl 2) ∧ (∀ xv31 : Int32, xv31 = ((((10 * ((M27).1 r24 0)) * 21) * ((M27).1 r28 0)) * 18) → H1_begin_139 (d + 1) Th Q a0 xv31 0 M27)))))))))))))))) : H1_begin_39 (d + 1) Th Q a0 x1 x2 x3 M := by
  show m_W (d + 1) 0 0 yX1_begin cX1_begin 6 none (m_qv Th Q) 39 [(0, .ref a0), (1, .int x1), (2, .int x2), (3, .int x3)] [] Th M 0 0
  refine m_aload_n dX1_begin_39 rfl 0 rfl ?_
  refine m_iload_n dX1_begin_40 rfl 1 rfl ?_
  obtain ⟨q1, h⟩ := h
  refine m_puti f_X1_16 rfl (Or.inl rfl) dX1_begin_41 q1 ⟨rfl, rfl⟩ ?_
  refine m_aload_n dX1_begin_44 rfl 0 rfl ?_
  refine m_iload_n dX1_begin_45 rfl 2 rfl ?_
  obtain ⟨M2, e_M2⟩ : ∃ M2 : mM, M2 = m_ui M a0 4 x1 := ⟨_, rfl⟩
  have h := h M2 e_M2
  rw [← e_M2]
  refine m_puti f_X1_20 rfl (Or.inl rfl) dX1_begin_46 q1 ⟨rfl, rfl⟩ ?_
  refine m_aload_n dX1_begin_49 rfl 0 rfl ?_
  refine m_iload_n dX1_begin_50 rfl 3 rfl ?_
  obtain ⟨M3, e_M3⟩ : ∃ M3 : mM, M3 = m_ui M2 a0 5 x2 := ⟨_, rfl⟩
  have h := h M3 e_M3
  rw [← e_M3]
  refine m_puti f_X1_37 rfl (Or.inl rfl) dX1_begin_51 q1 ⟨rfl, rfl⟩ ?_
  refine m_aload_n dX1_begin_54 rfl 0 rfl ?_
  refine m_aload_n dX1_begin_55 rfl 0 rfl ?_
  obtain ⟨r4, q5, h⟩ := h
  refine m_getr f_X1_23 rfl dX1_begin_56 q1 (by rw [e_M3, e_M2]; exact q5) ?_
  obtain ⟨q6, h⟩ := h
  obtain ⟨M7, e_M7⟩ : ∃ M7 : mM, M7 = m_ui M3 a0 6 x3 := ⟨_, rfl⟩
  have h := h M7 e_M7
  rw [← e_M7]
  refine m_geti f_X1_43 rfl dX1_begin_59 q6 ?_
  refine m_puti f_X1_40 rfl (Or.inl rfl) dX1_begin_62 q1 ⟨rfl, rfl⟩ ?_
  refine m_aload_n dX1_begin_65 rfl 0 rfl ?_
  refine m_aload_n dX1_begin_66 rfl 0 rfl ?_
  refine m_getr f_X1_23 rfl dX1_begin_67 q1 (by rw [e_M7, e_M3, e_M2]; exact q5) ?_
  refine m_aload_n dX1_begin_70 rfl 0 rfl ?_
  obtain ⟨M8, e_M8⟩ : ∃ M8 : mM, M8 = m_ui M7 a0 7 (((M7).1 r4 4)) := ⟨_, rfl⟩
  have h := h M8 e_M8
  rw [← e_M8]
  refine m_geti f_X1_20 rfl dX1_begin_71 q1 ?_
  refine m_invV (ci := 2) (As := [.int (((M8).1 a0 5))]) (d' := d) (mc' := 0) (ms' := 0) (rest := [.ref a0]) i_2_followsSeen v_2_followsSeen t_2_followsSeen l_X1_46 ⟨_, _, rfl⟩ dX1_begin_74 rfl rfl q6 (Nat.le_of_ble_eq_true rfl) (Nat.le_refl _) ⟨Nat.le_refl _, Nat.le_refl _⟩ (m_Ci h (fun v10 M9 h => ?_))
  show m_W (d + 1) 0 0 yX1_begin cX1_begin 6 none (m_qv Th Q) 77 [(0, .ref a0), (1, .int x1), (2, .int x2), (3, .int x3)] [.int v10, .ref a0] Th M9 0 0
  obtain ⟨q11, h⟩ := h
  refine m_puti f_X1_50 rfl (Or.inl rfl) dX1_begin_77 q1 q11 ?_
  refine m_aload_n dX1_begin_80 rfl 0 rfl ?_
  refine m_aload_n dX1_begin_81 rfl 0 rfl ?_
  obtain ⟨r12, q13, h⟩ := h
  refine m_getr f_X1_23 rfl dX1_begin_82 q1 q13 ?_
  refine m_aload_n dX1_begin_85 rfl 0 rfl ?_
  obtain ⟨M14, e_M14⟩ : ∃ M14 : mM, M14 = m_ui M9 a0 8 v10 := ⟨_, rfl⟩
  have h := h M14 e_M14
  rw [← e_M14]
  refine m_geti f_X1_16 rfl dX1_begin_86 q1 ?_
  obtain ⟨q17, h⟩ := h
  refine m_invV (ci := 2) (As := [.int (((M14).1 a0 4))]) (d' := d) (mc' := 0) (ms' := 0) (rest := [.ref a0]) i_2_skill v_2_skill t_2_skill l_X1_54 ⟨_, _, rfl⟩ dX1_begin_89 rfl rfl q17 (Nat.le_of_ble_eq_true rfl) (Nat.le_refl _) ⟨Nat.le_refl _, Nat.le_refl _⟩ (m_Cr h (fun v16 M15 h => ?_))
  show m_W (d + 1) 0 0 yX1_begin cX1_begin 6 none (m_qv Th Q) 92 [(0, .ref a0), (1, .int x1), (2, .int x2), (3, .int x3)] [.ref v16, .ref a0] Th M15 0 0
  refine m_putr f_X1_30 rfl (Or.inl rfl) dX1_begin_92 q1 ?_
  refine m_aload_n dX1_begin_95 rfl 0 rfl ?_
  refine m_aload_n dX1_begin_96 rfl 0 rfl ?_
  obtain ⟨r18, q19, h⟩ := h
  refine m_getr f_X1_23 rfl dX1_begin_97 q1 q19 ?_
  refine m_aload_n dX1_begin_100 rfl 0 rfl ?_
  obtain ⟨M20, e_M20⟩ : ∃ M20 : mM, M20 = m_ur M15 a0 1 (some v16) := ⟨_, rfl⟩
  have h := h M20 e_M20
  rw [← e_M20]
  refine m_geti f_X1_20 rfl dX1_begin_101 q1 ?_
  obtain ⟨q23, h⟩ := h
  refine m_invV (ci := 2) (As := [.int (((M20).1 a0 5))]) (d' := d) (mc' := 0) (ms' := 0) (rest := [.ref a0]) i_2_skill v_2_skill t_2_skill l_X1_54 ⟨_, _, rfl⟩ dX1_begin_104 rfl rfl q23 (Nat.le_of_ble_eq_true rfl) (Nat.le_refl _) ⟨Nat.le_refl _, Nat.le_refl _⟩ (m_Cr h (fun v22 M21 h => ?_))
  show m_W (d + 1) 0 0 yX1_begin cX1_begin 6 none (m_qv Th Q) 107 [(0, .ref a0), (1, .int x1), (2, .int x2), (3, .int x3)] [.ref v22, .ref a0] Th M21 0 0
  refine m_putr f_X1_34 rfl (Or.inl rfl) dX1_begin_107 q1 ?_
  refine m_bipush (v := 10) dX1_begin_110 (by decide) ?_
  refine m_aload_n dX1_begin_112 rfl 0 rfl ?_
  obtain ⟨r24, q25, h⟩ := h
  refine m_getr f_X1_23 rfl dX1_begin_113 q1 q25 ?_
  obtain ⟨q26, h⟩ := h
  obtain ⟨M27, e_M27⟩ : ∃ M27 : mM, M27 = m_ur M21 a0 2 (some v22) := ⟨_, rfl⟩
  have h := h M27 e_M27
  rw [← e_M27]
  refine m_geti f_X1_58 rfl dX1_begin_116 q26 ?_
  refine m_imul dX1_begin_119 ?_
  refine m_bipush (v := 21) dX1_begin_120 (by decide) ?_
  refine m_imul dX1_begin_122 ?_
  refine m_aload_n dX1_begin_123 rfl 0 rfl ?_
  obtain ⟨r28, q29, h⟩ := h
  refine m_getr f_X1_23 rfl dX1_begin_124 q1 q29 ?_
  obtain ⟨q30, h⟩ := h
  refine m_geti f_X1_58 rfl dX1_begin_127 q30 ?_
  refine m_imul dX1_begin_130 ?_
  refine m_bipush (v := 18) dX1_begin_131 (by decide) ?_
  refine m_imul dX1_begin_133 ?_
  obtain ⟨xv31, e_xv31⟩ : ∃ xv31 : Int32, xv31 = ((((10 * ((M27).1 r24 0)) * 21) * ((M27).1 r28 0)) * 18) := ⟨_, rfl⟩
  have h := h xv31 e_xv31
  rw [← e_xv31]
  refine m_istore (lv' := [(4, .int xv31), (0, .ref a0), (1, .int x1), (2, .int x2), (3, .int x3)]) dX1_begin_134 (by decide) rfl ?_
  refine m_iconst (v := 0) dX1_begin_136 (by decide) ?_
  refine m_istore (lv' := [(5, .int 0), (4, .int xv31), (0, .ref a0), (1, .int x1), (2, .int x2), (3, .int x3)]) dX1_begin_137 (by decide) rfl ?_
  exact m_sub [2, 1, 0] rfl h
set_option maxHeartbeats 4000000 in
set_option maxRecDepth 100000 in
theorem h1_begin_139 {d : Nat} {Th : mT} {Q : mM → Prop} {a0 : Nat} {x4 : Int32} {x5 : Int32} {M : mM} (h : if x4 ≤ x5 then (Q M) else (Th.2.2 a0 = some (.inl 1) ∧ (∃ r2 : Nat, M.2.2 a0 3 = some r2 ∧ (∃ (ty : FieldType) (fz : Bool) (n4 : Nat), Th.2.2 r2 = some (.inr (ty, fz, n4)) ∧ (if (nI n4) ≤ x5 then (Q M) else (m_okw Th r2 .long x5 ∧ (H1_begin_139 (d + 1) Th Q a0 x4 (x5 + 1) (m_ul M r2 (Int32.toNatClampNeg x5) (-1))))))))) : H1_begin_139 (d + 1) Th Q a0 x4 x5 M := by
  show m_W (d + 1) 0 0 yX1_begin cX1_begin 6 none (m_qv Th Q) 139 [(0, .ref a0), (4, .int x4), (5, .int x5)] [] Th M 0 0
  refine m_iload dX1_begin_139 2 rfl ?_
  refine m_iload dX1_begin_141 1 rfl ?_
  refine m_icmp_ge (tgt := 172) dX1_begin_143 (by decide) (fun c1 => ?_) (fun c1 => ?_)
  · rw [if_pos c1] at h
    exact m_return dX1_begin_172 rfl ⟨rfl, rfl, h⟩
  · rw [if_neg c1] at h
    refine m_iload dX1_begin_146 2 rfl ?_
    refine m_aload_n dX1_begin_148 rfl 0 rfl ?_
    obtain ⟨q1, h⟩ := h
    obtain ⟨r2, q3, h⟩ := h
    refine m_getr f_X1_12 rfl dX1_begin_149 q1 q3 ?_
    obtain ⟨_, _, n4, q5, h⟩ := h
    refine m_alen dX1_begin_152 q5 ?_
    refine m_icmp_ge (tgt := 172) dX1_begin_153 (by decide) (fun c1 => ?_) (fun c1 => ?_)
    · rw [if_pos c1] at h
      exact m_return dX1_begin_172 rfl ⟨rfl, rfl, h⟩
    · rw [if_neg c1] at h
      refine m_aload_n dX1_begin_156 rfl 0 rfl ?_
      refine m_getr f_X1_12 rfl dX1_begin_157 q1 q3 ?_
      refine m_iload dX1_begin_160 2 rfl ?_
      refine m_ldc2 k_X1_61 dX1_begin_162 ?_
      obtain ⟨q6, h⟩ := h
      refine m_last dX1_begin_165 q6 ?_
      refine m_iinc (v := x5 + 1) (lv' := [(5, .int (x5 + 1)), (0, .ref a0), (4, .int x4)]) dX1_begin_166 2 rfl rfl (by decide) rfl ?_
      refine m_goto (tgt := 139) dX1_begin_169 (by decide) ?_
      exact m_sub [1, 2, 0] rfl h
set_option maxHeartbeats 4000000 in
set_option maxRecDepth 100000 in
theorem e1_begin {d : Nat} {Th : mT} {Q : mM → Prop} {a0 : Nat} {x1 : Int32} {x2 : Int32} {x3 : Int32} {M : mM} (h : Th.2.2 a0 = some (.inl 1) ∧ (if ((M).1 a0 4) = x1 then (if ((M).1 a0 5) = x2 then (if ((M).1 a0 6) = x3 then (∃ r2 : Nat, M.2.2 a0 0 = some r2 ∧ (Th.2.2 r2 = some (.inl 2) ∧ (if ((M).1 a0 7) = ((M).1 r2 4) then (Q M) else (H1_begin_39 (d + 1) Th Q a0 x1 x2 x3 M)))) else (H1_begin_39 (d + 1) Th Q a0 x1 x2 x3 M)) else (H1_begin_39 (d + 1) Th Q a0 x1 x2 x3 M)) else (H1_begin_39 (d + 1) Th Q a0 x1 x2 x3 M))) : P1_begin (d + 1) Th a0 x1 x2 x3 M Q := by
  refine m_C.of (by decide +kernel) (Nat.le_of_ble_eq_true rfl) ?_
  show m_W (d + 1) 0 0 yX1_begin cX1_begin 6 none (m_qv Th Q) 0 [(0, .ref a0), (1, .int x1), (2, .int x2), (3, .int x3)] [] Th M 0 0
  refine m_aload_n dX1_begin_0 rfl 0 rfl ?_
  obtain ⟨q1, h⟩ := h
  refine m_geti f_X1_16 rfl dX1_begin_1 q1 ?_
  refine m_iload_n dX1_begin_4 rfl 1 rfl ?_
  refine m_icmp_ne (tgt := 39) dX1_begin_5 (by decide) (fun c1 => ?_) (fun c1 => ?_)
  · rw [if_neg c1] at h
    exact h
  · rw [if_pos c1] at h
    refine m_aload_n dX1_begin_8 rfl 0 rfl ?_
    refine m_geti f_X1_20 rfl dX1_begin_9 q1 ?_
    refine m_iload_n dX1_begin_12 rfl 2 rfl ?_
    refine m_icmp_ne (tgt := 39) dX1_begin_13 (by decide) (fun c1 => ?_) (fun c1 => ?_)
    · rw [if_neg c1] at h
      exact h
    · rw [if_pos c1] at h
      refine m_aload_n dX1_begin_16 rfl 0 rfl ?_
      refine m_geti f_X1_37 rfl dX1_begin_17 q1 ?_
      refine m_iload_n dX1_begin_20 rfl 3 rfl ?_
      refine m_icmp_ne (tgt := 39) dX1_begin_21 (by decide) (fun c1 => ?_) (fun c1 => ?_)
      · rw [if_neg c1] at h
        exact h
      · rw [if_pos c1] at h
        refine m_aload_n dX1_begin_24 rfl 0 rfl ?_
        refine m_geti f_X1_40 rfl dX1_begin_25 q1 ?_
        refine m_aload_n dX1_begin_28 rfl 0 rfl ?_
        obtain ⟨r2, q3, h⟩ := h
        refine m_getr f_X1_23 rfl dX1_begin_29 q1 q3 ?_
        obtain ⟨q4, h⟩ := h
        refine m_geti f_X1_43 rfl dX1_begin_32 q4 ?_
        refine m_icmp_ne (tgt := 39) dX1_begin_35 (by decide) (fun c1 => ?_) (fun c1 => ?_)
        · rw [if_neg c1] at h
          exact h
        · rw [if_pos c1] at h
          exact m_return dX1_begin_38 rfl ⟨rfl, rfl, h⟩
set_option maxHeartbeats 4000000 in
set_option maxRecDepth 100000 in
theorem h1_stateOfX_12 {d : Nat} {Th : mT} {Q : Int32 → mM → Prop} {a0 : Nat} {x1 : Int32} {s0 : Int32} {M : mM} (h : P1_modeOf d Th ((x1 - x1 / 100 * 100)) M (fun (v2 : Int32) (M1 : mM) => Th.2.2 a0 = some (.inl 1) ∧ (∃ r4 : Nat, M1.2.2 a0 0 = some r4 ∧ (Th.2.2 r4 = some (.inl 2) ∧ (P2_hasRiddle d Th r4 s0 M1 (fun (v7 : Int32) (M6 : mM) => Q ((if v7 = 0 then (-1) else (if v2 = (-1) then (-1) else ((s0 * 21) + v2)))) M6)))))) : H1_stateOfX_12 (d + 1) Th Q a0 x1 s0 M := by
  show m_W (d + 1) 0 0 yX1_stateOfX cX1_stateOfX 4 (some .int) (m_qi Th Q) 12 [(0, .ref a0), (1, .int x1)] [.int s0] Th M 0 0
  refine m_istore_n (lv' := [(2, .int s0), (0, .ref a0), (1, .int x1)]) dX1_stateOfX_12 rfl (by decide) rfl ?_
  refine m_iload_n dX1_stateOfX_13 rfl 2 rfl ?_
  refine m_bipush (v := 100) dX1_stateOfX_14 (by decide) ?_
  refine m_irem dX1_stateOfX_16 (by decide) ?_
  refine m_invS (As := [.int ((x1 - x1 / 100 * 100))]) (d' := d) (mc' := 0) (ms' := 0) (rest := []) i_1_modeOf s_1_modeOf l_X1_63 dX1_stateOfX_17 rfl rfl (Nat.le_of_ble_eq_true rfl) (Nat.le_refl _) ⟨Nat.le_refl _, Nat.le_refl _⟩ (m_Ci h (fun v2 M1 h => ?_))
  show m_W (d + 1) 0 0 yX1_stateOfX cX1_stateOfX 4 (some .int) (m_qi Th Q) 20 [(2, .int s0), (0, .ref a0), (1, .int x1)] [.int v2] Th M1 0 0
  refine m_istore_n (lv' := [(3, .int v2), (2, .int s0), (0, .ref a0), (1, .int x1)]) dX1_stateOfX_20 rfl (by decide) rfl ?_
  refine m_aload_n dX1_stateOfX_21 rfl 2 rfl ?_
  obtain ⟨q3, h⟩ := h
  obtain ⟨r4, q5, h⟩ := h
  refine m_getr f_X1_23 rfl dX1_stateOfX_22 q3 q5 ?_
  refine m_iload_n dX1_stateOfX_25 rfl 1 rfl ?_
  obtain ⟨q8, h⟩ := h
  refine m_invV (ci := 2) (As := [.int s0]) (d' := d) (mc' := 0) (ms' := 0) (rest := []) i_2_hasRiddle v_2_hasRiddle t_2_hasRiddle l_X1_67 ⟨_, _, rfl⟩ dX1_stateOfX_26 rfl rfl q8 (Nat.le_of_ble_eq_true rfl) (Nat.le_refl _) ⟨Nat.le_refl _, Nat.le_refl _⟩ (m_Ci h (fun v7 M6 h => ?_))
  show m_W (d + 1) 0 0 yX1_stateOfX cX1_stateOfX 4 (some .int) (m_qi Th Q) 29 [(3, .int v2), (2, .int s0), (0, .ref a0), (1, .int x1)] [.int v7] Th M6 0 0
  have hJ : m_W (d + 1) 0 0 yX1_stateOfX cX1_stateOfX 4 (some .int) (m_qi Th Q) 47 [(3, .int v2), (2, .int s0), (0, .ref a0), (1, .int x1)] [.int ((if v7 = 0 then (-1) else (if v2 = (-1) then (-1) else ((s0 * 21) + v2))))] Th M6 0 0 := by
    exact m_ireturn dX1_stateOfX_47 rfl rfl ⟨rfl, _, rfl, h⟩
  refine m_if_eq (tgt := 46) dX1_stateOfX_29 (by decide) (fun c1 => ?_) (fun c1 => ?_)
  · simp only [if_pos c1] at hJ
    refine m_iconst (v := (-1)) dX1_stateOfX_46 (by decide) ?_
    exact hJ
  · simp only [if_neg c1] at hJ
    refine m_iload_n dX1_stateOfX_32 rfl 0 rfl ?_
    refine m_iconst (v := (-1)) dX1_stateOfX_33 (by decide) ?_
    refine m_icmp_eq (tgt := 46) dX1_stateOfX_34 (by decide) (fun c2 => ?_) (fun c2 => ?_)
    · simp only [if_pos c2] at hJ
      refine m_iconst (v := (-1)) dX1_stateOfX_46 (by decide) ?_
      exact hJ
    · simp only [if_neg c2] at hJ
      refine m_iload_n dX1_stateOfX_37 rfl 1 rfl ?_
      refine m_bipush (v := 21) dX1_stateOfX_38 (by decide) ?_
      refine m_imul dX1_stateOfX_40 ?_
      refine m_iload_n dX1_stateOfX_41 rfl 0 rfl ?_
      refine m_iadd dX1_stateOfX_42 ?_
      refine m_goto (tgt := 47) dX1_stateOfX_43 (by decide) ?_
      exact hJ
set_option maxHeartbeats 4000000 in
set_option maxRecDepth 100000 in
theorem e1_stateOfX {d : Nat} {Th : mT} {Q : Int32 → mM → Prop} {a0 : Nat} {x1 : Int32} {M : mM} (h : if 0 ≤ x1 then (H1_stateOfX_12 (d + 1) Th Q a0 x1 ((x1 / 100)) M) else (H1_stateOfX_12 (d + 1) Th Q a0 x1 (-1) M)) : P1_stateOfX (d + 1) Th a0 x1 M Q := by
  refine m_C.of (by decide +kernel) (Nat.le_of_ble_eq_true rfl) ?_
  show m_W (d + 1) 0 0 yX1_stateOfX cX1_stateOfX 4 (some .int) (m_qi Th Q) 0 [(0, .ref a0), (1, .int x1)] [] Th M 0 0
  refine m_iload_n dX1_stateOfX_0 rfl 1 rfl ?_
  refine m_if_ge (tgt := 8) dX1_stateOfX_1 (by decide) (fun c1 => ?_) (fun c1 => ?_)
  · rw [if_pos c1] at h
    refine m_iload_n dX1_stateOfX_8 rfl 1 rfl ?_
    refine m_bipush (v := 100) dX1_stateOfX_9 (by decide) ?_
    refine m_idiv dX1_stateOfX_11 (by decide) ?_
    exact h
  · rw [if_neg c1] at h
    refine m_iconst (v := (-1)) dX1_stateOfX_4 (by decide) ?_
    refine m_goto (tgt := 12) dX1_stateOfX_5 (by decide) ?_
    exact h
set_option maxHeartbeats 4000000 in
set_option maxRecDepth 100000 in
theorem h1_stateOfY_19 {d : Nat} {Th : mT} {Q : Int32 → mM → Prop} {a0 : Nat} {x2 : Int32} {x3 : Int32} {s0 : Int32} {M : mM} (h : if s0 = 6 then (Q (-1) M) else (if s0 ≤ 16 then (if x3 = (-1) then (Q (-1) M) else (Th.2.2 a0 = some (.inl 1) ∧ (P1_seeing d Th a0 x3 x2 M (fun (v2 : Int32) (M1 : mM) => Q v2 M1)))) else (Q (-1) M))) : H1_stateOfY_19 (d + 1) Th Q a0 x2 x3 s0 M := by
  show m_W (d + 1) 0 0 yX1_stateOfY cX1_stateOfY 5 (some .int) (m_qi Th Q) 19 [(0, .ref a0), (2, .int x2), (3, .int x3)] [.int s0] Th M 0 0
  refine m_istore (lv' := [(4, .int s0), (0, .ref a0), (2, .int x2), (3, .int x3)]) dX1_stateOfY_19 (by decide) rfl ?_
  refine m_iload dX1_stateOfY_21 0 rfl ?_
  refine m_bipush (v := 6) dX1_stateOfY_23 (by decide) ?_
  refine m_icmp_eq (tgt := 35) dX1_stateOfY_25 (by decide) (fun c1 => ?_) (fun c1 => ?_)
  · rw [if_pos c1] at h
    refine m_iconst (v := (-1)) dX1_stateOfY_35 (by decide) ?_
    exact m_ireturn dX1_stateOfY_36 rfl rfl ⟨rfl, _, rfl, h⟩
  · rw [if_neg c1] at h
    refine m_iload dX1_stateOfY_28 0 rfl ?_
    refine m_bipush (v := 16) dX1_stateOfY_30 (by decide) ?_
    refine m_icmp_le (tgt := 37) dX1_stateOfY_32 (by decide) (fun c1 => ?_) (fun c1 => ?_)
    · rw [if_pos c1] at h
      refine m_iload_n dX1_stateOfY_37 rfl 3 rfl ?_
      refine m_iconst (v := (-1)) dX1_stateOfY_38 (by decide) ?_
      refine m_icmp_ne (tgt := 46) dX1_stateOfY_39 (by decide) (fun c1 => ?_) (fun c1 => ?_)
      · rw [if_neg c1] at h
        refine m_aload_n dX1_stateOfY_46 rfl 1 rfl ?_
        refine m_iload_n dX1_stateOfY_47 rfl 3 rfl ?_
        refine m_iload_n dX1_stateOfY_48 rfl 2 rfl ?_
        obtain ⟨q3, h⟩ := h
        refine m_invV (ci := 1) (As := [.int x3, .int x2]) (d' := d) (mc' := 0) (ms' := 0) (rest := []) i_1_seeing v_1_seeing t_1_seeing l_X1_73 ⟨_, _, rfl⟩ dX1_stateOfY_49 rfl rfl q3 (Nat.le_of_ble_eq_true rfl) (Nat.le_refl _) ⟨Nat.le_refl _, Nat.le_refl _⟩ (m_Ci h (fun v2 M1 h => ?_))
        show m_W (d + 1) 0 0 yX1_stateOfY cX1_stateOfY 5 (some .int) (m_qi Th Q) 52 [(4, .int s0), (0, .ref a0), (2, .int x2), (3, .int x3)] [.int v2] Th M1 0 0
        exact m_ireturn dX1_stateOfY_52 rfl rfl ⟨rfl, _, rfl, h⟩
      · rw [if_pos c1] at h
        refine m_iconst (v := (-1)) dX1_stateOfY_42 (by decide) ?_
        refine m_goto (tgt := 52) dX1_stateOfY_43 (by decide) ?_
        exact m_ireturn dX1_stateOfY_52 rfl rfl ⟨rfl, _, rfl, h⟩
    · rw [if_neg c1] at h
      refine m_iconst (v := (-1)) dX1_stateOfY_35 (by decide) ?_
      exact m_ireturn dX1_stateOfY_36 rfl rfl ⟨rfl, _, rfl, h⟩
set_option maxHeartbeats 4000000 in
set_option maxRecDepth 100000 in
theorem e1_stateOfY {d : Nat} {Th : mT} {Q : Int32 → mM → Prop} {a0 : Nat} {x1 : Int32} {x2 : Int32} {M : mM} (h : Th.2.2 a0 = some (.inl 1) ∧ (P1_stateOfX d Th a0 x1 M (fun (v2 : Int32) (M1 : mM) => if v2 = (-1) then (H1_stateOfY_19 (d + 1) Th Q a0 x2 v2 (-1) M1) else (H1_stateOfY_19 (d + 1) Th Q a0 x2 v2 ((v2 - v2 / 21 * 21)) M1)))) : P1_stateOfY (d + 1) Th a0 x1 x2 M Q := by
  refine m_C.of (by decide +kernel) (Nat.le_of_ble_eq_true rfl) ?_
  show m_W (d + 1) 0 0 yX1_stateOfY cX1_stateOfY 5 (some .int) (m_qi Th Q) 0 [(0, .ref a0), (1, .int x1), (2, .int x2)] [] Th M 0 0
  refine m_aload_n dX1_stateOfY_0 rfl 0 rfl ?_
  refine m_iload_n dX1_stateOfY_1 rfl 1 rfl ?_
  obtain ⟨q3, h⟩ := h
  refine m_invV (ci := 1) (As := [.int x1]) (d' := d) (mc' := 0) (ms' := 0) (rest := []) i_1_stateOfX v_1_stateOfX t_1_stateOfX l_X1_70 ⟨_, _, rfl⟩ dX1_stateOfY_2 rfl rfl q3 (Nat.le_of_ble_eq_true rfl) (Nat.le_refl _) ⟨Nat.le_refl _, Nat.le_refl _⟩ (m_Ci h (fun v2 M1 h => ?_))
  show m_W (d + 1) 0 0 yX1_stateOfY cX1_stateOfY 5 (some .int) (m_qi Th Q) 5 [(0, .ref a0), (1, .int x1), (2, .int x2)] [.int v2] Th M1 0 0
  refine m_istore_n (lv' := [(3, .int v2), (0, .ref a0), (1, .int x1), (2, .int x2)]) dX1_stateOfY_5 rfl (by decide) rfl ?_
  refine m_iload_n dX1_stateOfY_6 rfl 0 rfl ?_
  refine m_iconst (v := (-1)) dX1_stateOfY_7 (by decide) ?_
  refine m_icmp_ne (tgt := 15) dX1_stateOfY_8 (by decide) (fun c1 => ?_) (fun c1 => ?_)
  · rw [if_neg c1] at h
    refine m_iload_n dX1_stateOfY_15 rfl 0 rfl ?_
    refine m_bipush (v := 21) dX1_stateOfY_16 (by decide) ?_
    refine m_irem dX1_stateOfY_18 (by decide) ?_
    exact m_sub [1, 3, 0] rfl h
  · rw [if_pos c1] at h
    refine m_iconst (v := (-1)) dX1_stateOfY_11 (by decide) ?_
    refine m_goto (tgt := 19) dX1_stateOfY_12 (by decide) ?_
    exact m_sub [1, 3, 0] rfl h
set_option maxHeartbeats 4000000 in
set_option maxRecDepth 100000 in
theorem e1_worthOf {d : Nat} {Th : mT} {Q : Int64 → mM → Prop} {a0 : Nat} {x1 : Int32} {x2 : Int32} {x3 : Int32} {M : mM} (h : Th.2.2 a0 = some (.inl 1) ∧ (P1_value d Th a0 x1 x2 x3 M (fun (v2 : Int64) (M1 : mM) => Q v2 M1))) : P1_worthOf (d + 1) Th a0 x1 x2 x3 M Q := by
  refine m_C.of (by decide +kernel) (Nat.le_of_ble_eq_true rfl) ?_
  show m_W (d + 1) 0 0 yX1_worthOf cX1_worthOf 4 (some .long) (m_ql Th Q) 0 [(0, .ref a0), (1, .int x1), (2, .int x2), (3, .int x3)] [] Th M 0 0
  refine m_aload_n dX1_worthOf_0 rfl 0 rfl ?_
  refine m_iload_n dX1_worthOf_1 rfl 1 rfl ?_
  refine m_iload_n dX1_worthOf_2 rfl 2 rfl ?_
  refine m_iload_n dX1_worthOf_3 rfl 3 rfl ?_
  obtain ⟨q3, h⟩ := h
  refine m_invV (ci := 1) (As := [.int x1, .int x2, .int x3]) (d' := d) (mc' := 0) (ms' := 0) (rest := []) i_1_value v_1_value t_1_value l_X1_77 ⟨_, _, rfl⟩ dX1_worthOf_4 rfl rfl q3 (Nat.le_of_ble_eq_true rfl) (Nat.le_refl _) ⟨Nat.le_refl _, Nat.le_refl _⟩ (m_Cl h (fun v2 M1 h => ?_))
  show m_W (d + 1) 0 0 yX1_worthOf cX1_worthOf 4 (some .long) (m_ql Th Q) 7 [(0, .ref a0), (1, .int x1), (2, .int x2), (3, .int x3)] [.long v2] Th M1 0 0
  exact m_lreturn dX1_worthOf_7 rfl ⟨rfl, _, rfl, h⟩
set_option maxHeartbeats 4000000 in
set_option maxRecDepth 100000 in
theorem h1_choice_11 {d : Nat} {Th : mT} {Q : Int32 → mM → Prop} {a0 : Nat} {x1 : Int32} {x2 : Int32} {x3 : Int32} {x4 : Int32} {l5 : Int64} {x7 : Int32} {M : mM} (h : if 4 < x7 then (Q x4 M) else (if x1 ≤ 0 then (Q x4 M) else (Th.2.2 a0 = some (.inl 1) ∧ (P1_can d Th a0 x7 x2 x3 M (fun (v2 : Int32) (M1 : mM) => if v2 = 0 then (H1_choice_11 (d + 1) Th Q a0 x1 x2 x3 x4 l5 (x7 + 1) M1) else (P1_doing d Th a0 x7 x1 x2 x3 M1 (fun (v5 : Int64) (M4 : mM) => ∀ xv6 : Int32, xv6 = (if (lg_cmp v5 l5) ≤ 0 then x4 else x7) → ∀ lv7 : Int64, lv7 = (if v5 < l5 then l5 else v5) → H1_choice_11 (d + 1) Th Q a0 x1 x2 x3 xv6 lv7 (x7 + 1) M4))))))) : H1_choice_11 (d + 1) Th Q a0 x1 x2 x3 x4 l5 x7 M := by
  show m_W (d + 1) 0 0 yX1_choice cX1_choice 10 (some .int) (m_qi Th Q) 11 [(0, .ref a0), (1, .int x1), (2, .int x2), (3, .int x3), (4, .int x4), (5, .long l5), (7, .int x7)] [] Th M 0 0
  refine m_iload dX1_choice_11 6 rfl ?_
  refine m_iconst (v := 4) dX1_choice_13 (by decide) ?_
  refine m_icmp_gt (tgt := 75) dX1_choice_14 (by decide) (fun c1 => ?_) (fun c1 => ?_)
  · rw [if_pos c1] at h
    refine m_iload dX1_choice_75 4 rfl ?_
    exact m_ireturn dX1_choice_77 rfl rfl ⟨rfl, _, rfl, h⟩
  · rw [if_neg c1] at h
    refine m_iload_n dX1_choice_17 rfl 1 rfl ?_
    refine m_if_le (tgt := 75) dX1_choice_18 (by decide) (fun c1 => ?_) (fun c1 => ?_)
    · rw [if_pos c1] at h
      refine m_iload dX1_choice_75 4 rfl ?_
      exact m_ireturn dX1_choice_77 rfl rfl ⟨rfl, _, rfl, h⟩
    · rw [if_neg c1] at h
      refine m_aload_n dX1_choice_21 rfl 0 rfl ?_
      refine m_iload dX1_choice_22 6 rfl ?_
      refine m_iload_n dX1_choice_24 rfl 2 rfl ?_
      refine m_iload_n dX1_choice_25 rfl 3 rfl ?_
      obtain ⟨q3, h⟩ := h
      refine m_invV (ci := 1) (As := [.int x7, .int x2, .int x3]) (d' := d) (mc' := 0) (ms' := 0) (rest := []) i_1_can v_1_can t_1_can l_X1_81 ⟨_, _, rfl⟩ dX1_choice_26 rfl rfl q3 (Nat.le_of_ble_eq_true rfl) (Nat.le_refl _) ⟨Nat.le_refl _, Nat.le_refl _⟩ (m_Ci h (fun v2 M1 h => ?_))
      show m_W (d + 1) 0 0 yX1_choice cX1_choice 10 (some .int) (m_qi Th Q) 29 [(0, .ref a0), (1, .int x1), (2, .int x2), (3, .int x3), (4, .int x4), (5, .long l5), (7, .int x7)] [.int v2] Th M1 0 0
      refine m_if_eq (tgt := 69) dX1_choice_29 (by decide) (fun c1 => ?_) (fun c1 => ?_)
      · rw [if_pos c1] at h
        refine m_iinc (v := x7 + 1) (lv' := [(7, .int (x7 + 1)), (0, .ref a0), (1, .int x1), (2, .int x2), (3, .int x3), (4, .int x4), (5, .long l5)]) dX1_choice_69 6 rfl rfl (by decide) rfl ?_
        refine m_goto (tgt := 11) dX1_choice_72 (by decide) ?_
        exact m_sub [1, 2, 3, 4, 5, 6, 0] rfl h
      · rw [if_neg c1] at h
        refine m_aload_n dX1_choice_32 rfl 0 rfl ?_
        refine m_iload dX1_choice_33 6 rfl ?_
        refine m_iload_n dX1_choice_35 rfl 1 rfl ?_
        refine m_iload_n dX1_choice_36 rfl 2 rfl ?_
        refine m_iload_n dX1_choice_37 rfl 3 rfl ?_
        refine m_invV (ci := 1) (As := [.int x7, .int x1, .int x2, .int x3]) (d' := d) (mc' := 0) (ms' := 0) (rest := []) i_1_doing v_1_doing t_1_doing l_X1_85 ⟨_, _, rfl⟩ dX1_choice_38 rfl rfl q3 (Nat.le_of_ble_eq_true rfl) (Nat.le_refl _) ⟨Nat.le_refl _, Nat.le_refl _⟩ (m_Cl h (fun v5 M4 h => ?_))
        show m_W (d + 1) 0 0 yX1_choice cX1_choice 10 (some .int) (m_qi Th Q) 41 [(0, .ref a0), (1, .int x1), (2, .int x2), (3, .int x3), (4, .int x4), (5, .long l5), (7, .int x7)] [.long v5] Th M4 0 0
        refine m_lstore (lv' := [(8, .long v5), (0, .ref a0), (1, .int x1), (2, .int x2), (3, .int x3), (4, .int x4), (5, .long l5), (7, .int x7)]) dX1_choice_41 (by decide) rfl ?_
        refine m_lload dX1_choice_43 0 rfl ?_
        refine m_lload dX1_choice_45 6 rfl ?_
        refine m_lcmp dX1_choice_47 ?_
        have hJ : m_W (d + 1) 0 0 yX1_choice cX1_choice 10 (some .int) (m_qi Th Q) 58 [(8, .long v5), (0, .ref a0), (1, .int x1), (2, .int x2), (3, .int x3), (4, .int x4), (5, .long l5), (7, .int x7)] [.int ((if (lg_cmp v5 l5) ≤ 0 then x4 else x7))] Th M4 0 0 := by
          obtain ⟨xv6, e_xv6⟩ : ∃ xv6 : Int32, xv6 = (if (lg_cmp v5 l5) ≤ 0 then x4 else x7) := ⟨_, rfl⟩
          have h := h xv6 e_xv6
          rw [← e_xv6]
          refine m_istore (lv' := [(4, .int xv6), (8, .long v5), (0, .ref a0), (1, .int x1), (2, .int x2), (3, .int x3), (5, .long l5), (7, .int x7)]) dX1_choice_58 (by decide) rfl ?_
          refine m_lload dX1_choice_60 6 rfl ?_
          refine m_lload dX1_choice_62 1 rfl ?_
          refine m_maxl l_X1_89 dX1_choice_64 (Nat.le_of_ble_eq_true rfl) (Nat.le_add_left _ _) (Nat.le_refl _) (Nat.le_refl _) ?_
          obtain ⟨lv7, e_lv7⟩ : ∃ lv7 : Int64, lv7 = (if v5 < l5 then l5 else v5) := ⟨_, rfl⟩
          have h := h lv7 e_lv7
          rw [← e_lv7]
          refine m_lstore (lv' := [(5, .long lv7), (4, .int xv6), (8, .long v5), (0, .ref a0), (1, .int x1), (2, .int x2), (3, .int x3), (7, .int x7)]) dX1_choice_67 (by decide) rfl ?_
          refine m_iinc (v := x7 + 1) (lv' := [(7, .int (x7 + 1)), (5, .long lv7), (4, .int xv6), (8, .long v5), (0, .ref a0), (1, .int x1), (2, .int x2), (3, .int x3)]) dX1_choice_69 7 rfl rfl (by decide) rfl ?_
          refine m_goto (tgt := 11) dX1_choice_72 (by decide) ?_
          exact m_sub [4, 5, 6, 7, 2, 1, 0] rfl h
        refine m_if_le (tgt := 56) dX1_choice_48 (by decide) (fun c1 => ?_) (fun c1 => ?_)
        · simp only [if_pos c1] at hJ
          refine m_iload dX1_choice_56 5 rfl ?_
          exact hJ
        · simp only [if_neg c1] at hJ
          refine m_iload dX1_choice_51 7 rfl ?_
          refine m_goto (tgt := 58) dX1_choice_53 (by decide) ?_
          exact hJ
set_option maxHeartbeats 4000000 in
set_option maxRecDepth 100000 in
theorem e1_choice {d : Nat} {Th : mT} {Q : Int32 → mM → Prop} {a0 : Nat} {x1 : Int32} {x2 : Int32} {x3 : Int32} {M : mM} (h : H1_choice_11 (d + 1) Th Q a0 x1 x2 x3 (-1) (-1) 0 M) : P1_choice (d + 1) Th a0 x1 x2 x3 M Q := by
  refine m_C.of (by decide +kernel) (Nat.le_of_ble_eq_true rfl) ?_
  show m_W (d + 1) 0 0 yX1_choice cX1_choice 10 (some .int) (m_qi Th Q) 0 [(0, .ref a0), (1, .int x1), (2, .int x2), (3, .int x3)] [] Th M 0 0
  refine m_iconst (v := (-1)) dX1_choice_0 (by decide) ?_
  refine m_istore (lv' := [(4, .int (-1)), (0, .ref a0), (1, .int x1), (2, .int x2), (3, .int x3)]) dX1_choice_1 (by decide) rfl ?_
  refine m_ldc2 k_X1_61 dX1_choice_3 ?_
  refine m_lstore (lv' := [(5, .long (-1)), (4, .int (-1)), (0, .ref a0), (1, .int x1), (2, .int x2), (3, .int x3)]) dX1_choice_6 (by decide) rfl ?_
  refine m_iconst (v := 0) dX1_choice_8 (by decide) ?_
  refine m_istore (lv' := [(7, .int 0), (5, .long (-1)), (4, .int (-1)), (0, .ref a0), (1, .int x1), (2, .int x2), (3, .int x3)]) dX1_choice_9 (by decide) rfl ?_
  exact m_sub [3, 4, 5, 6, 2, 1, 0] rfl h
set_option maxHeartbeats 4000000 in
set_option maxRecDepth 100000 in
theorem h1_waitsFrom_12 {d : Nat} {Th : mT} {Q : Int32 → mM → Prop} {a0 : Nat} {x2 : Int32} {x3 : Int32} {x4 : Int32} {x5 : Int32} {x6 : Int32} {M : mM} (h : if x2 ≤ x6 then (Q x5 M) else (if 10 ≤ x6 then (Q x5 M) else (Th.2.2 a0 = some (.inl 1) ∧ (P1_choice d Th a0 ((x2 - x6)) ((x4 + 6)) ((x4 + (if (x3 + x6) < 5 then (x3 + x6) else 5))) M (fun (v2 : Int32) (M1 : mM) => if v2 = 2 then (H1_waitsFrom_12 (d + 1) Th Q a0 x2 x3 x4 (x5 + 1) (x6 + 1) M1) else (Q x5 M1)))))) : H1_waitsFrom_12 (d + 1) Th Q a0 x2 x3 x4 x5 x6 M := by
  show m_W (d + 1) 0 0 yX1_waitsFrom cX1_waitsFrom 7 (some .int) (m_qi Th Q) 12 [(0, .ref a0), (2, .int x2), (3, .int x3), (4, .int x4), (5, .int x5), (6, .int x6)] [] Th M 0 0
  refine m_iload dX1_waitsFrom_12 5 rfl ?_
  refine m_iload_n dX1_waitsFrom_14 rfl 1 rfl ?_
  refine m_icmp_ge (tgt := 65) dX1_waitsFrom_15 (by decide) (fun c1 => ?_) (fun c1 => ?_)
  · rw [if_pos c1] at h
    refine m_iload dX1_waitsFrom_65 4 rfl ?_
    exact m_ireturn dX1_waitsFrom_67 rfl rfl ⟨rfl, _, rfl, h⟩
  · rw [if_neg c1] at h
    refine m_iload dX1_waitsFrom_18 5 rfl ?_
    refine m_bipush (v := 10) dX1_waitsFrom_20 (by decide) ?_
    refine m_icmp_ge (tgt := 65) dX1_waitsFrom_22 (by decide) (fun c1 => ?_) (fun c1 => ?_)
    · rw [if_pos c1] at h
      refine m_iload dX1_waitsFrom_65 4 rfl ?_
      exact m_ireturn dX1_waitsFrom_67 rfl rfl ⟨rfl, _, rfl, h⟩
    · rw [if_neg c1] at h
      refine m_aload_n dX1_waitsFrom_25 rfl 0 rfl ?_
      refine m_iload_n dX1_waitsFrom_26 rfl 1 rfl ?_
      refine m_iload dX1_waitsFrom_27 5 rfl ?_
      refine m_isub dX1_waitsFrom_29 ?_
      refine m_iload dX1_waitsFrom_30 3 rfl ?_
      refine m_bipush (v := 6) dX1_waitsFrom_32 (by decide) ?_
      refine m_iadd dX1_waitsFrom_34 ?_
      refine m_iload dX1_waitsFrom_35 3 rfl ?_
      refine m_iconst (v := 5) dX1_waitsFrom_37 (by decide) ?_
      refine m_iload_n dX1_waitsFrom_38 rfl 2 rfl ?_
      refine m_iload dX1_waitsFrom_39 5 rfl ?_
      refine m_iadd dX1_waitsFrom_41 ?_
      refine m_min l_X1_95 dX1_waitsFrom_42 (Nat.le_of_ble_eq_true rfl) (Nat.le_add_left _ _) (Nat.le_refl _) (Nat.le_refl _) ?_
      refine m_iadd dX1_waitsFrom_45 ?_
      obtain ⟨q3, h⟩ := h
      refine m_invV (ci := 1) (As := [.int ((x2 - x6)), .int ((x4 + 6)), .int ((x4 + (if (x3 + x6) < 5 then (x3 + x6) else 5)))]) (d' := d) (mc' := 0) (ms' := 0) (rest := []) i_1_choice v_1_choice t_1_choice l_X1_98 ⟨_, _, rfl⟩ dX1_waitsFrom_46 rfl rfl q3 (Nat.le_of_ble_eq_true rfl) (Nat.le_refl _) ⟨Nat.le_refl _, Nat.le_refl _⟩ (m_Ci h (fun v2 M1 h => ?_))
      show m_W (d + 1) 0 0 yX1_waitsFrom cX1_waitsFrom 7 (some .int) (m_qi Th Q) 49 [(0, .ref a0), (2, .int x2), (3, .int x3), (4, .int x4), (5, .int x5), (6, .int x6)] [.int v2] Th M1 0 0
      refine m_iconst (v := 2) dX1_waitsFrom_49 (by decide) ?_
      refine m_icmp_eq (tgt := 56) dX1_waitsFrom_50 (by decide) (fun c1 => ?_) (fun c1 => ?_)
      · rw [if_pos c1] at h
        refine m_iinc (v := x5 + 1) (lv' := [(5, .int (x5 + 1)), (0, .ref a0), (2, .int x2), (3, .int x3), (4, .int x4), (6, .int x6)]) dX1_waitsFrom_56 4 rfl rfl (by decide) rfl ?_
        refine m_iinc (v := x6 + 1) (lv' := [(6, .int (x6 + 1)), (5, .int (x5 + 1)), (0, .ref a0), (2, .int x2), (3, .int x3), (4, .int x4)]) dX1_waitsFrom_59 5 rfl rfl (by decide) rfl ?_
        refine m_goto (tgt := 12) dX1_waitsFrom_62 (by decide) ?_
        exact m_sub [2, 3, 4, 5, 1, 0] rfl h
      · rw [if_neg c1] at h
        refine m_goto (tgt := 65) dX1_waitsFrom_53 (by decide) ?_
        refine m_iload dX1_waitsFrom_65 4 rfl ?_
        exact m_ireturn dX1_waitsFrom_67 rfl rfl ⟨rfl, _, rfl, h⟩
set_option maxHeartbeats 4000000 in
set_option maxRecDepth 100000 in
theorem e1_waitsFrom {d : Nat} {Th : mT} {Q : Int32 → mM → Prop} {a0 : Nat} {x1 : Int32} {x2 : Int32} {x3 : Int32} {M : mM} (h : ∀ xv1 : Int32, xv1 = (x1 * 21) → H1_waitsFrom_12 (d + 1) Th Q a0 x2 x3 xv1 0 0 M) : P1_waitsFrom (d + 1) Th a0 x1 x2 x3 M Q := by
  refine m_C.of (by decide +kernel) (Nat.le_of_ble_eq_true rfl) ?_
  show m_W (d + 1) 0 0 yX1_waitsFrom cX1_waitsFrom 7 (some .int) (m_qi Th Q) 0 [(0, .ref a0), (1, .int x1), (2, .int x2), (3, .int x3)] [] Th M 0 0
  refine m_iload_n dX1_waitsFrom_0 rfl 1 rfl ?_
  refine m_bipush (v := 21) dX1_waitsFrom_1 (by decide) ?_
  refine m_imul dX1_waitsFrom_3 ?_
  obtain ⟨xv1, e_xv1⟩ : ∃ xv1 : Int32, xv1 = (x1 * 21) := ⟨_, rfl⟩
  have h := h xv1 e_xv1
  rw [← e_xv1]
  refine m_istore (lv' := [(4, .int xv1), (0, .ref a0), (1, .int x1), (2, .int x2), (3, .int x3)]) dX1_waitsFrom_4 (by decide) rfl ?_
  refine m_iconst (v := 0) dX1_waitsFrom_6 (by decide) ?_
  refine m_istore (lv' := [(5, .int 0), (4, .int xv1), (0, .ref a0), (1, .int x1), (2, .int x2), (3, .int x3)]) dX1_waitsFrom_7 (by decide) rfl ?_
  refine m_iconst (v := 0) dX1_waitsFrom_9 (by decide) ?_
  refine m_istore (lv' := [(6, .int 0), (5, .int 0), (4, .int xv1), (0, .ref a0), (1, .int x1), (2, .int x2), (3, .int x3)]) dX1_waitsFrom_10 (by decide) rfl ?_
  exact m_sub [3, 5, 6, 2, 1, 0] rfl h
set_option maxHeartbeats 4000000 in
set_option maxRecDepth 100000 in
theorem e1_modeOf {d : Nat} {Th : mT} {Q : Int32 → mM → Prop} {x0 : Int32} {M : mM} (h : P10_within d Th x0 0 5 M (fun (v2 : Int32) (M1 : mM) => if v2 = 0 then (P10_within d Th x0 10 16 M1 (fun (v4 : Int32) (M3 : mM) => if v4 = 0 then (P10_within d Th x0 21 24 M3 (fun (v6 : Int32) (M5 : mM) => if v6 = 0 then (P10_within d Th x0 31 34 M5 (fun (v8 : Int32) (M7 : mM) => Q ((if v8 = 0 then (-1) else ((x0 - 30) + 16))) M7)) else (Q (((x0 - 20) + 12)) M5))) else (Q (((x0 - 10) + 6)) M3))) else (Q x0 M1))) : P1_modeOf (d + 1) Th x0 M Q := by
  refine m_C.of (by decide +kernel) (Nat.le_of_ble_eq_true rfl) ?_
  show m_W (d + 1) 0 0 yX1_modeOf cX1_modeOf 1 (some .int) (m_qi Th Q) 0 [(0, .int x0)] [] Th M 0 0
  refine m_iload_n dX1_modeOf_0 rfl 0 rfl ?_
  refine m_iconst (v := 0) dX1_modeOf_1 (by decide) ?_
  refine m_iconst (v := 5) dX1_modeOf_2 (by decide) ?_
  refine m_invSN (As := [.int x0, .int 0, .int 5]) (d' := d) (mc' := 0) (ms' := 0) (rest := []) i_10_within s_10_within l_X1_102 dX1_modeOf_3 rfl rfl (Nat.le_of_ble_eq_true rfl) (Nat.le_refl _) ⟨Nat.le_refl _, Nat.le_refl _⟩ (m_Ci h (fun v2 M1 h => ?_))
  show m_W (d + 1) 0 0 yX1_modeOf cX1_modeOf 1 (some .int) (m_qi Th Q) 6 [(0, .int x0)] [.int v2] Th M1 0 0
  refine m_if_eq (tgt := 11) dX1_modeOf_6 (by decide) (fun c1 => ?_) (fun c1 => ?_)
  · rw [if_pos c1] at h
    refine m_iload_n dX1_modeOf_11 rfl 0 rfl ?_
    refine m_bipush (v := 10) dX1_modeOf_12 (by decide) ?_
    refine m_bipush (v := 16) dX1_modeOf_14 (by decide) ?_
    refine m_invSN (As := [.int x0, .int 10, .int 16]) (d' := d) (mc' := 0) (ms' := 0) (rest := []) i_10_within s_10_within l_X1_102 dX1_modeOf_16 rfl rfl (Nat.le_of_ble_eq_true rfl) (Nat.le_refl _) ⟨Nat.le_refl _, Nat.le_refl _⟩ (m_Ci h (fun v4 M3 h => ?_))
    show m_W (d + 1) 0 0 yX1_modeOf cX1_modeOf 1 (some .int) (m_qi Th Q) 19 [(0, .int x0)] [.int v4] Th M3 0 0
    refine m_if_eq (tgt := 30) dX1_modeOf_19 (by decide) (fun c1 => ?_) (fun c1 => ?_)
    · rw [if_pos c1] at h
      refine m_iload_n dX1_modeOf_30 rfl 0 rfl ?_
      refine m_bipush (v := 21) dX1_modeOf_31 (by decide) ?_
      refine m_bipush (v := 24) dX1_modeOf_33 (by decide) ?_
      refine m_invSN (As := [.int x0, .int 21, .int 24]) (d' := d) (mc' := 0) (ms' := 0) (rest := []) i_10_within s_10_within l_X1_102 dX1_modeOf_35 rfl rfl (Nat.le_of_ble_eq_true rfl) (Nat.le_refl _) ⟨Nat.le_refl _, Nat.le_refl _⟩ (m_Ci h (fun v6 M5 h => ?_))
      show m_W (d + 1) 0 0 yX1_modeOf cX1_modeOf 1 (some .int) (m_qi Th Q) 38 [(0, .int x0)] [.int v6] Th M5 0 0
      refine m_if_eq (tgt := 49) dX1_modeOf_38 (by decide) (fun c1 => ?_) (fun c1 => ?_)
      · rw [if_pos c1] at h
        refine m_iload_n dX1_modeOf_49 rfl 0 rfl ?_
        refine m_bipush (v := 31) dX1_modeOf_50 (by decide) ?_
        refine m_bipush (v := 34) dX1_modeOf_52 (by decide) ?_
        refine m_invSN (As := [.int x0, .int 31, .int 34]) (d' := d) (mc' := 0) (ms' := 0) (rest := []) i_10_within s_10_within l_X1_102 dX1_modeOf_54 rfl rfl (Nat.le_of_ble_eq_true rfl) (Nat.le_refl _) ⟨Nat.le_refl _, Nat.le_refl _⟩ (m_Ci h (fun v8 M7 h => ?_))
        show m_W (d + 1) 0 0 yX1_modeOf cX1_modeOf 1 (some .int) (m_qi Th Q) 57 [(0, .int x0)] [.int v8] Th M7 0 0
        have hJ : m_W (d + 1) 0 0 yX1_modeOf cX1_modeOf 1 (some .int) (m_qi Th Q) 71 [(0, .int x0)] [.int ((if v8 = 0 then (-1) else ((x0 - 30) + 16)))] Th M7 0 0 := by
          exact m_ireturn dX1_modeOf_71 rfl rfl ⟨rfl, _, rfl, h⟩
        refine m_if_eq (tgt := 70) dX1_modeOf_57 (by decide) (fun c1 => ?_) (fun c1 => ?_)
        · simp only [if_pos c1] at hJ
          refine m_iconst (v := (-1)) dX1_modeOf_70 (by decide) ?_
          exact hJ
        · simp only [if_neg c1] at hJ
          refine m_iload_n dX1_modeOf_60 rfl 0 rfl ?_
          refine m_bipush (v := 30) dX1_modeOf_61 (by decide) ?_
          refine m_isub dX1_modeOf_63 ?_
          refine m_bipush (v := 16) dX1_modeOf_64 (by decide) ?_
          refine m_iadd dX1_modeOf_66 ?_
          refine m_goto (tgt := 71) dX1_modeOf_67 (by decide) ?_
          exact hJ
      · rw [if_neg c1] at h
        refine m_iload_n dX1_modeOf_41 rfl 0 rfl ?_
        refine m_bipush (v := 20) dX1_modeOf_42 (by decide) ?_
        refine m_isub dX1_modeOf_44 ?_
        refine m_bipush (v := 12) dX1_modeOf_45 (by decide) ?_
        refine m_iadd dX1_modeOf_47 ?_
        exact m_ireturn dX1_modeOf_48 rfl rfl ⟨rfl, _, rfl, h⟩
    · rw [if_neg c1] at h
      refine m_iload_n dX1_modeOf_22 rfl 0 rfl ?_
      refine m_bipush (v := 10) dX1_modeOf_23 (by decide) ?_
      refine m_isub dX1_modeOf_25 ?_
      refine m_bipush (v := 6) dX1_modeOf_26 (by decide) ?_
      refine m_iadd dX1_modeOf_28 ?_
      exact m_ireturn dX1_modeOf_29 rfl rfl ⟨rfl, _, rfl, h⟩
  · rw [if_neg c1] at h
    refine m_iload_n dX1_modeOf_9 rfl 0 rfl ?_
    exact m_ireturn dX1_modeOf_10 rfl rfl ⟨rfl, _, rfl, h⟩
set_option maxHeartbeats 4000000 in
set_option maxRecDepth 100000 in
theorem h1_value_35 {d : Nat} {Th : mT} {Q : Int64 → mM → Prop} {x3 : Int32} {M : mM} (h : Q ((if x3 = 105 then 0 else 1)) M) : H1_value_35 (d + 1) Th Q x3 M := by
  show m_W (d + 1) 0 0 yX1_value cX1_value 8 (some .long) (m_ql Th Q) 35 [(3, .int x3)] [] Th M 0 0
  refine m_iload_n dX1_value_35 rfl 0 rfl ?_
  refine m_bipush (v := 105) dX1_value_36 (by decide) ?_
  have hJ : m_W (d + 1) 0 0 yX1_value cX1_value 8 (some .long) (m_ql Th Q) 46 [(3, .int x3)] [.long ((if x3 = 105 then 0 else 1))] Th M 0 0 := by
    exact m_lreturn dX1_value_46 rfl ⟨rfl, _, rfl, h⟩
  refine m_icmp_ne (tgt := 45) dX1_value_38 (by decide) (fun c1 => ?_) (fun c1 => ?_)
  · simp only [if_neg c1] at hJ
    refine m_lconst (v := 1) dX1_value_45 (by decide) ?_
    exact hJ
  · simp only [if_pos c1] at hJ
    refine m_lconst (v := 0) dX1_value_41 (by decide) ?_
    refine m_goto (tgt := 46) dX1_value_42 (by decide) ?_
    exact hJ
set_option maxHeartbeats 4000000 in
set_option maxRecDepth 100000 in
theorem h1_value_135 {d : Nat} {Th : mT} {Q : Int64 → mM → Prop} {a0 : Nat} {x1 : Int32} {x2 : Int32} {x3 : Int32} {x4 : Int32} {l5 : Int64} {x7 : Int32} {M : mM} (h : if 4 < x7 then (Th.2.2 a0 = some (.inl 1) ∧ (∃ r2 : Nat, M.2.2 a0 3 = some r2 ∧ (m_okw Th r2 .long x4 ∧ (Q l5 (m_ul M r2 (Int32.toNatClampNeg x4) l5))))) else (Th.2.2 a0 = some (.inl 1) ∧ (P1_can d Th a0 x7 x2 x3 M (fun (v6 : Int32) (M5 : mM) => if v6 = 0 then (H1_value_135 (d + 1) Th Q a0 x1 x2 x3 x4 l5 (x7 + 1) M5) else (P1_doing d Th a0 x7 x1 x2 x3 M5 (fun (v9 : Int64) (M8 : mM) => ∀ lv10 : Int64, lv10 = (if v9 < l5 then l5 else v9) → H1_value_135 (d + 1) Th Q a0 x1 x2 x3 x4 lv10 (x7 + 1) M8)))))) : H1_value_135 (d + 1) Th Q a0 x1 x2 x3 x4 l5 x7 M := by
  show m_W (d + 1) 0 0 yX1_value cX1_value 8 (some .long) (m_ql Th Q) 135 [(0, .ref a0), (1, .int x1), (2, .int x2), (3, .int x3), (4, .int x4), (5, .long l5), (7, .int x7)] [] Th M 0 0
  refine m_iload dX1_value_135 6 rfl ?_
  refine m_iconst (v := 4) dX1_value_137 (by decide) ?_
  refine m_icmp_gt (tgt := 174) dX1_value_138 (by decide) (fun c1 => ?_) (fun c1 => ?_)
  · rw [if_pos c1] at h
    refine m_aload_n dX1_value_174 rfl 0 rfl ?_
    obtain ⟨q1, h⟩ := h
    obtain ⟨r2, q3, h⟩ := h
    refine m_getr f_X1_12 rfl dX1_value_175 q1 q3 ?_
    refine m_iload dX1_value_178 4 rfl ?_
    refine m_lload dX1_value_180 5 rfl ?_
    obtain ⟨q4, h⟩ := h
    refine m_last dX1_value_182 q4 ?_
    refine m_lload dX1_value_183 5 rfl ?_
    exact m_lreturn dX1_value_185 rfl ⟨rfl, _, rfl, h⟩
  · rw [if_neg c1] at h
    refine m_aload_n dX1_value_141 rfl 0 rfl ?_
    refine m_iload dX1_value_142 6 rfl ?_
    refine m_iload_n dX1_value_144 rfl 2 rfl ?_
    refine m_iload_n dX1_value_145 rfl 3 rfl ?_
    obtain ⟨q7, h⟩ := h
    refine m_invV (ci := 1) (As := [.int x7, .int x2, .int x3]) (d' := d) (mc' := 0) (ms' := 0) (rest := []) i_1_can v_1_can t_1_can l_X1_81 ⟨_, _, rfl⟩ dX1_value_146 rfl rfl q7 (Nat.le_of_ble_eq_true rfl) (Nat.le_refl _) ⟨Nat.le_refl _, Nat.le_refl _⟩ (m_Ci h (fun v6 M5 h => ?_))
    show m_W (d + 1) 0 0 yX1_value cX1_value 8 (some .long) (m_ql Th Q) 149 [(0, .ref a0), (1, .int x1), (2, .int x2), (3, .int x3), (4, .int x4), (5, .long l5), (7, .int x7)] [.int v6] Th M5 0 0
    refine m_if_eq (tgt := 168) dX1_value_149 (by decide) (fun c1 => ?_) (fun c1 => ?_)
    · rw [if_pos c1] at h
      refine m_iinc (v := x7 + 1) (lv' := [(7, .int (x7 + 1)), (0, .ref a0), (1, .int x1), (2, .int x2), (3, .int x3), (4, .int x4), (5, .long l5)]) dX1_value_168 6 rfl rfl (by decide) rfl ?_
      refine m_goto (tgt := 135) dX1_value_171 (by decide) ?_
      exact m_sub [1, 2, 3, 4, 5, 6, 0] rfl h
    · rw [if_neg c1] at h
      refine m_lload dX1_value_152 5 rfl ?_
      refine m_aload_n dX1_value_154 rfl 0 rfl ?_
      refine m_iload dX1_value_155 6 rfl ?_
      refine m_iload_n dX1_value_157 rfl 1 rfl ?_
      refine m_iload_n dX1_value_158 rfl 2 rfl ?_
      refine m_iload_n dX1_value_159 rfl 3 rfl ?_
      refine m_invV (ci := 1) (As := [.int x7, .int x1, .int x2, .int x3]) (d' := d) (mc' := 0) (ms' := 0) (rest := [.long l5]) i_1_doing v_1_doing t_1_doing l_X1_85 ⟨_, _, rfl⟩ dX1_value_160 rfl rfl q7 (Nat.le_of_ble_eq_true rfl) (Nat.le_refl _) ⟨Nat.le_refl _, Nat.le_refl _⟩ (m_Cl h (fun v9 M8 h => ?_))
      show m_W (d + 1) 0 0 yX1_value cX1_value 8 (some .long) (m_ql Th Q) 163 [(0, .ref a0), (1, .int x1), (2, .int x2), (3, .int x3), (4, .int x4), (5, .long l5), (7, .int x7)] [.long v9, .long l5] Th M8 0 0
      refine m_maxl l_X1_89 dX1_value_163 (Nat.le_of_ble_eq_true rfl) (Nat.le_add_left _ _) (Nat.le_refl _) (Nat.le_refl _) ?_
      obtain ⟨lv10, e_lv10⟩ : ∃ lv10 : Int64, lv10 = (if v9 < l5 then l5 else v9) := ⟨_, rfl⟩
      have h := h lv10 e_lv10
      rw [← e_lv10]
      refine m_lstore (lv' := [(5, .long lv10), (0, .ref a0), (1, .int x1), (2, .int x2), (3, .int x3), (4, .int x4), (7, .int x7)]) dX1_value_166 (by decide) rfl ?_
      refine m_iinc (v := x7 + 1) (lv' := [(7, .int (x7 + 1)), (5, .long lv10), (0, .ref a0), (1, .int x1), (2, .int x2), (3, .int x3), (4, .int x4)]) dX1_value_168 6 rfl rfl (by decide) rfl ?_
      refine m_goto (tgt := 135) dX1_value_171 (by decide) ?_
      exact m_sub [2, 3, 4, 5, 6, 1, 0] rfl h
set_option maxHeartbeats 4000000 in
set_option maxRecDepth 100000 in
theorem e1_value {d : Nat} {Th : mT} {Q : Int64 → mM → Prop} {a0 : Nat} {x1 : Int32} {x2 : Int32} {x3 : Int32} {M : mM} (h : if x2 = 105 then (if x3 = 105 then (Q ((1 <<< (((6 * x1) : Int32).toInt64 &&& 63))) M) else (Q ((2 <<< (((6 * x1) : Int32).toInt64 &&& 63))) M)) else (if x3 = 105 then (H1_value_35 (d + 1) Th Q x3 M) else (if 0 < x1 then (Th.2.2 a0 = some (.inl 1) ∧ (∃ r2 : Nat, M.2.2 a0 0 = some r2 ∧ (Th.2.2 r2 = some (.inl 2) ∧ (∀ xv5 : Int32, xv5 = ((((x1 - 1) * ((M).1 r2 0)) * 21) + x2) → ∀ xv6 : Int32, xv6 = ((((xv5 * ((M).1 r2 0)) + (x3 / 21)) * 18) + (x3 - x3 / 21 * 21)) → if xv6 < 0 then (Q 0 M) else (∃ r7 : Nat, M.2.2 a0 3 = some r7 ∧ (∃ (ty : FieldType) (fz : Bool) (n9 : Nat), Th.2.2 r7 = some (.inr (ty, fz, n9)) ∧ (if xv6 < (nI n9) then (m_ok Th r7 .long xv6 ∧ (if (lg_cmp (((M).2.1 r7 (Int32.toNatClampNeg xv6))) (-1)) = 0 then (H1_value_135 (d + 1) Th Q a0 x1 x2 x3 xv6 0 (-1) M) else (Q (((M).2.1 r7 (Int32.toNatClampNeg xv6))) M))) else (Q 0 M)))))))) else (H1_value_35 (d + 1) Th Q x3 M)))) : P1_value (d + 1) Th a0 x1 x2 x3 M Q := by
  refine m_C.of (by decide +kernel) (Nat.le_of_ble_eq_true rfl) ?_
  show m_W (d + 1) 0 0 yX1_value cX1_value 8 (some .long) (m_ql Th Q) 0 [(0, .ref a0), (1, .int x1), (2, .int x2), (3, .int x3)] [] Th M 0 0
  refine m_iload_n dX1_value_0 rfl 2 rfl ?_
  refine m_bipush (v := 105) dX1_value_1 (by decide) ?_
  refine m_icmp_ne (tgt := 25) dX1_value_3 (by decide) (fun c1 => ?_) (fun c1 => ?_)
  · rw [if_neg c1] at h
    refine m_iload_n dX1_value_25 rfl 3 rfl ?_
    refine m_bipush (v := 105) dX1_value_26 (by decide) ?_
    refine m_icmp_eq (tgt := 35) dX1_value_28 (by decide) (fun c1 => ?_) (fun c1 => ?_)
    · rw [if_pos c1] at h
      exact m_sub [3] rfl h
    · rw [if_neg c1] at h
      refine m_iload_n dX1_value_31 rfl 1 rfl ?_
      refine m_if_gt (tgt := 47) dX1_value_32 (by decide) (fun c1 => ?_) (fun c1 => ?_)
      · rw [if_pos c1] at h
        refine m_iload_n dX1_value_47 rfl 1 rfl ?_
        refine m_iconst (v := 1) dX1_value_48 (by decide) ?_
        refine m_isub dX1_value_49 ?_
        refine m_aload_n dX1_value_50 rfl 0 rfl ?_
        obtain ⟨q1, h⟩ := h
        obtain ⟨r2, q3, h⟩ := h
        refine m_getr f_X1_23 rfl dX1_value_51 q1 q3 ?_
        obtain ⟨q4, h⟩ := h
        refine m_geti f_X1_58 rfl dX1_value_54 q4 ?_
        refine m_imul dX1_value_57 ?_
        refine m_bipush (v := 21) dX1_value_58 (by decide) ?_
        refine m_imul dX1_value_60 ?_
        refine m_iload_n dX1_value_61 rfl 2 rfl ?_
        refine m_iadd dX1_value_62 ?_
        obtain ⟨xv5, e_xv5⟩ : ∃ xv5 : Int32, xv5 = ((((x1 - 1) * ((M).1 r2 0)) * 21) + x2) := ⟨_, rfl⟩
        have h := h xv5 e_xv5
        rw [← e_xv5]
        refine m_istore (lv' := [(4, .int xv5), (0, .ref a0), (1, .int x1), (2, .int x2), (3, .int x3)]) dX1_value_63 (by decide) rfl ?_
        refine m_iload dX1_value_65 0 rfl ?_
        refine m_aload_n dX1_value_67 rfl 1 rfl ?_
        refine m_getr f_X1_23 rfl dX1_value_68 q1 q3 ?_
        refine m_geti f_X1_58 rfl dX1_value_71 q4 ?_
        refine m_imul dX1_value_74 ?_
        refine m_iload_n dX1_value_75 rfl 4 rfl ?_
        refine m_bipush (v := 21) dX1_value_76 (by decide) ?_
        refine m_idiv dX1_value_78 (by decide) ?_
        refine m_iadd dX1_value_79 ?_
        refine m_bipush (v := 18) dX1_value_80 (by decide) ?_
        refine m_imul dX1_value_82 ?_
        refine m_iload_n dX1_value_83 rfl 4 rfl ?_
        refine m_bipush (v := 21) dX1_value_84 (by decide) ?_
        refine m_irem dX1_value_86 (by decide) ?_
        refine m_iadd dX1_value_87 ?_
        obtain ⟨xv6, e_xv6⟩ : ∃ xv6 : Int32, xv6 = ((((xv5 * ((M).1 r2 0)) + (x3 / 21)) * 18) + (x3 - x3 / 21 * 21)) := ⟨_, rfl⟩
        have h := h xv6 e_xv6
        rw [← e_xv6]
        refine m_istore (lv' := [(4, .int xv6), (0, .ref a0), (1, .int x1), (2, .int x2), (3, .int x3)]) dX1_value_88 (by decide) rfl ?_
        refine m_iload dX1_value_90 0 rfl ?_
        refine m_if_lt (tgt := 105) dX1_value_92 (by decide) (fun c1 => ?_) (fun c1 => ?_)
        · rw [if_pos c1] at h
          refine m_lconst (v := 0) dX1_value_105 (by decide) ?_
          exact m_lreturn dX1_value_106 rfl ⟨rfl, _, rfl, h⟩
        · rw [if_neg c1] at h
          refine m_iload dX1_value_95 0 rfl ?_
          refine m_aload_n dX1_value_97 rfl 1 rfl ?_
          obtain ⟨r7, q8, h⟩ := h
          refine m_getr f_X1_12 rfl dX1_value_98 q1 q8 ?_
          obtain ⟨_, _, n9, q10, h⟩ := h
          refine m_alen dX1_value_101 q10 ?_
          refine m_icmp_lt (tgt := 107) dX1_value_102 (by decide) (fun c1 => ?_) (fun c1 => ?_)
          · rw [if_pos c1] at h
            refine m_aload_n dX1_value_107 rfl 1 rfl ?_
            refine m_getr f_X1_12 rfl dX1_value_108 q1 q8 ?_
            refine m_iload dX1_value_111 0 rfl ?_
            obtain ⟨q11, h⟩ := h
            refine m_lald dX1_value_113 q11 ?_
            refine m_ldc2 k_X1_61 dX1_value_114 ?_
            refine m_lcmp dX1_value_117 ?_
            refine m_if_eq (tgt := 129) dX1_value_118 (by decide) (fun c1 => ?_) (fun c1 => ?_)
            · rw [if_pos c1] at h
              refine m_lconst (v := 0) dX1_value_129 (by decide) ?_
              refine m_lstore (lv' := [(5, .long 0), (4, .int xv6), (0, .ref a0), (1, .int x1), (2, .int x2), (3, .int x3)]) dX1_value_130 (by decide) rfl ?_
              refine m_iconst (v := (-1)) dX1_value_132 (by decide) ?_
              refine m_istore (lv' := [(7, .int (-1)), (5, .long 0), (4, .int xv6), (0, .ref a0), (1, .int x1), (2, .int x2), (3, .int x3)]) dX1_value_133 (by decide) rfl ?_
              exact m_sub [3, 4, 5, 6, 2, 1, 0] rfl h
            · rw [if_neg c1] at h
              refine m_aload_n dX1_value_121 rfl 1 rfl ?_
              refine m_getr f_X1_12 rfl dX1_value_122 q1 q8 ?_
              refine m_iload dX1_value_125 0 rfl ?_
              refine m_lald dX1_value_127 q11 ?_
              exact m_lreturn dX1_value_128 rfl ⟨rfl, _, rfl, h⟩
          · rw [if_neg c1] at h
            refine m_lconst (v := 0) dX1_value_105 (by decide) ?_
            exact m_lreturn dX1_value_106 rfl ⟨rfl, _, rfl, h⟩
      · rw [if_neg c1] at h
        exact m_sub [3] rfl h
  · rw [if_pos c1] at h
    refine m_iload_n dX1_value_6 rfl 3 rfl ?_
    refine m_bipush (v := 105) dX1_value_7 (by decide) ?_
    refine m_icmp_ne (tgt := 16) dX1_value_9 (by decide) (fun c1 => ?_) (fun c1 => ?_)
    · rw [if_neg c1] at h
      refine m_ldc2 k_X1_105 dX1_value_16 ?_
      refine m_bipush (v := 6) dX1_value_19 (by decide) ?_
      refine m_iload_n dX1_value_21 rfl 1 rfl ?_
      refine m_imul dX1_value_22 ?_
      refine m_lshl dX1_value_23 ?_
      exact m_lreturn dX1_value_24 rfl ⟨rfl, _, rfl, h⟩
    · rw [if_pos c1] at h
      refine m_lconst (v := 1) dX1_value_12 (by decide) ?_
      refine m_goto (tgt := 19) dX1_value_13 (by decide) ?_
      refine m_bipush (v := 6) dX1_value_19 (by decide) ?_
      refine m_iload_n dX1_value_21 rfl 1 rfl ?_
      refine m_imul dX1_value_22 ?_
      refine m_lshl dX1_value_23 ?_
      exact m_lreturn dX1_value_24 rfl ⟨rfl, _, rfl, h⟩
set_option maxHeartbeats 4000000 in
set_option maxRecDepth 100000 in
theorem h1_can_18 {d : Nat} {Th : mT} {Q : Int32 → mM → Prop} {x1 : Int32} {x4 : Int32} {M : mM} (h : m_bool ((if x4 ≤ 6 then 0 else (if x1 = (-1) then 1 else 0))) ∧ Q ((if x4 ≤ 6 then 0 else (if x1 = (-1) then 1 else 0))) M) : H1_can_18 (d + 1) Th Q x1 x4 M := by
  show m_W (d + 1) 0 0 yX1_can cX1_can 5 (some .boolean) (m_qi Th Q) 18 [(1, .int x1), (4, .int x4)] [] Th M 0 0
  refine m_iload dX1_can_18 1 rfl ?_
  refine m_bipush (v := 6) dX1_can_20 (by decide) ?_
  have hJ : m_W (d + 1) 0 0 yX1_can cX1_can 5 (some .boolean) (m_qi Th Q) 35 [(1, .int x1), (4, .int x4)] [.int ((if x4 ≤ 6 then 0 else (if x1 = (-1) then 1 else 0)))] Th M 0 0 := by
    exact m_ireturn dX1_can_35 rfl h.1 ⟨rfl, _, rfl, h.2⟩
  refine m_icmp_le (tgt := 34) dX1_can_22 (by decide) (fun c1 => ?_) (fun c1 => ?_)
  · simp only [if_pos c1] at hJ
    refine m_iconst (v := 0) dX1_can_34 (by decide) ?_
    exact hJ
  · simp only [if_neg c1] at hJ
    refine m_iload_n dX1_can_25 rfl 0 rfl ?_
    refine m_iconst (v := (-1)) dX1_can_26 (by decide) ?_
    refine m_icmp_ne (tgt := 34) dX1_can_27 (by decide) (fun c2 => ?_) (fun c2 => ?_)
    · simp only [if_neg c2] at hJ
      refine m_iconst (v := 0) dX1_can_34 (by decide) ?_
      exact hJ
    · simp only [if_pos c2] at hJ
      refine m_iconst (v := 1) dX1_can_30 (by decide) ?_
      refine m_goto (tgt := 35) dX1_can_31 (by decide) ?_
      exact hJ
set_option maxHeartbeats 4000000 in
set_option maxRecDepth 100000 in
theorem h1_can_57 {d : Nat} {Th : mT} {Q : Int32 → mM → Prop} {a0 : Nat} {x1 : Int32} {x2 : Int32} {x3 : Int32} {x4 : Int32} {M : mM} (h : if x1 = 0 then (m_bool ((if x4 = 6 then 0 else 1)) ∧ Q ((if x4 = 6 then 0 else 1)) M) else (if x1 = 3 then (Th.2.2 a0 = some (.inl 1) ∧ (∃ r2 : Nat, M.2.2 a0 0 = some r2 ∧ (Th.2.2 r2 = some (.inl 2) ∧ (if ((M).1 r2 3) = 0 then (if (x2 / 21) = (x3 / 21) then (P1_walks d Th ((x3 - x3 / 21 * 21)) M (fun (v6 : Int32) (M5 : mM) => m_bool ((if v6 = 0 then 0 else 1)) ∧ Q ((if v6 = 0 then 0 else 1)) M5)) else (Q 0 M)) else (Q 0 M))))) else (m_bool ((if x1 = 4 then 1 else (if x4 = 6 then 1 else 0))) ∧ Q ((if x1 = 4 then 1 else (if x4 = 6 then 1 else 0))) M))) : H1_can_57 (d + 1) Th Q a0 x1 x2 x3 x4 M := by
  show m_W (d + 1) 0 0 yX1_can cX1_can 5 (some .boolean) (m_qi Th Q) 57 [(0, .ref a0), (1, .int x1), (2, .int x2), (3, .int x3), (4, .int x4)] [] Th M 0 0
  refine m_iload_n dX1_can_57 rfl 1 rfl ?_
  refine m_if_ne (tgt := 74) dX1_can_58 (by decide) (fun c1 => ?_) (fun c1 => ?_)
  · rw [if_neg c1] at h
    refine m_iload_n dX1_can_74 rfl 1 rfl ?_
    refine m_iconst (v := 3) dX1_can_75 (by decide) ?_
    refine m_icmp_ne (tgt := 116) dX1_can_76 (by decide) (fun c1 => ?_) (fun c1 => ?_)
    · rw [if_neg c1] at h
      refine m_iload_n dX1_can_116 rfl 1 rfl ?_
      refine m_iconst (v := 4) dX1_can_117 (by decide) ?_
      have hJ : m_W (d + 1) 0 0 yX1_can cX1_can 5 (some .boolean) (m_qi Th Q) 133 [(0, .ref a0), (1, .int x1), (2, .int x2), (3, .int x3), (4, .int x4)] [.int ((if x1 = 4 then 1 else (if x4 = 6 then 1 else 0)))] Th M 0 0 := by
        exact m_ireturn dX1_can_133 rfl h.1 ⟨rfl, _, rfl, h.2⟩
      refine m_icmp_eq (tgt := 128) dX1_can_118 (by decide) (fun c1 => ?_) (fun c1 => ?_)
      · simp only [if_pos c1] at hJ
        refine m_iconst (v := 1) dX1_can_128 (by decide) ?_
        refine m_goto (tgt := 133) dX1_can_129 (by decide) ?_
        exact hJ
      · simp only [if_neg c1] at hJ
        refine m_iload dX1_can_121 4 rfl ?_
        refine m_bipush (v := 6) dX1_can_123 (by decide) ?_
        refine m_icmp_ne (tgt := 132) dX1_can_125 (by decide) (fun c2 => ?_) (fun c2 => ?_)
        · simp only [if_neg c2] at hJ
          refine m_iconst (v := 0) dX1_can_132 (by decide) ?_
          exact hJ
        · simp only [if_pos c2] at hJ
          refine m_iconst (v := 1) dX1_can_128 (by decide) ?_
          refine m_goto (tgt := 133) dX1_can_129 (by decide) ?_
          exact hJ
    · rw [if_pos c1] at h
      refine m_aload_n dX1_can_79 rfl 0 rfl ?_
      obtain ⟨q1, h⟩ := h
      obtain ⟨r2, q3, h⟩ := h
      refine m_getr f_X1_23 rfl dX1_can_80 q1 q3 ?_
      obtain ⟨q4, h⟩ := h
      refine m_geti f_X1_107 rfl dX1_can_83 q4 ?_
      refine m_if_ne (tgt := 114) dX1_can_86 (by decide) (fun c1 => ?_) (fun c1 => ?_)
      · rw [if_neg c1] at h
        refine m_iconst (v := 0) dX1_can_114 (by decide) ?_
        exact m_ireturn dX1_can_115 rfl (by decide) ⟨rfl, _, rfl, h⟩
      · rw [if_pos c1] at h
        refine m_iload_n dX1_can_89 rfl 2 rfl ?_
        refine m_bipush (v := 21) dX1_can_90 (by decide) ?_
        refine m_idiv dX1_can_92 (by decide) ?_
        refine m_iload_n dX1_can_93 rfl 3 rfl ?_
        refine m_bipush (v := 21) dX1_can_94 (by decide) ?_
        refine m_idiv dX1_can_96 (by decide) ?_
        refine m_icmp_ne (tgt := 114) dX1_can_97 (by decide) (fun c1 => ?_) (fun c1 => ?_)
        · rw [if_neg c1] at h
          refine m_iconst (v := 0) dX1_can_114 (by decide) ?_
          exact m_ireturn dX1_can_115 rfl (by decide) ⟨rfl, _, rfl, h⟩
        · rw [if_pos c1] at h
          refine m_iload_n dX1_can_100 rfl 3 rfl ?_
          refine m_bipush (v := 21) dX1_can_101 (by decide) ?_
          refine m_irem dX1_can_103 (by decide) ?_
          refine m_invS (As := [.int ((x3 - x3 / 21 * 21))]) (d' := d) (mc' := 0) (ms' := 0) (rest := []) i_1_walks s_1_walks l_X1_110 dX1_can_104 rfl rfl (Nat.le_of_ble_eq_true rfl) (Nat.le_refl _) ⟨Nat.le_refl _, Nat.le_refl _⟩ (m_Ci h (fun v6 M5 h => ?_))
          show m_W (d + 1) 0 0 yX1_can cX1_can 5 (some .boolean) (m_qi Th Q) 107 [(0, .ref a0), (1, .int x1), (2, .int x2), (3, .int x3), (4, .int x4)] [.int v6] Th M5 0 0
          have hJ : m_W (d + 1) 0 0 yX1_can cX1_can 5 (some .boolean) (m_qi Th Q) 115 [(0, .ref a0), (1, .int x1), (2, .int x2), (3, .int x3), (4, .int x4)] [.int ((if v6 = 0 then 0 else 1))] Th M5 0 0 := by
            exact m_ireturn dX1_can_115 rfl h.1 ⟨rfl, _, rfl, h.2⟩
          refine m_if_eq (tgt := 114) dX1_can_107 (by decide) (fun c1 => ?_) (fun c1 => ?_)
          · simp only [if_pos c1] at hJ
            refine m_iconst (v := 0) dX1_can_114 (by decide) ?_
            exact hJ
          · simp only [if_neg c1] at hJ
            refine m_iconst (v := 1) dX1_can_110 (by decide) ?_
            refine m_goto (tgt := 115) dX1_can_111 (by decide) ?_
            exact hJ
  · rw [if_pos c1] at h
    refine m_iload dX1_can_61 4 rfl ?_
    refine m_bipush (v := 6) dX1_can_63 (by decide) ?_
    have hJ : m_W (d + 1) 0 0 yX1_can cX1_can 5 (some .boolean) (m_qi Th Q) 73 [(0, .ref a0), (1, .int x1), (2, .int x2), (3, .int x3), (4, .int x4)] [.int ((if x4 = 6 then 0 else 1))] Th M 0 0 := by
      exact m_ireturn dX1_can_73 rfl h.1 ⟨rfl, _, rfl, h.2⟩
    refine m_icmp_eq (tgt := 72) dX1_can_65 (by decide) (fun c1 => ?_) (fun c1 => ?_)
    · simp only [if_pos c1] at hJ
      refine m_iconst (v := 0) dX1_can_72 (by decide) ?_
      exact hJ
    · simp only [if_neg c1] at hJ
      refine m_iconst (v := 1) dX1_can_68 (by decide) ?_
      refine m_goto (tgt := 73) dX1_can_69 (by decide) ?_
      exact hJ
set_option maxHeartbeats 4000000 in
set_option maxRecDepth 100000 in
theorem e1_can {d : Nat} {Th : mT} {Q : Int32 → mM → Prop} {a0 : Nat} {x1 : Int32} {x2 : Int32} {x3 : Int32} {M : mM} (h : ∀ xv1 : Int32, xv1 = (x2 - x2 / 21 * 21) → if 6 < xv1 then (H1_can_18 (d + 1) Th Q x1 xv1 M) else (if x1 = (-1) then (H1_can_18 (d + 1) Th Q x1 xv1 M) else (if x1 < 2 then (H1_can_57 (d + 1) Th Q a0 x1 x2 x3 xv1 M) else (Th.2.2 a0 = some (.inl 1) ∧ (if ((((M).1 a0 6) >>> ((x1 - 2) &&& 31)) &&& 1) = 1 then (Q 0 M) else (H1_can_57 (d + 1) Th Q a0 x1 x2 x3 xv1 M)))))) : P1_can (d + 1) Th a0 x1 x2 x3 M Q := by
  refine m_C.of (by decide +kernel) (Nat.le_of_ble_eq_true rfl) ?_
  show m_W (d + 1) 0 0 yX1_can cX1_can 5 (some .boolean) (m_qi Th Q) 0 [(0, .ref a0), (1, .int x1), (2, .int x2), (3, .int x3)] [] Th M 0 0
  refine m_iload_n dX1_can_0 rfl 2 rfl ?_
  refine m_bipush (v := 21) dX1_can_1 (by decide) ?_
  refine m_irem dX1_can_3 (by decide) ?_
  obtain ⟨xv1, e_xv1⟩ : ∃ xv1 : Int32, xv1 = (x2 - x2 / 21 * 21) := ⟨_, rfl⟩
  have h := h xv1 e_xv1
  rw [← e_xv1]
  refine m_istore (lv' := [(4, .int xv1), (0, .ref a0), (1, .int x1), (2, .int x2), (3, .int x3)]) dX1_can_4 (by decide) rfl ?_
  refine m_iload dX1_can_6 0 rfl ?_
  refine m_bipush (v := 6) dX1_can_8 (by decide) ?_
  refine m_icmp_gt (tgt := 18) dX1_can_10 (by decide) (fun c1 => ?_) (fun c1 => ?_)
  · rw [if_pos c1] at h
    exact m_sub [2, 0] rfl h
  · rw [if_neg c1] at h
    refine m_iload_n dX1_can_13 rfl 2 rfl ?_
    refine m_iconst (v := (-1)) dX1_can_14 (by decide) ?_
    refine m_icmp_ne (tgt := 36) dX1_can_15 (by decide) (fun c1 => ?_) (fun c1 => ?_)
    · rw [if_neg c1] at h
      refine m_iload_n dX1_can_36 rfl 2 rfl ?_
      refine m_iconst (v := 2) dX1_can_37 (by decide) ?_
      refine m_icmp_lt (tgt := 57) dX1_can_38 (by decide) (fun c1 => ?_) (fun c1 => ?_)
      · rw [if_pos c1] at h
        exact m_sub [1, 2, 3, 4, 0] rfl h
      · rw [if_neg c1] at h
        refine m_aload_n dX1_can_41 rfl 1 rfl ?_
        obtain ⟨q2, h⟩ := h
        refine m_geti f_X1_37 rfl dX1_can_42 q2 ?_
        refine m_iload_n dX1_can_45 rfl 2 rfl ?_
        refine m_iconst (v := 2) dX1_can_46 (by decide) ?_
        refine m_isub dX1_can_47 ?_
        refine m_ishr dX1_can_48 ?_
        refine m_iconst (v := 1) dX1_can_49 (by decide) ?_
        refine m_iand dX1_can_50 ?_
        refine m_iconst (v := 1) dX1_can_51 (by decide) ?_
        refine m_icmp_ne (tgt := 57) dX1_can_52 (by decide) (fun c1 => ?_) (fun c1 => ?_)
        · rw [if_neg c1] at h
          exact m_sub [1, 2, 3, 4, 0] rfl h
        · rw [if_pos c1] at h
          refine m_iconst (v := 0) dX1_can_55 (by decide) ?_
          exact m_ireturn dX1_can_56 rfl (by decide) ⟨rfl, _, rfl, h⟩
    · rw [if_pos c1] at h
      exact m_sub [2, 0] rfl h
set_option maxHeartbeats 4000000 in
set_option maxRecDepth 100000 in
theorem h1_doing_111 {d : Nat} {Th : mT} {Q : Int64 → mM → Prop} {s0 : Int32} {s1 : Int32} {s2 : Int32} {s3 : Int32} {s4 : Nat} {s5 : Int64} {M : mM} (h : Th.2.2 s4 = some (.inl 1) ∧ (P1_against d Th s4 s3 s2 s1 s0 M (fun (v2 : Int64) (M1 : mM) => Q ((s5 * v2)) M1))) : H1_doing_111 (d + 1) Th Q s0 s1 s2 s3 s4 s5 M := by
  show m_W (d + 1) 0 0 yX1_doing cX1_doing 8 (some .long) (m_ql Th Q) 111 [] [.int s0, .int s1, .int s2, .int s3, .ref s4, .long s5] Th M 0 0
  obtain ⟨q3, h⟩ := h
  refine m_invV (ci := 1) (As := [.int s3, .int s2, .int s1, .int s0]) (d' := d) (mc' := 0) (ms' := 0) (rest := [.long s5]) i_1_against v_1_against t_1_against l_X1_124 ⟨_, _, rfl⟩ dX1_doing_111 rfl rfl q3 (Nat.le_of_ble_eq_true rfl) (Nat.le_refl _) ⟨Nat.le_refl _, Nat.le_refl _⟩ (m_Cl h (fun v2 M1 h => ?_))
  show m_W (d + 1) 0 0 yX1_doing cX1_doing 8 (some .long) (m_ql Th Q) 114 [] [.long v2, .long s5] Th M1 0 0
  refine m_lmul dX1_doing_114 ?_
  exact m_lreturn dX1_doing_115 rfl ⟨rfl, _, rfl, h⟩
set_option maxHeartbeats 4000000 in
set_option maxRecDepth 100000 in
theorem e1_doing {d : Nat} {Th : mT} {Q : Int64 → mM → Prop} {a0 : Nat} {x1 : Int32} {x2 : Int32} {x3 : Int32} {x4 : Int32} {M : mM} (h : ∀ xv1 : Int32, xv1 = (x3 / 21) → ∀ xv2 : Int32, xv2 = (x3 - x3 / 21 * 21) → ∀ xv3 : Int32, xv3 = (if xv1 = (x4 / 21) then 1 else 0) → if x1 = (-1) then (Th.2.2 a0 = some (.inl 1) ∧ (P1_goOn d Th a0 x3 M (fun (v5 : Int32) (M4 : mM) => P1_against d Th a0 x2 v5 x4 0 M4 (fun (v8 : Int64) (M7 : mM) => Q ((8 * v8)) M7)))) else (if x1 = 0 then (Th.2.2 a0 = some (.inl 1) ∧ (P1_thinking d Th a0 x2 x3 x4 M (fun (v10 : Int64) (M9 : mM) => Q v10 M9))) else (if x1 = 1 then (Th.2.2 a0 = some (.inl 1) ∧ (∃ r13 : Nat, M.2.2 a0 1 = some r13 ∧ (Th.2.2 r13 = some (.inl 8) ∧ (P8_stepsFrom d Th r13 xv1 M (fun (v16 : Int32) (M15 : mM) => P1_walkOn d Th a0 xv1 ((v16 - 1)) M15 (fun (v19 : Int32) (M18 : mM) => if xv3 = 0 then (H1_doing_111 (d + 1) Th Q 0 x4 v19 x2 a0 8 M18) else (H1_doing_111 (d + 1) Th Q 1 x4 v19 x2 a0 8 M18))))))) else (if x1 = 3 then (Th.2.2 a0 = some (.inl 1) ∧ (∃ r21 : Nat, M.2.2 a0 1 = some r21 ∧ (Th.2.2 r21 = some (.inl 8) ∧ (P8_stepsFrom d Th r21 xv1 M (fun (v24 : Int32) (M23 : mM) => P1_walkOn d Th a0 xv1 ((v24 - 1)) M23 (fun (v27 : Int32) (M26 : mM) => if xv3 = 0 then (H1_doing_111 (d + 1) Th Q 0 x4 v27 x2 a0 8 M26) else (H1_doing_111 (d + 1) Th Q 1 x4 v27 x2 a0 8 M26))))))) else (if x1 = 4 then (Th.2.2 a0 = some (.inl 1) ∧ (∃ r29 : Nat, M.2.2 a0 0 = some r29 ∧ (Th.2.2 r29 = some (.inl 2) ∧ (P1_strayOn d Th xv1 ((((M).1 r29 2) - 1)) ((if xv2 = 6 then 1 else 0)) M (fun (v33 : Int32) (M32 : mM) => P1_against d Th a0 x2 v33 x4 ((if xv3 = 0 then 0 else 2)) M32 (fun (v35 : Int64) (M34 : mM) => Q ((8 * v35)) M34)))))) else (Th.2.2 a0 = some (.inl 1) ∧ (P1_against d Th a0 x2 x3 x4 0 M (fun (v37 : Int64) (M36 : mM) => Q ((8 * v37)) M36)))))))) : P1_doing (d + 1) Th a0 x1 x2 x3 x4 M Q := by
  refine m_C.of (by decide +kernel) (Nat.le_of_ble_eq_true rfl) ?_
  show m_W (d + 1) 0 0 yX1_doing cX1_doing 8 (some .long) (m_ql Th Q) 0 [(0, .ref a0), (1, .int x1), (2, .int x2), (3, .int x3), (4, .int x4)] [] Th M 0 0
  refine m_iload_n dX1_doing_0 rfl 3 rfl ?_
  refine m_bipush (v := 21) dX1_doing_1 (by decide) ?_
  refine m_idiv dX1_doing_3 (by decide) ?_
  obtain ⟨xv1, e_xv1⟩ : ∃ xv1 : Int32, xv1 = (x3 / 21) := ⟨_, rfl⟩
  have h := h xv1 e_xv1
  rw [← e_xv1]
  refine m_istore (lv' := [(5, .int xv1), (0, .ref a0), (1, .int x1), (2, .int x2), (3, .int x3), (4, .int x4)]) dX1_doing_4 (by decide) rfl ?_
  refine m_iload_n dX1_doing_6 rfl 4 rfl ?_
  refine m_bipush (v := 21) dX1_doing_7 (by decide) ?_
  refine m_irem dX1_doing_9 (by decide) ?_
  obtain ⟨xv2, e_xv2⟩ : ∃ xv2 : Int32, xv2 = (x3 - x3 / 21 * 21) := ⟨_, rfl⟩
  have h := h xv2 e_xv2
  rw [← e_xv2]
  refine m_istore (lv' := [(6, .int xv2), (5, .int xv1), (0, .ref a0), (1, .int x1), (2, .int x2), (3, .int x3), (4, .int x4)]) dX1_doing_10 (by decide) rfl ?_
  refine m_iload dX1_doing_12 1 rfl ?_
  refine m_iload dX1_doing_14 6 rfl ?_
  refine m_bipush (v := 21) dX1_doing_16 (by decide) ?_
  refine m_idiv dX1_doing_18 (by decide) ?_
  have hJ : m_W (d + 1) 0 0 yX1_doing cX1_doing 8 (some .long) (m_ql Th Q) 27 [(6, .int xv2), (5, .int xv1), (0, .ref a0), (1, .int x1), (2, .int x2), (3, .int x3), (4, .int x4)] [.int ((if xv1 = (x4 / 21) then 1 else 0))] Th M 0 0 := by
    obtain ⟨xv3, e_xv3⟩ : ∃ xv3 : Int32, xv3 = (if xv1 = (x4 / 21) then 1 else 0) := ⟨_, rfl⟩
    have h := h xv3 e_xv3
    rw [← e_xv3]
    refine m_istore (lv' := [(7, .int xv3), (6, .int xv2), (5, .int xv1), (0, .ref a0), (1, .int x1), (2, .int x2), (3, .int x3), (4, .int x4)]) dX1_doing_27 (by decide) rfl ?_
    refine m_iload_n dX1_doing_29 rfl 4 rfl ?_
    by_cases c0 : x1 = (-1)
    · rw [if_pos c0] at h
      refine m_tableIn (off := 134) (tgt := 164) dX1_doing_30 (by rw [c0]; decide) (by rw [c0]; decide) (by rw [c0]; decide) (by decide) ?_
      refine m_ldc2 k_X1_116 dX1_doing_164 ?_
      refine m_aload_n dX1_doing_167 rfl 3 rfl ?_
      refine m_iload_n dX1_doing_168 rfl 5 rfl ?_
      refine m_aload_n dX1_doing_169 rfl 3 rfl ?_
      refine m_iload_n dX1_doing_170 rfl 6 rfl ?_
      obtain ⟨q6, h⟩ := h
      refine m_invV (ci := 1) (As := [.int x3]) (d' := d) (mc' := 0) (ms' := 0) (rest := [.int x2, .ref a0, .long 8]) i_1_goOn v_1_goOn t_1_goOn l_X1_134 ⟨_, _, rfl⟩ dX1_doing_171 rfl rfl q6 (Nat.le_of_ble_eq_true rfl) (Nat.le_refl _) ⟨Nat.le_refl _, Nat.le_refl _⟩ (m_Ci h (fun v5 M4 h => ?_))
      show m_W (d + 1) 0 0 yX1_doing cX1_doing 8 (some .long) (m_ql Th Q) 174 [(7, .int xv3), (6, .int xv2), (5, .int xv1), (0, .ref a0), (1, .int x1), (2, .int x2), (3, .int x3), (4, .int x4)] [.int v5, .int x2, .ref a0, .long 8] Th M4 0 0
      refine m_iload dX1_doing_174 7 rfl ?_
      refine m_iconst (v := 0) dX1_doing_176 (by decide) ?_
      refine m_invV (ci := 1) (As := [.int x2, .int v5, .int x4, .int 0]) (d' := d) (mc' := 0) (ms' := 0) (rest := [.long 8]) i_1_against v_1_against t_1_against l_X1_124 ⟨_, _, rfl⟩ dX1_doing_177 rfl rfl q6 (Nat.le_of_ble_eq_true rfl) (Nat.le_refl _) ⟨Nat.le_refl _, Nat.le_refl _⟩ (m_Cl h (fun v8 M7 h => ?_))
      show m_W (d + 1) 0 0 yX1_doing cX1_doing 8 (some .long) (m_ql Th Q) 180 [(7, .int xv3), (6, .int xv2), (5, .int xv1), (0, .ref a0), (1, .int x1), (2, .int x2), (3, .int x3), (4, .int x4)] [.long v8, .long 8] Th M7 0 0
      refine m_lmul dX1_doing_180 ?_
      exact m_lreturn dX1_doing_181 rfl ⟨rfl, _, rfl, h⟩
    rw [if_neg c0] at h
    by_cases c1 : x1 = 0
    · rw [if_pos c1] at h
      refine m_tableIn (off := 38) (tgt := 68) dX1_doing_30 (by rw [c1]; decide) (by rw [c1]; decide) (by rw [c1]; decide) (by decide) ?_
      refine m_aload_n dX1_doing_68 rfl 3 rfl ?_
      refine m_iload_n dX1_doing_69 rfl 5 rfl ?_
      refine m_iload_n dX1_doing_70 rfl 6 rfl ?_
      refine m_iload dX1_doing_71 7 rfl ?_
      obtain ⟨q11, h⟩ := h
      refine m_invV (ci := 1) (As := [.int x2, .int x3, .int x4]) (d' := d) (mc' := 0) (ms' := 0) (rest := []) i_1_thinking v_1_thinking t_1_thinking l_X1_113 ⟨_, _, rfl⟩ dX1_doing_73 rfl rfl q11 (Nat.le_of_ble_eq_true rfl) (Nat.le_refl _) ⟨Nat.le_refl _, Nat.le_refl _⟩ (m_Cl h (fun v10 M9 h => ?_))
      show m_W (d + 1) 0 0 yX1_doing cX1_doing 8 (some .long) (m_ql Th Q) 76 [(7, .int xv3), (6, .int xv2), (5, .int xv1), (0, .ref a0), (1, .int x1), (2, .int x2), (3, .int x3), (4, .int x4)] [.long v10] Th M9 0 0
      exact m_lreturn dX1_doing_76 rfl ⟨rfl, _, rfl, h⟩
    rw [if_neg c1] at h
    by_cases c2 : x1 = 1
    · rw [if_pos c2] at h
      refine m_tableIn (off := 47) (tgt := 77) dX1_doing_30 (by rw [c2]; decide) (by rw [c2]; decide) (by rw [c2]; decide) (by decide) ?_
      refine m_ldc2 k_X1_116 dX1_doing_77 ?_
      refine m_aload_n dX1_doing_80 rfl 3 rfl ?_
      refine m_iload_n dX1_doing_81 rfl 5 rfl ?_
      refine m_aload_n dX1_doing_82 rfl 3 rfl ?_
      refine m_iload dX1_doing_83 2 rfl ?_
      refine m_aload_n dX1_doing_85 rfl 3 rfl ?_
      obtain ⟨q12, h⟩ := h
      obtain ⟨r13, q14, h⟩ := h
      refine m_getr f_X1_30 rfl dX1_doing_86 q12 q14 ?_
      refine m_iload dX1_doing_89 2 rfl ?_
      obtain ⟨q17, h⟩ := h
      refine m_invV (ci := 8) (As := [.int xv1]) (d' := d) (mc' := 0) (ms' := 0) (rest := [.int xv1, .ref a0, .int x2, .ref a0, .long 8]) i_8_stepsFrom v_8_stepsFrom t_8_stepsFrom l_X1_118 ⟨_, _, rfl⟩ dX1_doing_91 rfl rfl q17 (Nat.le_of_ble_eq_true rfl) (Nat.le_refl _) ⟨Nat.le_refl _, Nat.le_refl _⟩ (m_Ci h (fun v16 M15 h => ?_))
      show m_W (d + 1) 0 0 yX1_doing cX1_doing 8 (some .long) (m_ql Th Q) 94 [(7, .int xv3), (6, .int xv2), (5, .int xv1), (0, .ref a0), (1, .int x1), (2, .int x2), (3, .int x3), (4, .int x4)] [.int v16, .int xv1, .ref a0, .int x2, .ref a0, .long 8] Th M15 0 0
      refine m_iconst (v := 1) dX1_doing_94 (by decide) ?_
      refine m_isub dX1_doing_95 ?_
      refine m_invV (ci := 1) (As := [.int xv1, .int ((v16 - 1))]) (d' := d) (mc' := 0) (ms' := 0) (rest := [.int x2, .ref a0, .long 8]) i_1_walkOn v_1_walkOn t_1_walkOn l_X1_121 ⟨_, _, rfl⟩ dX1_doing_96 rfl rfl q12 (Nat.le_of_ble_eq_true rfl) (Nat.le_refl _) ⟨Nat.le_refl _, Nat.le_refl _⟩ (m_Ci h (fun v19 M18 h => ?_))
      show m_W (d + 1) 0 0 yX1_doing cX1_doing 8 (some .long) (m_ql Th Q) 99 [(7, .int xv3), (6, .int xv2), (5, .int xv1), (0, .ref a0), (1, .int x1), (2, .int x2), (3, .int x3), (4, .int x4)] [.int v19, .int x2, .ref a0, .long 8] Th M18 0 0
      refine m_iload dX1_doing_99 7 rfl ?_
      refine m_iload dX1_doing_101 0 rfl ?_
      refine m_if_eq (tgt := 110) dX1_doing_103 (by decide) (fun c1 => ?_) (fun c1 => ?_)
      · rw [if_pos c1] at h
        refine m_iconst (v := 0) dX1_doing_110 (by decide) ?_
        exact m_sub [] rfl h
      · rw [if_neg c1] at h
        refine m_iconst (v := 1) dX1_doing_106 (by decide) ?_
        refine m_goto (tgt := 111) dX1_doing_107 (by decide) ?_
        exact m_sub [] rfl h
    rw [if_neg c2] at h
    by_cases c3 : x1 = 3
    · rw [if_pos c3] at h
      refine m_tableIn (off := 47) (tgt := 77) dX1_doing_30 (by rw [c3]; decide) (by rw [c3]; decide) (by rw [c3]; decide) (by decide) ?_
      refine m_ldc2 k_X1_116 dX1_doing_77 ?_
      refine m_aload_n dX1_doing_80 rfl 3 rfl ?_
      refine m_iload_n dX1_doing_81 rfl 5 rfl ?_
      refine m_aload_n dX1_doing_82 rfl 3 rfl ?_
      refine m_iload dX1_doing_83 2 rfl ?_
      refine m_aload_n dX1_doing_85 rfl 3 rfl ?_
      obtain ⟨q20, h⟩ := h
      obtain ⟨r21, q22, h⟩ := h
      refine m_getr f_X1_30 rfl dX1_doing_86 q20 q22 ?_
      refine m_iload dX1_doing_89 2 rfl ?_
      obtain ⟨q25, h⟩ := h
      refine m_invV (ci := 8) (As := [.int xv1]) (d' := d) (mc' := 0) (ms' := 0) (rest := [.int xv1, .ref a0, .int x2, .ref a0, .long 8]) i_8_stepsFrom v_8_stepsFrom t_8_stepsFrom l_X1_118 ⟨_, _, rfl⟩ dX1_doing_91 rfl rfl q25 (Nat.le_of_ble_eq_true rfl) (Nat.le_refl _) ⟨Nat.le_refl _, Nat.le_refl _⟩ (m_Ci h (fun v24 M23 h => ?_))
      show m_W (d + 1) 0 0 yX1_doing cX1_doing 8 (some .long) (m_ql Th Q) 94 [(7, .int xv3), (6, .int xv2), (5, .int xv1), (0, .ref a0), (1, .int x1), (2, .int x2), (3, .int x3), (4, .int x4)] [.int v24, .int xv1, .ref a0, .int x2, .ref a0, .long 8] Th M23 0 0
      refine m_iconst (v := 1) dX1_doing_94 (by decide) ?_
      refine m_isub dX1_doing_95 ?_
      refine m_invV (ci := 1) (As := [.int xv1, .int ((v24 - 1))]) (d' := d) (mc' := 0) (ms' := 0) (rest := [.int x2, .ref a0, .long 8]) i_1_walkOn v_1_walkOn t_1_walkOn l_X1_121 ⟨_, _, rfl⟩ dX1_doing_96 rfl rfl q20 (Nat.le_of_ble_eq_true rfl) (Nat.le_refl _) ⟨Nat.le_refl _, Nat.le_refl _⟩ (m_Ci h (fun v27 M26 h => ?_))
      show m_W (d + 1) 0 0 yX1_doing cX1_doing 8 (some .long) (m_ql Th Q) 99 [(7, .int xv3), (6, .int xv2), (5, .int xv1), (0, .ref a0), (1, .int x1), (2, .int x2), (3, .int x3), (4, .int x4)] [.int v27, .int x2, .ref a0, .long 8] Th M26 0 0
      refine m_iload dX1_doing_99 7 rfl ?_
      refine m_iload dX1_doing_101 0 rfl ?_
      refine m_if_eq (tgt := 110) dX1_doing_103 (by decide) (fun c1 => ?_) (fun c1 => ?_)
      · rw [if_pos c1] at h
        refine m_iconst (v := 0) dX1_doing_110 (by decide) ?_
        exact m_sub [] rfl h
      · rw [if_neg c1] at h
        refine m_iconst (v := 1) dX1_doing_106 (by decide) ?_
        refine m_goto (tgt := 111) dX1_doing_107 (by decide) ?_
        exact m_sub [] rfl h
    rw [if_neg c3] at h
    by_cases c4 : x1 = 4
    · rw [if_pos c4] at h
      refine m_tableIn (off := 86) (tgt := 116) dX1_doing_30 (by rw [c4]; decide) (by rw [c4]; decide) (by rw [c4]; decide) (by decide) ?_
      refine m_ldc2 k_X1_116 dX1_doing_116 ?_
      refine m_aload_n dX1_doing_119 rfl 3 rfl ?_
      refine m_iload_n dX1_doing_120 rfl 5 rfl ?_
      refine m_iload dX1_doing_121 2 rfl ?_
      refine m_aload_n dX1_doing_123 rfl 3 rfl ?_
      obtain ⟨q28, h⟩ := h
      obtain ⟨r29, q30, h⟩ := h
      refine m_getr f_X1_23 rfl dX1_doing_124 q28 q30 ?_
      obtain ⟨q31, h⟩ := h
      refine m_geti f_X1_127 rfl dX1_doing_127 q31 ?_
      refine m_iconst (v := 1) dX1_doing_130 (by decide) ?_
      refine m_isub dX1_doing_131 ?_
      refine m_iload dX1_doing_132 1 rfl ?_
      refine m_bipush (v := 6) dX1_doing_134 (by decide) ?_
      have hJ : m_W (d + 1) 0 0 yX1_doing cX1_doing 8 (some .long) (m_ql Th Q) 144 [(7, .int xv3), (6, .int xv2), (5, .int xv1), (0, .ref a0), (1, .int x1), (2, .int x2), (3, .int x3), (4, .int x4)] [.int ((if xv2 = 6 then 1 else 0)), .int ((((M).1 r29 2) - 1)), .int xv1, .int x2, .ref a0, .long 8] Th M 0 0 := by
        refine m_invS (As := [.int xv1, .int ((((M).1 r29 2) - 1)), .int ((if xv2 = 6 then 1 else 0))]) (d' := d) (mc' := 0) (ms' := 0) (rest := [.int x2, .ref a0, .long 8]) i_1_strayOn s_1_strayOn l_X1_130 dX1_doing_144 rfl rfl (Nat.le_of_ble_eq_true rfl) (Nat.le_refl _) ⟨Nat.le_refl _, Nat.le_refl _⟩ (m_Ci h (fun v33 M32 h => ?_))
        show m_W (d + 1) 0 0 yX1_doing cX1_doing 8 (some .long) (m_ql Th Q) 147 [(7, .int xv3), (6, .int xv2), (5, .int xv1), (0, .ref a0), (1, .int x1), (2, .int x2), (3, .int x3), (4, .int x4)] [.int v33, .int x2, .ref a0, .long 8] Th M32 0 0
        refine m_iload dX1_doing_147 7 rfl ?_
        refine m_iload dX1_doing_149 0 rfl ?_
        have hJ : m_W (d + 1) 0 0 yX1_doing cX1_doing 8 (some .long) (m_ql Th Q) 159 [(7, .int xv3), (6, .int xv2), (5, .int xv1), (0, .ref a0), (1, .int x1), (2, .int x2), (3, .int x3), (4, .int x4)] [.int ((if xv3 = 0 then 0 else 2)), .int x4, .int v33, .int x2, .ref a0, .long 8] Th M32 0 0 := by
          refine m_invV (ci := 1) (As := [.int x2, .int v33, .int x4, .int ((if xv3 = 0 then 0 else 2))]) (d' := d) (mc' := 0) (ms' := 0) (rest := [.long 8]) i_1_against v_1_against t_1_against l_X1_124 ⟨_, _, rfl⟩ dX1_doing_159 rfl rfl q28 (Nat.le_of_ble_eq_true rfl) (Nat.le_refl _) ⟨Nat.le_refl _, Nat.le_refl _⟩ (m_Cl h (fun v35 M34 h => ?_))
          show m_W (d + 1) 0 0 yX1_doing cX1_doing 8 (some .long) (m_ql Th Q) 162 [(7, .int xv3), (6, .int xv2), (5, .int xv1), (0, .ref a0), (1, .int x1), (2, .int x2), (3, .int x3), (4, .int x4)] [.long v35, .long 8] Th M34 0 0
          refine m_lmul dX1_doing_162 ?_
          exact m_lreturn dX1_doing_163 rfl ⟨rfl, _, rfl, h⟩
        refine m_if_eq (tgt := 158) dX1_doing_151 (by decide) (fun c1 => ?_) (fun c1 => ?_)
        · simp only [if_pos c1] at hJ
          refine m_iconst (v := 0) dX1_doing_158 (by decide) ?_
          exact hJ
        · simp only [if_neg c1] at hJ
          refine m_iconst (v := 2) dX1_doing_154 (by decide) ?_
          refine m_goto (tgt := 159) dX1_doing_155 (by decide) ?_
          exact hJ
      refine m_icmp_ne (tgt := 143) dX1_doing_136 (by decide) (fun c1 => ?_) (fun c1 => ?_)
      · simp only [if_neg c1] at hJ
        refine m_iconst (v := 0) dX1_doing_143 (by decide) ?_
        exact hJ
      · simp only [if_pos c1] at hJ
        refine m_iconst (v := 1) dX1_doing_139 (by decide) ?_
        refine m_goto (tgt := 144) dX1_doing_140 (by decide) ?_
        exact hJ
    rw [if_neg c4] at h
    by_cases g3 : x1 = 2
    · refine m_tableIn (off := 152) (tgt := 182) dX1_doing_30 (by rw [g3]; decide) (by rw [g3]; decide) (by rw [g3]; decide) (by decide) ?_
      refine m_ldc2 k_X1_116 dX1_doing_182 ?_
      refine m_aload_n dX1_doing_185 rfl 3 rfl ?_
      refine m_iload_n dX1_doing_186 rfl 5 rfl ?_
      refine m_iload_n dX1_doing_187 rfl 6 rfl ?_
      refine m_iload dX1_doing_188 7 rfl ?_
      refine m_iconst (v := 0) dX1_doing_190 (by decide) ?_
      obtain ⟨q38, h⟩ := h
      refine m_invV (ci := 1) (As := [.int x2, .int x3, .int x4, .int 0]) (d' := d) (mc' := 0) (ms' := 0) (rest := [.long 8]) i_1_against v_1_against t_1_against l_X1_124 ⟨_, _, rfl⟩ dX1_doing_191 rfl rfl q38 (Nat.le_of_ble_eq_true rfl) (Nat.le_refl _) ⟨Nat.le_refl _, Nat.le_refl _⟩ (m_Cl h (fun v37 M36 h => ?_))
      show m_W (d + 1) 0 0 yX1_doing cX1_doing 8 (some .long) (m_ql Th Q) 194 [(7, .int xv3), (6, .int xv2), (5, .int xv1), (0, .ref a0), (1, .int x1), (2, .int x2), (3, .int x3), (4, .int x4)] [.long v37, .long 8] Th M36 0 0
      refine m_lmul dX1_doing_194 ?_
      exact m_lreturn dX1_doing_195 rfl ⟨rfl, _, rfl, h⟩
    refine m_tableOut (tgt := 182) dX1_doing_30 (m_sw (-1) 4 (fun k h1 h2 => by have hk : k = -1 ∨ k = 0 ∨ k = 1 ∨ k = 2 ∨ k = 3 ∨ k = 4 := (by omega); rcases hk with rfl | rfl | rfl | rfl | rfl | rfl <;> first | exact c0 | exact c1 | exact c2 | exact g3 | exact c3 | exact c4)) (by decide) ?_
    refine m_ldc2 k_X1_116 dX1_doing_182 ?_
    refine m_aload_n dX1_doing_185 rfl 3 rfl ?_
    refine m_iload_n dX1_doing_186 rfl 5 rfl ?_
    refine m_iload_n dX1_doing_187 rfl 6 rfl ?_
    refine m_iload dX1_doing_188 7 rfl ?_
    refine m_iconst (v := 0) dX1_doing_190 (by decide) ?_
    obtain ⟨q38, h⟩ := h
    refine m_invV (ci := 1) (As := [.int x2, .int x3, .int x4, .int 0]) (d' := d) (mc' := 0) (ms' := 0) (rest := [.long 8]) i_1_against v_1_against t_1_against l_X1_124 ⟨_, _, rfl⟩ dX1_doing_191 rfl rfl q38 (Nat.le_of_ble_eq_true rfl) (Nat.le_refl _) ⟨Nat.le_refl _, Nat.le_refl _⟩ (m_Cl h (fun v37 M36 h => ?_))
    show m_W (d + 1) 0 0 yX1_doing cX1_doing 8 (some .long) (m_ql Th Q) 194 [(7, .int xv3), (6, .int xv2), (5, .int xv1), (0, .ref a0), (1, .int x1), (2, .int x2), (3, .int x3), (4, .int x4)] [.long v37, .long 8] Th M36 0 0
    refine m_lmul dX1_doing_194 ?_
    exact m_lreturn dX1_doing_195 rfl ⟨rfl, _, rfl, h⟩
  refine m_icmp_ne (tgt := 26) dX1_doing_19 (by decide) (fun c1 => ?_) (fun c1 => ?_)
  · simp only [if_neg c1] at hJ
    refine m_iconst (v := 0) dX1_doing_26 (by decide) ?_
    exact hJ
  · simp only [if_pos c1] at hJ
    refine m_iconst (v := 1) dX1_doing_22 (by decide) ?_
    refine m_goto (tgt := 27) dX1_doing_23 (by decide) ?_
    exact hJ
set_option maxHeartbeats 4000000 in
set_option maxRecDepth 100000 in
theorem h1_thinking_70 {d : Nat} {Th : mT} {Q : Int64 → mM → Prop} {a0 : Nat} {x1 : Int32} {x3 : Int32} {x4 : Int32} {x5 : Int32} {x6 : Int32} {x7 : Int32} {l8 : Int64} {M : mM} (h : if x7 ≤ 0 then (H1_thinking_104 (d + 1) Th Q a0 x1 x3 x4 x5 x6 x7 l8 M) else (Th.2.2 a0 = some (.inl 1) ∧ (∃ r2 : Nat, M.2.2 a0 0 = some r2 ∧ (Th.2.2 r2 = some (.inl 2) ∧ (P1_strayOn d Th x4 (((M).1 r2 2)) 0 M (fun (v6 : Int32) (M5 : mM) => P1_against d Th a0 x1 v6 x3 0 M5 (fun (v8 : Int64) (M7 : mM) => ∀ lv9 : Int64, lv9 = (l8 + ((x7 : Int32).toInt64 * v8)) → H1_thinking_104 (d + 1) Th Q a0 x1 x3 x4 x5 x6 x7 lv9 M7))))))) : H1_thinking_70 (d + 1) Th Q a0 x1 x3 x4 x5 x6 x7 l8 M := by
  show m_W (d + 1) 0 0 yX1_thinking cX1_thinking 10 (some .long) (m_ql Th Q) 70 [(0, .ref a0), (1, .int x1), (3, .int x3), (4, .int x4), (5, .int x5), (6, .int x6), (7, .int x7), (8, .long l8)] [] Th M 0 0
  refine m_iload dX1_thinking_70 6 rfl ?_
  refine m_if_le (tgt := 104) dX1_thinking_72 (by decide) (fun c1 => ?_) (fun c1 => ?_)
  · rw [if_pos c1] at h
    exact h
  · rw [if_neg c1] at h
    refine m_lload dX1_thinking_75 7 rfl ?_
    refine m_iload dX1_thinking_77 6 rfl ?_
    refine m_i2l dX1_thinking_79 ?_
    refine m_aload_n dX1_thinking_80 rfl 0 rfl ?_
    refine m_iload_n dX1_thinking_81 rfl 1 rfl ?_
    refine m_iload dX1_thinking_82 3 rfl ?_
    refine m_aload_n dX1_thinking_84 rfl 0 rfl ?_
    obtain ⟨q1, h⟩ := h
    obtain ⟨r2, q3, h⟩ := h
    refine m_getr f_X1_23 rfl dX1_thinking_85 q1 q3 ?_
    obtain ⟨q4, h⟩ := h
    refine m_geti f_X1_127 rfl dX1_thinking_88 q4 ?_
    refine m_iconst (v := 0) dX1_thinking_91 (by decide) ?_
    refine m_invS (As := [.int x4, .int (((M).1 r2 2)), .int 0]) (d' := d) (mc' := 0) (ms' := 0) (rest := [.int x1, .ref a0, .long ((x7 : Int32).toInt64), .long l8]) i_1_strayOn s_1_strayOn l_X1_130 dX1_thinking_92 rfl rfl (Nat.le_of_ble_eq_true rfl) (Nat.le_refl _) ⟨Nat.le_refl _, Nat.le_refl _⟩ (m_Ci h (fun v6 M5 h => ?_))
    show m_W (d + 1) 0 0 yX1_thinking cX1_thinking 10 (some .long) (m_ql Th Q) 95 [(0, .ref a0), (1, .int x1), (3, .int x3), (4, .int x4), (5, .int x5), (6, .int x6), (7, .int x7), (8, .long l8)] [.int v6, .int x1, .ref a0, .long ((x7 : Int32).toInt64), .long l8] Th M5 0 0
    refine m_iload_n dX1_thinking_95 rfl 2 rfl ?_
    refine m_iconst (v := 0) dX1_thinking_96 (by decide) ?_
    refine m_invV (ci := 1) (As := [.int x1, .int v6, .int x3, .int 0]) (d' := d) (mc' := 0) (ms' := 0) (rest := [.long ((x7 : Int32).toInt64), .long l8]) i_1_against v_1_against t_1_against l_X1_124 ⟨_, _, rfl⟩ dX1_thinking_97 rfl rfl q1 (Nat.le_of_ble_eq_true rfl) (Nat.le_refl _) ⟨Nat.le_refl _, Nat.le_refl _⟩ (m_Cl h (fun v8 M7 h => ?_))
    show m_W (d + 1) 0 0 yX1_thinking cX1_thinking 10 (some .long) (m_ql Th Q) 100 [(0, .ref a0), (1, .int x1), (3, .int x3), (4, .int x4), (5, .int x5), (6, .int x6), (7, .int x7), (8, .long l8)] [.long v8, .long ((x7 : Int32).toInt64), .long l8] Th M7 0 0
    refine m_lmul dX1_thinking_100 ?_
    refine m_ladd dX1_thinking_101 ?_
    obtain ⟨lv9, e_lv9⟩ : ∃ lv9 : Int64, lv9 = (l8 + ((x7 : Int32).toInt64 * v8)) := ⟨_, rfl⟩
    have h := h lv9 e_lv9
    rw [← e_lv9]
    refine m_lstore (lv' := [(8, .long lv9), (0, .ref a0), (1, .int x1), (3, .int x3), (4, .int x4), (5, .int x5), (6, .int x6), (7, .int x7)]) dX1_thinking_102 (by decide) rfl ?_
    exact m_sub [1, 2, 3, 4, 5, 6, 7, 0] rfl h
set_option maxHeartbeats 4000000 in
set_option maxRecDepth 100000 in
theorem h1_thinking_104 {d : Nat} {Th : mT} {Q : Int64 → mM → Prop} {a0 : Nat} {x1 : Int32} {x3 : Int32} {x4 : Int32} {x5 : Int32} {x6 : Int32} {x7 : Int32} {l8 : Int64} {M : mM} (h : if 8 ≤ (x6 + x7) then (Q l8 M) else (P1_thoughtOn d Th x4 x5 M (fun (v2 : Int32) (M1 : mM) => Th.2.2 a0 = some (.inl 1) ∧ (P1_against d Th a0 x1 v2 x3 0 M1 (fun (v4 : Int64) (M3 : mM) => ∀ lv6 : Int64, lv6 = (l8 + ((((8 - x6) - x7) : Int32).toInt64 * v4)) → Q lv6 M3))))) : H1_thinking_104 (d + 1) Th Q a0 x1 x3 x4 x5 x6 x7 l8 M := by
  show m_W (d + 1) 0 0 yX1_thinking cX1_thinking 10 (some .long) (m_ql Th Q) 104 [(0, .ref a0), (1, .int x1), (3, .int x3), (4, .int x4), (5, .int x5), (6, .int x6), (7, .int x7), (8, .long l8)] [] Th M 0 0
  refine m_iload dX1_thinking_104 5 rfl ?_
  refine m_iload dX1_thinking_106 6 rfl ?_
  refine m_iadd dX1_thinking_108 ?_
  refine m_bipush (v := 8) dX1_thinking_109 (by decide) ?_
  refine m_icmp_ge (tgt := 143) dX1_thinking_111 (by decide) (fun c1 => ?_) (fun c1 => ?_)
  · rw [if_pos c1] at h
    refine m_lload dX1_thinking_143 7 rfl ?_
    exact m_lreturn dX1_thinking_145 rfl ⟨rfl, _, rfl, h⟩
  · rw [if_neg c1] at h
    refine m_lload dX1_thinking_114 7 rfl ?_
    refine m_bipush (v := 8) dX1_thinking_116 (by decide) ?_
    refine m_iload dX1_thinking_118 5 rfl ?_
    refine m_isub dX1_thinking_120 ?_
    refine m_iload dX1_thinking_121 6 rfl ?_
    refine m_isub dX1_thinking_123 ?_
    refine m_i2l dX1_thinking_124 ?_
    refine m_aload_n dX1_thinking_125 rfl 0 rfl ?_
    refine m_iload_n dX1_thinking_126 rfl 1 rfl ?_
    refine m_iload dX1_thinking_127 3 rfl ?_
    refine m_iload dX1_thinking_129 4 rfl ?_
    refine m_invS (As := [.int x4, .int x5]) (d' := d) (mc' := 0) (ms' := 0) (rest := [.int x1, .ref a0, .long ((((8 - x6) - x7) : Int32).toInt64), .long l8]) i_1_thoughtOn s_1_thoughtOn l_X1_143 dX1_thinking_131 rfl rfl (Nat.le_of_ble_eq_true rfl) (Nat.le_refl _) ⟨Nat.le_refl _, Nat.le_refl _⟩ (m_Ci h (fun v2 M1 h => ?_))
    show m_W (d + 1) 0 0 yX1_thinking cX1_thinking 10 (some .long) (m_ql Th Q) 134 [(0, .ref a0), (1, .int x1), (3, .int x3), (4, .int x4), (5, .int x5), (6, .int x6), (7, .int x7), (8, .long l8)] [.int v2, .int x1, .ref a0, .long ((((8 - x6) - x7) : Int32).toInt64), .long l8] Th M1 0 0
    refine m_iload_n dX1_thinking_134 rfl 2 rfl ?_
    refine m_iconst (v := 0) dX1_thinking_135 (by decide) ?_
    obtain ⟨q5, h⟩ := h
    refine m_invV (ci := 1) (As := [.int x1, .int v2, .int x3, .int 0]) (d' := d) (mc' := 0) (ms' := 0) (rest := [.long ((((8 - x6) - x7) : Int32).toInt64), .long l8]) i_1_against v_1_against t_1_against l_X1_124 ⟨_, _, rfl⟩ dX1_thinking_136 rfl rfl q5 (Nat.le_of_ble_eq_true rfl) (Nat.le_refl _) ⟨Nat.le_refl _, Nat.le_refl _⟩ (m_Cl h (fun v4 M3 h => ?_))
    show m_W (d + 1) 0 0 yX1_thinking cX1_thinking 10 (some .long) (m_ql Th Q) 139 [(0, .ref a0), (1, .int x1), (3, .int x3), (4, .int x4), (5, .int x5), (6, .int x6), (7, .int x7), (8, .long l8)] [.long v4, .long ((((8 - x6) - x7) : Int32).toInt64), .long l8] Th M3 0 0
    refine m_lmul dX1_thinking_139 ?_
    refine m_ladd dX1_thinking_140 ?_
    obtain ⟨lv6, e_lv6⟩ : ∃ lv6 : Int64, lv6 = (l8 + ((((8 - x6) - x7) : Int32).toInt64 * v4)) := ⟨_, rfl⟩
    have h := h lv6 e_lv6
    rw [← e_lv6]
    refine m_lstore (lv' := [(8, .long lv6), (0, .ref a0), (1, .int x1), (3, .int x3), (4, .int x4), (5, .int x5), (6, .int x6), (7, .int x7)]) dX1_thinking_141 (by decide) rfl ?_
    refine m_lload dX1_thinking_143 0 rfl ?_
    exact m_lreturn dX1_thinking_145 rfl ⟨rfl, _, rfl, h⟩
set_option maxHeartbeats 4000000 in
set_option maxRecDepth 100000 in
theorem e1_thinking {d : Nat} {Th : mT} {Q : Int64 → mM → Prop} {a0 : Nat} {x1 : Int32} {x2 : Int32} {x3 : Int32} {M : mM} (h : ∀ xv1 : Int32, xv1 = (x2 / 21) → ∀ xv2 : Int32, xv2 = (x2 - x2 / 21 * 21) → Th.2.2 a0 = some (.inl 1) ∧ (∃ r4 : Nat, M.2.2 a0 1 = some r4 ∧ (Th.2.2 r4 = some (.inl 8) ∧ (P8_goodAt d Th r4 xv1 xv2 M (fun (v7 : Int32) (M6 : mM) => ∃ r9 : Nat, M6.2.2 a0 1 = some r9 ∧ (Th.2.2 r9 = some (.inl 8) ∧ (P8_badAt d Th r9 xv1 xv2 M6 (fun (v12 : Int32) (M11 : mM) => if v7 ≤ 0 then (H1_thinking_70 (d + 1) Th Q a0 x1 x3 xv1 xv2 v7 v12 0 M11) else (P1_against d Th a0 x1 (((xv1 * 21) + 6)) x3 0 M11 (fun (v15 : Int64) (M14 : mM) => ∀ lv16 : Int64, lv16 = (0 + ((v7 : Int32).toInt64 * v15)) → H1_thinking_70 (d + 1) Th Q a0 x1 x3 xv1 xv2 v7 v12 lv16 M14)))))))))) : P1_thinking (d + 1) Th a0 x1 x2 x3 M Q := by
  refine m_C.of (by decide +kernel) (Nat.le_of_ble_eq_true rfl) ?_
  show m_W (d + 1) 0 0 yX1_thinking cX1_thinking 10 (some .long) (m_ql Th Q) 0 [(0, .ref a0), (1, .int x1), (2, .int x2), (3, .int x3)] [] Th M 0 0
  refine m_iload_n dX1_thinking_0 rfl 2 rfl ?_
  refine m_bipush (v := 21) dX1_thinking_1 (by decide) ?_
  refine m_idiv dX1_thinking_3 (by decide) ?_
  obtain ⟨xv1, e_xv1⟩ : ∃ xv1 : Int32, xv1 = (x2 / 21) := ⟨_, rfl⟩
  have h := h xv1 e_xv1
  rw [← e_xv1]
  refine m_istore (lv' := [(4, .int xv1), (0, .ref a0), (1, .int x1), (2, .int x2), (3, .int x3)]) dX1_thinking_4 (by decide) rfl ?_
  refine m_iload_n dX1_thinking_6 rfl 3 rfl ?_
  refine m_bipush (v := 21) dX1_thinking_7 (by decide) ?_
  refine m_irem dX1_thinking_9 (by decide) ?_
  obtain ⟨xv2, e_xv2⟩ : ∃ xv2 : Int32, xv2 = (x2 - x2 / 21 * 21) := ⟨_, rfl⟩
  have h := h xv2 e_xv2
  rw [← e_xv2]
  refine m_istore (lv' := [(5, .int xv2), (4, .int xv1), (0, .ref a0), (1, .int x1), (2, .int x2), (3, .int x3)]) dX1_thinking_10 (by decide) rfl ?_
  refine m_aload_n dX1_thinking_12 rfl 2 rfl ?_
  obtain ⟨q3, h⟩ := h
  obtain ⟨r4, q5, h⟩ := h
  refine m_getr f_X1_30 rfl dX1_thinking_13 q3 q5 ?_
  refine m_iload dX1_thinking_16 1 rfl ?_
  refine m_iload dX1_thinking_18 0 rfl ?_
  obtain ⟨q8, h⟩ := h
  refine m_invV (ci := 8) (As := [.int xv1, .int xv2]) (d' := d) (mc' := 0) (ms' := 0) (rest := []) i_8_goodAt v_8_goodAt t_8_goodAt l_X1_137 ⟨_, _, rfl⟩ dX1_thinking_20 rfl rfl q8 (Nat.le_of_ble_eq_true rfl) (Nat.le_refl _) ⟨Nat.le_refl _, Nat.le_refl _⟩ (m_Ci h (fun v7 M6 h => ?_))
  show m_W (d + 1) 0 0 yX1_thinking cX1_thinking 10 (some .long) (m_ql Th Q) 23 [(5, .int xv2), (4, .int xv1), (0, .ref a0), (1, .int x1), (2, .int x2), (3, .int x3)] [.int v7] Th M6 0 0
  refine m_istore (lv' := [(6, .int v7), (5, .int xv2), (4, .int xv1), (0, .ref a0), (1, .int x1), (2, .int x2), (3, .int x3)]) dX1_thinking_23 (by decide) rfl ?_
  refine m_aload_n dX1_thinking_25 rfl 3 rfl ?_
  obtain ⟨r9, q10, h⟩ := h
  refine m_getr f_X1_30 rfl dX1_thinking_26 q3 q10 ?_
  refine m_iload dX1_thinking_29 2 rfl ?_
  refine m_iload dX1_thinking_31 1 rfl ?_
  obtain ⟨q13, h⟩ := h
  refine m_invV (ci := 8) (As := [.int xv1, .int xv2]) (d' := d) (mc' := 0) (ms' := 0) (rest := []) i_8_badAt v_8_badAt t_8_badAt l_X1_140 ⟨_, _, rfl⟩ dX1_thinking_33 rfl rfl q13 (Nat.le_of_ble_eq_true rfl) (Nat.le_refl _) ⟨Nat.le_refl _, Nat.le_refl _⟩ (m_Ci h (fun v12 M11 h => ?_))
  show m_W (d + 1) 0 0 yX1_thinking cX1_thinking 10 (some .long) (m_ql Th Q) 36 [(6, .int v7), (5, .int xv2), (4, .int xv1), (0, .ref a0), (1, .int x1), (2, .int x2), (3, .int x3)] [.int v12] Th M11 0 0
  refine m_istore (lv' := [(7, .int v12), (6, .int v7), (5, .int xv2), (4, .int xv1), (0, .ref a0), (1, .int x1), (2, .int x2), (3, .int x3)]) dX1_thinking_36 (by decide) rfl ?_
  refine m_lconst (v := 0) dX1_thinking_38 (by decide) ?_
  refine m_lstore (lv' := [(8, .long 0), (7, .int v12), (6, .int v7), (5, .int xv2), (4, .int xv1), (0, .ref a0), (1, .int x1), (2, .int x2), (3, .int x3)]) dX1_thinking_39 (by decide) rfl ?_
  refine m_iload dX1_thinking_41 2 rfl ?_
  refine m_if_le (tgt := 70) dX1_thinking_43 (by decide) (fun c1 => ?_) (fun c1 => ?_)
  · rw [if_pos c1] at h
    exact m_sub [5, 6, 8, 4, 3, 2, 1, 0] rfl h
  · rw [if_neg c1] at h
    refine m_lload dX1_thinking_46 0 rfl ?_
    refine m_iload dX1_thinking_48 2 rfl ?_
    refine m_i2l dX1_thinking_50 ?_
    refine m_aload_n dX1_thinking_51 rfl 5 rfl ?_
    refine m_iload_n dX1_thinking_52 rfl 6 rfl ?_
    refine m_iload dX1_thinking_53 4 rfl ?_
    refine m_bipush (v := 21) dX1_thinking_55 (by decide) ?_
    refine m_imul dX1_thinking_57 ?_
    refine m_bipush (v := 6) dX1_thinking_58 (by decide) ?_
    refine m_iadd dX1_thinking_60 ?_
    refine m_iload_n dX1_thinking_61 rfl 8 rfl ?_
    refine m_iconst (v := 0) dX1_thinking_62 (by decide) ?_
    refine m_invV (ci := 1) (As := [.int x1, .int (((xv1 * 21) + 6)), .int x3, .int 0]) (d' := d) (mc' := 0) (ms' := 0) (rest := [.long ((v7 : Int32).toInt64), .long 0]) i_1_against v_1_against t_1_against l_X1_124 ⟨_, _, rfl⟩ dX1_thinking_63 rfl rfl q3 (Nat.le_of_ble_eq_true rfl) (Nat.le_refl _) ⟨Nat.le_refl _, Nat.le_refl _⟩ (m_Cl h (fun v15 M14 h => ?_))
    show m_W (d + 1) 0 0 yX1_thinking cX1_thinking 10 (some .long) (m_ql Th Q) 66 [(8, .long 0), (7, .int v12), (6, .int v7), (5, .int xv2), (4, .int xv1), (0, .ref a0), (1, .int x1), (2, .int x2), (3, .int x3)] [.long v15, .long ((v7 : Int32).toInt64), .long 0] Th M14 0 0
    refine m_lmul dX1_thinking_66 ?_
    refine m_ladd dX1_thinking_67 ?_
    obtain ⟨lv16, e_lv16⟩ : ∃ lv16 : Int64, lv16 = (0 + ((v7 : Int32).toInt64 * v15)) := ⟨_, rfl⟩
    have h := h lv16 e_lv16
    rw [← e_lv16]
    refine m_lstore (lv' := [(8, .long lv16), (7, .int v12), (6, .int v7), (5, .int xv2), (4, .int xv1), (0, .ref a0), (1, .int x1), (2, .int x2), (3, .int x3)]) dX1_thinking_68 (by decide) rfl ?_
    exact m_sub [5, 6, 8, 4, 3, 2, 1, 0] rfl h
set_option maxHeartbeats 4000000 in
set_option maxRecDepth 100000 in
theorem h1_against_107 {d : Nat} {Th : mT} {Q : Int64 → mM → Prop} {a0 : Nat} {x1 : Int32} {x2 : Int32} {x4 : Int32} {x5 : Int32} {x6 : Int32} {x7 : Int32} {x8 : Int32} {l9 : Int64} {M : mM} (h : if x8 ≤ 0 then (H1_against_144 (d + 1) Th Q a0 x1 x2 x4 x5 x6 x7 x8 l9 M) else (Th.2.2 a0 = some (.inl 1) ∧ (∃ r2 : Nat, M.2.2 a0 0 = some r2 ∧ (Th.2.2 r2 = some (.inl 2) ∧ (P1_strayOn d Th x5 (((M).1 r2 2)) 0 M (fun (v6 : Int32) (M5 : mM) => P1_seen d Th a0 x1 x2 x5 v6 x4 M5 (fun (v8 : Int64) (M7 : mM) => ∀ lv9 : Int64, lv9 = (l9 + ((x8 : Int32).toInt64 * v8)) → H1_against_144 (d + 1) Th Q a0 x1 x2 x4 x5 x6 x7 x8 lv9 M7))))))) : H1_against_107 (d + 1) Th Q a0 x1 x2 x4 x5 x6 x7 x8 l9 M := by
  show m_W (d + 1) 0 0 yX1_against cX1_against 11 (some .long) (m_ql Th Q) 107 [(0, .ref a0), (1, .int x1), (2, .int x2), (4, .int x4), (5, .int x5), (6, .int x6), (7, .int x7), (8, .int x8), (9, .long l9)] [] Th M 0 0
  refine m_iload dX1_against_107 7 rfl ?_
  refine m_if_le (tgt := 144) dX1_against_109 (by decide) (fun c1 => ?_) (fun c1 => ?_)
  · rw [if_pos c1] at h
    exact h
  · rw [if_neg c1] at h
    refine m_lload dX1_against_112 8 rfl ?_
    refine m_iload dX1_against_114 7 rfl ?_
    refine m_i2l dX1_against_116 ?_
    refine m_aload_n dX1_against_117 rfl 0 rfl ?_
    refine m_iload_n dX1_against_118 rfl 1 rfl ?_
    refine m_iload_n dX1_against_119 rfl 2 rfl ?_
    refine m_iload dX1_against_120 4 rfl ?_
    refine m_iload dX1_against_122 4 rfl ?_
    refine m_aload_n dX1_against_124 rfl 0 rfl ?_
    obtain ⟨q1, h⟩ := h
    obtain ⟨r2, q3, h⟩ := h
    refine m_getr f_X1_23 rfl dX1_against_125 q1 q3 ?_
    obtain ⟨q4, h⟩ := h
    refine m_geti f_X1_127 rfl dX1_against_128 q4 ?_
    refine m_iconst (v := 0) dX1_against_131 (by decide) ?_
    refine m_invS (As := [.int x5, .int (((M).1 r2 2)), .int 0]) (d' := d) (mc' := 0) (ms' := 0) (rest := [.int x5, .int x2, .int x1, .ref a0, .long ((x8 : Int32).toInt64), .long l9]) i_1_strayOn s_1_strayOn l_X1_130 dX1_against_132 rfl rfl (Nat.le_of_ble_eq_true rfl) (Nat.le_refl _) ⟨Nat.le_refl _, Nat.le_refl _⟩ (m_Ci h (fun v6 M5 h => ?_))
    show m_W (d + 1) 0 0 yX1_against cX1_against 11 (some .long) (m_ql Th Q) 135 [(0, .ref a0), (1, .int x1), (2, .int x2), (4, .int x4), (5, .int x5), (6, .int x6), (7, .int x7), (8, .int x8), (9, .long l9)] [.int v6, .int x5, .int x2, .int x1, .ref a0, .long ((x8 : Int32).toInt64), .long l9] Th M5 0 0
    refine m_iload dX1_against_135 3 rfl ?_
    refine m_invV (ci := 1) (As := [.int x1, .int x2, .int x5, .int v6, .int x4]) (d' := d) (mc' := 0) (ms' := 0) (rest := [.long ((x8 : Int32).toInt64), .long l9]) i_1_seen v_1_seen t_1_seen l_X1_149 ⟨_, _, rfl⟩ dX1_against_137 rfl rfl q1 (Nat.le_of_ble_eq_true rfl) (Nat.le_refl _) ⟨Nat.le_refl _, Nat.le_refl _⟩ (m_Cl h (fun v8 M7 h => ?_))
    show m_W (d + 1) 0 0 yX1_against cX1_against 11 (some .long) (m_ql Th Q) 140 [(0, .ref a0), (1, .int x1), (2, .int x2), (4, .int x4), (5, .int x5), (6, .int x6), (7, .int x7), (8, .int x8), (9, .long l9)] [.long v8, .long ((x8 : Int32).toInt64), .long l9] Th M7 0 0
    refine m_lmul dX1_against_140 ?_
    refine m_ladd dX1_against_141 ?_
    obtain ⟨lv9, e_lv9⟩ : ∃ lv9 : Int64, lv9 = (l9 + ((x8 : Int32).toInt64 * v8)) := ⟨_, rfl⟩
    have h := h lv9 e_lv9
    rw [← e_lv9]
    refine m_lstore (lv' := [(9, .long lv9), (0, .ref a0), (1, .int x1), (2, .int x2), (4, .int x4), (5, .int x5), (6, .int x6), (7, .int x7), (8, .int x8)]) dX1_against_142 (by decide) rfl ?_
    exact m_sub [1, 2, 3, 4, 5, 6, 7, 8, 0] rfl h
set_option maxHeartbeats 4000000 in
set_option maxRecDepth 100000 in
theorem h1_against_144 {d : Nat} {Th : mT} {Q : Int64 → mM → Prop} {a0 : Nat} {x1 : Int32} {x2 : Int32} {x4 : Int32} {x5 : Int32} {x6 : Int32} {x7 : Int32} {x8 : Int32} {l9 : Int64} {M : mM} (h : if 8 ≤ (x7 + x8) then (Q l9 M) else (P1_thoughtOn d Th x5 x6 M (fun (v2 : Int32) (M1 : mM) => Th.2.2 a0 = some (.inl 1) ∧ (P1_seen d Th a0 x1 x2 x5 v2 x4 M1 (fun (v4 : Int64) (M3 : mM) => ∀ lv6 : Int64, lv6 = (l9 + ((((8 - x7) - x8) : Int32).toInt64 * v4)) → Q lv6 M3))))) : H1_against_144 (d + 1) Th Q a0 x1 x2 x4 x5 x6 x7 x8 l9 M := by
  show m_W (d + 1) 0 0 yX1_against cX1_against 11 (some .long) (m_ql Th Q) 144 [(0, .ref a0), (1, .int x1), (2, .int x2), (4, .int x4), (5, .int x5), (6, .int x6), (7, .int x7), (8, .int x8), (9, .long l9)] [] Th M 0 0
  refine m_iload dX1_against_144 6 rfl ?_
  refine m_iload dX1_against_146 7 rfl ?_
  refine m_iadd dX1_against_148 ?_
  refine m_bipush (v := 8) dX1_against_149 (by decide) ?_
  refine m_icmp_ge (tgt := 186) dX1_against_151 (by decide) (fun c1 => ?_) (fun c1 => ?_)
  · rw [if_pos c1] at h
    refine m_lload dX1_against_186 8 rfl ?_
    exact m_lreturn dX1_against_188 rfl ⟨rfl, _, rfl, h⟩
  · rw [if_neg c1] at h
    refine m_lload dX1_against_154 8 rfl ?_
    refine m_bipush (v := 8) dX1_against_156 (by decide) ?_
    refine m_iload dX1_against_158 6 rfl ?_
    refine m_isub dX1_against_160 ?_
    refine m_iload dX1_against_161 7 rfl ?_
    refine m_isub dX1_against_163 ?_
    refine m_i2l dX1_against_164 ?_
    refine m_aload_n dX1_against_165 rfl 0 rfl ?_
    refine m_iload_n dX1_against_166 rfl 1 rfl ?_
    refine m_iload_n dX1_against_167 rfl 2 rfl ?_
    refine m_iload dX1_against_168 4 rfl ?_
    refine m_iload dX1_against_170 4 rfl ?_
    refine m_iload dX1_against_172 5 rfl ?_
    refine m_invS (As := [.int x5, .int x6]) (d' := d) (mc' := 0) (ms' := 0) (rest := [.int x5, .int x2, .int x1, .ref a0, .long ((((8 - x7) - x8) : Int32).toInt64), .long l9]) i_1_thoughtOn s_1_thoughtOn l_X1_143 dX1_against_174 rfl rfl (Nat.le_of_ble_eq_true rfl) (Nat.le_refl _) ⟨Nat.le_refl _, Nat.le_refl _⟩ (m_Ci h (fun v2 M1 h => ?_))
    show m_W (d + 1) 0 0 yX1_against cX1_against 11 (some .long) (m_ql Th Q) 177 [(0, .ref a0), (1, .int x1), (2, .int x2), (4, .int x4), (5, .int x5), (6, .int x6), (7, .int x7), (8, .int x8), (9, .long l9)] [.int v2, .int x5, .int x2, .int x1, .ref a0, .long ((((8 - x7) - x8) : Int32).toInt64), .long l9] Th M1 0 0
    refine m_iload dX1_against_177 3 rfl ?_
    obtain ⟨q5, h⟩ := h
    refine m_invV (ci := 1) (As := [.int x1, .int x2, .int x5, .int v2, .int x4]) (d' := d) (mc' := 0) (ms' := 0) (rest := [.long ((((8 - x7) - x8) : Int32).toInt64), .long l9]) i_1_seen v_1_seen t_1_seen l_X1_149 ⟨_, _, rfl⟩ dX1_against_179 rfl rfl q5 (Nat.le_of_ble_eq_true rfl) (Nat.le_refl _) ⟨Nat.le_refl _, Nat.le_refl _⟩ (m_Cl h (fun v4 M3 h => ?_))
    show m_W (d + 1) 0 0 yX1_against cX1_against 11 (some .long) (m_ql Th Q) 182 [(0, .ref a0), (1, .int x1), (2, .int x2), (4, .int x4), (5, .int x5), (6, .int x6), (7, .int x7), (8, .int x8), (9, .long l9)] [.long v4, .long ((((8 - x7) - x8) : Int32).toInt64), .long l9] Th M3 0 0
    refine m_lmul dX1_against_182 ?_
    refine m_ladd dX1_against_183 ?_
    obtain ⟨lv6, e_lv6⟩ : ∃ lv6 : Int64, lv6 = (l9 + ((((8 - x7) - x8) : Int32).toInt64 * v4)) := ⟨_, rfl⟩
    have h := h lv6 e_lv6
    rw [← e_lv6]
    refine m_lstore (lv' := [(9, .long lv6), (0, .ref a0), (1, .int x1), (2, .int x2), (4, .int x4), (5, .int x5), (6, .int x6), (7, .int x7), (8, .int x8)]) dX1_against_184 (by decide) rfl ?_
    refine m_lload dX1_against_186 0 rfl ?_
    exact m_lreturn dX1_against_188 rfl ⟨rfl, _, rfl, h⟩
set_option maxHeartbeats 4000000 in
set_option maxRecDepth 100000 in
theorem e1_against {d : Nat} {Th : mT} {Q : Int64 → mM → Prop} {a0 : Nat} {x1 : Int32} {x2 : Int32} {x3 : Int32} {x4 : Int32} {M : mM} (h : ∀ xv1 : Int32, xv1 = (x3 / 21) → ∀ xv2 : Int32, xv2 = (x3 - x3 / 21 * 21) → if xv2 < 6 then (Th.2.2 a0 = some (.inl 1) ∧ (∃ r4 : Nat, M.2.2 a0 2 = some r4 ∧ (Th.2.2 r4 = some (.inl 8) ∧ (P8_goodAt d Th r4 xv1 xv2 M (fun (v7 : Int32) (M6 : mM) => ∃ r9 : Nat, M6.2.2 a0 2 = some r9 ∧ (Th.2.2 r9 = some (.inl 8) ∧ (P8_badAt d Th r9 xv1 xv2 M6 (fun (v12 : Int32) (M11 : mM) => if v7 ≤ 0 then (H1_against_107 (d + 1) Th Q a0 x1 x2 x4 xv1 xv2 v7 v12 0 M11) else (∃ r14 : Nat, M11.2.2 a0 2 = some r14 ∧ (Th.2.2 r14 = some (.inl 8) ∧ (P8_stepsFrom d Th r14 xv1 M11 (fun (v17 : Int32) (M16 : mM) => P1_walkOn d Th a0 xv1 v17 M16 (fun (v20 : Int32) (M19 : mM) => P1_seen d Th a0 x1 x2 xv1 v20 x4 M19 (fun (v22 : Int64) (M21 : mM) => ∀ lv23 : Int64, lv23 = (0 + ((v7 : Int32).toInt64 * v22)) → H1_against_107 (d + 1) Th Q a0 x1 x2 x4 xv1 xv2 v7 v12 lv23 M21)))))))))))))) else (Th.2.2 a0 = some (.inl 1) ∧ (P1_movedY d Th a0 x3 M (fun (v25 : Int32) (M24 : mM) => P1_seen d Th a0 x1 x2 xv1 v25 x4 M24 (fun (v28 : Int64) (M27 : mM) => Q ((8 * v28)) M27))))) : P1_against (d + 1) Th a0 x1 x2 x3 x4 M Q := by
  refine m_C.of (by decide +kernel) (Nat.le_of_ble_eq_true rfl) ?_
  show m_W (d + 1) 0 0 yX1_against cX1_against 11 (some .long) (m_ql Th Q) 0 [(0, .ref a0), (1, .int x1), (2, .int x2), (3, .int x3), (4, .int x4)] [] Th M 0 0
  refine m_iload_n dX1_against_0 rfl 3 rfl ?_
  refine m_bipush (v := 21) dX1_against_1 (by decide) ?_
  refine m_idiv dX1_against_3 (by decide) ?_
  obtain ⟨xv1, e_xv1⟩ : ∃ xv1 : Int32, xv1 = (x3 / 21) := ⟨_, rfl⟩
  have h := h xv1 e_xv1
  rw [← e_xv1]
  refine m_istore (lv' := [(5, .int xv1), (0, .ref a0), (1, .int x1), (2, .int x2), (3, .int x3), (4, .int x4)]) dX1_against_4 (by decide) rfl ?_
  refine m_iload_n dX1_against_6 rfl 4 rfl ?_
  refine m_bipush (v := 21) dX1_against_7 (by decide) ?_
  refine m_irem dX1_against_9 (by decide) ?_
  obtain ⟨xv2, e_xv2⟩ : ∃ xv2 : Int32, xv2 = (x3 - x3 / 21 * 21) := ⟨_, rfl⟩
  have h := h xv2 e_xv2
  rw [← e_xv2]
  refine m_istore (lv' := [(6, .int xv2), (5, .int xv1), (0, .ref a0), (1, .int x1), (2, .int x2), (3, .int x3), (4, .int x4)]) dX1_against_10 (by decide) rfl ?_
  refine m_iload dX1_against_12 0 rfl ?_
  refine m_bipush (v := 6) dX1_against_14 (by decide) ?_
  refine m_icmp_lt (tgt := 39) dX1_against_16 (by decide) (fun c1 => ?_) (fun c1 => ?_)
  · rw [if_pos c1] at h
    refine m_aload_n dX1_against_39 rfl 2 rfl ?_
    obtain ⟨q3, h⟩ := h
    obtain ⟨r4, q5, h⟩ := h
    refine m_getr f_X1_34 rfl dX1_against_40 q3 q5 ?_
    refine m_iload dX1_against_43 1 rfl ?_
    refine m_iload dX1_against_45 0 rfl ?_
    obtain ⟨q8, h⟩ := h
    refine m_invV (ci := 8) (As := [.int xv1, .int xv2]) (d' := d) (mc' := 0) (ms' := 0) (rest := []) i_8_goodAt v_8_goodAt t_8_goodAt l_X1_137 ⟨_, _, rfl⟩ dX1_against_47 rfl rfl q8 (Nat.le_of_ble_eq_true rfl) (Nat.le_refl _) ⟨Nat.le_refl _, Nat.le_refl _⟩ (m_Ci h (fun v7 M6 h => ?_))
    show m_W (d + 1) 0 0 yX1_against cX1_against 11 (some .long) (m_ql Th Q) 50 [(6, .int xv2), (5, .int xv1), (0, .ref a0), (1, .int x1), (2, .int x2), (3, .int x3), (4, .int x4)] [.int v7] Th M6 0 0
    refine m_istore (lv' := [(7, .int v7), (6, .int xv2), (5, .int xv1), (0, .ref a0), (1, .int x1), (2, .int x2), (3, .int x3), (4, .int x4)]) dX1_against_50 (by decide) rfl ?_
    refine m_aload_n dX1_against_52 rfl 3 rfl ?_
    obtain ⟨r9, q10, h⟩ := h
    refine m_getr f_X1_34 rfl dX1_against_53 q3 q10 ?_
    refine m_iload dX1_against_56 2 rfl ?_
    refine m_iload dX1_against_58 1 rfl ?_
    obtain ⟨q13, h⟩ := h
    refine m_invV (ci := 8) (As := [.int xv1, .int xv2]) (d' := d) (mc' := 0) (ms' := 0) (rest := []) i_8_badAt v_8_badAt t_8_badAt l_X1_140 ⟨_, _, rfl⟩ dX1_against_60 rfl rfl q13 (Nat.le_of_ble_eq_true rfl) (Nat.le_refl _) ⟨Nat.le_refl _, Nat.le_refl _⟩ (m_Ci h (fun v12 M11 h => ?_))
    show m_W (d + 1) 0 0 yX1_against cX1_against 11 (some .long) (m_ql Th Q) 63 [(7, .int v7), (6, .int xv2), (5, .int xv1), (0, .ref a0), (1, .int x1), (2, .int x2), (3, .int x3), (4, .int x4)] [.int v12] Th M11 0 0
    refine m_istore (lv' := [(8, .int v12), (7, .int v7), (6, .int xv2), (5, .int xv1), (0, .ref a0), (1, .int x1), (2, .int x2), (3, .int x3), (4, .int x4)]) dX1_against_63 (by decide) rfl ?_
    refine m_lconst (v := 0) dX1_against_65 (by decide) ?_
    refine m_lstore (lv' := [(9, .long 0), (8, .int v12), (7, .int v7), (6, .int xv2), (5, .int xv1), (0, .ref a0), (1, .int x1), (2, .int x2), (3, .int x3), (4, .int x4)]) dX1_against_66 (by decide) rfl ?_
    refine m_iload dX1_against_68 2 rfl ?_
    refine m_if_le (tgt := 107) dX1_against_70 (by decide) (fun c1 => ?_) (fun c1 => ?_)
    · rw [if_pos c1] at h
      exact m_sub [5, 6, 7, 9, 4, 3, 2, 1, 0] rfl h
    · rw [if_neg c1] at h
      refine m_lload dX1_against_73 0 rfl ?_
      refine m_iload dX1_against_75 2 rfl ?_
      refine m_i2l dX1_against_77 ?_
      refine m_aload_n dX1_against_78 rfl 5 rfl ?_
      refine m_iload_n dX1_against_79 rfl 6 rfl ?_
      refine m_iload_n dX1_against_80 rfl 7 rfl ?_
      refine m_iload dX1_against_81 4 rfl ?_
      refine m_aload_n dX1_against_83 rfl 5 rfl ?_
      refine m_iload dX1_against_84 4 rfl ?_
      refine m_aload_n dX1_against_86 rfl 5 rfl ?_
      obtain ⟨r14, q15, h⟩ := h
      refine m_getr f_X1_34 rfl dX1_against_87 q3 q15 ?_
      refine m_iload dX1_against_90 4 rfl ?_
      obtain ⟨q18, h⟩ := h
      refine m_invV (ci := 8) (As := [.int xv1]) (d' := d) (mc' := 0) (ms' := 0) (rest := [.int xv1, .ref a0, .int xv1, .int x2, .int x1, .ref a0, .long ((v7 : Int32).toInt64), .long 0]) i_8_stepsFrom v_8_stepsFrom t_8_stepsFrom l_X1_118 ⟨_, _, rfl⟩ dX1_against_92 rfl rfl q18 (Nat.le_of_ble_eq_true rfl) (Nat.le_refl _) ⟨Nat.le_refl _, Nat.le_refl _⟩ (m_Ci h (fun v17 M16 h => ?_))
      show m_W (d + 1) 0 0 yX1_against cX1_against 11 (some .long) (m_ql Th Q) 95 [(9, .long 0), (8, .int v12), (7, .int v7), (6, .int xv2), (5, .int xv1), (0, .ref a0), (1, .int x1), (2, .int x2), (3, .int x3), (4, .int x4)] [.int v17, .int xv1, .ref a0, .int xv1, .int x2, .int x1, .ref a0, .long ((v7 : Int32).toInt64), .long 0] Th M16 0 0
      refine m_invV (ci := 1) (As := [.int xv1, .int v17]) (d' := d) (mc' := 0) (ms' := 0) (rest := [.int xv1, .int x2, .int x1, .ref a0, .long ((v7 : Int32).toInt64), .long 0]) i_1_walkOn v_1_walkOn t_1_walkOn l_X1_121 ⟨_, _, rfl⟩ dX1_against_95 rfl rfl q3 (Nat.le_of_ble_eq_true rfl) (Nat.le_refl _) ⟨Nat.le_refl _, Nat.le_refl _⟩ (m_Ci h (fun v20 M19 h => ?_))
      show m_W (d + 1) 0 0 yX1_against cX1_against 11 (some .long) (m_ql Th Q) 98 [(9, .long 0), (8, .int v12), (7, .int v7), (6, .int xv2), (5, .int xv1), (0, .ref a0), (1, .int x1), (2, .int x2), (3, .int x3), (4, .int x4)] [.int v20, .int xv1, .int x2, .int x1, .ref a0, .long ((v7 : Int32).toInt64), .long 0] Th M19 0 0
      refine m_iload dX1_against_98 9 rfl ?_
      refine m_invV (ci := 1) (As := [.int x1, .int x2, .int xv1, .int v20, .int x4]) (d' := d) (mc' := 0) (ms' := 0) (rest := [.long ((v7 : Int32).toInt64), .long 0]) i_1_seen v_1_seen t_1_seen l_X1_149 ⟨_, _, rfl⟩ dX1_against_100 rfl rfl q3 (Nat.le_of_ble_eq_true rfl) (Nat.le_refl _) ⟨Nat.le_refl _, Nat.le_refl _⟩ (m_Cl h (fun v22 M21 h => ?_))
      show m_W (d + 1) 0 0 yX1_against cX1_against 11 (some .long) (m_ql Th Q) 103 [(9, .long 0), (8, .int v12), (7, .int v7), (6, .int xv2), (5, .int xv1), (0, .ref a0), (1, .int x1), (2, .int x2), (3, .int x3), (4, .int x4)] [.long v22, .long ((v7 : Int32).toInt64), .long 0] Th M21 0 0
      refine m_lmul dX1_against_103 ?_
      refine m_ladd dX1_against_104 ?_
      obtain ⟨lv23, e_lv23⟩ : ∃ lv23 : Int64, lv23 = (0 + ((v7 : Int32).toInt64 * v22)) := ⟨_, rfl⟩
      have h := h lv23 e_lv23
      rw [← e_lv23]
      refine m_lstore (lv' := [(9, .long lv23), (8, .int v12), (7, .int v7), (6, .int xv2), (5, .int xv1), (0, .ref a0), (1, .int x1), (2, .int x2), (3, .int x3), (4, .int x4)]) dX1_against_105 (by decide) rfl ?_
      exact m_sub [5, 6, 7, 9, 4, 3, 2, 1, 0] rfl h
  · rw [if_neg c1] at h
    refine m_ldc2 k_X1_116 dX1_against_19 ?_
    refine m_aload_n dX1_against_22 rfl 2 rfl ?_
    refine m_iload_n dX1_against_23 rfl 3 rfl ?_
    refine m_iload_n dX1_against_24 rfl 4 rfl ?_
    refine m_iload dX1_against_25 1 rfl ?_
    refine m_aload_n dX1_against_27 rfl 2 rfl ?_
    refine m_iload_n dX1_against_28 rfl 5 rfl ?_
    obtain ⟨q26, h⟩ := h
    refine m_invV (ci := 1) (As := [.int x3]) (d' := d) (mc' := 0) (ms' := 0) (rest := [.int xv1, .int x2, .int x1, .ref a0, .long 8]) i_1_movedY v_1_movedY t_1_movedY l_X1_146 ⟨_, _, rfl⟩ dX1_against_29 rfl rfl q26 (Nat.le_of_ble_eq_true rfl) (Nat.le_refl _) ⟨Nat.le_refl _, Nat.le_refl _⟩ (m_Ci h (fun v25 M24 h => ?_))
    show m_W (d + 1) 0 0 yX1_against cX1_against 11 (some .long) (m_ql Th Q) 32 [(6, .int xv2), (5, .int xv1), (0, .ref a0), (1, .int x1), (2, .int x2), (3, .int x3), (4, .int x4)] [.int v25, .int xv1, .int x2, .int x1, .ref a0, .long 8] Th M24 0 0
    refine m_iload dX1_against_32 6 rfl ?_
    refine m_invV (ci := 1) (As := [.int x1, .int x2, .int xv1, .int v25, .int x4]) (d' := d) (mc' := 0) (ms' := 0) (rest := [.long 8]) i_1_seen v_1_seen t_1_seen l_X1_149 ⟨_, _, rfl⟩ dX1_against_34 rfl rfl q26 (Nat.le_of_ble_eq_true rfl) (Nat.le_refl _) ⟨Nat.le_refl _, Nat.le_refl _⟩ (m_Cl h (fun v28 M27 h => ?_))
    show m_W (d + 1) 0 0 yX1_against cX1_against 11 (some .long) (m_ql Th Q) 37 [(6, .int xv2), (5, .int xv1), (0, .ref a0), (1, .int x1), (2, .int x2), (3, .int x3), (4, .int x4)] [.long v28, .long 8] Th M27 0 0
    refine m_lmul dX1_against_37 ?_
    exact m_lreturn dX1_against_38 rfl ⟨rfl, _, rfl, h⟩
set_option maxHeartbeats 4000000 in
set_option maxRecDepth 100000 in
theorem e1_seen {d : Nat} {Th : mT} {Q : Int64 → mM → Prop} {a0 : Nat} {x1 : Int32} {x2 : Int32} {x3 : Int32} {x4 : Int32} {x5 : Int32} {M : mM} (h : ∀ xv1 : Int32, xv1 = (if (x4 / 21) = x3 then 1 else 0) → if xv1 = 0 then (Th.2.2 a0 = some (.inl 1) ∧ (P1_value d Th a0 ((x1 - 1)) x2 x4 M (fun (v3 : Int64) (M2 : mM) => Q v3 M2))) else (Th.2.2 a0 = some (.inl 1) ∧ (P1_seeing d Th a0 x4 x5 M (fun (v6 : Int32) (M5 : mM) => P1_value d Th a0 ((x1 - 1)) x2 v6 M5 (fun (v9 : Int64) (M8 : mM) => Q v9 M8))))) : P1_seen (d + 1) Th a0 x1 x2 x3 x4 x5 M Q := by
  refine m_C.of (by decide +kernel) (Nat.le_of_ble_eq_true rfl) ?_
  show m_W (d + 1) 0 0 yX1_seen cX1_seen 7 (some .long) (m_ql Th Q) 0 [(0, .ref a0), (1, .int x1), (2, .int x2), (3, .int x3), (4, .int x4), (5, .int x5)] [] Th M 0 0
  refine m_iload dX1_seen_0 4 rfl ?_
  refine m_bipush (v := 21) dX1_seen_2 (by decide) ?_
  refine m_idiv dX1_seen_4 (by decide) ?_
  refine m_iload_n dX1_seen_5 rfl 3 rfl ?_
  have hJ : m_W (d + 1) 0 0 yX1_seen cX1_seen 7 (some .long) (m_ql Th Q) 14 [(0, .ref a0), (1, .int x1), (2, .int x2), (3, .int x3), (4, .int x4), (5, .int x5)] [.int ((if (x4 / 21) = x3 then 1 else 0))] Th M 0 0 := by
    obtain ⟨xv1, e_xv1⟩ : ∃ xv1 : Int32, xv1 = (if (x4 / 21) = x3 then 1 else 0) := ⟨_, rfl⟩
    have h := h xv1 e_xv1
    rw [← e_xv1]
    refine m_istore (lv' := [(6, .int xv1), (0, .ref a0), (1, .int x1), (2, .int x2), (3, .int x3), (4, .int x4), (5, .int x5)]) dX1_seen_14 (by decide) rfl ?_
    refine m_aload_n dX1_seen_16 rfl 1 rfl ?_
    refine m_iload_n dX1_seen_17 rfl 2 rfl ?_
    refine m_iconst (v := 1) dX1_seen_18 (by decide) ?_
    refine m_isub dX1_seen_19 ?_
    refine m_iload_n dX1_seen_20 rfl 3 rfl ?_
    refine m_iload dX1_seen_21 0 rfl ?_
    refine m_if_eq (tgt := 37) dX1_seen_23 (by decide) (fun c1 => ?_) (fun c1 => ?_)
    · rw [if_pos c1] at h
      refine m_iload dX1_seen_37 5 rfl ?_
      obtain ⟨q4, h⟩ := h
      refine m_invV (ci := 1) (As := [.int ((x1 - 1)), .int x2, .int x4]) (d' := d) (mc' := 0) (ms' := 0) (rest := []) i_1_value v_1_value t_1_value l_X1_77 ⟨_, _, rfl⟩ dX1_seen_39 rfl rfl q4 (Nat.le_of_ble_eq_true rfl) (Nat.le_refl _) ⟨Nat.le_refl _, Nat.le_refl _⟩ (m_Cl h (fun v3 M2 h => ?_))
      show m_W (d + 1) 0 0 yX1_seen cX1_seen 7 (some .long) (m_ql Th Q) 42 [(6, .int xv1), (0, .ref a0), (1, .int x1), (2, .int x2), (3, .int x3), (4, .int x4), (5, .int x5)] [.long v3] Th M2 0 0
      exact m_lreturn dX1_seen_42 rfl ⟨rfl, _, rfl, h⟩
    · rw [if_neg c1] at h
      refine m_aload_n dX1_seen_26 rfl 1 rfl ?_
      refine m_iload dX1_seen_27 5 rfl ?_
      refine m_iload dX1_seen_29 6 rfl ?_
      obtain ⟨q7, h⟩ := h
      refine m_invV (ci := 1) (As := [.int x4, .int x5]) (d' := d) (mc' := 0) (ms' := 0) (rest := [.int x2, .int ((x1 - 1)), .ref a0]) i_1_seeing v_1_seeing t_1_seeing l_X1_73 ⟨_, _, rfl⟩ dX1_seen_31 rfl rfl q7 (Nat.le_of_ble_eq_true rfl) (Nat.le_refl _) ⟨Nat.le_refl _, Nat.le_refl _⟩ (m_Ci h (fun v6 M5 h => ?_))
      show m_W (d + 1) 0 0 yX1_seen cX1_seen 7 (some .long) (m_ql Th Q) 34 [(6, .int xv1), (0, .ref a0), (1, .int x1), (2, .int x2), (3, .int x3), (4, .int x4), (5, .int x5)] [.int v6, .int x2, .int ((x1 - 1)), .ref a0] Th M5 0 0
      refine m_goto (tgt := 39) dX1_seen_34 (by decide) ?_
      refine m_invV (ci := 1) (As := [.int ((x1 - 1)), .int x2, .int v6]) (d' := d) (mc' := 0) (ms' := 0) (rest := []) i_1_value v_1_value t_1_value l_X1_77 ⟨_, _, rfl⟩ dX1_seen_39 rfl rfl q7 (Nat.le_of_ble_eq_true rfl) (Nat.le_refl _) ⟨Nat.le_refl _, Nat.le_refl _⟩ (m_Cl h (fun v9 M8 h => ?_))
      show m_W (d + 1) 0 0 yX1_seen cX1_seen 7 (some .long) (m_ql Th Q) 42 [(6, .int xv1), (0, .ref a0), (1, .int x1), (2, .int x2), (3, .int x3), (4, .int x4), (5, .int x5)] [.long v9] Th M8 0 0
      exact m_lreturn dX1_seen_42 rfl ⟨rfl, _, rfl, h⟩
  refine m_icmp_ne (tgt := 13) dX1_seen_6 (by decide) (fun c1 => ?_) (fun c1 => ?_)
  · simp only [if_neg c1] at hJ
    refine m_iconst (v := 0) dX1_seen_13 (by decide) ?_
    exact hJ
  · simp only [if_pos c1] at hJ
    refine m_iconst (v := 1) dX1_seen_9 (by decide) ?_
    refine m_goto (tgt := 14) dX1_seen_10 (by decide) ?_
    exact hJ
set_option maxHeartbeats 4000000 in
set_option maxRecDepth 100000 in
theorem e1_seeing {d : Nat} {Th : mT} {Q : Int32 → mM → Prop} {a0 : Nat} {x1 : Int32} {x2 : Int32} {M : mM} (h : Th.2.2 a0 = some (.inl 1) ∧ (if ((M).1 a0 8) = 0 then (Q x1 M) else (if x2 = 0 then (Q x1 M) else (if 6 ≤ (x1 - x1 / 21 * 21) then (Q x1 M) else (if x1 < 105 then (Q ((((x1 / 21) * 21) + (if x2 = 1 then 6 else 17))) M) else (Q x1 M)))))) : P1_seeing (d + 1) Th a0 x1 x2 M Q := by
  refine m_C.of (by decide +kernel) (Nat.le_of_ble_eq_true rfl) ?_
  show m_W (d + 1) 0 0 yX1_seeing cX1_seeing 3 (some .int) (m_qi Th Q) 0 [(0, .ref a0), (1, .int x1), (2, .int x2)] [] Th M 0 0
  refine m_aload_n dX1_seeing_0 rfl 0 rfl ?_
  obtain ⟨q1, h⟩ := h
  refine m_geti f_X1_50 rfl dX1_seeing_1 q1 ?_
  refine m_if_eq (tgt := 26) dX1_seeing_4 (by decide) (fun c1 => ?_) (fun c1 => ?_)
  · rw [if_pos c1] at h
    refine m_iload_n dX1_seeing_26 rfl 1 rfl ?_
    exact m_ireturn dX1_seeing_27 rfl rfl ⟨rfl, _, rfl, h⟩
  · rw [if_neg c1] at h
    refine m_iload_n dX1_seeing_7 rfl 2 rfl ?_
    refine m_if_eq (tgt := 26) dX1_seeing_8 (by decide) (fun c1 => ?_) (fun c1 => ?_)
    · rw [if_pos c1] at h
      refine m_iload_n dX1_seeing_26 rfl 1 rfl ?_
      exact m_ireturn dX1_seeing_27 rfl rfl ⟨rfl, _, rfl, h⟩
    · rw [if_neg c1] at h
      refine m_iload_n dX1_seeing_11 rfl 1 rfl ?_
      refine m_bipush (v := 21) dX1_seeing_12 (by decide) ?_
      refine m_irem dX1_seeing_14 (by decide) ?_
      refine m_bipush (v := 6) dX1_seeing_15 (by decide) ?_
      refine m_icmp_ge (tgt := 26) dX1_seeing_17 (by decide) (fun c1 => ?_) (fun c1 => ?_)
      · rw [if_pos c1] at h
        refine m_iload_n dX1_seeing_26 rfl 1 rfl ?_
        exact m_ireturn dX1_seeing_27 rfl rfl ⟨rfl, _, rfl, h⟩
      · rw [if_neg c1] at h
        refine m_iload_n dX1_seeing_20 rfl 1 rfl ?_
        refine m_bipush (v := 105) dX1_seeing_21 (by decide) ?_
        refine m_icmp_lt (tgt := 28) dX1_seeing_23 (by decide) (fun c1 => ?_) (fun c1 => ?_)
        · rw [if_pos c1] at h
          refine m_iload_n dX1_seeing_28 rfl 1 rfl ?_
          refine m_bipush (v := 21) dX1_seeing_29 (by decide) ?_
          refine m_idiv dX1_seeing_31 (by decide) ?_
          refine m_bipush (v := 21) dX1_seeing_32 (by decide) ?_
          refine m_imul dX1_seeing_34 ?_
          refine m_iload_n dX1_seeing_35 rfl 2 rfl ?_
          refine m_iconst (v := 1) dX1_seeing_36 (by decide) ?_
          have hJ : m_W (d + 1) 0 0 yX1_seeing cX1_seeing 3 (some .int) (m_qi Th Q) 47 [(0, .ref a0), (1, .int x1), (2, .int x2)] [.int ((if x2 = 1 then 6 else 17)), .int (((x1 / 21) * 21))] Th M 0 0 := by
            refine m_iadd dX1_seeing_47 ?_
            exact m_ireturn dX1_seeing_48 rfl rfl ⟨rfl, _, rfl, h⟩
          refine m_icmp_ne (tgt := 45) dX1_seeing_37 (by decide) (fun c1 => ?_) (fun c1 => ?_)
          · simp only [if_neg c1] at hJ
            refine m_bipush (v := 17) dX1_seeing_45 (by decide) ?_
            exact hJ
          · simp only [if_pos c1] at hJ
            refine m_bipush (v := 6) dX1_seeing_40 (by decide) ?_
            refine m_goto (tgt := 47) dX1_seeing_42 (by decide) ?_
            exact hJ
        · rw [if_neg c1] at h
          refine m_iload_n dX1_seeing_26 rfl 1 rfl ?_
          exact m_ireturn dX1_seeing_27 rfl rfl ⟨rfl, _, rfl, h⟩
set_option maxHeartbeats 4000000 in
set_option maxRecDepth 100000 in
theorem e1_movedY {d : Nat} {Th : mT} {Q : Int32 → mM → Prop} {a0 : Nat} {x1 : Int32} {M : mM} (h : ∀ xv1 : Int32, xv1 = (x1 / 21) → if (x1 - x1 / 21 * 21) = 6 then (Th.2.2 a0 = some (.inl 1) ∧ (∃ r3 : Nat, M.2.2 a0 2 = some r3 ∧ (Th.2.2 r3 = some (.inl 8) ∧ (P8_stepsFrom d Th r3 xv1 M (fun (v6 : Int32) (M5 : mM) => P1_walkOn d Th a0 xv1 ((v6 - 1)) M5 (fun (v9 : Int32) (M8 : mM) => Q v9 M8)))))) else (if (x1 - x1 / 21 * 21) = 17 then (Th.2.2 a0 = some (.inl 1) ∧ (∃ r11 : Nat, M.2.2 a0 0 = some r11 ∧ (Th.2.2 r11 = some (.inl 2) ∧ (P1_strayOn d Th xv1 ((((M).1 r11 2) - 1)) 0 M (fun (v15 : Int32) (M14 : mM) => Q v15 M14))))) else (Th.2.2 a0 = some (.inl 1) ∧ (P1_goOn d Th a0 x1 M (fun (v17 : Int32) (M16 : mM) => Q v17 M16))))) : P1_movedY (d + 1) Th a0 x1 M Q := by
  refine m_C.of (by decide +kernel) (Nat.le_of_ble_eq_true rfl) ?_
  show m_W (d + 1) 0 0 yX1_movedY cX1_movedY 3 (some .int) (m_qi Th Q) 0 [(0, .ref a0), (1, .int x1)] [] Th M 0 0
  refine m_iload_n dX1_movedY_0 rfl 1 rfl ?_
  refine m_bipush (v := 21) dX1_movedY_1 (by decide) ?_
  refine m_idiv dX1_movedY_3 (by decide) ?_
  obtain ⟨xv1, e_xv1⟩ : ∃ xv1 : Int32, xv1 = (x1 / 21) := ⟨_, rfl⟩
  have h := h xv1 e_xv1
  rw [← e_xv1]
  refine m_istore_n (lv' := [(2, .int xv1), (0, .ref a0), (1, .int x1)]) dX1_movedY_4 rfl (by decide) rfl ?_
  refine m_iload_n dX1_movedY_5 rfl 2 rfl ?_
  refine m_bipush (v := 21) dX1_movedY_6 (by decide) ?_
  refine m_irem dX1_movedY_8 (by decide) ?_
  by_cases c0 : (x1 - x1 / 21 * 21) = 6
  · rw [if_pos c0] at h
    refine m_lookup (off := 27) (tgt := 36) dX1_movedY_9 (by decide) (by rw [c0]; decide) (by decide) ?_
    refine m_aload_n dX1_movedY_36 rfl 1 rfl ?_
    refine m_iload_n dX1_movedY_37 rfl 0 rfl ?_
    refine m_aload_n dX1_movedY_38 rfl 1 rfl ?_
    obtain ⟨q2, h⟩ := h
    obtain ⟨r3, q4, h⟩ := h
    refine m_getr f_X1_34 rfl dX1_movedY_39 q2 q4 ?_
    refine m_iload_n dX1_movedY_42 rfl 0 rfl ?_
    obtain ⟨q7, h⟩ := h
    refine m_invV (ci := 8) (As := [.int xv1]) (d' := d) (mc' := 0) (ms' := 0) (rest := [.int xv1, .ref a0]) i_8_stepsFrom v_8_stepsFrom t_8_stepsFrom l_X1_118 ⟨_, _, rfl⟩ dX1_movedY_43 rfl rfl q7 (Nat.le_of_ble_eq_true rfl) (Nat.le_refl _) ⟨Nat.le_refl _, Nat.le_refl _⟩ (m_Ci h (fun v6 M5 h => ?_))
    show m_W (d + 1) 0 0 yX1_movedY cX1_movedY 3 (some .int) (m_qi Th Q) 46 [(2, .int xv1), (0, .ref a0), (1, .int x1)] [.int v6, .int xv1, .ref a0] Th M5 0 0
    refine m_iconst (v := 1) dX1_movedY_46 (by decide) ?_
    refine m_isub dX1_movedY_47 ?_
    refine m_invV (ci := 1) (As := [.int xv1, .int ((v6 - 1))]) (d' := d) (mc' := 0) (ms' := 0) (rest := []) i_1_walkOn v_1_walkOn t_1_walkOn l_X1_121 ⟨_, _, rfl⟩ dX1_movedY_48 rfl rfl q2 (Nat.le_of_ble_eq_true rfl) (Nat.le_refl _) ⟨Nat.le_refl _, Nat.le_refl _⟩ (m_Ci h (fun v9 M8 h => ?_))
    show m_W (d + 1) 0 0 yX1_movedY cX1_movedY 3 (some .int) (m_qi Th Q) 51 [(2, .int xv1), (0, .ref a0), (1, .int x1)] [.int v9] Th M8 0 0
    exact m_ireturn dX1_movedY_51 rfl rfl ⟨rfl, _, rfl, h⟩
  rw [if_neg c0] at h
  by_cases c1 : (x1 - x1 / 21 * 21) = 17
  · rw [if_pos c1] at h
    refine m_lookup (off := 43) (tgt := 52) dX1_movedY_9 (by decide) (by rw [c1]; decide) (by decide) ?_
    refine m_iload_n dX1_movedY_52 rfl 0 rfl ?_
    refine m_aload_n dX1_movedY_53 rfl 1 rfl ?_
    obtain ⟨q10, h⟩ := h
    obtain ⟨r11, q12, h⟩ := h
    refine m_getr f_X1_23 rfl dX1_movedY_54 q10 q12 ?_
    obtain ⟨q13, h⟩ := h
    refine m_geti f_X1_127 rfl dX1_movedY_57 q13 ?_
    refine m_iconst (v := 1) dX1_movedY_60 (by decide) ?_
    refine m_isub dX1_movedY_61 ?_
    refine m_iconst (v := 0) dX1_movedY_62 (by decide) ?_
    refine m_invS (As := [.int xv1, .int ((((M).1 r11 2) - 1)), .int 0]) (d' := d) (mc' := 0) (ms' := 0) (rest := []) i_1_strayOn s_1_strayOn l_X1_130 dX1_movedY_63 rfl rfl (Nat.le_of_ble_eq_true rfl) (Nat.le_refl _) ⟨Nat.le_refl _, Nat.le_refl _⟩ (m_Ci h (fun v15 M14 h => ?_))
    show m_W (d + 1) 0 0 yX1_movedY cX1_movedY 3 (some .int) (m_qi Th Q) 66 [(2, .int xv1), (0, .ref a0), (1, .int x1)] [.int v15] Th M14 0 0
    exact m_ireturn dX1_movedY_66 rfl rfl ⟨rfl, _, rfl, h⟩
  rw [if_neg c1] at h
  refine m_lookup (off := 58) (tgt := 67) dX1_movedY_9 (by decide) (m_lk2 (k0 := 6) (k1 := 17) c0 c1) (by decide) ?_
  refine m_aload_n dX1_movedY_67 rfl 1 rfl ?_
  refine m_iload_n dX1_movedY_68 rfl 2 rfl ?_
  obtain ⟨q18, h⟩ := h
  refine m_invV (ci := 1) (As := [.int x1]) (d' := d) (mc' := 0) (ms' := 0) (rest := []) i_1_goOn v_1_goOn t_1_goOn l_X1_134 ⟨_, _, rfl⟩ dX1_movedY_69 rfl rfl q18 (Nat.le_of_ble_eq_true rfl) (Nat.le_refl _) ⟨Nat.le_refl _, Nat.le_refl _⟩ (m_Ci h (fun v17 M16 h => ?_))
  show m_W (d + 1) 0 0 yX1_movedY cX1_movedY 3 (some .int) (m_qi Th Q) 72 [(2, .int xv1), (0, .ref a0), (1, .int x1)] [.int v17] Th M16 0 0
  exact m_ireturn dX1_movedY_72 rfl rfl ⟨rfl, _, rfl, h⟩
set_option maxHeartbeats 4000000 in
set_option maxRecDepth 100000 in
theorem e1_goOn {d : Nat} {Th : mT} {Q : Int32 → mM → Prop} {a0 : Nat} {x1 : Int32} {M : mM} (h : ∀ xv1 : Int32, xv1 = (x1 / 21) → ∀ xv2 : Int32, xv2 = (x1 - x1 / 21 * 21) → P1_walks d Th xv2 M (fun (v4 : Int32) (M3 : mM) => if v4 = 0 then (∀ xv5 : Int32, xv5 = (if xv2 ≤ 16 then 0 else 1) → P1_strayOn d Th xv1 (((xv2 - 1) - (if xv5 = 0 then 12 else 16))) xv5 M3 (fun (v7 : Int32) (M6 : mM) => Q v7 M6)) else (Th.2.2 a0 = some (.inl 1) ∧ (P1_walkOn d Th a0 xv1 (((xv2 - 6) - 1)) M3 (fun (v9 : Int32) (M8 : mM) => Q v9 M8))))) : P1_goOn (d + 1) Th a0 x1 M Q := by
  refine m_C.of (by decide +kernel) (Nat.le_of_ble_eq_true rfl) ?_
  show m_W (d + 1) 0 0 yX1_goOn cX1_goOn 5 (some .int) (m_qi Th Q) 0 [(0, .ref a0), (1, .int x1)] [] Th M 0 0
  refine m_iload_n dX1_goOn_0 rfl 1 rfl ?_
  refine m_bipush (v := 21) dX1_goOn_1 (by decide) ?_
  refine m_idiv dX1_goOn_3 (by decide) ?_
  obtain ⟨xv1, e_xv1⟩ : ∃ xv1 : Int32, xv1 = (x1 / 21) := ⟨_, rfl⟩
  have h := h xv1 e_xv1
  rw [← e_xv1]
  refine m_istore_n (lv' := [(2, .int xv1), (0, .ref a0), (1, .int x1)]) dX1_goOn_4 rfl (by decide) rfl ?_
  refine m_iload_n dX1_goOn_5 rfl 2 rfl ?_
  refine m_bipush (v := 21) dX1_goOn_6 (by decide) ?_
  refine m_irem dX1_goOn_8 (by decide) ?_
  obtain ⟨xv2, e_xv2⟩ : ∃ xv2 : Int32, xv2 = (x1 - x1 / 21 * 21) := ⟨_, rfl⟩
  have h := h xv2 e_xv2
  rw [← e_xv2]
  refine m_istore_n (lv' := [(3, .int xv2), (2, .int xv1), (0, .ref a0), (1, .int x1)]) dX1_goOn_9 rfl (by decide) rfl ?_
  refine m_iload_n dX1_goOn_10 rfl 0 rfl ?_
  refine m_invS (As := [.int xv2]) (d' := d) (mc' := 0) (ms' := 0) (rest := []) i_1_walks s_1_walks l_X1_110 dX1_goOn_11 rfl rfl (Nat.le_of_ble_eq_true rfl) (Nat.le_refl _) ⟨Nat.le_refl _, Nat.le_refl _⟩ (m_Ci h (fun v4 M3 h => ?_))
  show m_W (d + 1) 0 0 yX1_goOn cX1_goOn 5 (some .int) (m_qi Th Q) 14 [(3, .int xv2), (2, .int xv1), (0, .ref a0), (1, .int x1)] [.int v4] Th M3 0 0
  refine m_if_eq (tgt := 29) dX1_goOn_14 (by decide) (fun c1 => ?_) (fun c1 => ?_)
  · rw [if_pos c1] at h
    refine m_iload_n dX1_goOn_29 rfl 0 rfl ?_
    refine m_bipush (v := 16) dX1_goOn_30 (by decide) ?_
    have hJ : m_W (d + 1) 0 0 yX1_goOn cX1_goOn 5 (some .int) (m_qi Th Q) 40 [(3, .int xv2), (2, .int xv1), (0, .ref a0), (1, .int x1)] [.int ((if xv2 ≤ 16 then 0 else 1))] Th M3 0 0 := by
      obtain ⟨xv5, e_xv5⟩ : ∃ xv5 : Int32, xv5 = (if xv2 ≤ 16 then 0 else 1) := ⟨_, rfl⟩
      have h := h xv5 e_xv5
      rw [← e_xv5]
      refine m_istore (lv' := [(4, .int xv5), (3, .int xv2), (2, .int xv1), (0, .ref a0), (1, .int x1)]) dX1_goOn_40 (by decide) rfl ?_
      refine m_iload_n dX1_goOn_42 rfl 2 rfl ?_
      refine m_iload_n dX1_goOn_43 rfl 1 rfl ?_
      refine m_iconst (v := 1) dX1_goOn_44 (by decide) ?_
      refine m_isub dX1_goOn_45 ?_
      refine m_iload dX1_goOn_46 0 rfl ?_
      have hJ : m_W (d + 1) 0 0 yX1_goOn cX1_goOn 5 (some .int) (m_qi Th Q) 58 [(4, .int xv5), (3, .int xv2), (2, .int xv1), (0, .ref a0), (1, .int x1)] [.int ((if xv5 = 0 then 12 else 16)), .int ((xv2 - 1)), .int xv1] Th M3 0 0 := by
        refine m_isub dX1_goOn_58 ?_
        refine m_iload dX1_goOn_59 0 rfl ?_
        refine m_invS (As := [.int xv1, .int (((xv2 - 1) - (if xv5 = 0 then 12 else 16))), .int xv5]) (d' := d) (mc' := 0) (ms' := 0) (rest := []) i_1_strayOn s_1_strayOn l_X1_130 dX1_goOn_61 rfl rfl (Nat.le_of_ble_eq_true rfl) (Nat.le_refl _) ⟨Nat.le_refl _, Nat.le_refl _⟩ (m_Ci h (fun v7 M6 h => ?_))
        show m_W (d + 1) 0 0 yX1_goOn cX1_goOn 5 (some .int) (m_qi Th Q) 64 [(4, .int xv5), (3, .int xv2), (2, .int xv1), (0, .ref a0), (1, .int x1)] [.int v7] Th M6 0 0
        exact m_ireturn dX1_goOn_64 rfl rfl ⟨rfl, _, rfl, h⟩
      refine m_if_eq (tgt := 56) dX1_goOn_48 (by decide) (fun c1 => ?_) (fun c1 => ?_)
      · simp only [if_pos c1] at hJ
        refine m_bipush (v := 12) dX1_goOn_56 (by decide) ?_
        exact hJ
      · simp only [if_neg c1] at hJ
        refine m_bipush (v := 16) dX1_goOn_51 (by decide) ?_
        refine m_goto (tgt := 58) dX1_goOn_53 (by decide) ?_
        exact hJ
    refine m_icmp_le (tgt := 39) dX1_goOn_32 (by decide) (fun c1 => ?_) (fun c1 => ?_)
    · simp only [if_pos c1] at hJ
      refine m_iconst (v := 0) dX1_goOn_39 (by decide) ?_
      exact hJ
    · simp only [if_neg c1] at hJ
      refine m_iconst (v := 1) dX1_goOn_35 (by decide) ?_
      refine m_goto (tgt := 40) dX1_goOn_36 (by decide) ?_
      exact hJ
  · rw [if_neg c1] at h
    refine m_aload_n dX1_goOn_17 rfl 2 rfl ?_
    refine m_iload_n dX1_goOn_18 rfl 1 rfl ?_
    refine m_iload_n dX1_goOn_19 rfl 0 rfl ?_
    refine m_bipush (v := 6) dX1_goOn_20 (by decide) ?_
    refine m_isub dX1_goOn_22 ?_
    refine m_iconst (v := 1) dX1_goOn_23 (by decide) ?_
    refine m_isub dX1_goOn_24 ?_
    obtain ⟨q10, h⟩ := h
    refine m_invV (ci := 1) (As := [.int xv1, .int (((xv2 - 6) - 1))]) (d' := d) (mc' := 0) (ms' := 0) (rest := []) i_1_walkOn v_1_walkOn t_1_walkOn l_X1_121 ⟨_, _, rfl⟩ dX1_goOn_25 rfl rfl q10 (Nat.le_of_ble_eq_true rfl) (Nat.le_refl _) ⟨Nat.le_refl _, Nat.le_refl _⟩ (m_Ci h (fun v9 M8 h => ?_))
    show m_W (d + 1) 0 0 yX1_goOn cX1_goOn 5 (some .int) (m_qi Th Q) 28 [(3, .int xv2), (2, .int xv1), (0, .ref a0), (1, .int x1)] [.int v9] Th M8 0 0
    exact m_ireturn dX1_goOn_28 rfl rfl ⟨rfl, _, rfl, h⟩
set_option maxHeartbeats 4000000 in
set_option maxRecDepth 100000 in
theorem e1_walks {d : Nat} {Th : mT} {Q : Int32 → mM → Prop} {x0 : Int32} {M : mM} (h : m_bool ((if x0 ≤ 6 then 0 else (if 12 < x0 then 0 else 1))) ∧ Q ((if x0 ≤ 6 then 0 else (if 12 < x0 then 0 else 1))) M) : P1_walks (d + 1) Th x0 M Q := by
  refine m_C.of (by decide +kernel) (Nat.le_of_ble_eq_true rfl) ?_
  show m_W (d + 1) 0 0 yX1_walks cX1_walks 1 (some .boolean) (m_qi Th Q) 0 [(0, .int x0)] [] Th M 0 0
  refine m_iload_n dX1_walks_0 rfl 0 rfl ?_
  refine m_bipush (v := 6) dX1_walks_1 (by decide) ?_
  have hJ : m_W (d + 1) 0 0 yX1_walks cX1_walks 1 (some .boolean) (m_qi Th Q) 17 [(0, .int x0)] [.int ((if x0 ≤ 6 then 0 else (if 12 < x0 then 0 else 1)))] Th M 0 0 := by
    exact m_ireturn dX1_walks_17 rfl h.1 ⟨rfl, _, rfl, h.2⟩
  refine m_icmp_le (tgt := 16) dX1_walks_3 (by decide) (fun c1 => ?_) (fun c1 => ?_)
  · simp only [if_pos c1] at hJ
    refine m_iconst (v := 0) dX1_walks_16 (by decide) ?_
    exact hJ
  · simp only [if_neg c1] at hJ
    refine m_iload_n dX1_walks_6 rfl 0 rfl ?_
    refine m_bipush (v := 12) dX1_walks_7 (by decide) ?_
    refine m_icmp_gt (tgt := 16) dX1_walks_9 (by decide) (fun c2 => ?_) (fun c2 => ?_)
    · simp only [if_pos c2] at hJ
      refine m_iconst (v := 0) dX1_walks_16 (by decide) ?_
      exact hJ
    · simp only [if_neg c2] at hJ
      refine m_iconst (v := 1) dX1_walks_12 (by decide) ?_
      refine m_goto (tgt := 17) dX1_walks_13 (by decide) ?_
      exact hJ
set_option maxHeartbeats 4000000 in
set_option maxRecDepth 100000 in
theorem e1_walkOn {d : Nat} {Th : mT} {Q : Int32 → mM → Prop} {a0 : Nat} {x1 : Int32} {x2 : Int32} {M : mM} (h : if x2 ≤ 0 then (Th.2.2 a0 = some (.inl 1) ∧ (∃ r2 : Nat, M.2.2 a0 0 = some r2 ∧ (Th.2.2 r2 = some (.inl 2) ∧ (Q ((if ((M).1 r2 0) ≤ (x1 + 1) then 105 else ((x1 + 1) * 21))) M)))) else (Q ((((x1 * 21) + 6) + x2)) M)) : P1_walkOn (d + 1) Th a0 x1 x2 M Q := by
  refine m_C.of (by decide +kernel) (Nat.le_of_ble_eq_true rfl) ?_
  show m_W (d + 1) 0 0 yX1_walkOn cX1_walkOn 3 (some .int) (m_qi Th Q) 0 [(0, .ref a0), (1, .int x1), (2, .int x2)] [] Th M 0 0
  refine m_iload_n dX1_walkOn_0 rfl 2 rfl ?_
  refine m_if_le (tgt := 14) dX1_walkOn_1 (by decide) (fun c1 => ?_) (fun c1 => ?_)
  · rw [if_pos c1] at h
    refine m_iload_n dX1_walkOn_14 rfl 1 rfl ?_
    refine m_iconst (v := 1) dX1_walkOn_15 (by decide) ?_
    refine m_iadd dX1_walkOn_16 ?_
    refine m_aload_n dX1_walkOn_17 rfl 0 rfl ?_
    obtain ⟨q1, h⟩ := h
    obtain ⟨r2, q3, h⟩ := h
    refine m_getr f_X1_23 rfl dX1_walkOn_18 q1 q3 ?_
    obtain ⟨q4, h⟩ := h
    refine m_geti f_X1_58 rfl dX1_walkOn_21 q4 ?_
    have hJ : m_W (d + 1) 0 0 yX1_walkOn cX1_walkOn 3 (some .int) (m_qi Th Q) 38 [(0, .ref a0), (1, .int x1), (2, .int x2)] [.int ((if ((M).1 r2 0) ≤ (x1 + 1) then 105 else ((x1 + 1) * 21)))] Th M 0 0 := by
      exact m_ireturn dX1_walkOn_38 rfl rfl ⟨rfl, _, rfl, h⟩
    refine m_icmp_ge (tgt := 36) dX1_walkOn_24 (by decide) (fun c1 => ?_) (fun c1 => ?_)
    · simp only [if_pos c1] at hJ
      refine m_bipush (v := 105) dX1_walkOn_36 (by decide) ?_
      exact hJ
    · simp only [if_neg c1] at hJ
      refine m_iload_n dX1_walkOn_27 rfl 1 rfl ?_
      refine m_iconst (v := 1) dX1_walkOn_28 (by decide) ?_
      refine m_iadd dX1_walkOn_29 ?_
      refine m_bipush (v := 21) dX1_walkOn_30 (by decide) ?_
      refine m_imul dX1_walkOn_32 ?_
      refine m_goto (tgt := 38) dX1_walkOn_33 (by decide) ?_
      exact hJ
  · rw [if_neg c1] at h
    refine m_iload_n dX1_walkOn_4 rfl 1 rfl ?_
    refine m_bipush (v := 21) dX1_walkOn_5 (by decide) ?_
    refine m_imul dX1_walkOn_7 ?_
    refine m_bipush (v := 6) dX1_walkOn_8 (by decide) ?_
    refine m_iadd dX1_walkOn_10 ?_
    refine m_iload_n dX1_walkOn_11 rfl 2 rfl ?_
    refine m_iadd dX1_walkOn_12 ?_
    exact m_ireturn dX1_walkOn_13 rfl rfl ⟨rfl, _, rfl, h⟩
set_option maxHeartbeats 4000000 in
set_option maxRecDepth 100000 in
theorem e1_strayOn {d : Nat} {Th : mT} {Q : Int32 → mM → Prop} {x0 : Int32} {x1 : Int32} {x2 : Int32} {M : mM} (h : if x1 ≤ 0 then (Q (((x0 * 21) + (if x2 = 0 then 0 else 6))) M) else (Q ((((x0 * 21) + (if x2 = 0 then 12 else 16)) + x1)) M)) : P1_strayOn (d + 1) Th x0 x1 x2 M Q := by
  refine m_C.of (by decide +kernel) (Nat.le_of_ble_eq_true rfl) ?_
  show m_W (d + 1) 0 0 yX1_strayOn cX1_strayOn 3 (some .int) (m_qi Th Q) 0 [(0, .int x0), (1, .int x1), (2, .int x2)] [] Th M 0 0
  refine m_iload_n dX1_strayOn_0 rfl 1 rfl ?_
  refine m_if_le (tgt := 23) dX1_strayOn_1 (by decide) (fun c1 => ?_) (fun c1 => ?_)
  · rw [if_pos c1] at h
    refine m_iload_n dX1_strayOn_23 rfl 0 rfl ?_
    refine m_bipush (v := 21) dX1_strayOn_24 (by decide) ?_
    refine m_imul dX1_strayOn_26 ?_
    refine m_iload_n dX1_strayOn_27 rfl 2 rfl ?_
    have hJ : m_W (d + 1) 0 0 yX1_strayOn cX1_strayOn 3 (some .int) (m_qi Th Q) 37 [(0, .int x0), (1, .int x1), (2, .int x2)] [.int ((if x2 = 0 then 0 else 6)), .int ((x0 * 21))] Th M 0 0 := by
      refine m_iadd dX1_strayOn_37 ?_
      exact m_ireturn dX1_strayOn_38 rfl rfl ⟨rfl, _, rfl, h⟩
    refine m_if_eq (tgt := 36) dX1_strayOn_28 (by decide) (fun c1 => ?_) (fun c1 => ?_)
    · simp only [if_pos c1] at hJ
      refine m_iconst (v := 0) dX1_strayOn_36 (by decide) ?_
      exact hJ
    · simp only [if_neg c1] at hJ
      refine m_bipush (v := 6) dX1_strayOn_31 (by decide) ?_
      refine m_goto (tgt := 37) dX1_strayOn_33 (by decide) ?_
      exact hJ
  · rw [if_neg c1] at h
    refine m_iload_n dX1_strayOn_4 rfl 0 rfl ?_
    refine m_bipush (v := 21) dX1_strayOn_5 (by decide) ?_
    refine m_imul dX1_strayOn_7 ?_
    refine m_iload_n dX1_strayOn_8 rfl 2 rfl ?_
    have hJ : m_W (d + 1) 0 0 yX1_strayOn cX1_strayOn 3 (some .int) (m_qi Th Q) 19 [(0, .int x0), (1, .int x1), (2, .int x2)] [.int ((if x2 = 0 then 12 else 16)), .int ((x0 * 21))] Th M 0 0 := by
      refine m_iadd dX1_strayOn_19 ?_
      refine m_iload_n dX1_strayOn_20 rfl 1 rfl ?_
      refine m_iadd dX1_strayOn_21 ?_
      exact m_ireturn dX1_strayOn_22 rfl rfl ⟨rfl, _, rfl, h⟩
    refine m_if_eq (tgt := 17) dX1_strayOn_9 (by decide) (fun c1 => ?_) (fun c1 => ?_)
    · simp only [if_pos c1] at hJ
      refine m_bipush (v := 12) dX1_strayOn_17 (by decide) ?_
      exact hJ
    · simp only [if_neg c1] at hJ
      refine m_bipush (v := 16) dX1_strayOn_12 (by decide) ?_
      refine m_goto (tgt := 19) dX1_strayOn_14 (by decide) ?_
      exact hJ
set_option maxHeartbeats 4000000 in
set_option maxRecDepth 100000 in
theorem e1_thoughtOn {d : Nat} {Th : mT} {Q : Int32 → mM → Prop} {x0 : Int32} {x1 : Int32} {M : mM} (h : Q (((x0 * 21) + (if (x1 + 1) < 5 then (x1 + 1) else 5))) M) : P1_thoughtOn (d + 1) Th x0 x1 M Q := by
  refine m_C.of (by decide +kernel) (Nat.le_of_ble_eq_true rfl) ?_
  show m_W (d + 1) 0 0 yX1_thoughtOn cX1_thoughtOn 2 (some .int) (m_qi Th Q) 0 [(0, .int x0), (1, .int x1)] [] Th M 0 0
  refine m_iload_n dX1_thoughtOn_0 rfl 0 rfl ?_
  refine m_bipush (v := 21) dX1_thoughtOn_1 (by decide) ?_
  refine m_imul dX1_thoughtOn_3 ?_
  refine m_iconst (v := 5) dX1_thoughtOn_4 (by decide) ?_
  refine m_iload_n dX1_thoughtOn_5 rfl 1 rfl ?_
  refine m_iconst (v := 1) dX1_thoughtOn_6 (by decide) ?_
  refine m_iadd dX1_thoughtOn_7 ?_
  refine m_min l_X1_95 dX1_thoughtOn_8 (Nat.le_of_ble_eq_true rfl) (Nat.le_add_left _ _) (Nat.le_refl _) (Nat.le_refl _) ?_
  refine m_iadd dX1_thoughtOn_11 ?_
  exact m_ireturn dX1_thoughtOn_12 rfl rfl ⟨rfl, _, rfl, h⟩
