set_option maxHeartbeats 4000000 in
set_option maxRecDepth 100000 in
theorem h8_join_2 {d : Nat} {Th : mT} {Q : mM → Prop} {a0 : Nat} {a1 : Nat} {a2 : Nat} {x3 : Int32} {M : mM} (h : Th.2.2 a0 = some (.inl 8) ∧ (∃ r2 : Nat, M.2.2 a0 0 = some r2 ∧ (∃ (ty : FieldType) (fz : Bool) (n4 : Nat), Th.2.2 r2 = some (.inr (ty, fz, n4)) ∧ (if (nI n4) ≤ x3 then (H8_join_93 (d + 1) Th Q a0 a1 a2 0 M) else (Th.2.2 a1 = some (.inl 8) ∧ (∃ r7 : Nat, M.2.2 a1 0 = some r7 ∧ (m_ok Th r7 .int x3 ∧ (Th.2.2 a2 = some (.inl 8) ∧ (∃ r11 : Nat, M.2.2 a2 0 = some r11 ∧ (m_ok Th r11 .int x3 ∧ (∀ xv14 : Int32, xv14 = ((8 - ((M).1 r7 (Int32.toNatClampNeg x3))) * (8 - ((M).1 r11 (Int32.toNatClampNeg x3)))) → m_okw Th r2 .int x3 ∧ (∃ r16 : Nat, M.2.2 a0 1 = some r16 ∧ (∀ M18 : mM, M18 = m_ui M r2 (Int32.toNatClampNeg x3) ((64 - xv14)) → ∃ r19 : Nat, M.2.2 a1 1 = some r19 ∧ (m_ok Th r19 .int x3 ∧ (∃ r22 : Nat, M.2.2 a2 1 = some r22 ∧ (m_ok Th r22 .int x3 ∧ (m_okw Th r16 .int x3 ∧ (H8_join_2 (d + 1) Th Q a0 a1 a2 (x3 + 1) (m_ui M18 r16 (Int32.toNatClampNeg x3) ((xv14 - (((8 - ((M18).1 r7 (Int32.toNatClampNeg x3))) - ((M18).1 r19 (Int32.toNatClampNeg x3))) * ((8 - ((M18).1 r11 (Int32.toNatClampNeg x3))) - ((M18).1 r22 (Int32.toNatClampNeg x3))))))))))))))))))))))))) : H8_join_2 (d + 1) Th Q a0 a1 a2 x3 M := by
  show m_W (d + 1) 0 0 yX8_join cX8_join 5 none (m_qv Th Q) 2 [(0, .ref a0), (1, .ref a1), (2, .ref a2), (3, .int x3)] [] Th M 0 0
  refine m_iload_n dX8_join_2 rfl 3 rfl ?_
  refine m_aload_n dX8_join_3 rfl 0 rfl ?_
  obtain ⟨q1, h⟩ := h
  obtain ⟨r2, q3, h⟩ := h
  refine m_getr f_X8_9 rfl dX8_join_4 q1 q3 ?_
  obtain ⟨_, _, n4, q5, h⟩ := h
  refine m_alen dX8_join_7 q5 ?_
  refine m_icmp_ge (tgt := 91) dX8_join_8 (by decide) (fun c1 => ?_) (fun c1 => ?_)
  · rw [if_pos c1] at h
    refine m_iconst (v := 0) dX8_join_91 (by decide) ?_
    refine m_istore_n (lv' := [(3, .int 0), (0, .ref a0), (1, .ref a1), (2, .ref a2)]) dX8_join_92 rfl (by decide) rfl ?_
    exact m_sub [1, 2, 3, 0] rfl h
  · rw [if_neg c1] at h
    refine m_bipush (v := 8) dX8_join_11 (by decide) ?_
    refine m_aload_n dX8_join_13 rfl 1 rfl ?_
    obtain ⟨q6, h⟩ := h
    obtain ⟨r7, q8, h⟩ := h
    refine m_getr f_X8_9 rfl dX8_join_14 q6 q8 ?_
    refine m_iload_n dX8_join_17 rfl 3 rfl ?_
    obtain ⟨q9, h⟩ := h
    refine m_iald dX8_join_18 q9 ?_
    refine m_isub dX8_join_19 ?_
    refine m_bipush (v := 8) dX8_join_20 (by decide) ?_
    refine m_aload_n dX8_join_22 rfl 2 rfl ?_
    obtain ⟨q10, h⟩ := h
    obtain ⟨r11, q12, h⟩ := h
    refine m_getr f_X8_9 rfl dX8_join_23 q10 q12 ?_
    refine m_iload_n dX8_join_26 rfl 3 rfl ?_
    obtain ⟨q13, h⟩ := h
    refine m_iald dX8_join_27 q13 ?_
    refine m_isub dX8_join_28 ?_
    refine m_imul dX8_join_29 ?_
    obtain ⟨xv14, e_xv14⟩ : ∃ xv14 : Int32, xv14 = ((8 - ((M).1 r7 (Int32.toNatClampNeg x3))) * (8 - ((M).1 r11 (Int32.toNatClampNeg x3)))) := ⟨_, rfl⟩
    have h := h xv14 e_xv14
    rw [← e_xv14]
    refine m_istore (lv' := [(4, .int xv14), (0, .ref a0), (1, .ref a1), (2, .ref a2), (3, .int x3)]) dX8_join_30 (by decide) rfl ?_
    refine m_aload_n dX8_join_32 rfl 1 rfl ?_
    refine m_getr f_X8_9 rfl dX8_join_33 q1 q3 ?_
    refine m_iload_n dX8_join_36 rfl 4 rfl ?_
    refine m_bipush (v := 64) dX8_join_37 (by decide) ?_
    refine m_iload dX8_join_39 0 rfl ?_
    refine m_isub dX8_join_41 ?_
    obtain ⟨q15, h⟩ := h
    refine m_iast dX8_join_42 q15 ?_
    refine m_aload_n dX8_join_43 rfl 1 rfl ?_
    obtain ⟨r16, q17, h⟩ := h
    refine m_getr f_X8_15 rfl dX8_join_44 q1 q17 ?_
    refine m_iload_n dX8_join_47 rfl 4 rfl ?_
    refine m_iload dX8_join_48 0 rfl ?_
    refine m_bipush (v := 8) dX8_join_50 (by decide) ?_
    refine m_aload_n dX8_join_52 rfl 2 rfl ?_
    refine m_getr f_X8_9 rfl dX8_join_53 q6 q8 ?_
    refine m_iload_n dX8_join_56 rfl 4 rfl ?_
    obtain ⟨M18, e_M18⟩ : ∃ M18 : mM, M18 = m_ui M r2 (Int32.toNatClampNeg x3) ((64 - xv14)) := ⟨_, rfl⟩
    have h := h M18 e_M18
    rw [← e_M18]
    refine m_iald dX8_join_57 q9 ?_
    refine m_isub dX8_join_58 ?_
    refine m_aload_n dX8_join_59 rfl 2 rfl ?_
    obtain ⟨r19, q20, h⟩ := h
    refine m_getr f_X8_15 rfl dX8_join_60 q6 (by rw [e_M18]; exact q20) ?_
    refine m_iload_n dX8_join_63 rfl 4 rfl ?_
    obtain ⟨q21, h⟩ := h
    refine m_iald dX8_join_64 q21 ?_
    refine m_isub dX8_join_65 ?_
    refine m_bipush (v := 8) dX8_join_66 (by decide) ?_
    refine m_aload_n dX8_join_68 rfl 3 rfl ?_
    refine m_getr f_X8_9 rfl dX8_join_69 q10 (by rw [e_M18]; exact q12) ?_
    refine m_iload_n dX8_join_72 rfl 4 rfl ?_
    refine m_iald dX8_join_73 q13 ?_
    refine m_isub dX8_join_74 ?_
    refine m_aload_n dX8_join_75 rfl 3 rfl ?_
    obtain ⟨r22, q23, h⟩ := h
    refine m_getr f_X8_15 rfl dX8_join_76 q10 (by rw [e_M18]; exact q23) ?_
    refine m_iload_n dX8_join_79 rfl 4 rfl ?_
    obtain ⟨q24, h⟩ := h
    refine m_iald dX8_join_80 q24 ?_
    refine m_isub dX8_join_81 ?_
    refine m_imul dX8_join_82 ?_
    refine m_isub dX8_join_83 ?_
    obtain ⟨q25, h⟩ := h
    refine m_iast dX8_join_84 q25 ?_
    refine m_iinc (v := x3 + 1) (lv' := [(3, .int (x3 + 1)), (4, .int xv14), (0, .ref a0), (1, .ref a1), (2, .ref a2)]) dX8_join_85 4 rfl rfl (by decide) rfl ?_
    refine m_goto (tgt := 2) dX8_join_88 (by decide) ?_
    exact m_sub [2, 3, 4, 0] rfl h
set_option maxHeartbeats 4000000 in
set_option maxRecDepth 100000 in
theorem h8_join_93 {d : Nat} {Th : mT} {Q : mM → Prop} {a0 : Nat} {a1 : Nat} {a2 : Nat} {x3 : Int32} {M : mM} (h : if 5 ≤ x3 then (Q M) else (Th.2.2 a0 = some (.inl 8) ∧ (∃ r2 : Nat, M.2.2 a0 2 = some r2 ∧ (Th.2.2 a1 = some (.inl 8) ∧ (∃ r5 : Nat, M.2.2 a1 2 = some r5 ∧ (m_ok Th r5 .int x3 ∧ (Th.2.2 a2 = some (.inl 8) ∧ (∃ r9 : Nat, M.2.2 a2 2 = some r9 ∧ (m_ok Th r9 .int x3 ∧ (m_okw Th r2 .int x3 ∧ (H8_join_93 (d + 1) Th Q a0 a1 a2 (x3 + 1) (m_ui M r2 (Int32.toNatClampNeg x3) ((if ((M).1 r5 (Int32.toNatClampNeg x3)) < ((M).1 r9 (Int32.toNatClampNeg x3)) then ((M).1 r9 (Int32.toNatClampNeg x3)) else ((M).1 r5 (Int32.toNatClampNeg x3)))))))))))))))) : H8_join_93 (d + 1) Th Q a0 a1 a2 x3 M := by
  show m_W (d + 1) 0 0 yX8_join cX8_join 5 none (m_qv Th Q) 93 [(0, .ref a0), (1, .ref a1), (2, .ref a2), (3, .int x3)] [] Th M 0 0
  refine m_iload_n dX8_join_93 rfl 3 rfl ?_
  refine m_iconst (v := 5) dX8_join_94 (by decide) ?_
  refine m_icmp_ge (tgt := 125) dX8_join_95 (by decide) (fun c1 => ?_) (fun c1 => ?_)
  · rw [if_pos c1] at h
    exact m_return dX8_join_125 rfl ⟨rfl, rfl, h⟩
  · rw [if_neg c1] at h
    refine m_aload_n dX8_join_98 rfl 0 rfl ?_
    obtain ⟨q1, h⟩ := h
    obtain ⟨r2, q3, h⟩ := h
    refine m_getr f_X8_18 rfl dX8_join_99 q1 q3 ?_
    refine m_iload_n dX8_join_102 rfl 3 rfl ?_
    refine m_aload_n dX8_join_103 rfl 1 rfl ?_
    obtain ⟨q4, h⟩ := h
    obtain ⟨r5, q6, h⟩ := h
    refine m_getr f_X8_18 rfl dX8_join_104 q4 q6 ?_
    refine m_iload_n dX8_join_107 rfl 3 rfl ?_
    obtain ⟨q7, h⟩ := h
    refine m_iald dX8_join_108 q7 ?_
    refine m_aload_n dX8_join_109 rfl 2 rfl ?_
    obtain ⟨q8, h⟩ := h
    obtain ⟨r9, q10, h⟩ := h
    refine m_getr f_X8_18 rfl dX8_join_110 q8 q10 ?_
    refine m_iload_n dX8_join_113 rfl 3 rfl ?_
    obtain ⟨q11, h⟩ := h
    refine m_iald dX8_join_114 q11 ?_
    refine m_max l_X8_25 dX8_join_115 (Nat.le_of_ble_eq_true rfl) (Nat.le_add_left _ _) (Nat.le_refl _) (Nat.le_refl _) ?_
    obtain ⟨q12, h⟩ := h
    refine m_iast dX8_join_118 q12 ?_
    refine m_iinc (v := x3 + 1) (lv' := [(3, .int (x3 + 1)), (0, .ref a0), (1, .ref a1), (2, .ref a2)]) dX8_join_119 3 rfl rfl (by decide) rfl ?_
    refine m_goto (tgt := 93) dX8_join_122 (by decide) ?_
    exact m_sub [1, 2, 3, 0] rfl h
set_option maxHeartbeats 4000000 in
set_option maxRecDepth 100000 in
theorem e8_join {d : Nat} {Th : mT} {Q : mM → Prop} {a0 : Nat} {a1 : Nat} {a2 : Nat} {M : mM} (h : H8_join_2 (d + 1) Th Q a0 a1 a2 0 M) : P8_join (d + 1) Th a0 a1 a2 M Q := by
  refine m_C.of (by decide +kernel) (Nat.le_of_ble_eq_true rfl) ?_
  show m_W (d + 1) 0 0 yX8_join cX8_join 5 none (m_qv Th Q) 0 [(0, .ref a0), (1, .ref a1), (2, .ref a2)] [] Th M 0 0
  refine m_iconst (v := 0) dX8_join_0 (by decide) ?_
  refine m_istore_n (lv' := [(3, .int 0), (0, .ref a0), (1, .ref a1), (2, .ref a2)]) dX8_join_1 rfl (by decide) rfl ?_
  exact m_sub [1, 2, 3, 0] rfl h
set_option maxHeartbeats 4000000 in
set_option maxRecDepth 100000 in
theorem e8_goodAt {d : Nat} {Th : mT} {Q : Int32 → mM → Prop} {a0 : Nat} {x1 : Int32} {x2 : Int32} {M : mM} (h : Th.2.2 a0 = some (.inl 8) ∧ (∃ r2 : Nat, M.2.2 a0 0 = some r2 ∧ (P8_slot d Th x1 x2 M (fun (v5 : Int32) (M4 : mM) => m_ok Th r2 .int v5 ∧ (Q (((M4).1 r2 (Int32.toNatClampNeg v5))) M4))))) : P8_goodAt (d + 1) Th a0 x1 x2 M Q := by
  refine m_C.of (by decide +kernel) (Nat.le_of_ble_eq_true rfl) ?_
  show m_W (d + 1) 0 0 yX8_goodAt cX8_goodAt 3 (some .int) (m_qi Th Q) 0 [(0, .ref a0), (1, .int x1), (2, .int x2)] [] Th M 0 0
  refine m_aload_n dX8_goodAt_0 rfl 0 rfl ?_
  obtain ⟨q1, h⟩ := h
  obtain ⟨r2, q3, h⟩ := h
  refine m_getr f_X8_9 rfl dX8_goodAt_1 q1 q3 ?_
  refine m_iload_n dX8_goodAt_4 rfl 1 rfl ?_
  refine m_iload_n dX8_goodAt_5 rfl 2 rfl ?_
  refine m_invS (As := [.int x1, .int x2]) (d' := d) (mc' := 0) (ms' := 0) (rest := [.ref r2]) i_8_slot s_8_slot l_X8_31 dX8_goodAt_6 rfl rfl (Nat.le_of_ble_eq_true rfl) (Nat.le_refl _) ⟨Nat.le_refl _, Nat.le_refl _⟩ (m_Ci h (fun v5 M4 h => ?_))
  show m_W (d + 1) 0 0 yX8_goodAt cX8_goodAt 3 (some .int) (m_qi Th Q) 9 [(0, .ref a0), (1, .int x1), (2, .int x2)] [.int v5, .ref r2] Th M4 0 0
  obtain ⟨q6, h⟩ := h
  refine m_iald dX8_goodAt_9 q6 ?_
  exact m_ireturn dX8_goodAt_10 rfl rfl ⟨rfl, _, rfl, h⟩
set_option maxHeartbeats 4000000 in
set_option maxRecDepth 100000 in
theorem e8_badAt {d : Nat} {Th : mT} {Q : Int32 → mM → Prop} {a0 : Nat} {x1 : Int32} {x2 : Int32} {M : mM} (h : Th.2.2 a0 = some (.inl 8) ∧ (∃ r2 : Nat, M.2.2 a0 1 = some r2 ∧ (P8_slot d Th x1 x2 M (fun (v5 : Int32) (M4 : mM) => m_ok Th r2 .int v5 ∧ (Q (((M4).1 r2 (Int32.toNatClampNeg v5))) M4))))) : P8_badAt (d + 1) Th a0 x1 x2 M Q := by
  refine m_C.of (by decide +kernel) (Nat.le_of_ble_eq_true rfl) ?_
  show m_W (d + 1) 0 0 yX8_badAt cX8_badAt 3 (some .int) (m_qi Th Q) 0 [(0, .ref a0), (1, .int x1), (2, .int x2)] [] Th M 0 0
  refine m_aload_n dX8_badAt_0 rfl 0 rfl ?_
  obtain ⟨q1, h⟩ := h
  obtain ⟨r2, q3, h⟩ := h
  refine m_getr f_X8_15 rfl dX8_badAt_1 q1 q3 ?_
  refine m_iload_n dX8_badAt_4 rfl 1 rfl ?_
  refine m_iload_n dX8_badAt_5 rfl 2 rfl ?_
  refine m_invS (As := [.int x1, .int x2]) (d' := d) (mc' := 0) (ms' := 0) (rest := [.ref r2]) i_8_slot s_8_slot l_X8_31 dX8_badAt_6 rfl rfl (Nat.le_of_ble_eq_true rfl) (Nat.le_refl _) ⟨Nat.le_refl _, Nat.le_refl _⟩ (m_Ci h (fun v5 M4 h => ?_))
  show m_W (d + 1) 0 0 yX8_badAt cX8_badAt 3 (some .int) (m_qi Th Q) 9 [(0, .ref a0), (1, .int x1), (2, .int x2)] [.int v5, .ref r2] Th M4 0 0
  obtain ⟨q6, h⟩ := h
  refine m_iald dX8_badAt_9 q6 ?_
  exact m_ireturn dX8_badAt_10 rfl rfl ⟨rfl, _, rfl, h⟩
set_option maxHeartbeats 4000000 in
set_option maxRecDepth 100000 in
theorem e8_stepsFrom {d : Nat} {Th : mT} {Q : Int32 → mM → Prop} {a0 : Nat} {x1 : Int32} {M : mM} (h : if x1 < 0 then (Q 1 M) else (if 5 ≤ x1 then (Q 1 M) else (Th.2.2 a0 = some (.inl 8) ∧ (∃ r2 : Nat, M.2.2 a0 2 = some r2 ∧ (m_ok Th r2 .int x1 ∧ (Q ((if 1 < ((M).1 r2 (Int32.toNatClampNeg x1)) then ((M).1 r2 (Int32.toNatClampNeg x1)) else 1)) M)))))) : P8_stepsFrom (d + 1) Th a0 x1 M Q := by
  refine m_C.of (by decide +kernel) (Nat.le_of_ble_eq_true rfl) ?_
  show m_W (d + 1) 0 0 yX8_stepsFrom cX8_stepsFrom 2 (some .int) (m_qi Th Q) 0 [(0, .ref a0), (1, .int x1)] [] Th M 0 0
  refine m_iload_n dX8_stepsFrom_0 rfl 1 rfl ?_
  refine m_if_lt (tgt := 22) dX8_stepsFrom_1 (by decide) (fun c1 => ?_) (fun c1 => ?_)
  · rw [if_pos c1] at h
    refine m_iconst (v := 1) dX8_stepsFrom_22 (by decide) ?_
    exact m_ireturn dX8_stepsFrom_23 rfl rfl ⟨rfl, _, rfl, h⟩
  · rw [if_neg c1] at h
    refine m_iload_n dX8_stepsFrom_4 rfl 1 rfl ?_
    refine m_iconst (v := 5) dX8_stepsFrom_5 (by decide) ?_
    refine m_icmp_ge (tgt := 22) dX8_stepsFrom_6 (by decide) (fun c1 => ?_) (fun c1 => ?_)
    · rw [if_pos c1] at h
      refine m_iconst (v := 1) dX8_stepsFrom_22 (by decide) ?_
      exact m_ireturn dX8_stepsFrom_23 rfl rfl ⟨rfl, _, rfl, h⟩
    · rw [if_neg c1] at h
      refine m_iconst (v := 1) dX8_stepsFrom_9 (by decide) ?_
      refine m_aload_n dX8_stepsFrom_10 rfl 0 rfl ?_
      obtain ⟨q1, h⟩ := h
      obtain ⟨r2, q3, h⟩ := h
      refine m_getr f_X8_18 rfl dX8_stepsFrom_11 q1 q3 ?_
      refine m_iload_n dX8_stepsFrom_14 rfl 1 rfl ?_
      obtain ⟨q4, h⟩ := h
      refine m_iald dX8_stepsFrom_15 q4 ?_
      refine m_max l_X8_25 dX8_stepsFrom_16 (Nat.le_of_ble_eq_true rfl) (Nat.le_add_left _ _) (Nat.le_refl _) (Nat.le_refl _) ?_
      refine m_goto (tgt := 23) dX8_stepsFrom_19 (by decide) ?_
      exact m_ireturn dX8_stepsFrom_23 rfl rfl ⟨rfl, _, rfl, h⟩
set_option maxHeartbeats 4000000 in
set_option maxRecDepth 100000 in
theorem e8_slot {d : Nat} {Th : mT} {Q : Int32 → mM → Prop} {x0 : Int32} {x1 : Int32} {M : mM} (h : ∀ xv1 : Int32, xv1 = (if 0 < (if x0 < 4 then x0 else 4) then (if x0 < 4 then x0 else 4) else 0) → Q (((xv1 * 6) + (if 0 < (if x1 < 5 then x1 else 5) then (if x1 < 5 then x1 else 5) else 0))) M) : P8_slot (d + 1) Th x0 x1 M Q := by
  refine m_C.of (by decide +kernel) (Nat.le_of_ble_eq_true rfl) ?_
  show m_W (d + 1) 0 0 yX8_slot cX8_slot 3 (some .int) (m_qi Th Q) 0 [(0, .int x0), (1, .int x1)] [] Th M 0 0
  refine m_iconst (v := 0) dX8_slot_0 (by decide) ?_
  refine m_iconst (v := 4) dX8_slot_1 (by decide) ?_
  refine m_iload_n dX8_slot_2 rfl 0 rfl ?_
  refine m_min l_X8_34 dX8_slot_3 (Nat.le_of_ble_eq_true rfl) (Nat.le_add_left _ _) (Nat.le_refl _) (Nat.le_refl _) ?_
  refine m_max l_X8_25 dX8_slot_6 (Nat.le_of_ble_eq_true rfl) (Nat.le_add_left _ _) (Nat.le_refl _) (Nat.le_refl _) ?_
  obtain ⟨xv1, e_xv1⟩ : ∃ xv1 : Int32, xv1 = (if 0 < (if x0 < 4 then x0 else 4) then (if x0 < 4 then x0 else 4) else 0) := ⟨_, rfl⟩
  have h := h xv1 e_xv1
  rw [← e_xv1]
  refine m_istore_n (lv' := [(2, .int xv1), (0, .int x0), (1, .int x1)]) dX8_slot_9 rfl (by decide) rfl ?_
  refine m_iload_n dX8_slot_10 rfl 0 rfl ?_
  refine m_bipush (v := 6) dX8_slot_11 (by decide) ?_
  refine m_imul dX8_slot_13 ?_
  refine m_iconst (v := 0) dX8_slot_14 (by decide) ?_
  refine m_iconst (v := 5) dX8_slot_15 (by decide) ?_
  refine m_iload_n dX8_slot_16 rfl 2 rfl ?_
  refine m_min l_X8_34 dX8_slot_17 (Nat.le_of_ble_eq_true rfl) (Nat.le_add_left _ _) (Nat.le_refl _) (Nat.le_refl _) ?_
  refine m_max l_X8_25 dX8_slot_20 (Nat.le_of_ble_eq_true rfl) (Nat.le_add_left _ _) (Nat.le_refl _) (Nat.le_refl _) ?_
  refine m_iadd dX8_slot_23 ?_
  exact m_ireturn dX8_slot_24 rfl rfl ⟨rfl, _, rfl, h⟩
