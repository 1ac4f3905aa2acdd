set_option maxHeartbeats 4000000 in
set_option maxRecDepth 100000 in
theorem h4_replace_17 {d : Nat} {Th : mT} {Q : Int32 → mM → Prop} {a0 : Nat} {a1 : Nat} {x3 : Int32} {x4 : Int32} {M : mM} (h : if x3 ≤ x4 then (Th.2.2 a0 = some (.inl 4) ∧ (∃ r2 : Nat, M.2.2 a0 2 = some r2 ∧ (P4_start d Th a0 r2 x3 M (fun M4 : mM => P4_readAll d Th a0 M4 (fun (v7 : Int32) (M6 : mM) => if ((M6).1 a0 9) = 0 then (∃ r8 : Nat, M6.2.2 a0 1 = some r8 ∧ (∃ r10 : Nat, M6.2.2 a0 2 = some r10 ∧ (∀ M12 : mM, M12 = m_ur M6 a0 1 (some r10) → ∀ M13 : mM, M13 = m_ur M12 a0 2 (some r8) → ∀ M14 : mM, M14 = m_ui M13 a0 3 x3 → Q v7 (m_ui M14 a0 4 v7)))) else (Q ((((-1000) * ((M6).1 a0 9)) - ((M6).1 a0 7))) M6)))))) else (Th.2.2 a0 = some (.inl 4) ∧ (∃ r16 : Nat, M.2.2 a0 2 = some r16 ∧ (Th.2.2 a1 = some (.inl 9) ∧ (P9_byteAt d Th a1 x4 M (fun (v19 : Int32) (M18 : mM) => m_okw Th r16 .int x4 ∧ (H4_replace_17 (d + 1) Th Q a0 a1 x3 (x4 + 1) (m_ui M18 r16 (Int32.toNatClampNeg x4) v19)))))))) : H4_replace_17 (d + 1) Th Q a0 a1 x3 x4 M := by
  show m_W (d + 1) 0 0 yX4_replace cX4_replace 6 (some .int) (m_qi Th Q) 17 [(0, .ref a0), (1, .ref a1), (3, .int x3), (4, .int x4)] [] Th M 0 0
  refine m_iload dX4_replace_17 3 rfl ?_
  refine m_iload_n dX4_replace_19 rfl 2 rfl ?_
  refine m_icmp_ge (tgt := 42) dX4_replace_20 (by decide) (fun c1 => ?_) (fun c1 => ?_)
  · rw [if_pos c1] at h
    refine m_aload_n dX4_replace_42 rfl 0 rfl ?_
    refine m_aload_n dX4_replace_43 rfl 0 rfl ?_
    obtain ⟨q1, h⟩ := h
    obtain ⟨r2, q3, h⟩ := h
    refine m_getr f_X4_22 rfl dX4_replace_44 q1 q3 ?_
    refine m_iload_n dX4_replace_47 rfl 2 rfl ?_
    refine m_invV (ci := 4) (As := [.ref r2, .int x3]) (d' := d) (mc' := 0) (ms' := 0) (rest := []) i_4_start v_4_start t_4_start l_X4_43 ⟨_, _, rfl⟩ dX4_replace_48 rfl rfl q1 (Nat.le_of_ble_eq_true rfl) (Nat.le_refl _) ⟨Nat.le_refl _, Nat.le_refl _⟩ (m_Cv h (fun M4 h => ?_))
    show m_W (d + 1) 0 0 yX4_replace cX4_replace 6 (some .int) (m_qi Th Q) 51 [(0, .ref a0), (1, .ref a1), (3, .int x3), (4, .int x4)] [] Th M4 0 0
    refine m_aload_n dX4_replace_51 rfl 0 rfl ?_
    refine m_invV (ci := 4) (As := []) (d' := d) (mc' := 0) (ms' := 0) (rest := []) i_4_readAll v_4_readAll t_4_readAll l_X4_47 ⟨_, _, rfl⟩ dX4_replace_52 rfl rfl q1 (Nat.le_of_ble_eq_true rfl) (Nat.le_refl _) ⟨Nat.le_refl _, Nat.le_refl _⟩ (m_Ci h (fun v7 M6 h => ?_))
    show m_W (d + 1) 0 0 yX4_replace cX4_replace 6 (some .int) (m_qi Th Q) 55 [(0, .ref a0), (1, .ref a1), (3, .int x3), (4, .int x4)] [.int v7] Th M6 0 0
    refine m_istore (lv' := [(4, .int v7), (0, .ref a0), (1, .ref a1), (3, .int x3)]) dX4_replace_55 (by decide) rfl ?_
    refine m_aload_n dX4_replace_57 rfl 1 rfl ?_
    refine m_geti f_X4_51 rfl dX4_replace_58 q1 ?_
    refine m_if_eq (tgt := 78) dX4_replace_61 (by decide) (fun c1 => ?_) (fun c1 => ?_)
    · rw [if_pos c1] at h
      refine m_aload_n dX4_replace_78 rfl 1 rfl ?_
      obtain ⟨r8, q9, h⟩ := h
      refine m_getr f_X4_19 rfl dX4_replace_79 q1 q9 ?_
      refine m_astore (lv' := [(5, .ref r8), (4, .int v7), (0, .ref a0), (1, .ref a1), (3, .int x3)]) dX4_replace_82 (by decide) rfl ?_
      refine m_aload_n dX4_replace_84 rfl 2 rfl ?_
      refine m_aload_n dX4_replace_85 rfl 2 rfl ?_
      obtain ⟨r10, q11, h⟩ := h
      refine m_getr f_X4_22 rfl dX4_replace_86 q1 q11 ?_
      refine m_putr f_X4_19 rfl (Or.inl rfl) dX4_replace_89 q1 ?_
      refine m_aload_n dX4_replace_92 rfl 2 rfl ?_
      refine m_aload dX4_replace_93 0 rfl ?_
      obtain ⟨M12, e_M12⟩ : ∃ M12 : mM, M12 = m_ur M6 a0 1 (some r10) := ⟨_, rfl⟩
      have h := h M12 e_M12
      rw [← e_M12]
      refine m_putr f_X4_22 rfl (Or.inl rfl) dX4_replace_95 q1 ?_
      refine m_aload_n dX4_replace_98 rfl 2 rfl ?_
      refine m_iload_n dX4_replace_99 rfl 4 rfl ?_
      obtain ⟨M13, e_M13⟩ : ∃ M13 : mM, M13 = m_ur M12 a0 2 (some r8) := ⟨_, rfl⟩
      have h := h M13 e_M13
      rw [← e_M13]
      refine m_puti f_X4_58 rfl (Or.inl rfl) dX4_replace_100 q1 ⟨rfl, rfl⟩ ?_
      refine m_aload_n dX4_replace_103 rfl 2 rfl ?_
      refine m_iload dX4_replace_104 1 rfl ?_
      obtain ⟨M14, e_M14⟩ : ∃ M14 : mM, M14 = m_ui M13 a0 3 x3 := ⟨_, rfl⟩
      have h := h M14 e_M14
      rw [← e_M14]
      refine m_puti f_X4_61 rfl (Or.inl rfl) dX4_replace_106 q1 ⟨rfl, rfl⟩ ?_
      refine m_iload dX4_replace_109 1 rfl ?_
      exact m_ireturn dX4_replace_111 rfl rfl ⟨rfl, _, rfl, h⟩
    · rw [if_neg c1] at h
      refine m_sipush (v := (-1000)) dX4_replace_64 (by decide) ?_
      refine m_aload_n dX4_replace_67 rfl 1 rfl ?_
      refine m_geti f_X4_51 rfl dX4_replace_68 q1 ?_
      refine m_imul dX4_replace_71 ?_
      refine m_aload_n dX4_replace_72 rfl 1 rfl ?_
      refine m_geti f_X4_55 rfl dX4_replace_73 q1 ?_
      refine m_isub dX4_replace_76 ?_
      exact m_ireturn dX4_replace_77 rfl rfl ⟨rfl, _, rfl, h⟩
  · rw [if_neg c1] at h
    refine m_aload_n dX4_replace_23 rfl 0 rfl ?_
    obtain ⟨q15, h⟩ := h
    obtain ⟨r16, q17, h⟩ := h
    refine m_getr f_X4_22 rfl dX4_replace_24 q15 q17 ?_
    refine m_iload dX4_replace_27 3 rfl ?_
    refine m_aload_n dX4_replace_29 rfl 1 rfl ?_
    refine m_iload dX4_replace_30 3 rfl ?_
    obtain ⟨q20, h⟩ := h
    refine m_invV (ci := 9) (As := [.int x4]) (d' := d) (mc' := 0) (ms' := 0) (rest := [.int x4, .ref r16]) i_9_byteAt v_9_byteAt t_9_byteAt l_X4_37 ⟨_, _, rfl⟩ dX4_replace_32 rfl rfl q20 (Nat.le_of_ble_eq_true rfl) (Nat.le_refl _) ⟨Nat.le_refl _, Nat.le_refl _⟩ (m_Ci h (fun v19 M18 h => ?_))
    show m_W (d + 1) 0 0 yX4_replace cX4_replace 6 (some .int) (m_qi Th Q) 35 [(0, .ref a0), (1, .ref a1), (3, .int x3), (4, .int x4)] [.int v19, .int x4, .ref r16] Th M18 0 0
    obtain ⟨q21, h⟩ := h
    refine m_iast dX4_replace_35 q21 ?_
    refine m_iinc (v := x4 + 1) (lv' := [(4, .int (x4 + 1)), (0, .ref a0), (1, .ref a1), (3, .int x3)]) dX4_replace_36 3 rfl rfl (by decide) rfl ?_
    refine m_goto (tgt := 17) dX4_replace_39 (by decide) ?_
    exact m_sub [1, 2, 3, 0] rfl h
set_option maxHeartbeats 4000000 in
set_option maxRecDepth 100000 in
theorem e4_replace {d : Nat} {Th : mT} {Q : Int32 → mM → Prop} {a0 : Nat} {a1 : Nat} {x2 : Int32} {M : mM} (h : Th.2.2 a0 = some (.inl 4) ∧ (∃ r2 : Nat, M.2.2 a0 2 = some r2 ∧ (∃ (ty : FieldType) (fz : Bool) (n4 : Nat), Th.2.2 r2 = some (.inr (ty, fz, n4)) ∧ (∀ xv6 : Int32, xv6 = (if 0 < (if (nI n4) < x2 then (nI n4) else x2) then (if (nI n4) < x2 then (nI n4) else x2) else 0) → H4_replace_17 (d + 1) Th Q a0 a1 xv6 0 M)))) : P4_replace (d + 1) Th a0 a1 x2 M Q := by
  refine m_C.of (by decide +kernel) (Nat.le_of_ble_eq_true rfl) ?_
  show m_W (d + 1) 0 0 yX4_replace cX4_replace 6 (some .int) (m_qi Th Q) 0 [(0, .ref a0), (1, .ref a1), (2, .int x2)] [] Th M 0 0
  refine m_iconst (v := 0) dX4_replace_0 (by decide) ?_
  refine m_iload_n dX4_replace_1 rfl 2 rfl ?_
  refine m_aload_n dX4_replace_2 rfl 0 rfl ?_
  obtain ⟨q1, h⟩ := h
  obtain ⟨r2, q3, h⟩ := h
  refine m_getr f_X4_22 rfl dX4_replace_3 q1 q3 ?_
  obtain ⟨_, _, n4, q5, h⟩ := h
  refine m_alen dX4_replace_6 q5 ?_
  refine m_min l_X4_28 dX4_replace_7 (Nat.le_of_ble_eq_true rfl) (Nat.le_add_left _ _) (Nat.le_refl _) (Nat.le_refl _) ?_
  refine m_max l_X4_34 dX4_replace_10 (Nat.le_of_ble_eq_true rfl) (Nat.le_add_left _ _) (Nat.le_refl _) (Nat.le_refl _) ?_
  obtain ⟨xv6, e_xv6⟩ : ∃ xv6 : Int32, xv6 = (if 0 < (if (nI n4) < x2 then (nI n4) else x2) then (if (nI n4) < x2 then (nI n4) else x2) else 0) := ⟨_, rfl⟩
  have h := h xv6 e_xv6
  rw [← e_xv6]
  refine m_istore_n (lv' := [(3, .int xv6), (0, .ref a0), (1, .ref a1), (2, .int x2)]) dX4_replace_13 rfl (by decide) rfl ?_
  refine m_iconst (v := 0) dX4_replace_14 (by decide) ?_
  refine m_istore (lv' := [(4, .int 0), (3, .int xv6), (0, .ref a0), (1, .ref a1), (2, .int x2)]) dX4_replace_15 (by decide) rfl ?_
  exact m_sub [2, 3, 1, 0] rfl h
set_option maxHeartbeats 4000000 in
set_option maxRecDepth 100000 in
theorem e4_tellBand {d : Nat} {Th : mT} {Q : mM → Prop} {a0 : Nat} {x1 : Int32} {x2 : Int32} {x3 : Int32} {M : mM} (h : Th.2.2 a0 = some (.inl 4) ∧ (∃ r2 : Nat, M.2.2 a0 0 = some r2 ∧ (m_okw Th r2 .int 0 ∧ (m_okw Th r2 .int 1 ∧ (∀ M6 : mM, M6 = m_ui M r2 (Int32.toNatClampNeg 0) x1 → m_okw Th r2 .int 2 ∧ (∀ M8 : mM, M8 = m_ui M6 r2 (Int32.toNatClampNeg 1) x2 → Q (m_ui M8 r2 (Int32.toNatClampNeg 2) x3))))))) : P4_tellBand (d + 1) Th a0 x1 x2 x3 M Q := by
  refine m_C.of (by decide +kernel) (Nat.le_of_ble_eq_true rfl) ?_
  show m_W (d + 1) 0 0 yX4_tellBand cX4_tellBand 4 none (m_qv Th Q) 0 [(0, .ref a0), (1, .int x1), (2, .int x2), (3, .int x3)] [] Th M 0 0
  refine m_aload_n dX4_tellBand_0 rfl 0 rfl ?_
  obtain ⟨q1, h⟩ := h
  obtain ⟨r2, q3, h⟩ := h
  refine m_getr f_X4_15 rfl dX4_tellBand_1 q1 q3 ?_
  refine m_iconst (v := 0) dX4_tellBand_4 (by decide) ?_
  refine m_iload_n dX4_tellBand_5 rfl 1 rfl ?_
  obtain ⟨q4, h⟩ := h
  refine m_iast dX4_tellBand_6 q4 ?_
  refine m_aload_n dX4_tellBand_7 rfl 0 rfl ?_
  refine m_getr f_X4_15 rfl dX4_tellBand_8 q1 q3 ?_
  refine m_iconst (v := 1) dX4_tellBand_11 (by decide) ?_
  refine m_iload_n dX4_tellBand_12 rfl 2 rfl ?_
  obtain ⟨q5, h⟩ := h
  obtain ⟨M6, e_M6⟩ : ∃ M6 : mM, M6 = m_ui M r2 (Int32.toNatClampNeg 0) x1 := ⟨_, rfl⟩
  have h := h M6 e_M6
  rw [← e_M6]
  refine m_iast dX4_tellBand_13 q5 ?_
  refine m_aload_n dX4_tellBand_14 rfl 0 rfl ?_
  refine m_getr f_X4_15 rfl dX4_tellBand_15 q1 (by rw [e_M6]; exact q3) ?_
  refine m_iconst (v := 2) dX4_tellBand_18 (by decide) ?_
  refine m_iload_n dX4_tellBand_19 rfl 3 rfl ?_
  obtain ⟨q7, h⟩ := h
  obtain ⟨M8, e_M8⟩ : ∃ M8 : mM, M8 = m_ui M6 r2 (Int32.toNatClampNeg 1) x2 := ⟨_, rfl⟩
  have h := h M8 e_M8
  rw [← e_M8]
  refine m_iast dX4_tellBand_20 q7 ?_
  exact m_return dX4_tellBand_21 rfl ⟨rfl, rfl, h⟩
set_option maxHeartbeats 4000000 in
set_option maxRecDepth 100000 in
theorem e4_tellRiddle {d : Nat} {Th : mT} {Q : mM → Prop} {a0 : Nat} {x1 : Int32} {x2 : Int32} {x3 : Int32} {M : mM} (h : Th.2.2 a0 = some (.inl 4) ∧ (∃ r2 : Nat, M.2.2 a0 0 = some r2 ∧ (m_okw Th r2 .int 3 ∧ (m_okw Th r2 .int 4 ∧ (∀ M6 : mM, M6 = m_ui M r2 (Int32.toNatClampNeg 3) x1 → m_okw Th r2 .int 5 ∧ (∀ M8 : mM, M8 = m_ui M6 r2 (Int32.toNatClampNeg 4) x2 → Q (m_ui M8 r2 (Int32.toNatClampNeg 5) x3))))))) : P4_tellRiddle (d + 1) Th a0 x1 x2 x3 M Q := by
  refine m_C.of (by decide +kernel) (Nat.le_of_ble_eq_true rfl) ?_
  show m_W (d + 1) 0 0 yX4_tellRiddle cX4_tellRiddle 4 none (m_qv Th Q) 0 [(0, .ref a0), (1, .int x1), (2, .int x2), (3, .int x3)] [] Th M 0 0
  refine m_aload_n dX4_tellRiddle_0 rfl 0 rfl ?_
  obtain ⟨q1, h⟩ := h
  obtain ⟨r2, q3, h⟩ := h
  refine m_getr f_X4_15 rfl dX4_tellRiddle_1 q1 q3 ?_
  refine m_iconst (v := 3) dX4_tellRiddle_4 (by decide) ?_
  refine m_iload_n dX4_tellRiddle_5 rfl 1 rfl ?_
  obtain ⟨q4, h⟩ := h
  refine m_iast dX4_tellRiddle_6 q4 ?_
  refine m_aload_n dX4_tellRiddle_7 rfl 0 rfl ?_
  refine m_getr f_X4_15 rfl dX4_tellRiddle_8 q1 q3 ?_
  refine m_iconst (v := 4) dX4_tellRiddle_11 (by decide) ?_
  refine m_iload_n dX4_tellRiddle_12 rfl 2 rfl ?_
  obtain ⟨q5, h⟩ := h
  obtain ⟨M6, e_M6⟩ : ∃ M6 : mM, M6 = m_ui M r2 (Int32.toNatClampNeg 3) x1 := ⟨_, rfl⟩
  have h := h M6 e_M6
  rw [← e_M6]
  refine m_iast dX4_tellRiddle_13 q5 ?_
  refine m_aload_n dX4_tellRiddle_14 rfl 0 rfl ?_
  refine m_getr f_X4_15 rfl dX4_tellRiddle_15 q1 (by rw [e_M6]; exact q3) ?_
  refine m_iconst (v := 5) dX4_tellRiddle_18 (by decide) ?_
  refine m_iload_n dX4_tellRiddle_19 rfl 3 rfl ?_
  obtain ⟨q7, h⟩ := h
  obtain ⟨M8, e_M8⟩ : ∃ M8 : mM, M8 = m_ui M6 r2 (Int32.toNatClampNeg 4) x2 := ⟨_, rfl⟩
  have h := h M8 e_M8
  rw [← e_M8]
  refine m_iast dX4_tellRiddle_20 q7 ?_
  exact m_return dX4_tellRiddle_21 rfl ⟨rfl, rfl, h⟩
set_option maxHeartbeats 4000000 in
set_option maxRecDepth 100000 in
theorem e4_tellHill {d : Nat} {Th : mT} {Q : mM → Prop} {a0 : Nat} {x1 : Int32} {x2 : Int32} {M : mM} (h : Th.2.2 a0 = some (.inl 4) ∧ (∃ r2 : Nat, M.2.2 a0 0 = some r2 ∧ (m_okw Th r2 .int 6 ∧ (m_okw Th r2 .int 7 ∧ (∀ M6 : mM, M6 = m_ui M r2 (Int32.toNatClampNeg 6) x1 → Q (m_ui M6 r2 (Int32.toNatClampNeg 7) x2)))))) : P4_tellHill (d + 1) Th a0 x1 x2 M Q := by
  refine m_C.of (by decide +kernel) (Nat.le_of_ble_eq_true rfl) ?_
  show m_W (d + 1) 0 0 yX4_tellHill cX4_tellHill 3 none (m_qv Th Q) 0 [(0, .ref a0), (1, .int x1), (2, .int x2)] [] Th M 0 0
  refine m_aload_n dX4_tellHill_0 rfl 0 rfl ?_
  obtain ⟨q1, h⟩ := h
  obtain ⟨r2, q3, h⟩ := h
  refine m_getr f_X4_15 rfl dX4_tellHill_1 q1 q3 ?_
  refine m_bipush (v := 6) dX4_tellHill_4 (by decide) ?_
  refine m_iload_n dX4_tellHill_6 rfl 1 rfl ?_
  obtain ⟨q4, h⟩ := h
  refine m_iast dX4_tellHill_7 q4 ?_
  refine m_aload_n dX4_tellHill_8 rfl 0 rfl ?_
  refine m_getr f_X4_15 rfl dX4_tellHill_9 q1 q3 ?_
  refine m_bipush (v := 7) dX4_tellHill_12 (by decide) ?_
  refine m_iload_n dX4_tellHill_14 rfl 2 rfl ?_
  obtain ⟨q5, h⟩ := h
  obtain ⟨M6, e_M6⟩ : ∃ M6 : mM, M6 = m_ui M r2 (Int32.toNatClampNeg 6) x1 := ⟨_, rfl⟩
  have h := h M6 e_M6
  rw [← e_M6]
  refine m_iast dX4_tellHill_15 q5 ?_
  exact m_return dX4_tellHill_16 rfl ⟨rfl, rfl, h⟩
set_option maxHeartbeats 4000000 in
set_option maxRecDepth 100000 in
theorem h4_eighths_14 {d : Nat} {Th : mT} {Q : Int32 → mM → Prop} {a0 : Nat} {x1 : Int32} {x2 : Int32} {M : mM} (h : Th.2.2 a0 = some (.inl 4) ∧ (if ((M).1 a0 4) ≤ x2 then (Q 0 M) else (∀ xv2 : Int32, xv2 = (if ((M).1 a0 8) = x1 then 1 else 0) → P4_pass d Th a0 1 M (fun M3 : mM => if xv2 = 0 then (H4_eighths_105 (d + 1) Th Q a0 x1 x2 0 M3) else (P4_sum d Th a0 0 1 (m_ui M3 a0 10 0) (fun (v6 : Int32) (M5 : mM) => ∀ xv7 : Int32, xv7 = (if ((M5).1 a0 10) = 0 then v6 else 0) → P4_pass d Th a0 1 (m_ui M5 a0 10 0) (fun M8 : mM => P4_any d Th a0 1 1 M8 (fun (v11 : Int32) (M10 : mM) => if v11 = 0 then (H4_eighths_105 (d + 1) Th Q a0 x1 x2 0 M10) else (if ((M10).1 a0 10) = 0 then (Q xv7 M10) else (H4_eighths_105 (d + 1) Th Q a0 x1 x2 0 M10)))))))))) : H4_eighths_14 (d + 1) Th Q a0 x1 x2 M := by
  show m_W (d + 1) 0 0 yX4_eighths cX4_eighths 5 (some .int) (m_qi Th Q) 14 [(0, .ref a0), (1, .int x1), (2, .int x2)] [] Th M 0 0
  refine m_iload_n dX4_eighths_14 rfl 2 rfl ?_
  refine m_aload_n dX4_eighths_15 rfl 0 rfl ?_
  obtain ⟨q1, h⟩ := h
  refine m_geti f_X4_61 rfl dX4_eighths_16 q1 ?_
  refine m_icmp_ge (tgt := 152) dX4_eighths_19 (by decide) (fun c1 => ?_) (fun c1 => ?_)
  · rw [if_pos c1] at h
    refine m_iconst (v := 0) dX4_eighths_152 (by decide) ?_
    exact m_ireturn dX4_eighths_153 rfl rfl ⟨rfl, _, rfl, h⟩
  · rw [if_neg c1] at h
    refine m_aload_n dX4_eighths_22 rfl 0 rfl ?_
    refine m_geti f_X4_64 rfl dX4_eighths_23 q1 ?_
    refine m_iload_n dX4_eighths_26 rfl 1 rfl ?_
    have hJ : m_W (d + 1) 0 0 yX4_eighths cX4_eighths 5 (some .int) (m_qi Th Q) 35 [(0, .ref a0), (1, .int x1), (2, .int x2)] [.int ((if ((M).1 a0 8) = x1 then 1 else 0))] Th M 0 0 := by
      obtain ⟨xv2, e_xv2⟩ : ∃ xv2 : Int32, xv2 = (if ((M).1 a0 8) = x1 then 1 else 0) := ⟨_, rfl⟩
      have h := h xv2 e_xv2
      rw [← e_xv2]
      refine m_istore_n (lv' := [(3, .int xv2), (0, .ref a0), (1, .int x1), (2, .int x2)]) dX4_eighths_35 rfl (by decide) rfl ?_
      refine m_aload_n dX4_eighths_36 rfl 1 rfl ?_
      refine m_iconst (v := 1) dX4_eighths_37 (by decide) ?_
      refine m_invV (ci := 4) (As := [.int 1]) (d' := d) (mc' := 0) (ms' := 0) (rest := []) i_4_pass v_4_pass t_4_pass l_X4_67 ⟨_, _, rfl⟩ dX4_eighths_38 rfl rfl q1 (Nat.le_of_ble_eq_true rfl) (Nat.le_refl _) ⟨Nat.le_refl _, Nat.le_refl _⟩ (m_Cv h (fun M3 h => ?_))
      show m_W (d + 1) 0 0 yX4_eighths cX4_eighths 5 (some .int) (m_qi Th Q) 41 [(3, .int xv2), (0, .ref a0), (1, .int x1), (2, .int x2)] [] Th M3 0 0
      refine m_iload_n dX4_eighths_41 rfl 0 rfl ?_
      refine m_if_eq (tgt := 102) dX4_eighths_42 (by decide) (fun c1 => ?_) (fun c1 => ?_)
      · rw [if_pos c1] at h
        refine m_iconst (v := 0) dX4_eighths_102 (by decide) ?_
        refine m_istore (lv' := [(4, .int 0), (3, .int xv2), (0, .ref a0), (1, .int x1), (2, .int x2)]) dX4_eighths_103 (by decide) rfl ?_
        exact m_sub [2, 3, 4, 0] rfl h
      · rw [if_neg c1] at h
        refine m_aload_n dX4_eighths_45 rfl 1 rfl ?_
        refine m_iconst (v := 0) dX4_eighths_46 (by decide) ?_
        refine m_puti f_X4_71 rfl (Or.inl rfl) dX4_eighths_47 q1 ⟨by decide, by decide⟩ ?_
        refine m_aload_n dX4_eighths_50 rfl 1 rfl ?_
        refine m_iconst (v := 0) dX4_eighths_51 (by decide) ?_
        refine m_iconst (v := 1) dX4_eighths_52 (by decide) ?_
        refine m_invV (ci := 4) (As := [.int 0, .int 1]) (d' := d) (mc' := 0) (ms' := 0) (rest := []) i_4_sum v_4_sum t_4_sum l_X4_75 ⟨_, _, rfl⟩ dX4_eighths_53 rfl rfl q1 (Nat.le_of_ble_eq_true rfl) (Nat.le_refl _) ⟨Nat.le_refl _, Nat.le_refl _⟩ (m_Ci h (fun v6 M5 h => ?_))
        show m_W (d + 1) 0 0 yX4_eighths cX4_eighths 5 (some .int) (m_qi Th Q) 56 [(3, .int xv2), (0, .ref a0), (1, .int x1), (2, .int x2)] [.int v6] Th M5 0 0
        refine m_istore (lv' := [(4, .int v6), (3, .int xv2), (0, .ref a0), (1, .int x1), (2, .int x2)]) dX4_eighths_56 (by decide) rfl ?_
        refine m_aload_n dX4_eighths_58 rfl 2 rfl ?_
        refine m_geti f_X4_71 rfl dX4_eighths_59 q1 ?_
        have hJ : m_W (d + 1) 0 0 yX4_eighths cX4_eighths 5 (some .int) (m_qi Th Q) 71 [(4, .int v6), (3, .int xv2), (0, .ref a0), (1, .int x1), (2, .int x2)] [.int ((if ((M5).1 a0 10) = 0 then v6 else 0))] Th M5 0 0 := by
          obtain ⟨xv7, e_xv7⟩ : ∃ xv7 : Int32, xv7 = (if ((M5).1 a0 10) = 0 then v6 else 0) := ⟨_, rfl⟩
          have h := h xv7 e_xv7
          rw [← e_xv7]
          refine m_istore (lv' := [(4, .int xv7), (3, .int xv2), (0, .ref a0), (1, .int x1), (2, .int x2)]) dX4_eighths_71 (by decide) rfl ?_
          refine m_aload_n dX4_eighths_73 rfl 2 rfl ?_
          refine m_iconst (v := 0) dX4_eighths_74 (by decide) ?_
          refine m_puti f_X4_71 rfl (Or.inl rfl) dX4_eighths_75 q1 ⟨by decide, by decide⟩ ?_
          refine m_aload_n dX4_eighths_78 rfl 2 rfl ?_
          refine m_iconst (v := 1) dX4_eighths_79 (by decide) ?_
          refine m_invV (ci := 4) (As := [.int 1]) (d' := d) (mc' := 0) (ms' := 0) (rest := []) i_4_pass v_4_pass t_4_pass l_X4_67 ⟨_, _, rfl⟩ dX4_eighths_80 rfl rfl q1 (Nat.le_of_ble_eq_true rfl) (Nat.le_refl _) ⟨Nat.le_refl _, Nat.le_refl _⟩ (m_Cv h (fun M8 h => ?_))
          show m_W (d + 1) 0 0 yX4_eighths cX4_eighths 5 (some .int) (m_qi Th Q) 83 [(4, .int xv7), (3, .int xv2), (0, .ref a0), (1, .int x1), (2, .int x2)] [] Th M8 0 0
          refine m_aload_n dX4_eighths_83 rfl 2 rfl ?_
          refine m_iconst (v := 1) dX4_eighths_84 (by decide) ?_
          refine m_iconst (v := 1) dX4_eighths_85 (by decide) ?_
          refine m_invV (ci := 4) (As := [.int 1, .int 1]) (d' := d) (mc' := 0) (ms' := 0) (rest := []) i_4_any v_4_any t_4_any l_X4_79 ⟨_, _, rfl⟩ dX4_eighths_86 rfl rfl q1 (Nat.le_of_ble_eq_true rfl) (Nat.le_refl _) ⟨Nat.le_refl _, Nat.le_refl _⟩ (m_Ci h (fun v11 M10 h => ?_))
          show m_W (d + 1) 0 0 yX4_eighths cX4_eighths 5 (some .int) (m_qi Th Q) 89 [(4, .int xv7), (3, .int xv2), (0, .ref a0), (1, .int x1), (2, .int x2)] [.int v11] Th M10 0 0
          refine m_if_eq (tgt := 102) dX4_eighths_89 (by decide) (fun c1 => ?_) (fun c1 => ?_)
          · rw [if_pos c1] at h
            refine m_iconst (v := 0) dX4_eighths_102 (by decide) ?_
            refine m_istore (lv' := [(4, .int 0), (3, .int xv2), (0, .ref a0), (1, .int x1), (2, .int x2)]) dX4_eighths_103 (by decide) rfl ?_
            exact m_sub [2, 3, 4, 0] rfl h
          · rw [if_neg c1] at h
            refine m_aload_n dX4_eighths_92 rfl 2 rfl ?_
            refine m_geti f_X4_71 rfl dX4_eighths_93 q1 ?_
            refine m_if_ne (tgt := 102) dX4_eighths_96 (by decide) (fun c1 => ?_) (fun c1 => ?_)
            · rw [if_neg c1] at h
              refine m_iconst (v := 0) dX4_eighths_102 (by decide) ?_
              refine m_istore (lv' := [(4, .int 0), (3, .int xv2), (0, .ref a0), (1, .int x1), (2, .int x2)]) dX4_eighths_103 (by decide) rfl ?_
              exact m_sub [2, 3, 4, 0] rfl h
            · rw [if_pos c1] at h
              refine m_iload dX4_eighths_99 0 rfl ?_
              exact m_ireturn dX4_eighths_101 rfl rfl ⟨rfl, _, rfl, h⟩
        refine m_if_eq (tgt := 69) dX4_eighths_62 (by decide) (fun c1 => ?_) (fun c1 => ?_)
        · simp only [if_pos c1] at hJ
          refine m_iload dX4_eighths_69 0 rfl ?_
          exact hJ
        · simp only [if_neg c1] at hJ
          refine m_iconst (v := 0) dX4_eighths_65 (by decide) ?_
          refine m_goto (tgt := 71) dX4_eighths_66 (by decide) ?_
          exact hJ
    refine m_icmp_ne (tgt := 34) dX4_eighths_27 (by decide) (fun c1 => ?_) (fun c1 => ?_)
    · simp only [if_neg c1] at hJ
      refine m_iconst (v := 0) dX4_eighths_34 (by decide) ?_
      exact hJ
    · simp only [if_pos c1] at hJ
      refine m_iconst (v := 1) dX4_eighths_30 (by decide) ?_
      refine m_goto (tgt := 35) dX4_eighths_31 (by decide) ?_
      exact hJ
set_option maxHeartbeats 4000000 in
set_option maxRecDepth 100000 in
theorem h4_eighths_105 {d : Nat} {Th : mT} {Q : Int32 → mM → Prop} {a0 : Nat} {x1 : Int32} {x2 : Int32} {x4 : Int32} {M : mM} (h : if 200 ≤ x4 then (H4_eighths_141 (d + 1) Th Q a0 x1 x2 M) else (Th.2.2 a0 = some (.inl 4) ∧ (if ((M).1 a0 8) = 59 then (H4_eighths_141 (d + 1) Th Q a0 x1 x2 M) else (if ((M).1 a0 8) = (-1) then (H4_eighths_141 (d + 1) Th Q a0 x1 x2 M) else (P4_pass d Th a0 1 M (fun M2 : mM => H4_eighths_105 (d + 1) Th Q a0 x1 x2 (x4 + 1) M2)))))) : H4_eighths_105 (d + 1) Th Q a0 x1 x2 x4 M := by
  show m_W (d + 1) 0 0 yX4_eighths cX4_eighths 5 (some .int) (m_qi Th Q) 105 [(0, .ref a0), (1, .int x1), (2, .int x2), (4, .int x4)] [] Th M 0 0
  refine m_iload dX4_eighths_105 3 rfl ?_
  refine m_sipush (v := 200) dX4_eighths_107 (by decide) ?_
  refine m_icmp_ge (tgt := 141) dX4_eighths_110 (by decide) (fun c1 => ?_) (fun c1 => ?_)
  · rw [if_pos c1] at h
    exact m_sub [0, 1, 2] rfl h
  · rw [if_neg c1] at h
    refine m_aload_n dX4_eighths_113 rfl 0 rfl ?_
    obtain ⟨q1, h⟩ := h
    refine m_geti f_X4_64 rfl dX4_eighths_114 q1 ?_
    refine m_bipush (v := 59) dX4_eighths_117 (by decide) ?_
    refine m_icmp_eq (tgt := 141) dX4_eighths_119 (by decide) (fun c1 => ?_) (fun c1 => ?_)
    · rw [if_pos c1] at h
      exact m_sub [0, 1, 2] rfl h
    · rw [if_neg c1] at h
      refine m_aload_n dX4_eighths_122 rfl 0 rfl ?_
      refine m_geti f_X4_64 rfl dX4_eighths_123 q1 ?_
      refine m_iconst (v := (-1)) dX4_eighths_126 (by decide) ?_
      refine m_icmp_eq (tgt := 141) dX4_eighths_127 (by decide) (fun c1 => ?_) (fun c1 => ?_)
      · rw [if_pos c1] at h
        exact m_sub [0, 1, 2] rfl h
      · rw [if_neg c1] at h
        refine m_aload_n dX4_eighths_130 rfl 0 rfl ?_
        refine m_iconst (v := 1) dX4_eighths_131 (by decide) ?_
        refine m_invV (ci := 4) (As := [.int 1]) (d' := d) (mc' := 0) (ms' := 0) (rest := []) i_4_pass v_4_pass t_4_pass l_X4_67 ⟨_, _, rfl⟩ dX4_eighths_132 rfl rfl q1 (Nat.le_of_ble_eq_true rfl) (Nat.le_refl _) ⟨Nat.le_refl _, Nat.le_refl _⟩ (m_Cv h (fun M2 h => ?_))
        show m_W (d + 1) 0 0 yX4_eighths cX4_eighths 5 (some .int) (m_qi Th Q) 135 [(0, .ref a0), (1, .int x1), (2, .int x2), (4, .int x4)] [] Th M2 0 0
        refine m_iinc (v := x4 + 1) (lv' := [(4, .int (x4 + 1)), (0, .ref a0), (1, .int x1), (2, .int x2)]) dX4_eighths_135 3 rfl rfl (by decide) rfl ?_
        refine m_goto (tgt := 105) dX4_eighths_138 (by decide) ?_
        exact m_sub [1, 2, 3, 0] rfl h
set_option maxHeartbeats 4000000 in
set_option maxRecDepth 100000 in
theorem h4_eighths_141 {d : Nat} {Th : mT} {Q : Int32 → mM → Prop} {a0 : Nat} {x1 : Int32} {x2 : Int32} {M : mM} (h : Th.2.2 a0 = some (.inl 4) ∧ (P4_pass d Th a0 1 M (fun M1 : mM => H4_eighths_14 (d + 1) Th Q a0 x1 (x2 + 1) M1))) : H4_eighths_141 (d + 1) Th Q a0 x1 x2 M := by
  show m_W (d + 1) 0 0 yX4_eighths cX4_eighths 5 (some .int) (m_qi Th Q) 141 [(0, .ref a0), (1, .int x1), (2, .int x2)] [] Th M 0 0
  refine m_aload_n dX4_eighths_141 rfl 0 rfl ?_
  refine m_iconst (v := 1) dX4_eighths_142 (by decide) ?_
  obtain ⟨q3, h⟩ := h
  refine m_invV (ci := 4) (As := [.int 1]) (d' := d) (mc' := 0) (ms' := 0) (rest := []) i_4_pass v_4_pass t_4_pass l_X4_67 ⟨_, _, rfl⟩ dX4_eighths_143 rfl rfl q3 (Nat.le_of_ble_eq_true rfl) (Nat.le_refl _) ⟨Nat.le_refl _, Nat.le_refl _⟩ (m_Cv h (fun M1 h => ?_))
  show m_W (d + 1) 0 0 yX4_eighths cX4_eighths 5 (some .int) (m_qi Th Q) 146 [(0, .ref a0), (1, .int x1), (2, .int x2)] [] Th M1 0 0
  refine m_iinc (v := x2 + 1) (lv' := [(2, .int (x2 + 1)), (0, .ref a0), (1, .int x1)]) dX4_eighths_146 2 rfl rfl (by decide) rfl ?_
  refine m_goto (tgt := 14) dX4_eighths_149 (by decide) ?_
  exact m_sub [1, 2, 0] rfl h
set_option maxHeartbeats 4000000 in
set_option maxRecDepth 100000 in
theorem e4_eighths {d : Nat} {Th : mT} {Q : Int32 → mM → Prop} {a0 : Nat} {x1 : Int32} {M : mM} (h : Th.2.2 a0 = some (.inl 4) ∧ (∃ r2 : Nat, M.2.2 a0 1 = some r2 ∧ (P4_start d Th a0 r2 (((M).1 a0 3)) M (fun M4 : mM => H4_eighths_14 (d + 1) Th Q a0 x1 0 M4)))) : P4_eighths (d + 1) Th a0 x1 M Q := by
  refine m_C.of (by decide +kernel) (Nat.le_of_ble_eq_true rfl) ?_
  show m_W (d + 1) 0 0 yX4_eighths cX4_eighths 5 (some .int) (m_qi Th Q) 0 [(0, .ref a0), (1, .int x1)] [] Th M 0 0
  refine m_aload_n dX4_eighths_0 rfl 0 rfl ?_
  refine m_aload_n dX4_eighths_1 rfl 0 rfl ?_
  obtain ⟨q1, h⟩ := h
  obtain ⟨r2, q3, h⟩ := h
  refine m_getr f_X4_19 rfl dX4_eighths_2 q1 q3 ?_
  refine m_aload_n dX4_eighths_5 rfl 0 rfl ?_
  refine m_geti f_X4_58 rfl dX4_eighths_6 q1 ?_
  refine m_invV (ci := 4) (As := [.ref r2, .int (((M).1 a0 3))]) (d' := d) (mc' := 0) (ms' := 0) (rest := []) i_4_start v_4_start t_4_start l_X4_43 ⟨_, _, rfl⟩ dX4_eighths_9 rfl rfl q1 (Nat.le_of_ble_eq_true rfl) (Nat.le_refl _) ⟨Nat.le_refl _, Nat.le_refl _⟩ (m_Cv h (fun M4 h => ?_))
  show m_W (d + 1) 0 0 yX4_eighths cX4_eighths 5 (some .int) (m_qi Th Q) 12 [(0, .ref a0), (1, .int x1)] [] Th M4 0 0
  refine m_iconst (v := 0) dX4_eighths_12 (by decide) ?_
  refine m_istore_n (lv' := [(2, .int 0), (0, .ref a0), (1, .int x1)]) dX4_eighths_13 rfl (by decide) rfl ?_
  exact m_sub [1, 2, 0] rfl h
set_option maxHeartbeats 4000000 in
set_option maxRecDepth 100000 in
theorem h4_start_35 {d : Nat} {Th : mT} {Q : mM → Prop} {a0 : Nat} {s0 : Int32} {s1 : Nat} {M : mM} (h : Th.2.2 s1 = some (.inl 4) ∧ (Th.2.2 a0 = some (.inl 4) ∧ (∀ M3 : mM, M3 = m_ui M s1 8 s0 → ∀ M4 : mM, M4 = m_ui M3 a0 9 0 → Q (m_ui M4 a0 10 0)))) : H4_start_35 (d + 1) Th Q a0 s0 s1 M := by
  show m_W (d + 1) 0 0 yX4_start cX4_start 3 none (m_qv Th Q) 35 [(0, .ref a0)] [.int s0, .ref s1] Th M 0 0
  obtain ⟨q1, h⟩ := h
  refine m_puti f_X4_64 rfl (Or.inl rfl) dX4_start_35 q1 ⟨rfl, rfl⟩ ?_
  refine m_aload_n dX4_start_38 rfl 0 rfl ?_
  refine m_iconst (v := 0) dX4_start_39 (by decide) ?_
  obtain ⟨q2, h⟩ := h
  obtain ⟨M3, e_M3⟩ : ∃ M3 : mM, M3 = m_ui M s1 8 s0 := ⟨_, rfl⟩
  have h := h M3 e_M3
  rw [← e_M3]
  refine m_puti f_X4_51 rfl (Or.inl rfl) dX4_start_40 q2 ⟨rfl, rfl⟩ ?_
  refine m_aload_n dX4_start_43 rfl 0 rfl ?_
  refine m_iconst (v := 0) dX4_start_44 (by decide) ?_
  obtain ⟨M4, e_M4⟩ : ∃ M4 : mM, M4 = m_ui M3 a0 9 0 := ⟨_, rfl⟩
  have h := h M4 e_M4
  rw [← e_M4]
  refine m_puti f_X4_71 rfl (Or.inl rfl) dX4_start_45 q2 ⟨by decide, by decide⟩ ?_
  exact m_return dX4_start_48 rfl ⟨rfl, rfl, h⟩
set_option maxHeartbeats 4000000 in
set_option maxRecDepth 100000 in
theorem e4_start {d : Nat} {Th : mT} {Q : mM → Prop} {a0 : Nat} {a1 : Nat} {x2 : Int32} {M : mM} (h : Th.2.2 a0 = some (.inl 4) ∧ (∃ (ty : FieldType) (fz : Bool) (n2 : Nat), Th.2.2 a1 = some (.inr (ty, fz, n2)) ∧ (∀ M4 : mM, M4 = m_ur M a0 5 (some a1) → ∀ M5 : mM, M5 = m_ui M4 a0 6 ((if (nI n2) < x2 then (nI n2) else x2)) → ∀ M6 : mM, M6 = m_ui M5 a0 7 0 → if ((M6).1 a0 6) ≤ 0 then (H4_start_35 (d + 1) Th Q a0 (-1) a0 M6) else (m_ok Th a1 .int 0 ∧ (H4_start_35 (d + 1) Th Q a0 (((M6).1 a1 (Int32.toNatClampNeg 0))) a0 M6))))) : P4_start (d + 1) Th a0 a1 x2 M Q := by
  refine m_C.of (by decide +kernel) (Nat.le_of_ble_eq_true rfl) ?_
  show m_W (d + 1) 0 0 yX4_start cX4_start 3 none (m_qv Th Q) 0 [(0, .ref a0), (1, .ref a1), (2, .int x2)] [] Th M 0 0
  refine m_aload_n dX4_start_0 rfl 0 rfl ?_
  refine m_aload_n dX4_start_1 rfl 1 rfl ?_
  obtain ⟨q1, h⟩ := h
  refine m_putr f_X4_25 rfl (Or.inl rfl) dX4_start_2 q1 ?_
  refine m_aload_n dX4_start_5 rfl 0 rfl ?_
  refine m_iload_n dX4_start_6 rfl 2 rfl ?_
  refine m_aload_n dX4_start_7 rfl 1 rfl ?_
  obtain ⟨_, _, n2, q3, h⟩ := h
  refine m_alen dX4_start_8 q3 ?_
  refine m_min l_X4_28 dX4_start_9 (Nat.le_of_ble_eq_true rfl) (Nat.le_add_left _ _) (Nat.le_refl _) (Nat.le_refl _) ?_
  obtain ⟨M4, e_M4⟩ : ∃ M4 : mM, M4 = m_ur M a0 5 (some a1) := ⟨_, rfl⟩
  have h := h M4 e_M4
  rw [← e_M4]
  refine m_puti f_X4_83 rfl (Or.inl rfl) dX4_start_12 q1 ⟨rfl, rfl⟩ ?_
  refine m_aload_n dX4_start_15 rfl 0 rfl ?_
  refine m_iconst (v := 0) dX4_start_16 (by decide) ?_
  obtain ⟨M5, e_M5⟩ : ∃ M5 : mM, M5 = m_ui M4 a0 6 ((if (nI n2) < x2 then (nI n2) else x2)) := ⟨_, rfl⟩
  have h := h M5 e_M5
  rw [← e_M5]
  refine m_puti f_X4_55 rfl (Or.inl rfl) dX4_start_17 q1 ⟨rfl, rfl⟩ ?_
  refine m_aload_n dX4_start_20 rfl 0 rfl ?_
  refine m_aload_n dX4_start_21 rfl 0 rfl ?_
  obtain ⟨M6, e_M6⟩ : ∃ M6 : mM, M6 = m_ui M5 a0 7 0 := ⟨_, rfl⟩
  have h := h M6 e_M6
  rw [← e_M6]
  refine m_geti f_X4_83 rfl dX4_start_22 q1 ?_
  refine m_if_le (tgt := 34) dX4_start_25 (by decide) (fun c1 => ?_) (fun c1 => ?_)
  · rw [if_pos c1] at h
    refine m_iconst (v := (-1)) dX4_start_34 (by decide) ?_
    exact m_sub [0] rfl h
  · rw [if_neg c1] at h
    refine m_aload_n dX4_start_28 rfl 1 rfl ?_
    refine m_iconst (v := 0) dX4_start_29 (by decide) ?_
    obtain ⟨q7, h⟩ := h
    refine m_iald dX4_start_30 q7 ?_
    refine m_goto (tgt := 35) dX4_start_31 (by decide) ?_
    exact m_sub [0] rfl h
set_option maxHeartbeats 4000000 in
set_option maxRecDepth 100000 in
theorem h4_pass_21 {d : Nat} {Th : mT} {Q : mM → Prop} {a0 : Nat} {M : mM} (h : Th.2.2 a0 = some (.inl 4) ∧ (if ((M).1 a0 9) = 0 then (∀ M2 : mM, M2 = m_ui M a0 7 ((((M).1 a0 7) + 1)) → if ((M2).1 a0 7) < 0 then (Q (m_ui M2 a0 8 (-1))) else (if ((M2).1 a0 6) ≤ ((M2).1 a0 7) then (Q (m_ui M2 a0 8 (-1))) else (∃ r3 : Nat, M.2.2 a0 5 = some r3 ∧ (∃ (ty : FieldType) (fz : Bool) (n5 : Nat), Th.2.2 r3 = some (.inr (ty, fz, n5)) ∧ (if (nI n5) ≤ ((M2).1 a0 7) then (Q (m_ui M2 a0 8 (-1))) else (m_ok Th r3 .int (((M2).1 a0 7)) ∧ (Q (m_ui M2 a0 8 (((M2).1 r3 (Int32.toNatClampNeg (((M2).1 a0 7))))))))))))) else (Q M))) : H4_pass_21 (d + 1) Th Q a0 M := by
  show m_W (d + 1) 0 0 yX4_pass cX4_pass 2 none (m_qv Th Q) 21 [(0, .ref a0)] [] Th M 0 0
  refine m_aload_n dX4_pass_21 rfl 0 rfl ?_
  obtain ⟨q1, h⟩ := h
  refine m_geti f_X4_51 rfl dX4_pass_22 q1 ?_
  refine m_if_ne (tgt := 85) dX4_pass_25 (by decide) (fun c1 => ?_) (fun c1 => ?_)
  · rw [if_neg c1] at h
    exact m_return dX4_pass_85 rfl ⟨rfl, rfl, h⟩
  · rw [if_pos c1] at h
    refine m_aload_n dX4_pass_28 rfl 0 rfl ?_
    refine m_dup dX4_pass_29 rfl ?_
    refine m_geti f_X4_55 rfl dX4_pass_30 q1 ?_
    refine m_iconst (v := 1) dX4_pass_33 (by decide) ?_
    refine m_iadd dX4_pass_34 ?_
    refine m_puti f_X4_55 rfl (Or.inl rfl) dX4_pass_35 q1 ⟨rfl, rfl⟩ ?_
    refine m_aload_n dX4_pass_38 rfl 0 rfl ?_
    refine m_aload_n dX4_pass_39 rfl 0 rfl ?_
    obtain ⟨M2, e_M2⟩ : ∃ M2 : mM, M2 = m_ui M a0 7 ((((M).1 a0 7) + 1)) := ⟨_, rfl⟩
    have h := h M2 e_M2
    rw [← e_M2]
    refine m_geti f_X4_55 rfl dX4_pass_40 q1 ?_
    refine m_if_lt (tgt := 81) dX4_pass_43 (by decide) (fun c1 => ?_) (fun c1 => ?_)
    · rw [if_pos c1] at h
      refine m_iconst (v := (-1)) dX4_pass_81 (by decide) ?_
      refine m_puti f_X4_64 rfl (Or.inl rfl) dX4_pass_82 q1 ⟨rfl, rfl⟩ ?_
      exact m_return dX4_pass_85 rfl ⟨rfl, rfl, h⟩
    · rw [if_neg c1] at h
      refine m_aload_n dX4_pass_46 rfl 0 rfl ?_
      refine m_geti f_X4_55 rfl dX4_pass_47 q1 ?_
      refine m_aload_n dX4_pass_50 rfl 0 rfl ?_
      refine m_geti f_X4_83 rfl dX4_pass_51 q1 ?_
      refine m_icmp_ge (tgt := 81) dX4_pass_54 (by decide) (fun c1 => ?_) (fun c1 => ?_)
      · rw [if_pos c1] at h
        refine m_iconst (v := (-1)) dX4_pass_81 (by decide) ?_
        refine m_puti f_X4_64 rfl (Or.inl rfl) dX4_pass_82 q1 ⟨rfl, rfl⟩ ?_
        exact m_return dX4_pass_85 rfl ⟨rfl, rfl, h⟩
      · rw [if_neg c1] at h
        refine m_aload_n dX4_pass_57 rfl 0 rfl ?_
        refine m_geti f_X4_55 rfl dX4_pass_58 q1 ?_
        refine m_aload_n dX4_pass_61 rfl 0 rfl ?_
        obtain ⟨r3, q4, h⟩ := h
        refine m_getr f_X4_25 rfl dX4_pass_62 q1 (by rw [e_M2]; exact q4) ?_
        obtain ⟨_, _, n5, q6, h⟩ := h
        refine m_alen dX4_pass_65 q6 ?_
        refine m_icmp_ge (tgt := 81) dX4_pass_66 (by decide) (fun c1 => ?_) (fun c1 => ?_)
        · rw [if_pos c1] at h
          refine m_iconst (v := (-1)) dX4_pass_81 (by decide) ?_
          refine m_puti f_X4_64 rfl (Or.inl rfl) dX4_pass_82 q1 ⟨rfl, rfl⟩ ?_
          exact m_return dX4_pass_85 rfl ⟨rfl, rfl, h⟩
        · rw [if_neg c1] at h
          refine m_aload_n dX4_pass_69 rfl 0 rfl ?_
          refine m_getr f_X4_25 rfl dX4_pass_70 q1 (by rw [e_M2]; exact q4) ?_
          refine m_aload_n dX4_pass_73 rfl 0 rfl ?_
          refine m_geti f_X4_55 rfl dX4_pass_74 q1 ?_
          obtain ⟨q7, h⟩ := h
          refine m_iald dX4_pass_77 q7 ?_
          refine m_goto (tgt := 82) dX4_pass_78 (by decide) ?_
          refine m_puti f_X4_64 rfl (Or.inl rfl) dX4_pass_82 q1 ⟨rfl, rfl⟩ ?_
          exact m_return dX4_pass_85 rfl ⟨rfl, rfl, h⟩
set_option maxHeartbeats 4000000 in
set_option maxRecDepth 100000 in
theorem e4_pass {d : Nat} {Th : mT} {Q : mM → Prop} {a0 : Nat} {x1 : Int32} {M : mM} (h : if x1 = 0 then (Th.2.2 a0 = some (.inl 4) ∧ (if ((M).1 a0 9) = 0 then (∀ M2 : mM, M2 = m_ui M a0 9 1 → H4_pass_21 (d + 1) Th Q a0 (m_ui M2 a0 8 (-1))) else (H4_pass_21 (d + 1) Th Q a0 M))) else (H4_pass_21 (d + 1) Th Q a0 M)) : P4_pass (d + 1) Th a0 x1 M Q := by
  refine m_C.of (by decide +kernel) (Nat.le_of_ble_eq_true rfl) ?_
  show m_W (d + 1) 0 0 yX4_pass cX4_pass 2 none (m_qv Th Q) 0 [(0, .ref a0), (1, .int x1)] [] Th M 0 0
  refine m_iload_n dX4_pass_0 rfl 1 rfl ?_
  refine m_if_ne (tgt := 21) dX4_pass_1 (by decide) (fun c1 => ?_) (fun c1 => ?_)
  · rw [if_neg c1] at h
    exact m_sub [0] rfl h
  · rw [if_pos c1] at h
    refine m_aload_n dX4_pass_4 rfl 0 rfl ?_
    obtain ⟨q1, h⟩ := h
    refine m_geti f_X4_51 rfl dX4_pass_5 q1 ?_
    refine m_if_ne (tgt := 21) dX4_pass_8 (by decide) (fun c1 => ?_) (fun c1 => ?_)
    · rw [if_neg c1] at h
      exact m_sub [0] rfl h
    · rw [if_pos c1] at h
      refine m_aload_n dX4_pass_11 rfl 0 rfl ?_
      refine m_iconst (v := 1) dX4_pass_12 (by decide) ?_
      refine m_puti f_X4_51 rfl (Or.inl rfl) dX4_pass_13 q1 ⟨rfl, rfl⟩ ?_
      refine m_aload_n dX4_pass_16 rfl 0 rfl ?_
      refine m_iconst (v := (-1)) dX4_pass_17 (by decide) ?_
      obtain ⟨M2, e_M2⟩ : ∃ M2 : mM, M2 = m_ui M a0 9 1 := ⟨_, rfl⟩
      have h := h M2 e_M2
      rw [← e_M2]
      refine m_puti f_X4_64 rfl (Or.inl rfl) dX4_pass_18 q1 ⟨rfl, rfl⟩ ?_
      exact m_sub [0] rfl h
set_option maxHeartbeats 4000000 in
set_option maxRecDepth 100000 in
theorem e4_blame {d : Nat} {Th : mT} {Q : mM → Prop} {a0 : Nat} {x1 : Int32} {M : mM} (h : Th.2.2 a0 = some (.inl 4) ∧ (if ((M).1 a0 9) = 0 then (∀ M2 : mM, M2 = m_ui M a0 9 x1 → Q (m_ui M2 a0 8 (-1))) else (Q M))) : P4_blame (d + 1) Th a0 x1 M Q := by
  refine m_C.of (by decide +kernel) (Nat.le_of_ble_eq_true rfl) ?_
  show m_W (d + 1) 0 0 yX4_blame cX4_blame 2 none (m_qv Th Q) 0 [(0, .ref a0), (1, .int x1)] [] Th M 0 0
  refine m_aload_n dX4_blame_0 rfl 0 rfl ?_
  obtain ⟨q1, h⟩ := h
  refine m_geti f_X4_51 rfl dX4_blame_1 q1 ?_
  refine m_if_ne (tgt := 17) dX4_blame_4 (by decide) (fun c1 => ?_) (fun c1 => ?_)
  · rw [if_neg c1] at h
    exact m_return dX4_blame_17 rfl ⟨rfl, rfl, h⟩
  · rw [if_pos c1] at h
    refine m_aload_n dX4_blame_7 rfl 0 rfl ?_
    refine m_iload_n dX4_blame_8 rfl 1 rfl ?_
    refine m_puti f_X4_51 rfl (Or.inl rfl) dX4_blame_9 q1 ⟨rfl, rfl⟩ ?_
    refine m_aload_n dX4_blame_12 rfl 0 rfl ?_
    refine m_iconst (v := (-1)) dX4_blame_13 (by decide) ?_
    obtain ⟨M2, e_M2⟩ : ∃ M2 : mM, M2 = m_ui M a0 9 x1 := ⟨_, rfl⟩
    have h := h M2 e_M2
    rw [← e_M2]
    refine m_puti f_X4_64 rfl (Or.inl rfl) dX4_blame_14 q1 ⟨rfl, rfl⟩ ?_
    exact m_return dX4_blame_17 rfl ⟨rfl, rfl, h⟩
set_option maxHeartbeats 4000000 in
set_option maxRecDepth 100000 in
theorem h4_readAll_4 {d : Nat} {Th : mT} {Q : Int32 → mM → Prop} {a0 : Nat} {x1 : Int32} {x2 : Int32} {M : mM} (h : if x2 = 0 then (H4_readAll_49 (d + 1) Th Q a0 x1 M) else (if 14 < x1 then (H4_readAll_49 (d + 1) Th Q a0 x1 M) else (Th.2.2 a0 = some (.inl 4) ∧ (P4_readClause d Th a0 x1 M (fun M1 : mM => ∀ xv4 : Int32, xv4 = (if ((M1).1 a0 8) = 59 then 1 else 0) → if xv4 = 0 then (H4_readAll_4 (d + 1) Th Q a0 (x1 + 1) xv4 M1) else (P4_pass d Th a0 1 M1 (fun M5 : mM => H4_readAll_4 (d + 1) Th Q a0 (x1 + 1) xv4 M5))))))) : H4_readAll_4 (d + 1) Th Q a0 x1 x2 M := by
  show m_W (d + 1) 0 0 yX4_readAll cX4_readAll 3 (some .int) (m_qi Th Q) 4 [(0, .ref a0), (1, .int x1), (2, .int x2)] [] Th M 0 0
  refine m_iload_n dX4_readAll_4 rfl 2 rfl ?_
  refine m_if_eq (tgt := 49) dX4_readAll_5 (by decide) (fun c1 => ?_) (fun c1 => ?_)
  · rw [if_pos c1] at h
    exact m_sub [0, 1] rfl h
  · rw [if_neg c1] at h
    refine m_iload_n dX4_readAll_8 rfl 1 rfl ?_
    refine m_bipush (v := 14) dX4_readAll_9 (by decide) ?_
    refine m_icmp_gt (tgt := 49) dX4_readAll_11 (by decide) (fun c1 => ?_) (fun c1 => ?_)
    · rw [if_pos c1] at h
      exact m_sub [0, 1] rfl h
    · rw [if_neg c1] at h
      refine m_aload_n dX4_readAll_14 rfl 0 rfl ?_
      refine m_iload_n dX4_readAll_15 rfl 1 rfl ?_
      obtain ⟨q3, h⟩ := h
      refine m_invV (ci := 4) (As := [.int x1]) (d' := d) (mc' := 0) (ms' := 0) (rest := []) i_4_readClause v_4_readClause t_4_readClause l_X4_86 ⟨_, _, rfl⟩ dX4_readAll_16 rfl rfl q3 (Nat.le_of_ble_eq_true rfl) (Nat.le_refl _) ⟨Nat.le_refl _, Nat.le_refl _⟩ (m_Cv h (fun M1 h => ?_))
      show m_W (d + 1) 0 0 yX4_readAll cX4_readAll 3 (some .int) (m_qi Th Q) 19 [(0, .ref a0), (1, .int x1), (2, .int x2)] [] Th M1 0 0
      refine m_iinc (v := x1 + 1) (lv' := [(1, .int (x1 + 1)), (0, .ref a0), (2, .int x2)]) dX4_readAll_19 1 rfl rfl (by decide) rfl ?_
      refine m_aload_n dX4_readAll_22 rfl 1 rfl ?_
      refine m_geti f_X4_64 rfl dX4_readAll_23 q3 ?_
      refine m_bipush (v := 59) dX4_readAll_26 (by decide) ?_
      have hJ : m_W (d + 1) 0 0 yX4_readAll cX4_readAll 3 (some .int) (m_qi Th Q) 36 [(1, .int (x1 + 1)), (0, .ref a0), (2, .int x2)] [.int ((if ((M1).1 a0 8) = 59 then 1 else 0))] Th M1 0 0 := by
        obtain ⟨xv4, e_xv4⟩ : ∃ xv4 : Int32, xv4 = (if ((M1).1 a0 8) = 59 then 1 else 0) := ⟨_, rfl⟩
        have h := h xv4 e_xv4
        rw [← e_xv4]
        refine m_istore_n (lv' := [(2, .int xv4), (1, .int (x1 + 1)), (0, .ref a0)]) dX4_readAll_36 rfl (by decide) rfl ?_
        refine m_iload_n dX4_readAll_37 rfl 0 rfl ?_
        refine m_if_eq (tgt := 4) dX4_readAll_38 (by decide) (fun c1 => ?_) (fun c1 => ?_)
        · rw [if_pos c1] at h
          exact m_sub [2, 1, 0] rfl h
        · rw [if_neg c1] at h
          refine m_aload_n dX4_readAll_41 rfl 2 rfl ?_
          refine m_iconst (v := 1) dX4_readAll_42 (by decide) ?_
          refine m_invV (ci := 4) (As := [.int 1]) (d' := d) (mc' := 0) (ms' := 0) (rest := []) i_4_pass v_4_pass t_4_pass l_X4_67 ⟨_, _, rfl⟩ dX4_readAll_43 rfl rfl q3 (Nat.le_of_ble_eq_true rfl) (Nat.le_refl _) ⟨Nat.le_refl _, Nat.le_refl _⟩ (m_Cv h (fun M5 h => ?_))
          show m_W (d + 1) 0 0 yX4_readAll cX4_readAll 3 (some .int) (m_qi Th Q) 46 [(2, .int xv4), (1, .int (x1 + 1)), (0, .ref a0)] [] Th M5 0 0
          refine m_goto (tgt := 4) dX4_readAll_46 (by decide) ?_
          exact m_sub [2, 1, 0] rfl h
      refine m_icmp_ne (tgt := 35) dX4_readAll_28 (by decide) (fun c1 => ?_) (fun c1 => ?_)
      · simp only [if_neg c1] at hJ
        refine m_iconst (v := 0) dX4_readAll_35 (by decide) ?_
        exact hJ
      · simp only [if_pos c1] at hJ
        refine m_iconst (v := 1) dX4_readAll_31 (by decide) ?_
        refine m_goto (tgt := 36) dX4_readAll_32 (by decide) ?_
        exact hJ
set_option maxHeartbeats 4000000 in
set_option maxRecDepth 100000 in
theorem h4_readAll_49 {d : Nat} {Th : mT} {Q : Int32 → mM → Prop} {a0 : Nat} {x1 : Int32} {M : mM} (h : Th.2.2 a0 = some (.inl 4) ∧ (if ((M).1 a0 6) ≤ ((M).1 a0 7) then (Q x1 M) else (P4_blame d Th a0 1 M (fun M2 : mM => Q x1 M2)))) : H4_readAll_49 (d + 1) Th Q a0 x1 M := by
  show m_W (d + 1) 0 0 yX4_readAll cX4_readAll 3 (some .int) (m_qi Th Q) 49 [(0, .ref a0), (1, .int x1)] [] Th M 0 0
  refine m_aload_n dX4_readAll_49 rfl 0 rfl ?_
  obtain ⟨q1, h⟩ := h
  refine m_geti f_X4_55 rfl dX4_readAll_50 q1 ?_
  refine m_aload_n dX4_readAll_53 rfl 0 rfl ?_
  refine m_geti f_X4_83 rfl dX4_readAll_54 q1 ?_
  refine m_icmp_ge (tgt := 65) dX4_readAll_57 (by decide) (fun c1 => ?_) (fun c1 => ?_)
  · rw [if_pos c1] at h
    refine m_iload_n dX4_readAll_65 rfl 1 rfl ?_
    exact m_ireturn dX4_readAll_66 rfl rfl ⟨rfl, _, rfl, h⟩
  · rw [if_neg c1] at h
    refine m_aload_n dX4_readAll_60 rfl 0 rfl ?_
    refine m_iconst (v := 1) dX4_readAll_61 (by decide) ?_
    refine m_invV (ci := 4) (As := [.int 1]) (d' := d) (mc' := 0) (ms' := 0) (rest := []) i_4_blame v_4_blame t_4_blame l_X4_90 ⟨_, _, rfl⟩ dX4_readAll_62 rfl rfl q1 (Nat.le_of_ble_eq_true rfl) (Nat.le_refl _) ⟨Nat.le_refl _, Nat.le_refl _⟩ (m_Cv h (fun M2 h => ?_))
    show m_W (d + 1) 0 0 yX4_readAll cX4_readAll 3 (some .int) (m_qi Th Q) 65 [(0, .ref a0), (1, .int x1)] [] Th M2 0 0
    refine m_iload_n dX4_readAll_65 rfl 1 rfl ?_
    exact m_ireturn dX4_readAll_66 rfl rfl ⟨rfl, _, rfl, h⟩
set_option maxHeartbeats 4000000 in
set_option maxRecDepth 100000 in
theorem e4_readAll {d : Nat} {Th : mT} {Q : Int32 → mM → Prop} {a0 : Nat} {M : mM} (h : H4_readAll_4 (d + 1) Th Q a0 0 1 M) : P4_readAll (d + 1) Th a0 M Q := by
  refine m_C.of (by decide +kernel) (Nat.le_of_ble_eq_true rfl) ?_
  show m_W (d + 1) 0 0 yX4_readAll cX4_readAll 3 (some .int) (m_qi Th Q) 0 [(0, .ref a0)] [] Th M 0 0
  refine m_iconst (v := 0) dX4_readAll_0 (by decide) ?_
  refine m_istore_n (lv' := [(1, .int 0), (0, .ref a0)]) dX4_readAll_1 rfl (by decide) rfl ?_
  refine m_iconst (v := 1) dX4_readAll_2 (by decide) ?_
  refine m_istore_n (lv' := [(2, .int 1), (1, .int 0), (0, .ref a0)]) dX4_readAll_3 rfl (by decide) rfl ?_
  exact m_sub [2, 1, 0] rfl h
set_option maxHeartbeats 4000000 in
set_option maxRecDepth 100000 in
theorem h4_readClause_23 {d : Nat} {Th : mT} {Q : mM → Prop} {a0 : Nat} {x1 : Int32} {s0 : Int32} {M : mM} (h : if s0 = 0 then (H4_readClause_39 (d + 1) Th Q a0 s0 M) else (if x1 < 14 then (H4_readClause_39 (d + 1) Th Q a0 s0 M) else (Th.2.2 a0 = some (.inl 4) ∧ (P4_blame d Th a0 4 M (fun M1 : mM => H4_readClause_39 (d + 1) Th Q a0 s0 M1))))) : H4_readClause_23 (d + 1) Th Q a0 x1 s0 M := by
  show m_W (d + 1) 0 0 yX4_readClause cX4_readClause 3 none (m_qv Th Q) 23 [(0, .ref a0), (1, .int x1)] [.int s0] Th M 0 0
  refine m_istore_n (lv' := [(2, .int s0), (0, .ref a0), (1, .int x1)]) dX4_readClause_23 rfl (by decide) rfl ?_
  refine m_iload_n dX4_readClause_24 rfl 0 rfl ?_
  refine m_if_eq (tgt := 39) dX4_readClause_25 (by decide) (fun c1 => ?_) (fun c1 => ?_)
  · rw [if_pos c1] at h
    exact m_sub [1, 0] rfl h
  · rw [if_neg c1] at h
    refine m_iload_n dX4_readClause_28 rfl 2 rfl ?_
    refine m_bipush (v := 14) dX4_readClause_29 (by decide) ?_
    refine m_icmp_lt (tgt := 39) dX4_readClause_31 (by decide) (fun c1 => ?_) (fun c1 => ?_)
    · rw [if_pos c1] at h
      exact m_sub [1, 0] rfl h
    · rw [if_neg c1] at h
      refine m_aload_n dX4_readClause_34 rfl 1 rfl ?_
      refine m_iconst (v := 4) dX4_readClause_35 (by decide) ?_
      obtain ⟨q3, h⟩ := h
      refine m_invV (ci := 4) (As := [.int 4]) (d' := d) (mc' := 0) (ms' := 0) (rest := []) i_4_blame v_4_blame t_4_blame l_X4_90 ⟨_, _, rfl⟩ dX4_readClause_36 rfl rfl q3 (Nat.le_of_ble_eq_true rfl) (Nat.le_refl _) ⟨Nat.le_refl _, Nat.le_refl _⟩ (m_Cv h (fun M1 h => ?_))
      show m_W (d + 1) 0 0 yX4_readClause cX4_readClause 3 none (m_qv Th Q) 39 [(2, .int s0), (0, .ref a0), (1, .int x1)] [] Th M1 0 0
      exact m_sub [1, 0] rfl h
set_option maxHeartbeats 4000000 in
set_option maxRecDepth 100000 in
theorem h4_readClause_39 {d : Nat} {Th : mT} {Q : mM → Prop} {a0 : Nat} {x2 : Int32} {M : mM} (h : Th.2.2 a0 = some (.inl 4) ∧ (P4_pass d Th a0 x2 M (fun M1 : mM => P4_sum d Th a0 0 0 M1 (fun (v5 : Int32) (M4 : mM) => P4_pass d Th a0 ((if ((M4).1 a0 8) = 40 then 1 else 0)) M4 (fun M6 : mM => P4_any d Th a0 1 0 M6 (fun (v9 : Int32) (M8 : mM) => P4_pass d Th a0 ((if ((M8).1 a0 8) = 41 then 1 else 0)) M8 (fun M10 : mM => Q M10))))))) : H4_readClause_39 (d + 1) Th Q a0 x2 M := by
  show m_W (d + 1) 0 0 yX4_readClause cX4_readClause 3 none (m_qv Th Q) 39 [(0, .ref a0), (2, .int x2)] [] Th M 0 0
  refine m_aload_n dX4_readClause_39 rfl 0 rfl ?_
  refine m_iload_n dX4_readClause_40 rfl 1 rfl ?_
  obtain ⟨q3, h⟩ := h
  refine m_invV (ci := 4) (As := [.int x2]) (d' := d) (mc' := 0) (ms' := 0) (rest := []) i_4_pass v_4_pass t_4_pass l_X4_67 ⟨_, _, rfl⟩ dX4_readClause_41 rfl rfl q3 (Nat.le_of_ble_eq_true rfl) (Nat.le_refl _) ⟨Nat.le_refl _, Nat.le_refl _⟩ (m_Cv h (fun M1 h => ?_))
  show m_W (d + 1) 0 0 yX4_readClause cX4_readClause 3 none (m_qv Th Q) 44 [(0, .ref a0), (2, .int x2)] [] Th M1 0 0
  refine m_aload_n dX4_readClause_44 rfl 0 rfl ?_
  refine m_iconst (v := 0) dX4_readClause_45 (by decide) ?_
  refine m_iconst (v := 0) dX4_readClause_46 (by decide) ?_
  refine m_invV (ci := 4) (As := [.int 0, .int 0]) (d' := d) (mc' := 0) (ms' := 0) (rest := []) i_4_sum v_4_sum t_4_sum l_X4_75 ⟨_, _, rfl⟩ dX4_readClause_47 rfl rfl q3 (Nat.le_of_ble_eq_true rfl) (Nat.le_refl _) ⟨Nat.le_refl _, Nat.le_refl _⟩ (m_Ci h (fun v5 M4 h => ?_))
  show m_W (d + 1) 0 0 yX4_readClause cX4_readClause 3 none (m_qv Th Q) 50 [(0, .ref a0), (2, .int x2)] [.int v5] Th M4 0 0
  refine m_pop dX4_readClause_50 rfl ?_
  refine m_aload_n dX4_readClause_51 rfl 0 rfl ?_
  refine m_aload_n dX4_readClause_52 rfl 0 rfl ?_
  refine m_geti f_X4_64 rfl dX4_readClause_53 q3 ?_
  refine m_bipush (v := 40) dX4_readClause_56 (by decide) ?_
  have hJ : m_W (d + 1) 0 0 yX4_readClause cX4_readClause 3 none (m_qv Th Q) 66 [(0, .ref a0), (2, .int x2)] [.int ((if ((M4).1 a0 8) = 40 then 1 else 0)), .ref a0] Th M4 0 0 := by
    refine m_invV (ci := 4) (As := [.int ((if ((M4).1 a0 8) = 40 then 1 else 0))]) (d' := d) (mc' := 0) (ms' := 0) (rest := []) i_4_pass v_4_pass t_4_pass l_X4_67 ⟨_, _, rfl⟩ dX4_readClause_66 rfl rfl q3 (Nat.le_of_ble_eq_true rfl) (Nat.le_refl _) ⟨Nat.le_refl _, Nat.le_refl _⟩ (m_Cv h (fun M6 h => ?_))
    show m_W (d + 1) 0 0 yX4_readClause cX4_readClause 3 none (m_qv Th Q) 69 [(0, .ref a0), (2, .int x2)] [] Th M6 0 0
    refine m_aload_n dX4_readClause_69 rfl 0 rfl ?_
    refine m_iconst (v := 1) dX4_readClause_70 (by decide) ?_
    refine m_iconst (v := 0) dX4_readClause_71 (by decide) ?_
    refine m_invV (ci := 4) (As := [.int 1, .int 0]) (d' := d) (mc' := 0) (ms' := 0) (rest := []) i_4_any v_4_any t_4_any l_X4_79 ⟨_, _, rfl⟩ dX4_readClause_72 rfl rfl q3 (Nat.le_of_ble_eq_true rfl) (Nat.le_refl _) ⟨Nat.le_refl _, Nat.le_refl _⟩ (m_Ci h (fun v9 M8 h => ?_))
    show m_W (d + 1) 0 0 yX4_readClause cX4_readClause 3 none (m_qv Th Q) 75 [(0, .ref a0), (2, .int x2)] [.int v9] Th M8 0 0
    refine m_pop dX4_readClause_75 rfl ?_
    refine m_aload_n dX4_readClause_76 rfl 0 rfl ?_
    refine m_aload_n dX4_readClause_77 rfl 0 rfl ?_
    refine m_geti f_X4_64 rfl dX4_readClause_78 q3 ?_
    refine m_bipush (v := 41) dX4_readClause_81 (by decide) ?_
    have hJ : m_W (d + 1) 0 0 yX4_readClause cX4_readClause 3 none (m_qv Th Q) 91 [(0, .ref a0), (2, .int x2)] [.int ((if ((M8).1 a0 8) = 41 then 1 else 0)), .ref a0] Th M8 0 0 := by
      refine m_invV (ci := 4) (As := [.int ((if ((M8).1 a0 8) = 41 then 1 else 0))]) (d' := d) (mc' := 0) (ms' := 0) (rest := []) i_4_pass v_4_pass t_4_pass l_X4_67 ⟨_, _, rfl⟩ dX4_readClause_91 rfl rfl q3 (Nat.le_of_ble_eq_true rfl) (Nat.le_refl _) ⟨Nat.le_refl _, Nat.le_refl _⟩ (m_Cv h (fun M10 h => ?_))
      show m_W (d + 1) 0 0 yX4_readClause cX4_readClause 3 none (m_qv Th Q) 94 [(0, .ref a0), (2, .int x2)] [] Th M10 0 0
      exact m_return dX4_readClause_94 rfl ⟨rfl, rfl, h⟩
    refine m_icmp_ne (tgt := 90) dX4_readClause_83 (by decide) (fun c1 => ?_) (fun c1 => ?_)
    · simp only [if_neg c1] at hJ
      refine m_iconst (v := 0) dX4_readClause_90 (by decide) ?_
      exact hJ
    · simp only [if_pos c1] at hJ
      refine m_iconst (v := 1) dX4_readClause_86 (by decide) ?_
      refine m_goto (tgt := 91) dX4_readClause_87 (by decide) ?_
      exact hJ
  refine m_icmp_ne (tgt := 65) dX4_readClause_58 (by decide) (fun c1 => ?_) (fun c1 => ?_)
  · simp only [if_neg c1] at hJ
    refine m_iconst (v := 0) dX4_readClause_65 (by decide) ?_
    exact hJ
  · simp only [if_pos c1] at hJ
    refine m_iconst (v := 1) dX4_readClause_61 (by decide) ?_
    refine m_goto (tgt := 66) dX4_readClause_62 (by decide) ?_
    exact hJ
set_option maxHeartbeats 4000000 in
set_option maxRecDepth 100000 in
theorem e4_readClause {d : Nat} {Th : mT} {Q : mM → Prop} {a0 : Nat} {x1 : Int32} {M : mM} (h : Th.2.2 a0 = some (.inl 4) ∧ (if ((M).1 a0 8) = 115 then (H4_readClause_23 (d + 1) Th Q a0 x1 1 M) else (if ((M).1 a0 8) = 101 then (H4_readClause_23 (d + 1) Th Q a0 x1 1 M) else (H4_readClause_23 (d + 1) Th Q a0 x1 0 M)))) : P4_readClause (d + 1) Th a0 x1 M Q := by
  refine m_C.of (by decide +kernel) (Nat.le_of_ble_eq_true rfl) ?_
  show m_W (d + 1) 0 0 yX4_readClause cX4_readClause 3 none (m_qv Th Q) 0 [(0, .ref a0), (1, .int x1)] [] Th M 0 0
  refine m_aload_n dX4_readClause_0 rfl 0 rfl ?_
  obtain ⟨q1, h⟩ := h
  refine m_geti f_X4_64 rfl dX4_readClause_1 q1 ?_
  refine m_bipush (v := 115) dX4_readClause_4 (by decide) ?_
  refine m_icmp_eq (tgt := 18) dX4_readClause_6 (by decide) (fun c1 => ?_) (fun c1 => ?_)
  · rw [if_pos c1] at h
    refine m_iconst (v := 1) dX4_readClause_18 (by decide) ?_
    refine m_goto (tgt := 23) dX4_readClause_19 (by decide) ?_
    exact h
  · rw [if_neg c1] at h
    refine m_aload_n dX4_readClause_9 rfl 0 rfl ?_
    refine m_geti f_X4_64 rfl dX4_readClause_10 q1 ?_
    refine m_bipush (v := 101) dX4_readClause_13 (by decide) ?_
    refine m_icmp_ne (tgt := 22) dX4_readClause_15 (by decide) (fun c1 => ?_) (fun c1 => ?_)
    · rw [if_neg c1] at h
      refine m_iconst (v := 0) dX4_readClause_22 (by decide) ?_
      exact h
    · rw [if_pos c1] at h
      refine m_iconst (v := 1) dX4_readClause_18 (by decide) ?_
      refine m_goto (tgt := 23) dX4_readClause_19 (by decide) ?_
      exact h
set_option maxHeartbeats 4000000 in
set_option maxRecDepth 100000 in
theorem h4_any_10 {d : Nat} {Th : mT} {Q : Int32 → mM → Prop} {a0 : Nat} {x1 : Int32} {x2 : Int32} {x3 : Int32} {x4 : Int32} {M : mM} (h : if 200 ≤ x4 then (m_bool x3 ∧ Q x3 M) else (Th.2.2 a0 = some (.inl 4) ∧ (if ((M).1 a0 8) = 124 then (P4_pass d Th a0 1 M (fun M2 : mM => P4_all d Th a0 x1 ((if x2 = 0 then 0 else (if x3 = 0 then 1 else 0))) M2 (fun (v5 : Int32) (M4 : mM) => ∀ xv6 : Int32, xv6 = (if x3 = 0 then (if v5 = 0 then 0 else 1) else 1) → H4_any_10 (d + 1) Th Q a0 x1 x2 xv6 (x4 + 1) M4))) else (m_bool x3 ∧ Q x3 M)))) : H4_any_10 (d + 1) Th Q a0 x1 x2 x3 x4 M := by
  show m_W (d + 1) 0 0 yX4_any cX4_any 6 (some .boolean) (m_qi Th Q) 10 [(0, .ref a0), (1, .int x1), (2, .int x2), (3, .int x3), (4, .int x4)] [] Th M 0 0
  refine m_iload dX4_any_10 4 rfl ?_
  refine m_sipush (v := 200) dX4_any_12 (by decide) ?_
  refine m_icmp_ge (tgt := 73) dX4_any_15 (by decide) (fun c1 => ?_) (fun c1 => ?_)
  · rw [if_pos c1] at h
    refine m_iload_n dX4_any_73 rfl 3 rfl ?_
    exact m_ireturn dX4_any_74 rfl h.1 ⟨rfl, _, rfl, h.2⟩
  · rw [if_neg c1] at h
    refine m_aload_n dX4_any_18 rfl 0 rfl ?_
    obtain ⟨q1, h⟩ := h
    refine m_geti f_X4_64 rfl dX4_any_19 q1 ?_
    refine m_bipush (v := 124) dX4_any_22 (by decide) ?_
    refine m_icmp_ne (tgt := 73) dX4_any_24 (by decide) (fun c1 => ?_) (fun c1 => ?_)
    · rw [if_neg c1] at h
      refine m_iload_n dX4_any_73 rfl 3 rfl ?_
      exact m_ireturn dX4_any_74 rfl h.1 ⟨rfl, _, rfl, h.2⟩
    · rw [if_pos c1] at h
      refine m_aload_n dX4_any_27 rfl 0 rfl ?_
      refine m_iconst (v := 1) dX4_any_28 (by decide) ?_
      refine m_invV (ci := 4) (As := [.int 1]) (d' := d) (mc' := 0) (ms' := 0) (rest := []) i_4_pass v_4_pass t_4_pass l_X4_67 ⟨_, _, rfl⟩ dX4_any_29 rfl rfl q1 (Nat.le_of_ble_eq_true rfl) (Nat.le_refl _) ⟨Nat.le_refl _, Nat.le_refl _⟩ (m_Cv h (fun M2 h => ?_))
      show m_W (d + 1) 0 0 yX4_any cX4_any 6 (some .boolean) (m_qi Th Q) 32 [(0, .ref a0), (1, .int x1), (2, .int x2), (3, .int x3), (4, .int x4)] [] Th M2 0 0
      refine m_aload_n dX4_any_32 rfl 0 rfl ?_
      refine m_iload_n dX4_any_33 rfl 1 rfl ?_
      refine m_iload_n dX4_any_34 rfl 2 rfl ?_
      have hJ : m_W (d + 1) 0 0 yX4_any cX4_any 6 (some .boolean) (m_qi Th Q) 47 [(0, .ref a0), (1, .int x1), (2, .int x2), (3, .int x3), (4, .int x4)] [.int ((if x2 = 0 then 0 else (if x3 = 0 then 1 else 0))), .int x1, .ref a0] Th M2 0 0 := by
        refine m_invV (ci := 4) (As := [.int x1, .int ((if x2 = 0 then 0 else (if x3 = 0 then 1 else 0)))]) (d' := d) (mc' := 0) (ms' := 0) (rest := []) i_4_all v_4_all t_4_all l_X4_93 ⟨_, _, rfl⟩ dX4_any_47 rfl rfl q1 (Nat.le_of_ble_eq_true rfl) (Nat.le_refl _) ⟨Nat.le_refl _, Nat.le_refl _⟩ (m_Ci h (fun v5 M4 h => ?_))
        show m_W (d + 1) 0 0 yX4_any cX4_any 6 (some .boolean) (m_qi Th Q) 50 [(0, .ref a0), (1, .int x1), (2, .int x2), (3, .int x3), (4, .int x4)] [.int v5] Th M4 0 0
        refine m_istore (lv' := [(5, .int v5), (0, .ref a0), (1, .int x1), (2, .int x2), (3, .int x3), (4, .int x4)]) dX4_any_50 (by decide) rfl ?_
        refine m_iload_n dX4_any_52 rfl 4 rfl ?_
        have hJ : m_W (d + 1) 0 0 yX4_any cX4_any 6 (some .boolean) (m_qi Th Q) 66 [(5, .int v5), (0, .ref a0), (1, .int x1), (2, .int x2), (3, .int x3), (4, .int x4)] [.int ((if x3 = 0 then (if v5 = 0 then 0 else 1) else 1))] Th M4 0 0 := by
          obtain ⟨xv6, e_xv6⟩ : ∃ xv6 : Int32, xv6 = (if x3 = 0 then (if v5 = 0 then 0 else 1) else 1) := ⟨_, rfl⟩
          have h := h xv6 e_xv6
          rw [← e_xv6]
          refine m_istore_n (lv' := [(3, .int xv6), (5, .int v5), (0, .ref a0), (1, .int x1), (2, .int x2), (4, .int x4)]) dX4_any_66 rfl (by decide) rfl ?_
          refine m_iinc (v := x4 + 1) (lv' := [(4, .int (x4 + 1)), (3, .int xv6), (5, .int v5), (0, .ref a0), (1, .int x1), (2, .int x2)]) dX4_any_67 5 rfl rfl (by decide) rfl ?_
          refine m_goto (tgt := 10) dX4_any_70 (by decide) ?_
          exact m_sub [3, 4, 5, 1, 0] rfl h
        refine m_if_ne (tgt := 61) dX4_any_53 (by decide) (fun c1 => ?_) (fun c1 => ?_)
        · simp only [if_neg c1] at hJ
          refine m_iconst (v := 1) dX4_any_61 (by decide) ?_
          refine m_goto (tgt := 66) dX4_any_62 (by decide) ?_
          exact hJ
        · simp only [if_pos c1] at hJ
          refine m_iload dX4_any_56 0 rfl ?_
          refine m_if_eq (tgt := 65) dX4_any_58 (by decide) (fun c2 => ?_) (fun c2 => ?_)
          · simp only [if_pos c2] at hJ
            refine m_iconst (v := 0) dX4_any_65 (by decide) ?_
            exact hJ
          · simp only [if_neg c2] at hJ
            refine m_iconst (v := 1) dX4_any_61 (by decide) ?_
            refine m_goto (tgt := 66) dX4_any_62 (by decide) ?_
            exact hJ
      refine m_if_eq (tgt := 46) dX4_any_35 (by decide) (fun c1 => ?_) (fun c1 => ?_)
      · simp only [if_pos c1] at hJ
        refine m_iconst (v := 0) dX4_any_46 (by decide) ?_
        exact hJ
      · simp only [if_neg c1] at hJ
        refine m_iload_n dX4_any_38 rfl 3 rfl ?_
        refine m_if_ne (tgt := 46) dX4_any_39 (by decide) (fun c2 => ?_) (fun c2 => ?_)
        · simp only [if_neg c2] at hJ
          refine m_iconst (v := 0) dX4_any_46 (by decide) ?_
          exact hJ
        · simp only [if_pos c2] at hJ
          refine m_iconst (v := 1) dX4_any_42 (by decide) ?_
          refine m_goto (tgt := 47) dX4_any_43 (by decide) ?_
          exact hJ
set_option maxHeartbeats 4000000 in
set_option maxRecDepth 100000 in
theorem e4_any {d : Nat} {Th : mT} {Q : Int32 → mM → Prop} {a0 : Nat} {x1 : Int32} {x2 : Int32} {M : mM} (h : Th.2.2 a0 = some (.inl 4) ∧ (P4_all d Th a0 x1 x2 M (fun (v2 : Int32) (M1 : mM) => H4_any_10 (d + 1) Th Q a0 x1 x2 v2 0 M1))) : P4_any (d + 1) Th a0 x1 x2 M Q := by
  refine m_C.of (by decide +kernel) (Nat.le_of_ble_eq_true rfl) ?_
  show m_W (d + 1) 0 0 yX4_any cX4_any 6 (some .boolean) (m_qi Th Q) 0 [(0, .ref a0), (1, .int x1), (2, .int x2)] [] Th M 0 0
  refine m_aload_n dX4_any_0 rfl 0 rfl ?_
  refine m_iload_n dX4_any_1 rfl 1 rfl ?_
  refine m_iload_n dX4_any_2 rfl 2 rfl ?_
  obtain ⟨q3, h⟩ := h
  refine m_invV (ci := 4) (As := [.int x1, .int x2]) (d' := d) (mc' := 0) (ms' := 0) (rest := []) i_4_all v_4_all t_4_all l_X4_93 ⟨_, _, rfl⟩ dX4_any_3 rfl rfl q3 (Nat.le_of_ble_eq_true rfl) (Nat.le_refl _) ⟨Nat.le_refl _, Nat.le_refl _⟩ (m_Ci h (fun v2 M1 h => ?_))
  show m_W (d + 1) 0 0 yX4_any cX4_any 6 (some .boolean) (m_qi Th Q) 6 [(0, .ref a0), (1, .int x1), (2, .int x2)] [.int v2] Th M1 0 0
  refine m_istore_n (lv' := [(3, .int v2), (0, .ref a0), (1, .int x1), (2, .int x2)]) dX4_any_6 rfl (by decide) rfl ?_
  refine m_iconst (v := 0) dX4_any_7 (by decide) ?_
  refine m_istore (lv' := [(4, .int 0), (3, .int v2), (0, .ref a0), (1, .int x1), (2, .int x2)]) dX4_any_8 (by decide) rfl ?_
  exact m_sub [2, 3, 4, 1, 0] rfl h
set_option maxHeartbeats 4000000 in
set_option maxRecDepth 100000 in
theorem h4_all_10 {d : Nat} {Th : mT} {Q : Int32 → mM → Prop} {a0 : Nat} {x1 : Int32} {x2 : Int32} {x3 : Int32} {x4 : Int32} {M : mM} (h : if 200 ≤ x4 then (m_bool x3 ∧ Q x3 M) else (Th.2.2 a0 = some (.inl 4) ∧ (if ((M).1 a0 8) = 38 then (P4_pass d Th a0 1 M (fun M2 : mM => P4_piece d Th a0 x1 ((if x2 = 0 then 0 else (if x3 = 0 then 0 else 1))) M2 (fun (v5 : Int32) (M4 : mM) => ∀ xv6 : Int32, xv6 = (if x3 = 0 then 0 else (if v5 = 0 then 0 else 1)) → H4_all_10 (d + 1) Th Q a0 x1 x2 xv6 (x4 + 1) M4))) else (m_bool x3 ∧ Q x3 M)))) : H4_all_10 (d + 1) Th Q a0 x1 x2 x3 x4 M := by
  show m_W (d + 1) 0 0 yX4_all cX4_all 6 (some .boolean) (m_qi Th Q) 10 [(0, .ref a0), (1, .int x1), (2, .int x2), (3, .int x3), (4, .int x4)] [] Th M 0 0
  refine m_iload dX4_all_10 4 rfl ?_
  refine m_sipush (v := 200) dX4_all_12 (by decide) ?_
  refine m_icmp_ge (tgt := 73) dX4_all_15 (by decide) (fun c1 => ?_) (fun c1 => ?_)
  · rw [if_pos c1] at h
    refine m_iload_n dX4_all_73 rfl 3 rfl ?_
    exact m_ireturn dX4_all_74 rfl h.1 ⟨rfl, _, rfl, h.2⟩
  · rw [if_neg c1] at h
    refine m_aload_n dX4_all_18 rfl 0 rfl ?_
    obtain ⟨q1, h⟩ := h
    refine m_geti f_X4_64 rfl dX4_all_19 q1 ?_
    refine m_bipush (v := 38) dX4_all_22 (by decide) ?_
    refine m_icmp_ne (tgt := 73) dX4_all_24 (by decide) (fun c1 => ?_) (fun c1 => ?_)
    · rw [if_neg c1] at h
      refine m_iload_n dX4_all_73 rfl 3 rfl ?_
      exact m_ireturn dX4_all_74 rfl h.1 ⟨rfl, _, rfl, h.2⟩
    · rw [if_pos c1] at h
      refine m_aload_n dX4_all_27 rfl 0 rfl ?_
      refine m_iconst (v := 1) dX4_all_28 (by decide) ?_
      refine m_invV (ci := 4) (As := [.int 1]) (d' := d) (mc' := 0) (ms' := 0) (rest := []) i_4_pass v_4_pass t_4_pass l_X4_67 ⟨_, _, rfl⟩ dX4_all_29 rfl rfl q1 (Nat.le_of_ble_eq_true rfl) (Nat.le_refl _) ⟨Nat.le_refl _, Nat.le_refl _⟩ (m_Cv h (fun M2 h => ?_))
      show m_W (d + 1) 0 0 yX4_all cX4_all 6 (some .boolean) (m_qi Th Q) 32 [(0, .ref a0), (1, .int x1), (2, .int x2), (3, .int x3), (4, .int x4)] [] Th M2 0 0
      refine m_aload_n dX4_all_32 rfl 0 rfl ?_
      refine m_iload_n dX4_all_33 rfl 1 rfl ?_
      refine m_iload_n dX4_all_34 rfl 2 rfl ?_
      have hJ : m_W (d + 1) 0 0 yX4_all cX4_all 6 (some .boolean) (m_qi Th Q) 47 [(0, .ref a0), (1, .int x1), (2, .int x2), (3, .int x3), (4, .int x4)] [.int ((if x2 = 0 then 0 else (if x3 = 0 then 0 else 1))), .int x1, .ref a0] Th M2 0 0 := by
        refine m_invV (ci := 4) (As := [.int x1, .int ((if x2 = 0 then 0 else (if x3 = 0 then 0 else 1)))]) (d' := d) (mc' := 0) (ms' := 0) (rest := []) i_4_piece v_4_piece t_4_piece l_X4_96 ⟨_, _, rfl⟩ dX4_all_47 rfl rfl q1 (Nat.le_of_ble_eq_true rfl) (Nat.le_refl _) ⟨Nat.le_refl _, Nat.le_refl _⟩ (m_Ci h (fun v5 M4 h => ?_))
        show m_W (d + 1) 0 0 yX4_all cX4_all 6 (some .boolean) (m_qi Th Q) 50 [(0, .ref a0), (1, .int x1), (2, .int x2), (3, .int x3), (4, .int x4)] [.int v5] Th M4 0 0
        refine m_istore (lv' := [(5, .int v5), (0, .ref a0), (1, .int x1), (2, .int x2), (3, .int x3), (4, .int x4)]) dX4_all_50 (by decide) rfl ?_
        refine m_iload_n dX4_all_52 rfl 4 rfl ?_
        have hJ : m_W (d + 1) 0 0 yX4_all cX4_all 6 (some .boolean) (m_qi Th Q) 66 [(5, .int v5), (0, .ref a0), (1, .int x1), (2, .int x2), (3, .int x3), (4, .int x4)] [.int ((if x3 = 0 then 0 else (if v5 = 0 then 0 else 1)))] Th M4 0 0 := by
          obtain ⟨xv6, e_xv6⟩ : ∃ xv6 : Int32, xv6 = (if x3 = 0 then 0 else (if v5 = 0 then 0 else 1)) := ⟨_, rfl⟩
          have h := h xv6 e_xv6
          rw [← e_xv6]
          refine m_istore_n (lv' := [(3, .int xv6), (5, .int v5), (0, .ref a0), (1, .int x1), (2, .int x2), (4, .int x4)]) dX4_all_66 rfl (by decide) rfl ?_
          refine m_iinc (v := x4 + 1) (lv' := [(4, .int (x4 + 1)), (3, .int xv6), (5, .int v5), (0, .ref a0), (1, .int x1), (2, .int x2)]) dX4_all_67 5 rfl rfl (by decide) rfl ?_
          refine m_goto (tgt := 10) dX4_all_70 (by decide) ?_
          exact m_sub [3, 4, 5, 1, 0] rfl h
        refine m_if_eq (tgt := 65) dX4_all_53 (by decide) (fun c1 => ?_) (fun c1 => ?_)
        · simp only [if_pos c1] at hJ
          refine m_iconst (v := 0) dX4_all_65 (by decide) ?_
          exact hJ
        · simp only [if_neg c1] at hJ
          refine m_iload dX4_all_56 0 rfl ?_
          refine m_if_eq (tgt := 65) dX4_all_58 (by decide) (fun c2 => ?_) (fun c2 => ?_)
          · simp only [if_pos c2] at hJ
            refine m_iconst (v := 0) dX4_all_65 (by decide) ?_
            exact hJ
          · simp only [if_neg c2] at hJ
            refine m_iconst (v := 1) dX4_all_61 (by decide) ?_
            refine m_goto (tgt := 66) dX4_all_62 (by decide) ?_
            exact hJ
      refine m_if_eq (tgt := 46) dX4_all_35 (by decide) (fun c1 => ?_) (fun c1 => ?_)
      · simp only [if_pos c1] at hJ
        refine m_iconst (v := 0) dX4_all_46 (by decide) ?_
        exact hJ
      · simp only [if_neg c1] at hJ
        refine m_iload_n dX4_all_38 rfl 3 rfl ?_
        refine m_if_eq (tgt := 46) dX4_all_39 (by decide) (fun c2 => ?_) (fun c2 => ?_)
        · simp only [if_pos c2] at hJ
          refine m_iconst (v := 0) dX4_all_46 (by decide) ?_
          exact hJ
        · simp only [if_neg c2] at hJ
          refine m_iconst (v := 1) dX4_all_42 (by decide) ?_
          refine m_goto (tgt := 47) dX4_all_43 (by decide) ?_
          exact hJ
set_option maxHeartbeats 4000000 in
set_option maxRecDepth 100000 in
theorem e4_all {d : Nat} {Th : mT} {Q : Int32 → mM → Prop} {a0 : Nat} {x1 : Int32} {x2 : Int32} {M : mM} (h : Th.2.2 a0 = some (.inl 4) ∧ (P4_piece d Th a0 x1 x2 M (fun (v2 : Int32) (M1 : mM) => H4_all_10 (d + 1) Th Q a0 x1 x2 v2 0 M1))) : P4_all (d + 1) Th a0 x1 x2 M Q := by
  refine m_C.of (by decide +kernel) (Nat.le_of_ble_eq_true rfl) ?_
  show m_W (d + 1) 0 0 yX4_all cX4_all 6 (some .boolean) (m_qi Th Q) 0 [(0, .ref a0), (1, .int x1), (2, .int x2)] [] Th M 0 0
  refine m_aload_n dX4_all_0 rfl 0 rfl ?_
  refine m_iload_n dX4_all_1 rfl 1 rfl ?_
  refine m_iload_n dX4_all_2 rfl 2 rfl ?_
  obtain ⟨q3, h⟩ := h
  refine m_invV (ci := 4) (As := [.int x1, .int x2]) (d' := d) (mc' := 0) (ms' := 0) (rest := []) i_4_piece v_4_piece t_4_piece l_X4_96 ⟨_, _, rfl⟩ dX4_all_3 rfl rfl q3 (Nat.le_of_ble_eq_true rfl) (Nat.le_refl _) ⟨Nat.le_refl _, Nat.le_refl _⟩ (m_Ci h (fun v2 M1 h => ?_))
  show m_W (d + 1) 0 0 yX4_all cX4_all 6 (some .boolean) (m_qi Th Q) 6 [(0, .ref a0), (1, .int x1), (2, .int x2)] [.int v2] Th M1 0 0
  refine m_istore_n (lv' := [(3, .int v2), (0, .ref a0), (1, .int x1), (2, .int x2)]) dX4_all_6 rfl (by decide) rfl ?_
  refine m_iconst (v := 0) dX4_all_7 (by decide) ?_
  refine m_istore (lv' := [(4, .int 0), (3, .int v2), (0, .ref a0), (1, .int x1), (2, .int x2)]) dX4_all_8 (by decide) rfl ?_
  exact m_sub [2, 3, 4, 1, 0] rfl h
set_option maxHeartbeats 4000000 in
set_option maxRecDepth 100000 in
theorem h4_piece_18 {d : Nat} {Th : mT} {Q : Int32 → mM → Prop} {a0 : Nat} {x1 : Int32} {x2 : Int32} {M : mM} (h : if x1 < 6 then (H4_piece_31 (d + 1) Th Q a0 x1 x2 M) else (Th.2.2 a0 = some (.inl 4) ∧ (P4_blame d Th a0 5 M (fun M1 : mM => Q 0 M1)))) : H4_piece_18 (d + 1) Th Q a0 x1 x2 M := by
  show m_W (d + 1) 0 0 yX4_piece cX4_piece 6 (some .boolean) (m_qi Th Q) 18 [(0, .ref a0), (1, .int x1), (2, .int x2)] [] Th M 0 0
  refine m_iload_n dX4_piece_18 rfl 1 rfl ?_
  refine m_bipush (v := 6) dX4_piece_19 (by decide) ?_
  refine m_icmp_lt (tgt := 31) dX4_piece_21 (by decide) (fun c1 => ?_) (fun c1 => ?_)
  · rw [if_pos c1] at h
    exact h
  · rw [if_neg c1] at h
    refine m_aload_n dX4_piece_24 rfl 0 rfl ?_
    refine m_iconst (v := 5) dX4_piece_25 (by decide) ?_
    obtain ⟨q3, h⟩ := h
    refine m_invV (ci := 4) (As := [.int 5]) (d' := d) (mc' := 0) (ms' := 0) (rest := []) i_4_blame v_4_blame t_4_blame l_X4_90 ⟨_, _, rfl⟩ dX4_piece_26 rfl rfl q3 (Nat.le_of_ble_eq_true rfl) (Nat.le_refl _) ⟨Nat.le_refl _, Nat.le_refl _⟩ (m_Cv h (fun M1 h => ?_))
    show m_W (d + 1) 0 0 yX4_piece cX4_piece 6 (some .boolean) (m_qi Th Q) 29 [(0, .ref a0), (1, .int x1), (2, .int x2)] [] Th M1 0 0
    refine m_iconst (v := 0) dX4_piece_29 (by decide) ?_
    exact m_ireturn dX4_piece_30 rfl (by decide) ⟨rfl, _, rfl, h⟩
set_option maxHeartbeats 4000000 in
set_option maxRecDepth 100000 in
theorem h4_piece_31 {d : Nat} {Th : mT} {Q : Int32 → mM → Prop} {a0 : Nat} {x1 : Int32} {x2 : Int32} {M : mM} (h : Th.2.2 a0 = some (.inl 4) ∧ (if ((M).1 a0 8) = 33 then (P4_pass d Th a0 1 M (fun M2 : mM => P4_piece d Th a0 ((x1 + 1)) x2 M2 (fun (v5 : Int32) (M4 : mM) => m_bool ((if v5 = 0 then 1 else 0)) ∧ Q ((if v5 = 0 then 1 else 0)) M4))) else (if ((M).1 a0 8) = 40 then (P4_pass d Th a0 1 M (fun M6 : mM => P4_any d Th a0 ((x1 + 1)) x2 M6 (fun (v9 : Int32) (M8 : mM) => P4_pass d Th a0 ((if ((M8).1 a0 8) = 41 then 1 else 0)) M8 (fun M10 : mM => m_bool v9 ∧ Q v9 M10)))) else (P4_sum d Th a0 x1 x2 M (fun (v13 : Int32) (M12 : mM) => ∀ xv14 : Int32, xv14 = ((M12).1 a0 8) → P4_pass d Th a0 ((if xv14 = 60 then 1 else (if xv14 = 62 then 1 else (if xv14 = 61 then 1 else 0)))) M12 (fun M15 : mM => P4_sum d Th a0 x1 x2 M15 (fun (v18 : Int32) (M17 : mM) => m_bool ((if xv14 = 60 then (if v18 ≤ v13 then 0 else 1) else (if xv14 = 62 then (if v13 ≤ v18 then 0 else 1) else (if v13 = v18 then 1 else 0)))) ∧ Q ((if xv14 = 60 then (if v18 ≤ v13 then 0 else 1) else (if xv14 = 62 then (if v13 ≤ v18 then 0 else 1) else (if v13 = v18 then 1 else 0)))) M17))))))) : H4_piece_31 (d + 1) Th Q a0 x1 x2 M := by
  show m_W (d + 1) 0 0 yX4_piece cX4_piece 6 (some .boolean) (m_qi Th Q) 31 [(0, .ref a0), (1, .int x1), (2, .int x2)] [] Th M 0 0
  refine m_aload_n dX4_piece_31 rfl 0 rfl ?_
  obtain ⟨q1, h⟩ := h
  refine m_geti f_X4_64 rfl dX4_piece_32 q1 ?_
  refine m_bipush (v := 33) dX4_piece_35 (by decide) ?_
  refine m_icmp_ne (tgt := 62) dX4_piece_37 (by decide) (fun c1 => ?_) (fun c1 => ?_)
  · rw [if_neg c1] at h
    refine m_aload_n dX4_piece_62 rfl 0 rfl ?_
    refine m_geti f_X4_64 rfl dX4_piece_63 q1 ?_
    refine m_bipush (v := 40) dX4_piece_66 (by decide) ?_
    refine m_icmp_ne (tgt := 105) dX4_piece_68 (by decide) (fun c1 => ?_) (fun c1 => ?_)
    · rw [if_neg c1] at h
      refine m_aload_n dX4_piece_105 rfl 0 rfl ?_
      refine m_iload_n dX4_piece_106 rfl 1 rfl ?_
      refine m_iload_n dX4_piece_107 rfl 2 rfl ?_
      refine m_invV (ci := 4) (As := [.int x1, .int x2]) (d' := d) (mc' := 0) (ms' := 0) (rest := []) i_4_sum v_4_sum t_4_sum l_X4_75 ⟨_, _, rfl⟩ dX4_piece_108 rfl rfl q1 (Nat.le_of_ble_eq_true rfl) (Nat.le_refl _) ⟨Nat.le_refl _, Nat.le_refl _⟩ (m_Ci h (fun v13 M12 h => ?_))
      show m_W (d + 1) 0 0 yX4_piece cX4_piece 6 (some .boolean) (m_qi Th Q) 111 [(0, .ref a0), (1, .int x1), (2, .int x2)] [.int v13] Th M12 0 0
      refine m_istore_n (lv' := [(3, .int v13), (0, .ref a0), (1, .int x1), (2, .int x2)]) dX4_piece_111 rfl (by decide) rfl ?_
      refine m_aload_n dX4_piece_112 rfl 1 rfl ?_
      refine m_geti f_X4_64 rfl dX4_piece_113 q1 ?_
      obtain ⟨xv14, e_xv14⟩ : ∃ xv14 : Int32, xv14 = ((M12).1 a0 8) := ⟨_, rfl⟩
      have h := h xv14 e_xv14
      rw [← e_xv14]
      refine m_istore (lv' := [(4, .int xv14), (3, .int v13), (0, .ref a0), (1, .int x1), (2, .int x2)]) dX4_piece_116 (by decide) rfl ?_
      refine m_aload_n dX4_piece_118 rfl 2 rfl ?_
      refine m_iload dX4_piece_119 0 rfl ?_
      refine m_bipush (v := 60) dX4_piece_121 (by decide) ?_
      have hJ : m_W (d + 1) 0 0 yX4_piece cX4_piece 6 (some .boolean) (m_qi Th Q) 145 [(4, .int xv14), (3, .int v13), (0, .ref a0), (1, .int x1), (2, .int x2)] [.int ((if xv14 = 60 then 1 else (if xv14 = 62 then 1 else (if xv14 = 61 then 1 else 0)))), .ref a0] Th M12 0 0 := by
        refine m_invV (ci := 4) (As := [.int ((if xv14 = 60 then 1 else (if xv14 = 62 then 1 else (if xv14 = 61 then 1 else 0))))]) (d' := d) (mc' := 0) (ms' := 0) (rest := []) i_4_pass v_4_pass t_4_pass l_X4_67 ⟨_, _, rfl⟩ dX4_piece_145 rfl rfl q1 (Nat.le_of_ble_eq_true rfl) (Nat.le_refl _) ⟨Nat.le_refl _, Nat.le_refl _⟩ (m_Cv h (fun M15 h => ?_))
        show m_W (d + 1) 0 0 yX4_piece cX4_piece 6 (some .boolean) (m_qi Th Q) 148 [(4, .int xv14), (3, .int v13), (0, .ref a0), (1, .int x1), (2, .int x2)] [] Th M15 0 0
        refine m_aload_n dX4_piece_148 rfl 2 rfl ?_
        refine m_iload_n dX4_piece_149 rfl 3 rfl ?_
        refine m_iload_n dX4_piece_150 rfl 4 rfl ?_
        refine m_invV (ci := 4) (As := [.int x1, .int x2]) (d' := d) (mc' := 0) (ms' := 0) (rest := []) i_4_sum v_4_sum t_4_sum l_X4_75 ⟨_, _, rfl⟩ dX4_piece_151 rfl rfl q1 (Nat.le_of_ble_eq_true rfl) (Nat.le_refl _) ⟨Nat.le_refl _, Nat.le_refl _⟩ (m_Ci h (fun v18 M17 h => ?_))
        show m_W (d + 1) 0 0 yX4_piece cX4_piece 6 (some .boolean) (m_qi Th Q) 154 [(4, .int xv14), (3, .int v13), (0, .ref a0), (1, .int x1), (2, .int x2)] [.int v18] Th M17 0 0
        refine m_istore (lv' := [(5, .int v18), (4, .int xv14), (3, .int v13), (0, .ref a0), (1, .int x1), (2, .int x2)]) dX4_piece_154 (by decide) rfl ?_
        refine m_iload dX4_piece_156 1 rfl ?_
        refine m_bipush (v := 60) dX4_piece_158 (by decide) ?_
        have hJ : m_W (d + 1) 0 0 yX4_piece cX4_piece 6 (some .boolean) (m_qi Th Q) 209 [(5, .int v18), (4, .int xv14), (3, .int v13), (0, .ref a0), (1, .int x1), (2, .int x2)] [.int ((if xv14 = 60 then (if v18 ≤ v13 then 0 else 1) else (if xv14 = 62 then (if v13 ≤ v18 then 0 else 1) else (if v13 = v18 then 1 else 0))))] Th M17 0 0 := by
          exact m_ireturn dX4_piece_209 rfl h.1 ⟨rfl, _, rfl, h.2⟩
        refine m_icmp_ne (tgt := 177) dX4_piece_160 (by decide) (fun c1 => ?_) (fun c1 => ?_)
        · simp only [if_neg c1] at hJ
          refine m_iload dX4_piece_177 1 rfl ?_
          refine m_bipush (v := 62) dX4_piece_179 (by decide) ?_
          refine m_icmp_ne (tgt := 198) dX4_piece_181 (by decide) (fun c2 => ?_) (fun c2 => ?_)
          · simp only [if_neg c2] at hJ
            refine m_iload_n dX4_piece_198 rfl 2 rfl ?_
            refine m_iload dX4_piece_199 0 rfl ?_
            refine m_icmp_ne (tgt := 208) dX4_piece_201 (by decide) (fun c2 => ?_) (fun c2 => ?_)
            · simp only [if_neg c2] at hJ
              refine m_iconst (v := 0) dX4_piece_208 (by decide) ?_
              exact hJ
            · simp only [if_pos c2] at hJ
              refine m_iconst (v := 1) dX4_piece_204 (by decide) ?_
              refine m_goto (tgt := 209) dX4_piece_205 (by decide) ?_
              exact hJ
          · simp only [if_pos c2] at hJ
            refine m_iload_n dX4_piece_184 rfl 2 rfl ?_
            refine m_iload dX4_piece_185 0 rfl ?_
            refine m_icmp_le (tgt := 194) dX4_piece_187 (by decide) (fun c2 => ?_) (fun c2 => ?_)
            · simp only [if_pos c2] at hJ
              refine m_iconst (v := 0) dX4_piece_194 (by decide) ?_
              refine m_goto (tgt := 209) dX4_piece_195 (by decide) ?_
              exact hJ
            · simp only [if_neg c2] at hJ
              refine m_iconst (v := 1) dX4_piece_190 (by decide) ?_
              refine m_goto (tgt := 209) dX4_piece_191 (by decide) ?_
              exact hJ
        · simp only [if_pos c1] at hJ
          refine m_iload_n dX4_piece_163 rfl 2 rfl ?_
          refine m_iload dX4_piece_164 0 rfl ?_
          refine m_icmp_ge (tgt := 173) dX4_piece_166 (by decide) (fun c2 => ?_) (fun c2 => ?_)
          · simp only [if_pos c2] at hJ
            refine m_iconst (v := 0) dX4_piece_173 (by decide) ?_
            refine m_goto (tgt := 209) dX4_piece_174 (by decide) ?_
            exact hJ
          · simp only [if_neg c2] at hJ
            refine m_iconst (v := 1) dX4_piece_169 (by decide) ?_
            refine m_goto (tgt := 209) dX4_piece_170 (by decide) ?_
            exact hJ
      refine m_icmp_eq (tgt := 140) dX4_piece_123 (by decide) (fun c1 => ?_) (fun c1 => ?_)
      · simp only [if_pos c1] at hJ
        refine m_iconst (v := 1) dX4_piece_140 (by decide) ?_
        refine m_goto (tgt := 145) dX4_piece_141 (by decide) ?_
        exact hJ
      · simp only [if_neg c1] at hJ
        refine m_iload dX4_piece_126 0 rfl ?_
        refine m_bipush (v := 62) dX4_piece_128 (by decide) ?_
        refine m_icmp_eq (tgt := 140) dX4_piece_130 (by decide) (fun c2 => ?_) (fun c2 => ?_)
        · simp only [if_pos c2] at hJ
          refine m_iconst (v := 1) dX4_piece_140 (by decide) ?_
          refine m_goto (tgt := 145) dX4_piece_141 (by decide) ?_
          exact hJ
        · simp only [if_neg c2] at hJ
          refine m_iload dX4_piece_133 0 rfl ?_
          refine m_bipush (v := 61) dX4_piece_135 (by decide) ?_
          refine m_icmp_ne (tgt := 144) dX4_piece_137 (by decide) (fun c2 => ?_) (fun c2 => ?_)
          · simp only [if_neg c2] at hJ
            refine m_iconst (v := 0) dX4_piece_144 (by decide) ?_
            exact hJ
          · simp only [if_pos c2] at hJ
            refine m_iconst (v := 1) dX4_piece_140 (by decide) ?_
            refine m_goto (tgt := 145) dX4_piece_141 (by decide) ?_
            exact hJ
    · rw [if_pos c1] at h
      refine m_aload_n dX4_piece_71 rfl 0 rfl ?_
      refine m_iconst (v := 1) dX4_piece_72 (by decide) ?_
      refine m_invV (ci := 4) (As := [.int 1]) (d' := d) (mc' := 0) (ms' := 0) (rest := []) i_4_pass v_4_pass t_4_pass l_X4_67 ⟨_, _, rfl⟩ dX4_piece_73 rfl rfl q1 (Nat.le_of_ble_eq_true rfl) (Nat.le_refl _) ⟨Nat.le_refl _, Nat.le_refl _⟩ (m_Cv h (fun M6 h => ?_))
      show m_W (d + 1) 0 0 yX4_piece cX4_piece 6 (some .boolean) (m_qi Th Q) 76 [(0, .ref a0), (1, .int x1), (2, .int x2)] [] Th M6 0 0
      refine m_aload_n dX4_piece_76 rfl 0 rfl ?_
      refine m_iload_n dX4_piece_77 rfl 1 rfl ?_
      refine m_iconst (v := 1) dX4_piece_78 (by decide) ?_
      refine m_iadd dX4_piece_79 ?_
      refine m_iload_n dX4_piece_80 rfl 2 rfl ?_
      refine m_invV (ci := 4) (As := [.int ((x1 + 1)), .int x2]) (d' := d) (mc' := 0) (ms' := 0) (rest := []) i_4_any v_4_any t_4_any l_X4_79 ⟨_, _, rfl⟩ dX4_piece_81 rfl rfl q1 (Nat.le_of_ble_eq_true rfl) (Nat.le_refl _) ⟨Nat.le_refl _, Nat.le_refl _⟩ (m_Ci h (fun v9 M8 h => ?_))
      show m_W (d + 1) 0 0 yX4_piece cX4_piece 6 (some .boolean) (m_qi Th Q) 84 [(0, .ref a0), (1, .int x1), (2, .int x2)] [.int v9] Th M8 0 0
      refine m_istore_n (lv' := [(3, .int v9), (0, .ref a0), (1, .int x1), (2, .int x2)]) dX4_piece_84 rfl (by decide) rfl ?_
      refine m_aload_n dX4_piece_85 rfl 1 rfl ?_
      refine m_aload_n dX4_piece_86 rfl 1 rfl ?_
      refine m_geti f_X4_64 rfl dX4_piece_87 q1 ?_
      refine m_bipush (v := 41) dX4_piece_90 (by decide) ?_
      have hJ : m_W (d + 1) 0 0 yX4_piece cX4_piece 6 (some .boolean) (m_qi Th Q) 100 [(3, .int v9), (0, .ref a0), (1, .int x1), (2, .int x2)] [.int ((if ((M8).1 a0 8) = 41 then 1 else 0)), .ref a0] Th M8 0 0 := by
        refine m_invV (ci := 4) (As := [.int ((if ((M8).1 a0 8) = 41 then 1 else 0))]) (d' := d) (mc' := 0) (ms' := 0) (rest := []) i_4_pass v_4_pass t_4_pass l_X4_67 ⟨_, _, rfl⟩ dX4_piece_100 rfl rfl q1 (Nat.le_of_ble_eq_true rfl) (Nat.le_refl _) ⟨Nat.le_refl _, Nat.le_refl _⟩ (m_Cv h (fun M10 h => ?_))
        show m_W (d + 1) 0 0 yX4_piece cX4_piece 6 (some .boolean) (m_qi Th Q) 103 [(3, .int v9), (0, .ref a0), (1, .int x1), (2, .int x2)] [] Th M10 0 0
        refine m_iload_n dX4_piece_103 rfl 0 rfl ?_
        exact m_ireturn dX4_piece_104 rfl h.1 ⟨rfl, _, rfl, h.2⟩
      refine m_icmp_ne (tgt := 99) dX4_piece_92 (by decide) (fun c1 => ?_) (fun c1 => ?_)
      · simp only [if_neg c1] at hJ
        refine m_iconst (v := 0) dX4_piece_99 (by decide) ?_
        exact hJ
      · simp only [if_pos c1] at hJ
        refine m_iconst (v := 1) dX4_piece_95 (by decide) ?_
        refine m_goto (tgt := 100) dX4_piece_96 (by decide) ?_
        exact hJ
  · rw [if_pos c1] at h
    refine m_aload_n dX4_piece_40 rfl 0 rfl ?_
    refine m_iconst (v := 1) dX4_piece_41 (by decide) ?_
    refine m_invV (ci := 4) (As := [.int 1]) (d' := d) (mc' := 0) (ms' := 0) (rest := []) i_4_pass v_4_pass t_4_pass l_X4_67 ⟨_, _, rfl⟩ dX4_piece_42 rfl rfl q1 (Nat.le_of_ble_eq_true rfl) (Nat.le_refl _) ⟨Nat.le_refl _, Nat.le_refl _⟩ (m_Cv h (fun M2 h => ?_))
    show m_W (d + 1) 0 0 yX4_piece cX4_piece 6 (some .boolean) (m_qi Th Q) 45 [(0, .ref a0), (1, .int x1), (2, .int x2)] [] Th M2 0 0
    refine m_aload_n dX4_piece_45 rfl 0 rfl ?_
    refine m_iload_n dX4_piece_46 rfl 1 rfl ?_
    refine m_iconst (v := 1) dX4_piece_47 (by decide) ?_
    refine m_iadd dX4_piece_48 ?_
    refine m_iload_n dX4_piece_49 rfl 2 rfl ?_
    refine m_invV (ci := 4) (As := [.int ((x1 + 1)), .int x2]) (d' := d) (mc' := 0) (ms' := 0) (rest := []) i_4_piece v_4_piece t_4_piece l_X4_96 ⟨_, _, rfl⟩ dX4_piece_50 rfl rfl q1 (Nat.le_of_ble_eq_true rfl) (Nat.le_refl _) ⟨Nat.le_refl _, Nat.le_refl _⟩ (m_Ci h (fun v5 M4 h => ?_))
    show m_W (d + 1) 0 0 yX4_piece cX4_piece 6 (some .boolean) (m_qi Th Q) 53 [(0, .ref a0), (1, .int x1), (2, .int x2)] [.int v5] Th M4 0 0
    have hJ : m_W (d + 1) 0 0 yX4_piece cX4_piece 6 (some .boolean) (m_qi Th Q) 61 [(0, .ref a0), (1, .int x1), (2, .int x2)] [.int ((if v5 = 0 then 1 else 0))] Th M4 0 0 := by
      exact m_ireturn dX4_piece_61 rfl h.1 ⟨rfl, _, rfl, h.2⟩
    refine m_if_ne (tgt := 60) dX4_piece_53 (by decide) (fun c1 => ?_) (fun c1 => ?_)
    · simp only [if_neg c1] at hJ
      refine m_iconst (v := 0) dX4_piece_60 (by decide) ?_
      exact hJ
    · simp only [if_pos c1] at hJ
      refine m_iconst (v := 1) dX4_piece_56 (by decide) ?_
      refine m_goto (tgt := 61) dX4_piece_57 (by decide) ?_
      exact hJ
set_option maxHeartbeats 4000000 in
set_option maxRecDepth 100000 in
theorem e4_piece {d : Nat} {Th : mT} {Q : Int32 → mM → Prop} {a0 : Nat} {x1 : Int32} {x2 : Int32} {M : mM} (h : Th.2.2 a0 = some (.inl 4) ∧ (if ((M).1 a0 8) = 33 then (H4_piece_18 (d + 1) Th Q a0 x1 x2 M) else (if ((M).1 a0 8) = 40 then (H4_piece_18 (d + 1) Th Q a0 x1 x2 M) else (H4_piece_31 (d + 1) Th Q a0 x1 x2 M)))) : P4_piece (d + 1) Th a0 x1 x2 M Q := by
  refine m_C.of (by decide +kernel) (Nat.le_of_ble_eq_true rfl) ?_
  show m_W (d + 1) 0 0 yX4_piece cX4_piece 6 (some .boolean) (m_qi Th Q) 0 [(0, .ref a0), (1, .int x1), (2, .int x2)] [] Th M 0 0
  refine m_aload_n dX4_piece_0 rfl 0 rfl ?_
  obtain ⟨q1, h⟩ := h
  refine m_geti f_X4_64 rfl dX4_piece_1 q1 ?_
  refine m_bipush (v := 33) dX4_piece_4 (by decide) ?_
  refine m_icmp_eq (tgt := 18) dX4_piece_6 (by decide) (fun c1 => ?_) (fun c1 => ?_)
  · rw [if_pos c1] at h
    exact h
  · rw [if_neg c1] at h
    refine m_aload_n dX4_piece_9 rfl 0 rfl ?_
    refine m_geti f_X4_64 rfl dX4_piece_10 q1 ?_
    refine m_bipush (v := 40) dX4_piece_13 (by decide) ?_
    refine m_icmp_ne (tgt := 31) dX4_piece_15 (by decide) (fun c1 => ?_) (fun c1 => ?_)
    · rw [if_neg c1] at h
      exact h
    · rw [if_pos c1] at h
      exact h
set_option maxHeartbeats 4000000 in
set_option maxRecDepth 100000 in
theorem h4_sum_10 {d : Nat} {Th : mT} {Q : Int32 → mM → Prop} {a0 : Nat} {x1 : Int32} {x2 : Int32} {x3 : Int32} {x4 : Int32} {M : mM} (h : if 200 ≤ x4 then (Q x3 M) else (Th.2.2 a0 = some (.inl 4) ∧ (if ((M).1 a0 8) = 43 then (H4_sum_36 (d + 1) Th Q a0 x1 x2 x3 x4 M) else (if ((M).1 a0 8) = 45 then (H4_sum_36 (d + 1) Th Q a0 x1 x2 x3 x4 M) else (Q x3 M))))) : H4_sum_10 (d + 1) Th Q a0 x1 x2 x3 x4 M := by
  show m_W (d + 1) 0 0 yX4_sum cX4_sum 7 (some .int) (m_qi Th Q) 10 [(0, .ref a0), (1, .int x1), (2, .int x2), (3, .int x3), (4, .int x4)] [] Th M 0 0
  refine m_iload dX4_sum_10 4 rfl ?_
  refine m_sipush (v := 200) dX4_sum_12 (by decide) ?_
  refine m_icmp_ge (tgt := 88) dX4_sum_15 (by decide) (fun c1 => ?_) (fun c1 => ?_)
  · rw [if_pos c1] at h
    refine m_iload_n dX4_sum_88 rfl 3 rfl ?_
    exact m_ireturn dX4_sum_89 rfl rfl ⟨rfl, _, rfl, h⟩
  · rw [if_neg c1] at h
    refine m_aload_n dX4_sum_18 rfl 0 rfl ?_
    obtain ⟨q1, h⟩ := h
    refine m_geti f_X4_64 rfl dX4_sum_19 q1 ?_
    refine m_bipush (v := 43) dX4_sum_22 (by decide) ?_
    refine m_icmp_eq (tgt := 36) dX4_sum_24 (by decide) (fun c1 => ?_) (fun c1 => ?_)
    · rw [if_pos c1] at h
      exact h
    · rw [if_neg c1] at h
      refine m_aload_n dX4_sum_27 rfl 0 rfl ?_
      refine m_geti f_X4_64 rfl dX4_sum_28 q1 ?_
      refine m_bipush (v := 45) dX4_sum_31 (by decide) ?_
      refine m_icmp_ne (tgt := 88) dX4_sum_33 (by decide) (fun c1 => ?_) (fun c1 => ?_)
      · rw [if_neg c1] at h
        refine m_iload_n dX4_sum_88 rfl 3 rfl ?_
        exact m_ireturn dX4_sum_89 rfl rfl ⟨rfl, _, rfl, h⟩
      · rw [if_pos c1] at h
        exact h
set_option maxHeartbeats 4000000 in
set_option maxRecDepth 100000 in
theorem h4_sum_36 {d : Nat} {Th : mT} {Q : Int32 → mM → Prop} {a0 : Nat} {x1 : Int32} {x2 : Int32} {x3 : Int32} {x4 : Int32} {M : mM} (h : Th.2.2 a0 = some (.inl 4) ∧ (∀ xv2 : Int32, xv2 = (if ((M).1 a0 8) = 43 then 1 else 0) → P4_pass d Th a0 1 M (fun M3 : mM => P4_product d Th a0 x1 x2 M3 (fun (v6 : Int32) (M5 : mM) => ∀ xv7 : Int32, xv7 = (if xv2 = 0 then (x3 - v6) else (x3 + v6)) → H4_sum_10 (d + 1) Th Q a0 x1 x2 xv7 (x4 + 1) M5)))) : H4_sum_36 (d + 1) Th Q a0 x1 x2 x3 x4 M := by
  show m_W (d + 1) 0 0 yX4_sum cX4_sum 7 (some .int) (m_qi Th Q) 36 [(0, .ref a0), (1, .int x1), (2, .int x2), (3, .int x3), (4, .int x4)] [] Th M 0 0
  refine m_aload_n dX4_sum_36 rfl 0 rfl ?_
  obtain ⟨q1, h⟩ := h
  refine m_geti f_X4_64 rfl dX4_sum_37 q1 ?_
  refine m_bipush (v := 43) dX4_sum_40 (by decide) ?_
  have hJ : m_W (d + 1) 0 0 yX4_sum cX4_sum 7 (some .int) (m_qi Th Q) 50 [(0, .ref a0), (1, .int x1), (2, .int x2), (3, .int x3), (4, .int x4)] [.int ((if ((M).1 a0 8) = 43 then 1 else 0))] Th M 0 0 := by
    obtain ⟨xv2, e_xv2⟩ : ∃ xv2 : Int32, xv2 = (if ((M).1 a0 8) = 43 then 1 else 0) := ⟨_, rfl⟩
    have h := h xv2 e_xv2
    rw [← e_xv2]
    refine m_istore (lv' := [(5, .int xv2), (0, .ref a0), (1, .int x1), (2, .int x2), (3, .int x3), (4, .int x4)]) dX4_sum_50 (by decide) rfl ?_
    refine m_aload_n dX4_sum_52 rfl 1 rfl ?_
    refine m_iconst (v := 1) dX4_sum_53 (by decide) ?_
    refine m_invV (ci := 4) (As := [.int 1]) (d' := d) (mc' := 0) (ms' := 0) (rest := []) i_4_pass v_4_pass t_4_pass l_X4_67 ⟨_, _, rfl⟩ dX4_sum_54 rfl rfl q1 (Nat.le_of_ble_eq_true rfl) (Nat.le_refl _) ⟨Nat.le_refl _, Nat.le_refl _⟩ (m_Cv h (fun M3 h => ?_))
    show m_W (d + 1) 0 0 yX4_sum cX4_sum 7 (some .int) (m_qi Th Q) 57 [(5, .int xv2), (0, .ref a0), (1, .int x1), (2, .int x2), (3, .int x3), (4, .int x4)] [] Th M3 0 0
    refine m_aload_n dX4_sum_57 rfl 1 rfl ?_
    refine m_iload_n dX4_sum_58 rfl 2 rfl ?_
    refine m_iload_n dX4_sum_59 rfl 3 rfl ?_
    refine m_invV (ci := 4) (As := [.int x1, .int x2]) (d' := d) (mc' := 0) (ms' := 0) (rest := []) i_4_product v_4_product t_4_product l_X4_99 ⟨_, _, rfl⟩ dX4_sum_60 rfl rfl q1 (Nat.le_of_ble_eq_true rfl) (Nat.le_refl _) ⟨Nat.le_refl _, Nat.le_refl _⟩ (m_Ci h (fun v6 M5 h => ?_))
    show m_W (d + 1) 0 0 yX4_sum cX4_sum 7 (some .int) (m_qi Th Q) 63 [(5, .int xv2), (0, .ref a0), (1, .int x1), (2, .int x2), (3, .int x3), (4, .int x4)] [.int v6] Th M5 0 0
    refine m_istore (lv' := [(6, .int v6), (5, .int xv2), (0, .ref a0), (1, .int x1), (2, .int x2), (3, .int x3), (4, .int x4)]) dX4_sum_63 (by decide) rfl ?_
    refine m_iload dX4_sum_65 1 rfl ?_
    have hJ : m_W (d + 1) 0 0 yX4_sum cX4_sum 7 (some .int) (m_qi Th Q) 81 [(6, .int v6), (5, .int xv2), (0, .ref a0), (1, .int x1), (2, .int x2), (3, .int x3), (4, .int x4)] [.int ((if xv2 = 0 then (x3 - v6) else (x3 + v6)))] Th M5 0 0 := by
      obtain ⟨xv7, e_xv7⟩ : ∃ xv7 : Int32, xv7 = (if xv2 = 0 then (x3 - v6) else (x3 + v6)) := ⟨_, rfl⟩
      have h := h xv7 e_xv7
      rw [← e_xv7]
      refine m_istore_n (lv' := [(3, .int xv7), (6, .int v6), (5, .int xv2), (0, .ref a0), (1, .int x1), (2, .int x2), (4, .int x4)]) dX4_sum_81 rfl (by decide) rfl ?_
      refine m_iinc (v := x4 + 1) (lv' := [(4, .int (x4 + 1)), (3, .int xv7), (6, .int v6), (5, .int xv2), (0, .ref a0), (1, .int x1), (2, .int x2)]) dX4_sum_82 6 rfl rfl (by decide) rfl ?_
      refine m_goto (tgt := 10) dX4_sum_85 (by decide) ?_
      exact m_sub [4, 5, 6, 1, 0] rfl h
    refine m_if_eq (tgt := 77) dX4_sum_67 (by decide) (fun c1 => ?_) (fun c1 => ?_)
    · simp only [if_pos c1] at hJ
      refine m_iload_n dX4_sum_77 rfl 5 rfl ?_
      refine m_iload dX4_sum_78 0 rfl ?_
      refine m_isub dX4_sum_80 ?_
      exact hJ
    · simp only [if_neg c1] at hJ
      refine m_iload_n dX4_sum_70 rfl 5 rfl ?_
      refine m_iload dX4_sum_71 0 rfl ?_
      refine m_iadd dX4_sum_73 ?_
      refine m_goto (tgt := 81) dX4_sum_74 (by decide) ?_
      exact hJ
  refine m_icmp_ne (tgt := 49) dX4_sum_42 (by decide) (fun c1 => ?_) (fun c1 => ?_)
  · simp only [if_neg c1] at hJ
    refine m_iconst (v := 0) dX4_sum_49 (by decide) ?_
    exact hJ
  · simp only [if_pos c1] at hJ
    refine m_iconst (v := 1) dX4_sum_45 (by decide) ?_
    refine m_goto (tgt := 50) dX4_sum_46 (by decide) ?_
    exact hJ
set_option maxHeartbeats 4000000 in
set_option maxRecDepth 100000 in
theorem e4_sum {d : Nat} {Th : mT} {Q : Int32 → mM → Prop} {a0 : Nat} {x1 : Int32} {x2 : Int32} {M : mM} (h : Th.2.2 a0 = some (.inl 4) ∧ (P4_product d Th a0 x1 x2 M (fun (v2 : Int32) (M1 : mM) => H4_sum_10 (d + 1) Th Q a0 x1 x2 v2 0 M1))) : P4_sum (d + 1) Th a0 x1 x2 M Q := by
  refine m_C.of (by decide +kernel) (Nat.le_of_ble_eq_true rfl) ?_
  show m_W (d + 1) 0 0 yX4_sum cX4_sum 7 (some .int) (m_qi Th Q) 0 [(0, .ref a0), (1, .int x1), (2, .int x2)] [] Th M 0 0
  refine m_aload_n dX4_sum_0 rfl 0 rfl ?_
  refine m_iload_n dX4_sum_1 rfl 1 rfl ?_
  refine m_iload_n dX4_sum_2 rfl 2 rfl ?_
  obtain ⟨q3, h⟩ := h
  refine m_invV (ci := 4) (As := [.int x1, .int x2]) (d' := d) (mc' := 0) (ms' := 0) (rest := []) i_4_product v_4_product t_4_product l_X4_99 ⟨_, _, rfl⟩ dX4_sum_3 rfl rfl q3 (Nat.le_of_ble_eq_true rfl) (Nat.le_refl _) ⟨Nat.le_refl _, Nat.le_refl _⟩ (m_Ci h (fun v2 M1 h => ?_))
  show m_W (d + 1) 0 0 yX4_sum cX4_sum 7 (some .int) (m_qi Th Q) 6 [(0, .ref a0), (1, .int x1), (2, .int x2)] [.int v2] Th M1 0 0
  refine m_istore_n (lv' := [(3, .int v2), (0, .ref a0), (1, .int x1), (2, .int x2)]) dX4_sum_6 rfl (by decide) rfl ?_
  refine m_iconst (v := 0) dX4_sum_7 (by decide) ?_
  refine m_istore (lv' := [(4, .int 0), (3, .int v2), (0, .ref a0), (1, .int x1), (2, .int x2)]) dX4_sum_8 (by decide) rfl ?_
  exact m_sub [2, 3, 4, 1, 0] rfl h
set_option maxHeartbeats 4000000 in
set_option maxRecDepth 100000 in
theorem h4_product_10 {d : Nat} {Th : mT} {Q : Int32 → mM → Prop} {a0 : Nat} {x1 : Int32} {x2 : Int32} {x3 : Int32} {x4 : Int32} {M : mM} (h : if 200 ≤ x4 then (Q x3 M) else (Th.2.2 a0 = some (.inl 4) ∧ (if ((M).1 a0 8) = 42 then (H4_product_45 (d + 1) Th Q a0 x1 x2 x3 x4 M) else (if ((M).1 a0 8) = 47 then (H4_product_45 (d + 1) Th Q a0 x1 x2 x3 x4 M) else (if ((M).1 a0 8) = 37 then (H4_product_45 (d + 1) Th Q a0 x1 x2 x3 x4 M) else (Q x3 M)))))) : H4_product_10 (d + 1) Th Q a0 x1 x2 x3 x4 M := by
  show m_W (d + 1) 0 0 yX4_product cX4_product 7 (some .int) (m_qi Th Q) 10 [(0, .ref a0), (1, .int x1), (2, .int x2), (3, .int x3), (4, .int x4)] [] Th M 0 0
  refine m_iload dX4_product_10 4 rfl ?_
  refine m_sipush (v := 200) dX4_product_12 (by decide) ?_
  refine m_icmp_ge (tgt := 134) dX4_product_15 (by decide) (fun c1 => ?_) (fun c1 => ?_)
  · rw [if_pos c1] at h
    refine m_iload_n dX4_product_134 rfl 3 rfl ?_
    exact m_ireturn dX4_product_135 rfl rfl ⟨rfl, _, rfl, h⟩
  · rw [if_neg c1] at h
    refine m_aload_n dX4_product_18 rfl 0 rfl ?_
    obtain ⟨q1, h⟩ := h
    refine m_geti f_X4_64 rfl dX4_product_19 q1 ?_
    refine m_bipush (v := 42) dX4_product_22 (by decide) ?_
    refine m_icmp_eq (tgt := 45) dX4_product_24 (by decide) (fun c1 => ?_) (fun c1 => ?_)
    · rw [if_pos c1] at h
      exact h
    · rw [if_neg c1] at h
      refine m_aload_n dX4_product_27 rfl 0 rfl ?_
      refine m_geti f_X4_64 rfl dX4_product_28 q1 ?_
      refine m_bipush (v := 47) dX4_product_31 (by decide) ?_
      refine m_icmp_eq (tgt := 45) dX4_product_33 (by decide) (fun c1 => ?_) (fun c1 => ?_)
      · rw [if_pos c1] at h
        exact h
      · rw [if_neg c1] at h
        refine m_aload_n dX4_product_36 rfl 0 rfl ?_
        refine m_geti f_X4_64 rfl dX4_product_37 q1 ?_
        refine m_bipush (v := 37) dX4_product_40 (by decide) ?_
        refine m_icmp_ne (tgt := 134) dX4_product_42 (by decide) (fun c1 => ?_) (fun c1 => ?_)
        · rw [if_neg c1] at h
          refine m_iload_n dX4_product_134 rfl 3 rfl ?_
          exact m_ireturn dX4_product_135 rfl rfl ⟨rfl, _, rfl, h⟩
        · rw [if_pos c1] at h
          exact h
set_option maxHeartbeats 4000000 in
set_option maxRecDepth 100000 in
theorem h4_product_45 {d : Nat} {Th : mT} {Q : Int32 → mM → Prop} {a0 : Nat} {x1 : Int32} {x2 : Int32} {x3 : Int32} {x4 : Int32} {M : mM} (h : Th.2.2 a0 = some (.inl 4) ∧ (∀ xv2 : Int32, xv2 = ((M).1 a0 8) → P4_pass d Th a0 1 M (fun M3 : mM => P4_factor d Th a0 x1 x2 M3 (fun (v6 : Int32) (M5 : mM) => if xv2 = 42 then (∀ xv7 : Int32, xv7 = (x3 * v6) → H4_product_10 (d + 1) Th Q a0 x1 x2 xv7 (x4 + 1) M5) else (if v6 = 0 then (m_fitI .boolean ((if ((M5).1 a0 10) = 0 then (if x2 = 0 then 0 else 1) else 1)) ∧ (H4_product_10 (d + 1) Th Q a0 x1 x2 0 (x4 + 1) (m_ui M5 a0 10 ((if ((M5).1 a0 10) = 0 then (if x2 = 0 then 0 else 1) else 1))))) else (if xv2 = 47 then (¬ (v6 = 0) ∧ (H4_product_127 (d + 1) Th Q a0 x1 x2 x4 ((x3 / v6)) M5)) else (¬ (v6 = 0) ∧ (H4_product_127 (d + 1) Th Q a0 x1 x2 x4 ((x3 - x3 / v6 * v6)) M5)))))))) : H4_product_45 (d + 1) Th Q a0 x1 x2 x3 x4 M := by
  show m_W (d + 1) 0 0 yX4_product cX4_product 7 (some .int) (m_qi Th Q) 45 [(0, .ref a0), (1, .int x1), (2, .int x2), (3, .int x3), (4, .int x4)] [] Th M 0 0
  refine m_aload_n dX4_product_45 rfl 0 rfl ?_
  obtain ⟨q1, h⟩ := h
  refine m_geti f_X4_64 rfl dX4_product_46 q1 ?_
  obtain ⟨xv2, e_xv2⟩ : ∃ xv2 : Int32, xv2 = ((M).1 a0 8) := ⟨_, rfl⟩
  have h := h xv2 e_xv2
  rw [← e_xv2]
  refine m_istore (lv' := [(5, .int xv2), (0, .ref a0), (1, .int x1), (2, .int x2), (3, .int x3), (4, .int x4)]) dX4_product_49 (by decide) rfl ?_
  refine m_aload_n dX4_product_51 rfl 1 rfl ?_
  refine m_iconst (v := 1) dX4_product_52 (by decide) ?_
  refine m_invV (ci := 4) (As := [.int 1]) (d' := d) (mc' := 0) (ms' := 0) (rest := []) i_4_pass v_4_pass t_4_pass l_X4_67 ⟨_, _, rfl⟩ dX4_product_53 rfl rfl q1 (Nat.le_of_ble_eq_true rfl) (Nat.le_refl _) ⟨Nat.le_refl _, Nat.le_refl _⟩ (m_Cv h (fun M3 h => ?_))
  show m_W (d + 1) 0 0 yX4_product cX4_product 7 (some .int) (m_qi Th Q) 56 [(5, .int xv2), (0, .ref a0), (1, .int x1), (2, .int x2), (3, .int x3), (4, .int x4)] [] Th M3 0 0
  refine m_aload_n dX4_product_56 rfl 1 rfl ?_
  refine m_iload_n dX4_product_57 rfl 2 rfl ?_
  refine m_iload_n dX4_product_58 rfl 3 rfl ?_
  refine m_invV (ci := 4) (As := [.int x1, .int x2]) (d' := d) (mc' := 0) (ms' := 0) (rest := []) i_4_factor v_4_factor t_4_factor l_X4_102 ⟨_, _, rfl⟩ dX4_product_59 rfl rfl q1 (Nat.le_of_ble_eq_true rfl) (Nat.le_refl _) ⟨Nat.le_refl _, Nat.le_refl _⟩ (m_Ci h (fun v6 M5 h => ?_))
  show m_W (d + 1) 0 0 yX4_product cX4_product 7 (some .int) (m_qi Th Q) 62 [(5, .int xv2), (0, .ref a0), (1, .int x1), (2, .int x2), (3, .int x3), (4, .int x4)] [.int v6] Th M5 0 0
  refine m_istore (lv' := [(6, .int v6), (5, .int xv2), (0, .ref a0), (1, .int x1), (2, .int x2), (3, .int x3), (4, .int x4)]) dX4_product_62 (by decide) rfl ?_
  refine m_iload dX4_product_64 1 rfl ?_
  refine m_bipush (v := 42) dX4_product_66 (by decide) ?_
  refine m_icmp_ne (tgt := 79) dX4_product_68 (by decide) (fun c1 => ?_) (fun c1 => ?_)
  · rw [if_neg c1] at h
    refine m_iload dX4_product_79 0 rfl ?_
    refine m_if_ne (tgt := 109) dX4_product_81 (by decide) (fun c1 => ?_) (fun c1 => ?_)
    · rw [if_neg c1] at h
      refine m_iload dX4_product_109 1 rfl ?_
      refine m_bipush (v := 47) dX4_product_111 (by decide) ?_
      refine m_icmp_ne (tgt := 123) dX4_product_113 (by decide) (fun c1 => ?_) (fun c1 => ?_)
      · rw [if_neg c1] at h
        refine m_iload_n dX4_product_123 rfl 5 rfl ?_
        refine m_iload dX4_product_124 0 rfl ?_
        obtain ⟨q10, h⟩ := h
        refine m_irem dX4_product_126 q10 ?_
        exact m_sub [2, 3, 4, 6] rfl h
      · rw [if_pos c1] at h
        refine m_iload_n dX4_product_116 rfl 5 rfl ?_
        refine m_iload dX4_product_117 0 rfl ?_
        obtain ⟨q9, h⟩ := h
        refine m_idiv dX4_product_119 q9 ?_
        refine m_goto (tgt := 127) dX4_product_120 (by decide) ?_
        exact m_sub [2, 3, 4, 6] rfl h
    · rw [if_pos c1] at h
      refine m_aload_n dX4_product_84 rfl 2 rfl ?_
      refine m_aload_n dX4_product_85 rfl 2 rfl ?_
      refine m_geti f_X4_71 rfl dX4_product_86 q1 ?_
      have hJ : m_W (d + 1) 0 0 yX4_product cX4_product 7 (some .int) (m_qi Th Q) 101 [(6, .int v6), (5, .int xv2), (0, .ref a0), (1, .int x1), (2, .int x2), (3, .int x3), (4, .int x4)] [.int ((if ((M5).1 a0 10) = 0 then (if x2 = 0 then 0 else 1) else 1)), .ref a0] Th M5 0 0 := by
        obtain ⟨q8, h⟩ := h
        refine m_puti f_X4_71 rfl (Or.inl rfl) dX4_product_101 q1 q8 ?_
        refine m_iconst (v := 0) dX4_product_104 (by decide) ?_
        refine m_istore_n (lv' := [(3, .int 0), (6, .int v6), (5, .int xv2), (0, .ref a0), (1, .int x1), (2, .int x2), (4, .int x4)]) dX4_product_105 rfl (by decide) rfl ?_
        refine m_goto (tgt := 128) dX4_product_106 (by decide) ?_
        refine m_iinc (v := x4 + 1) (lv' := [(4, .int (x4 + 1)), (3, .int 0), (6, .int v6), (5, .int xv2), (0, .ref a0), (1, .int x1), (2, .int x2)]) dX4_product_128 6 rfl rfl (by decide) rfl ?_
        refine m_goto (tgt := 10) dX4_product_131 (by decide) ?_
        exact m_sub [4, 5, 6, 1, 0] rfl h
      refine m_if_ne (tgt := 96) dX4_product_89 (by decide) (fun c1 => ?_) (fun c1 => ?_)
      · simp only [if_neg c1] at hJ
        refine m_iconst (v := 1) dX4_product_96 (by decide) ?_
        refine m_goto (tgt := 101) dX4_product_97 (by decide) ?_
        exact hJ
      · simp only [if_pos c1] at hJ
        refine m_iload_n dX4_product_92 rfl 4 rfl ?_
        refine m_if_eq (tgt := 100) dX4_product_93 (by decide) (fun c2 => ?_) (fun c2 => ?_)
        · simp only [if_pos c2] at hJ
          refine m_iconst (v := 0) dX4_product_100 (by decide) ?_
          exact hJ
        · simp only [if_neg c2] at hJ
          refine m_iconst (v := 1) dX4_product_96 (by decide) ?_
          refine m_goto (tgt := 101) dX4_product_97 (by decide) ?_
          exact hJ
  · rw [if_pos c1] at h
    refine m_iload_n dX4_product_71 rfl 5 rfl ?_
    refine m_iload dX4_product_72 0 rfl ?_
    refine m_imul dX4_product_74 ?_
    obtain ⟨xv7, e_xv7⟩ : ∃ xv7 : Int32, xv7 = (x3 * v6) := ⟨_, rfl⟩
    have h := h xv7 e_xv7
    rw [← e_xv7]
    refine m_istore_n (lv' := [(3, .int xv7), (6, .int v6), (5, .int xv2), (0, .ref a0), (1, .int x1), (2, .int x2), (4, .int x4)]) dX4_product_75 rfl (by decide) rfl ?_
    refine m_goto (tgt := 128) dX4_product_76 (by decide) ?_
    refine m_iinc (v := x4 + 1) (lv' := [(4, .int (x4 + 1)), (3, .int xv7), (6, .int v6), (5, .int xv2), (0, .ref a0), (1, .int x1), (2, .int x2)]) dX4_product_128 6 rfl rfl (by decide) rfl ?_
    refine m_goto (tgt := 10) dX4_product_131 (by decide) ?_
    exact m_sub [4, 5, 6, 1, 0] rfl h
set_option maxHeartbeats 4000000 in
set_option maxRecDepth 100000 in
theorem h4_product_127 {d : Nat} {Th : mT} {Q : Int32 → mM → Prop} {a0 : Nat} {x1 : Int32} {x2 : Int32} {x4 : Int32} {s0 : Int32} {M : mM} (h : H4_product_10 (d + 1) Th Q a0 x1 x2 s0 (x4 + 1) M) : H4_product_127 (d + 1) Th Q a0 x1 x2 x4 s0 M := by
  show m_W (d + 1) 0 0 yX4_product cX4_product 7 (some .int) (m_qi Th Q) 127 [(0, .ref a0), (1, .int x1), (2, .int x2), (4, .int x4)] [.int s0] Th M 0 0
  refine m_istore_n (lv' := [(3, .int s0), (0, .ref a0), (1, .int x1), (2, .int x2), (4, .int x4)]) dX4_product_127 rfl (by decide) rfl ?_
  refine m_iinc (v := x4 + 1) (lv' := [(4, .int (x4 + 1)), (3, .int s0), (0, .ref a0), (1, .int x1), (2, .int x2)]) dX4_product_128 4 rfl rfl (by decide) rfl ?_
  refine m_goto (tgt := 10) dX4_product_131 (by decide) ?_
  exact m_sub [2, 3, 4, 1, 0] rfl h
set_option maxHeartbeats 4000000 in
set_option maxRecDepth 100000 in
theorem e4_product {d : Nat} {Th : mT} {Q : Int32 → mM → Prop} {a0 : Nat} {x1 : Int32} {x2 : Int32} {M : mM} (h : Th.2.2 a0 = some (.inl 4) ∧ (P4_factor d Th a0 x1 x2 M (fun (v2 : Int32) (M1 : mM) => H4_product_10 (d + 1) Th Q a0 x1 x2 v2 0 M1))) : P4_product (d + 1) Th a0 x1 x2 M Q := by
  refine m_C.of (by decide +kernel) (Nat.le_of_ble_eq_true rfl) ?_
  show m_W (d + 1) 0 0 yX4_product cX4_product 7 (some .int) (m_qi Th Q) 0 [(0, .ref a0), (1, .int x1), (2, .int x2)] [] Th M 0 0
  refine m_aload_n dX4_product_0 rfl 0 rfl ?_
  refine m_iload_n dX4_product_1 rfl 1 rfl ?_
  refine m_iload_n dX4_product_2 rfl 2 rfl ?_
  obtain ⟨q3, h⟩ := h
  refine m_invV (ci := 4) (As := [.int x1, .int x2]) (d' := d) (mc' := 0) (ms' := 0) (rest := []) i_4_factor v_4_factor t_4_factor l_X4_102 ⟨_, _, rfl⟩ dX4_product_3 rfl rfl q3 (Nat.le_of_ble_eq_true rfl) (Nat.le_refl _) ⟨Nat.le_refl _, Nat.le_refl _⟩ (m_Ci h (fun v2 M1 h => ?_))
  show m_W (d + 1) 0 0 yX4_product cX4_product 7 (some .int) (m_qi Th Q) 6 [(0, .ref a0), (1, .int x1), (2, .int x2)] [.int v2] Th M1 0 0
  refine m_istore_n (lv' := [(3, .int v2), (0, .ref a0), (1, .int x1), (2, .int x2)]) dX4_product_6 rfl (by decide) rfl ?_
  refine m_iconst (v := 0) dX4_product_7 (by decide) ?_
  refine m_istore (lv' := [(4, .int 0), (3, .int v2), (0, .ref a0), (1, .int x1), (2, .int x2)]) dX4_product_8 (by decide) rfl ?_
  exact m_sub [2, 3, 4, 1, 0] rfl h
set_option maxHeartbeats 4000000 in
set_option maxRecDepth 100000 in
theorem h4_factor_23 {d : Nat} {Th : mT} {Q : Int32 → mM → Prop} {a0 : Nat} {x3 : Int32} {x4 : Int32} {M : mM} (h : if 5 ≤ x4 then (H4_factor_71 (d + 1) Th Q a0 x3 M) else (Th.2.2 a0 = some (.inl 4) ∧ (if ((M).1 a0 8) < 48 then (H4_factor_71 (d + 1) Th Q a0 x3 M) else (if 57 < ((M).1 a0 8) then (H4_factor_71 (d + 1) Th Q a0 x3 M) else (∀ xv2 : Int32, xv2 = (((10 * x3) + ((M).1 a0 8)) - 48) → P4_pass d Th a0 1 M (fun M3 : mM => H4_factor_23 (d + 1) Th Q a0 xv2 (x4 + 1) M3)))))) : H4_factor_23 (d + 1) Th Q a0 x3 x4 M := by
  show m_W (d + 1) 0 0 yX4_factor cX4_factor 5 (some .int) (m_qi Th Q) 23 [(0, .ref a0), (3, .int x3), (4, .int x4)] [] Th M 0 0
  refine m_iload dX4_factor_23 2 rfl ?_
  refine m_iconst (v := 5) dX4_factor_25 (by decide) ?_
  refine m_icmp_ge (tgt := 71) dX4_factor_26 (by decide) (fun c1 => ?_) (fun c1 => ?_)
  · rw [if_pos c1] at h
    exact m_sub [0, 1] rfl h
  · rw [if_neg c1] at h
    refine m_aload_n dX4_factor_29 rfl 0 rfl ?_
    obtain ⟨q1, h⟩ := h
    refine m_geti f_X4_64 rfl dX4_factor_30 q1 ?_
    refine m_bipush (v := 48) dX4_factor_33 (by decide) ?_
    refine m_icmp_lt (tgt := 71) dX4_factor_35 (by decide) (fun c1 => ?_) (fun c1 => ?_)
    · rw [if_pos c1] at h
      exact m_sub [0, 1] rfl h
    · rw [if_neg c1] at h
      refine m_aload_n dX4_factor_38 rfl 0 rfl ?_
      refine m_geti f_X4_64 rfl dX4_factor_39 q1 ?_
      refine m_bipush (v := 57) dX4_factor_42 (by decide) ?_
      refine m_icmp_gt (tgt := 71) dX4_factor_44 (by decide) (fun c1 => ?_) (fun c1 => ?_)
      · rw [if_pos c1] at h
        exact m_sub [0, 1] rfl h
      · rw [if_neg c1] at h
        refine m_bipush (v := 10) dX4_factor_47 (by decide) ?_
        refine m_iload_n dX4_factor_49 rfl 1 rfl ?_
        refine m_imul dX4_factor_50 ?_
        refine m_aload_n dX4_factor_51 rfl 0 rfl ?_
        refine m_geti f_X4_64 rfl dX4_factor_52 q1 ?_
        refine m_iadd dX4_factor_55 ?_
        refine m_bipush (v := 48) dX4_factor_56 (by decide) ?_
        refine m_isub dX4_factor_58 ?_
        obtain ⟨xv2, e_xv2⟩ : ∃ xv2 : Int32, xv2 = (((10 * x3) + ((M).1 a0 8)) - 48) := ⟨_, rfl⟩
        have h := h xv2 e_xv2
        rw [← e_xv2]
        refine m_istore_n (lv' := [(3, .int xv2), (0, .ref a0), (4, .int x4)]) dX4_factor_59 rfl (by decide) rfl ?_
        refine m_aload_n dX4_factor_60 rfl 1 rfl ?_
        refine m_iconst (v := 1) dX4_factor_61 (by decide) ?_
        refine m_invV (ci := 4) (As := [.int 1]) (d' := d) (mc' := 0) (ms' := 0) (rest := []) i_4_pass v_4_pass t_4_pass l_X4_67 ⟨_, _, rfl⟩ dX4_factor_62 rfl rfl q1 (Nat.le_of_ble_eq_true rfl) (Nat.le_refl _) ⟨Nat.le_refl _, Nat.le_refl _⟩ (m_Cv h (fun M3 h => ?_))
        show m_W (d + 1) 0 0 yX4_factor cX4_factor 5 (some .int) (m_qi Th Q) 65 [(3, .int xv2), (0, .ref a0), (4, .int x4)] [] Th M3 0 0
        refine m_iinc (v := x4 + 1) (lv' := [(4, .int (x4 + 1)), (3, .int xv2), (0, .ref a0)]) dX4_factor_65 2 rfl rfl (by decide) rfl ?_
        refine m_goto (tgt := 23) dX4_factor_68 (by decide) ?_
        exact m_sub [2, 1, 0] rfl h
set_option maxHeartbeats 4000000 in
set_option maxRecDepth 100000 in
theorem h4_factor_71 {d : Nat} {Th : mT} {Q : Int32 → mM → Prop} {a0 : Nat} {x3 : Int32} {M : mM} (h : Th.2.2 a0 = some (.inl 4) ∧ (if ((M).1 a0 8) < 48 then (Q x3 M) else (if 57 < ((M).1 a0 8) then (Q x3 M) else (P4_blame d Th a0 2 M (fun M2 : mM => Q x3 M2))))) : H4_factor_71 (d + 1) Th Q a0 x3 M := by
  show m_W (d + 1) 0 0 yX4_factor cX4_factor 5 (some .int) (m_qi Th Q) 71 [(0, .ref a0), (3, .int x3)] [] Th M 0 0
  refine m_aload_n dX4_factor_71 rfl 0 rfl ?_
  obtain ⟨q1, h⟩ := h
  refine m_geti f_X4_64 rfl dX4_factor_72 q1 ?_
  refine m_bipush (v := 48) dX4_factor_75 (by decide) ?_
  refine m_icmp_lt (tgt := 94) dX4_factor_77 (by decide) (fun c1 => ?_) (fun c1 => ?_)
  · rw [if_pos c1] at h
    refine m_iload_n dX4_factor_94 rfl 1 rfl ?_
    exact m_ireturn dX4_factor_95 rfl rfl ⟨rfl, _, rfl, h⟩
  · rw [if_neg c1] at h
    refine m_aload_n dX4_factor_80 rfl 0 rfl ?_
    refine m_geti f_X4_64 rfl dX4_factor_81 q1 ?_
    refine m_bipush (v := 57) dX4_factor_84 (by decide) ?_
    refine m_icmp_gt (tgt := 94) dX4_factor_86 (by decide) (fun c1 => ?_) (fun c1 => ?_)
    · rw [if_pos c1] at h
      refine m_iload_n dX4_factor_94 rfl 1 rfl ?_
      exact m_ireturn dX4_factor_95 rfl rfl ⟨rfl, _, rfl, h⟩
    · rw [if_neg c1] at h
      refine m_aload_n dX4_factor_89 rfl 0 rfl ?_
      refine m_iconst (v := 2) dX4_factor_90 (by decide) ?_
      refine m_invV (ci := 4) (As := [.int 2]) (d' := d) (mc' := 0) (ms' := 0) (rest := []) i_4_blame v_4_blame t_4_blame l_X4_90 ⟨_, _, rfl⟩ dX4_factor_91 rfl rfl q1 (Nat.le_of_ble_eq_true rfl) (Nat.le_refl _) ⟨Nat.le_refl _, Nat.le_refl _⟩ (m_Cv h (fun M2 h => ?_))
      show m_W (d + 1) 0 0 yX4_factor cX4_factor 5 (some .int) (m_qi Th Q) 94 [(0, .ref a0), (3, .int x3)] [] Th M2 0 0
      refine m_iload_n dX4_factor_94 rfl 1 rfl ?_
      exact m_ireturn dX4_factor_95 rfl rfl ⟨rfl, _, rfl, h⟩
set_option maxHeartbeats 4000000 in
set_option maxRecDepth 100000 in
theorem h4_factor_96 {d : Nat} {Th : mT} {Q : Int32 → mM → Prop} {a0 : Nat} {x1 : Int32} {x2 : Int32} {M : mM} (h : Th.2.2 a0 = some (.inl 4) ∧ (if ((M).1 a0 8) = 91 then (if x1 < 6 then (H4_factor_118 (d + 1) Th Q a0 x1 x2 M) else (P4_blame d Th a0 5 M (fun M2 : mM => Q 0 M2))) else (H4_factor_118 (d + 1) Th Q a0 x1 x2 M))) : H4_factor_96 (d + 1) Th Q a0 x1 x2 M := by
  show m_W (d + 1) 0 0 yX4_factor cX4_factor 5 (some .int) (m_qi Th Q) 96 [(0, .ref a0), (1, .int x1), (2, .int x2)] [] Th M 0 0
  refine m_aload_n dX4_factor_96 rfl 0 rfl ?_
  obtain ⟨q1, h⟩ := h
  refine m_geti f_X4_64 rfl dX4_factor_97 q1 ?_
  refine m_bipush (v := 91) dX4_factor_100 (by decide) ?_
  refine m_icmp_ne (tgt := 118) dX4_factor_102 (by decide) (fun c1 => ?_) (fun c1 => ?_)
  · rw [if_neg c1] at h
    exact h
  · rw [if_pos c1] at h
    refine m_iload_n dX4_factor_105 rfl 1 rfl ?_
    refine m_bipush (v := 6) dX4_factor_106 (by decide) ?_
    refine m_icmp_lt (tgt := 118) dX4_factor_108 (by decide) (fun c1 => ?_) (fun c1 => ?_)
    · rw [if_pos c1] at h
      exact h
    · rw [if_neg c1] at h
      refine m_aload_n dX4_factor_111 rfl 0 rfl ?_
      refine m_iconst (v := 5) dX4_factor_112 (by decide) ?_
      refine m_invV (ci := 4) (As := [.int 5]) (d' := d) (mc' := 0) (ms' := 0) (rest := []) i_4_blame v_4_blame t_4_blame l_X4_90 ⟨_, _, rfl⟩ dX4_factor_113 rfl rfl q1 (Nat.le_of_ble_eq_true rfl) (Nat.le_refl _) ⟨Nat.le_refl _, Nat.le_refl _⟩ (m_Cv h (fun M2 h => ?_))
      show m_W (d + 1) 0 0 yX4_factor cX4_factor 5 (some .int) (m_qi Th Q) 116 [(0, .ref a0), (1, .int x1), (2, .int x2)] [] Th M2 0 0
      refine m_iconst (v := 0) dX4_factor_116 (by decide) ?_
      exact m_ireturn dX4_factor_117 rfl rfl ⟨rfl, _, rfl, h⟩
set_option maxHeartbeats 4000000 in
set_option maxRecDepth 100000 in
theorem h4_factor_118 {d : Nat} {Th : mT} {Q : Int32 → mM → Prop} {a0 : Nat} {x1 : Int32} {x2 : Int32} {M : mM} (h : Th.2.2 a0 = some (.inl 4) ∧ (if ((M).1 a0 8) = 91 then (P4_pass d Th a0 1 M (fun M2 : mM => P4_sum d Th a0 ((x1 + 1)) x2 M2 (fun (v5 : Int32) (M4 : mM) => P4_pass d Th a0 ((if ((M4).1 a0 8) = 93 then 1 else 0)) M4 (fun M6 : mM => Q v5 M6)))) else (H4_factor_166 (d + 1) Th Q a0 (-1) 0 M))) : H4_factor_118 (d + 1) Th Q a0 x1 x2 M := by
  show m_W (d + 1) 0 0 yX4_factor cX4_factor 5 (some .int) (m_qi Th Q) 118 [(0, .ref a0), (1, .int x1), (2, .int x2)] [] Th M 0 0
  refine m_aload_n dX4_factor_118 rfl 0 rfl ?_
  obtain ⟨q1, h⟩ := h
  refine m_geti f_X4_64 rfl dX4_factor_119 q1 ?_
  refine m_bipush (v := 91) dX4_factor_122 (by decide) ?_
  refine m_icmp_ne (tgt := 161) dX4_factor_124 (by decide) (fun c1 => ?_) (fun c1 => ?_)
  · rw [if_neg c1] at h
    refine m_iconst (v := (-1)) dX4_factor_161 (by decide) ?_
    refine m_istore_n (lv' := [(3, .int (-1)), (0, .ref a0), (1, .int x1), (2, .int x2)]) dX4_factor_162 rfl (by decide) rfl ?_
    refine m_iconst (v := 0) dX4_factor_163 (by decide) ?_
    refine m_istore (lv' := [(4, .int 0), (3, .int (-1)), (0, .ref a0), (1, .int x1), (2, .int x2)]) dX4_factor_164 (by decide) rfl ?_
    exact m_sub [2, 1, 0] rfl h
  · rw [if_pos c1] at h
    refine m_aload_n dX4_factor_127 rfl 0 rfl ?_
    refine m_iconst (v := 1) dX4_factor_128 (by decide) ?_
    refine m_invV (ci := 4) (As := [.int 1]) (d' := d) (mc' := 0) (ms' := 0) (rest := []) i_4_pass v_4_pass t_4_pass l_X4_67 ⟨_, _, rfl⟩ dX4_factor_129 rfl rfl q1 (Nat.le_of_ble_eq_true rfl) (Nat.le_refl _) ⟨Nat.le_refl _, Nat.le_refl _⟩ (m_Cv h (fun M2 h => ?_))
    show m_W (d + 1) 0 0 yX4_factor cX4_factor 5 (some .int) (m_qi Th Q) 132 [(0, .ref a0), (1, .int x1), (2, .int x2)] [] Th M2 0 0
    refine m_aload_n dX4_factor_132 rfl 0 rfl ?_
    refine m_iload_n dX4_factor_133 rfl 1 rfl ?_
    refine m_iconst (v := 1) dX4_factor_134 (by decide) ?_
    refine m_iadd dX4_factor_135 ?_
    refine m_iload_n dX4_factor_136 rfl 2 rfl ?_
    refine m_invV (ci := 4) (As := [.int ((x1 + 1)), .int x2]) (d' := d) (mc' := 0) (ms' := 0) (rest := []) i_4_sum v_4_sum t_4_sum l_X4_75 ⟨_, _, rfl⟩ dX4_factor_137 rfl rfl q1 (Nat.le_of_ble_eq_true rfl) (Nat.le_refl _) ⟨Nat.le_refl _, Nat.le_refl _⟩ (m_Ci h (fun v5 M4 h => ?_))
    show m_W (d + 1) 0 0 yX4_factor cX4_factor 5 (some .int) (m_qi Th Q) 140 [(0, .ref a0), (1, .int x1), (2, .int x2)] [.int v5] Th M4 0 0
    refine m_istore_n (lv' := [(3, .int v5), (0, .ref a0), (1, .int x1), (2, .int x2)]) dX4_factor_140 rfl (by decide) rfl ?_
    refine m_aload_n dX4_factor_141 rfl 1 rfl ?_
    refine m_aload_n dX4_factor_142 rfl 1 rfl ?_
    refine m_geti f_X4_64 rfl dX4_factor_143 q1 ?_
    refine m_bipush (v := 93) dX4_factor_146 (by decide) ?_
    have hJ : m_W (d + 1) 0 0 yX4_factor cX4_factor 5 (some .int) (m_qi Th Q) 156 [(3, .int v5), (0, .ref a0), (1, .int x1), (2, .int x2)] [.int ((if ((M4).1 a0 8) = 93 then 1 else 0)), .ref a0] Th M4 0 0 := by
      refine m_invV (ci := 4) (As := [.int ((if ((M4).1 a0 8) = 93 then 1 else 0))]) (d' := d) (mc' := 0) (ms' := 0) (rest := []) i_4_pass v_4_pass t_4_pass l_X4_67 ⟨_, _, rfl⟩ dX4_factor_156 rfl rfl q1 (Nat.le_of_ble_eq_true rfl) (Nat.le_refl _) ⟨Nat.le_refl _, Nat.le_refl _⟩ (m_Cv h (fun M6 h => ?_))
      show m_W (d + 1) 0 0 yX4_factor cX4_factor 5 (some .int) (m_qi Th Q) 159 [(3, .int v5), (0, .ref a0), (1, .int x1), (2, .int x2)] [] Th M6 0 0
      refine m_iload_n dX4_factor_159 rfl 0 rfl ?_
      exact m_ireturn dX4_factor_160 rfl rfl ⟨rfl, _, rfl, h⟩
    refine m_icmp_ne (tgt := 155) dX4_factor_148 (by decide) (fun c1 => ?_) (fun c1 => ?_)
    · simp only [if_neg c1] at hJ
      refine m_iconst (v := 0) dX4_factor_155 (by decide) ?_
      exact hJ
    · simp only [if_pos c1] at hJ
      refine m_iconst (v := 1) dX4_factor_151 (by decide) ?_
      refine m_goto (tgt := 156) dX4_factor_152 (by decide) ?_
      exact hJ
set_option maxHeartbeats 4000000 in
set_option maxRecDepth 100000 in
theorem h4_factor_166 {d : Nat} {Th : mT} {Q : Int32 → mM → Prop} {a0 : Nat} {x3 : Int32} {x4 : Int32} {M : mM} (h : ∃ (ty : FieldType) (fz : Bool) (n1 : Nat), Th.2.2 Th.2.1 = some (.inr (ty, fz, n1)) ∧ (if (nI n1) ≤ x4 then (Th.2.2 a0 = some (.inl 4) ∧ (P4_pass d Th a0 ((if x3 = (-1) then 0 else 1)) M (fun M3 : mM => if x3 < 0 then (Q 0 M3) else (∃ r6 : Nat, M3.2.2 a0 0 = some r6 ∧ (∃ (ty : FieldType) (fz : Bool) (n8 : Nat), Th.2.2 r6 = some (.inr (ty, fz, n8)) ∧ (if (nI n8) ≤ x3 then (Q 0 M3) else (m_ok Th r6 .int x3 ∧ (Q (((M3).1 r6 (Int32.toNatClampNeg x3))) M3)))))))) else (m_ok Th Th.2.1 .char x4 ∧ (Th.2.2 a0 = some (.inl 4) ∧ (∀ xv13 : Int32, xv13 = (if ((M).1 Th.2.1 (Int32.toNatClampNeg x4)) = ((M).1 a0 8) then x4 else x3) → H4_factor_166 (d + 1) Th Q a0 xv13 (x4 + 1) M))))) : H4_factor_166 (d + 1) Th Q a0 x3 x4 M := by
  show m_W (d + 1) 0 0 yX4_factor cX4_factor 5 (some .int) (m_qi Th Q) 166 [(0, .ref a0), (3, .int x3), (4, .int x4)] [] Th M 0 0
  refine m_iload dX4_factor_166 2 rfl ?_
  refine m_gets f_X4_9 dX4_factor_168 ?_
  obtain ⟨_, _, n1, q2, h⟩ := h
  refine m_alen dX4_factor_171 q2 ?_
  refine m_icmp_ge (tgt := 201) dX4_factor_172 (by decide) (fun c1 => ?_) (fun c1 => ?_)
  · rw [if_pos c1] at h
    refine m_aload_n dX4_factor_201 rfl 0 rfl ?_
    refine m_iload_n dX4_factor_202 rfl 1 rfl ?_
    refine m_iconst (v := (-1)) dX4_factor_203 (by decide) ?_
    have hJ : m_W (d + 1) 0 0 yX4_factor cX4_factor 5 (some .int) (m_qi Th Q) 212 [(0, .ref a0), (3, .int x3), (4, .int x4)] [.int ((if x3 = (-1) then 0 else 1)), .ref a0] Th M 0 0 := by
      obtain ⟨q5, h⟩ := h
      refine m_invV (ci := 4) (As := [.int ((if x3 = (-1) then 0 else 1))]) (d' := d) (mc' := 0) (ms' := 0) (rest := []) i_4_pass v_4_pass t_4_pass l_X4_67 ⟨_, _, rfl⟩ dX4_factor_212 rfl rfl q5 (Nat.le_of_ble_eq_true rfl) (Nat.le_refl _) ⟨Nat.le_refl _, Nat.le_refl _⟩ (m_Cv h (fun M3 h => ?_))
      show m_W (d + 1) 0 0 yX4_factor cX4_factor 5 (some .int) (m_qi Th Q) 215 [(0, .ref a0), (3, .int x3), (4, .int x4)] [] Th M3 0 0
      refine m_iload_n dX4_factor_215 rfl 1 rfl ?_
      refine m_if_lt (tgt := 237) dX4_factor_216 (by decide) (fun c1 => ?_) (fun c1 => ?_)
      · rw [if_pos c1] at h
        refine m_iconst (v := 0) dX4_factor_237 (by decide) ?_
        exact m_ireturn dX4_factor_238 rfl rfl ⟨rfl, _, rfl, h⟩
      · rw [if_neg c1] at h
        refine m_iload_n dX4_factor_219 rfl 1 rfl ?_
        refine m_aload_n dX4_factor_220 rfl 0 rfl ?_
        obtain ⟨r6, q7, h⟩ := h
        refine m_getr f_X4_15 rfl dX4_factor_221 q5 q7 ?_
        obtain ⟨_, _, n8, q9, h⟩ := h
        refine m_alen dX4_factor_224 q9 ?_
        refine m_icmp_ge (tgt := 237) dX4_factor_225 (by decide) (fun c1 => ?_) (fun c1 => ?_)
        · rw [if_pos c1] at h
          refine m_iconst (v := 0) dX4_factor_237 (by decide) ?_
          exact m_ireturn dX4_factor_238 rfl rfl ⟨rfl, _, rfl, h⟩
        · rw [if_neg c1] at h
          refine m_aload_n dX4_factor_228 rfl 0 rfl ?_
          refine m_getr f_X4_15 rfl dX4_factor_229 q5 q7 ?_
          refine m_iload_n dX4_factor_232 rfl 1 rfl ?_
          obtain ⟨q10, h⟩ := h
          refine m_iald dX4_factor_233 q10 ?_
          refine m_goto (tgt := 238) dX4_factor_234 (by decide) ?_
          exact m_ireturn dX4_factor_238 rfl rfl ⟨rfl, _, rfl, h⟩
    refine m_icmp_eq (tgt := 211) dX4_factor_204 (by decide) (fun c1 => ?_) (fun c1 => ?_)
    · simp only [if_pos c1] at hJ
      refine m_iconst (v := 0) dX4_factor_211 (by decide) ?_
      exact hJ
    · simp only [if_neg c1] at hJ
      refine m_iconst (v := 1) dX4_factor_207 (by decide) ?_
      refine m_goto (tgt := 212) dX4_factor_208 (by decide) ?_
      exact hJ
  · rw [if_neg c1] at h
    refine m_gets f_X4_9 dX4_factor_175 ?_
    refine m_iload dX4_factor_178 2 rfl ?_
    obtain ⟨q11, h⟩ := h
    refine m_cald dX4_factor_180 q11 ?_
    refine m_aload_n dX4_factor_181 rfl 0 rfl ?_
    obtain ⟨q12, h⟩ := h
    refine m_geti f_X4_64 rfl dX4_factor_182 q12 ?_
    have hJ : m_W (d + 1) 0 0 yX4_factor cX4_factor 5 (some .int) (m_qi Th Q) 194 [(0, .ref a0), (3, .int x3), (4, .int x4)] [.int ((if ((M).1 Th.2.1 (Int32.toNatClampNeg x4)) = ((M).1 a0 8) then x4 else x3))] Th M 0 0 := by
      obtain ⟨xv13, e_xv13⟩ : ∃ xv13 : Int32, xv13 = (if ((M).1 Th.2.1 (Int32.toNatClampNeg x4)) = ((M).1 a0 8) then x4 else x3) := ⟨_, rfl⟩
      have h := h xv13 e_xv13
      rw [← e_xv13]
      refine m_istore_n (lv' := [(3, .int xv13), (0, .ref a0), (4, .int x4)]) dX4_factor_194 rfl (by decide) rfl ?_
      refine m_iinc (v := x4 + 1) (lv' := [(4, .int (x4 + 1)), (3, .int xv13), (0, .ref a0)]) dX4_factor_195 2 rfl rfl (by decide) rfl ?_
      refine m_goto (tgt := 166) dX4_factor_198 (by decide) ?_
      exact m_sub [2, 1, 0] rfl h
    refine m_icmp_ne (tgt := 193) dX4_factor_185 (by decide) (fun c1 => ?_) (fun c1 => ?_)
    · simp only [if_neg c1] at hJ
      refine m_iload_n dX4_factor_193 rfl 1 rfl ?_
      exact hJ
    · simp only [if_pos c1] at hJ
      refine m_iload dX4_factor_188 2 rfl ?_
      refine m_goto (tgt := 194) dX4_factor_190 (by decide) ?_
      exact hJ
set_option maxHeartbeats 4000000 in
set_option maxRecDepth 100000 in
theorem e4_factor {d : Nat} {Th : mT} {Q : Int32 → mM → Prop} {a0 : Nat} {x1 : Int32} {x2 : Int32} {M : mM} (h : Th.2.2 a0 = some (.inl 4) ∧ (if ((M).1 a0 8) < 48 then (H4_factor_96 (d + 1) Th Q a0 x1 x2 M) else (if 57 < ((M).1 a0 8) then (H4_factor_96 (d + 1) Th Q a0 x1 x2 M) else (H4_factor_23 (d + 1) Th Q a0 0 0 M)))) : P4_factor (d + 1) Th a0 x1 x2 M Q := by
  refine m_C.of (by decide +kernel) (Nat.le_of_ble_eq_true rfl) ?_
  show m_W (d + 1) 0 0 yX4_factor cX4_factor 5 (some .int) (m_qi Th Q) 0 [(0, .ref a0), (1, .int x1), (2, .int x2)] [] Th M 0 0
  refine m_aload_n dX4_factor_0 rfl 0 rfl ?_
  obtain ⟨q1, h⟩ := h
  refine m_geti f_X4_64 rfl dX4_factor_1 q1 ?_
  refine m_bipush (v := 48) dX4_factor_4 (by decide) ?_
  refine m_icmp_lt (tgt := 96) dX4_factor_6 (by decide) (fun c1 => ?_) (fun c1 => ?_)
  · rw [if_pos c1] at h
    exact h
  · rw [if_neg c1] at h
    refine m_aload_n dX4_factor_9 rfl 0 rfl ?_
    refine m_geti f_X4_64 rfl dX4_factor_10 q1 ?_
    refine m_bipush (v := 57) dX4_factor_13 (by decide) ?_
    refine m_icmp_gt (tgt := 96) dX4_factor_15 (by decide) (fun c1 => ?_) (fun c1 => ?_)
    · rw [if_pos c1] at h
      exact h
    · rw [if_neg c1] at h
      refine m_iconst (v := 0) dX4_factor_18 (by decide) ?_
      refine m_istore_n (lv' := [(3, .int 0), (0, .ref a0), (1, .int x1), (2, .int x2)]) dX4_factor_19 rfl (by decide) rfl ?_
      refine m_iconst (v := 0) dX4_factor_20 (by decide) ?_
      refine m_istore (lv' := [(4, .int 0), (3, .int 0), (0, .ref a0), (1, .int x1), (2, .int x2)]) dX4_factor_21 (by decide) rfl ?_
      exact m_sub [2, 1, 0] rfl h
