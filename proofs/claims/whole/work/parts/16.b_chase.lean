set_option maxHeartbeats 4000000 in
set_option maxRecDepth 100000 in
theorem h0_reckon_32 {d : Nat} {Th : mT} {Q : Int64 → mM → Prop} {a0 : Nat} {a1 : Nat} {a2 : Nat} {a3 : Nat} {x5 : Int32} {x6 : Int32} {x7 : Int32} {M : mM} (h : Th.2.2 a3 = some (.inl 7) ∧ (if ((M).1 a3 4) ≤ (x7 + 1) then (Th.2.2 a0 = some (.inl 0) ∧ (P0_toBox d Th a0 a1 a2 a3 x6 x5 M (fun (v3 : Int64) (M2 : mM) => Q v3 M2))) else (Th.2.2 a0 = some (.inl 0) ∧ (P0_goOn d Th a0 x7 a1 a2 a3 x6 M (fun M5 : mM => H0_reckon_32 (d + 1) Th Q a0 a1 a2 a3 x5 x6 (x7 + 1) M5))))) : H0_reckon_32 (d + 1) Th Q a0 a1 a2 a3 x5 x6 x7 M := by
  show m_W (d + 1) 0 0 yX0_reckon cX0_reckon 8 (some .long) (m_ql Th Q) 32 [(0, .ref a0), (1, .ref a1), (2, .ref a2), (3, .ref a3), (5, .int x5), (6, .int x6), (7, .int x7)] [] Th M 0 0
  refine m_iload dX0_reckon_32 6 rfl ?_
  refine m_iconst (v := 1) dX0_reckon_34 (by decide) ?_
  refine m_iadd dX0_reckon_35 ?_
  refine m_aload_n dX0_reckon_36 rfl 3 rfl ?_
  obtain ⟨q1, h⟩ := h
  refine m_geti f_X0_32 rfl dX0_reckon_37 q1 ?_
  refine m_icmp_ge (tgt := 60) dX0_reckon_40 (by decide) (fun c1 => ?_) (fun c1 => ?_)
  · rw [if_pos c1] at h
    refine m_aload_n dX0_reckon_60 rfl 0 rfl ?_
    refine m_aload_n dX0_reckon_61 rfl 1 rfl ?_
    refine m_aload_n dX0_reckon_62 rfl 2 rfl ?_
    refine m_aload_n dX0_reckon_63 rfl 3 rfl ?_
    refine m_iload dX0_reckon_64 5 rfl ?_
    refine m_iload dX0_reckon_66 4 rfl ?_
    obtain ⟨q4, h⟩ := h
    refine m_invV (ci := 0) (As := [.ref a1, .ref a2, .ref a3, .int x6, .int x5]) (d' := d) (mc' := 0) (ms' := 0) (rest := []) i_0_toBox v_0_toBox t_0_toBox l_X0_42 ⟨_, _, rfl⟩ dX0_reckon_68 rfl rfl q4 (Nat.le_of_ble_eq_true rfl) (Nat.le_refl _) ⟨Nat.le_refl _, Nat.le_refl _⟩ (m_Cl h (fun v3 M2 h => ?_))
    show m_W (d + 1) 0 0 yX0_reckon cX0_reckon 8 (some .long) (m_ql Th Q) 71 [(0, .ref a0), (1, .ref a1), (2, .ref a2), (3, .ref a3), (5, .int x5), (6, .int x6), (7, .int x7)] [.long v3] Th M2 0 0
    exact m_lreturn dX0_reckon_71 rfl ⟨rfl, _, rfl, h⟩
  · rw [if_neg c1] at h
    refine m_aload_n dX0_reckon_43 rfl 0 rfl ?_
    refine m_iload dX0_reckon_44 6 rfl ?_
    refine m_aload_n dX0_reckon_46 rfl 1 rfl ?_
    refine m_aload_n dX0_reckon_47 rfl 2 rfl ?_
    refine m_aload_n dX0_reckon_48 rfl 3 rfl ?_
    refine m_iload dX0_reckon_49 5 rfl ?_
    obtain ⟨q7, h⟩ := h
    refine m_invV (ci := 0) (As := [.int x7, .ref a1, .ref a2, .ref a3, .int x6]) (d' := d) (mc' := 0) (ms' := 0) (rest := []) i_0_goOn v_0_goOn t_0_goOn l_X0_38 ⟨_, _, rfl⟩ dX0_reckon_51 rfl rfl q7 (Nat.le_of_ble_eq_true rfl) (Nat.le_refl _) ⟨Nat.le_refl _, Nat.le_refl _⟩ (m_Cv h (fun M5 h => ?_))
    show m_W (d + 1) 0 0 yX0_reckon cX0_reckon 8 (some .long) (m_ql Th Q) 54 [(0, .ref a0), (1, .ref a1), (2, .ref a2), (3, .ref a3), (5, .int x5), (6, .int x6), (7, .int x7)] [] Th M5 0 0
    refine m_iinc (v := x7 + 1) (lv' := [(7, .int (x7 + 1)), (0, .ref a0), (1, .ref a1), (2, .ref a2), (3, .ref a3), (5, .int x5), (6, .int x6)]) dX0_reckon_54 6 rfl rfl (by decide) rfl ?_
    refine m_goto (tgt := 32) dX0_reckon_57 (by decide) ?_
    exact m_sub [1, 2, 3, 4, 5, 6, 0] rfl h
set_option maxHeartbeats 4000000 in
set_option maxRecDepth 100000 in
theorem e0_reckon {d : Nat} {Th : mT} {Q : Int64 → mM → Prop} {a0 : Nat} {a1 : Nat} {a2 : Nat} {a3 : Nat} {x4 : Int32} {x5 : Int32} {M : mM} (h : ∀ xv1 : Int32, xv1 = (if 0 < (if x4 < 10 then x4 else 10) then (if x4 < 10 then x4 else 10) else 0) → Th.2.2 a0 = some (.inl 0) ∧ (∃ r3 : Nat, M.2.2 a0 0 = some r3 ∧ (P0_wipe d Th r3 M (fun M5 : mM => ∃ r7 : Nat, M5.2.2 a0 0 = some r7 ∧ (m_ok Th r7 (.array .long) 0 ∧ (∃ r10 : Nat, M5.2.2 r7 (Int32.toNatClampNeg 0) = some r10 ∧ (m_okw Th r10 .long 0 ∧ (H0_reckon_32 (d + 1) Th Q a0 a1 a2 a3 x5 xv1 0 (m_ul M5 r10 (Int32.toNatClampNeg 0) 1))))))))) : P0_reckon (d + 1) Th a0 a1 a2 a3 x4 x5 M Q := by
  refine m_C.of (by decide +kernel) (Nat.le_of_ble_eq_true rfl) ?_
  show m_W (d + 1) 0 0 yX0_reckon cX0_reckon 8 (some .long) (m_ql Th Q) 0 [(0, .ref a0), (1, .ref a1), (2, .ref a2), (3, .ref a3), (4, .int x4), (5, .int x5)] [] Th M 0 0
  refine m_iconst (v := 0) dX0_reckon_0 (by decide) ?_
  refine m_bipush (v := 10) dX0_reckon_1 (by decide) ?_
  refine m_iload dX0_reckon_3 4 rfl ?_
  refine m_min l_X0_19 dX0_reckon_5 (Nat.le_of_ble_eq_true rfl) (Nat.le_add_left _ _) (Nat.le_refl _) (Nat.le_refl _) ?_
  refine m_max l_X0_25 dX0_reckon_8 (Nat.le_of_ble_eq_true rfl) (Nat.le_add_left _ _) (Nat.le_refl _) (Nat.le_refl _) ?_
  obtain ⟨xv1, e_xv1⟩ : ∃ xv1 : Int32, xv1 = (if 0 < (if x4 < 10 then x4 else 10) then (if x4 < 10 then x4 else 10) else 0) := ⟨_, rfl⟩
  have h := h xv1 e_xv1
  rw [← e_xv1]
  refine m_istore (lv' := [(6, .int xv1), (0, .ref a0), (1, .ref a1), (2, .ref a2), (3, .ref a3), (4, .int x4), (5, .int x5)]) dX0_reckon_11 (by decide) rfl ?_
  refine m_aload_n dX0_reckon_13 rfl 1 rfl ?_
  obtain ⟨q2, h⟩ := h
  obtain ⟨r3, q4, h⟩ := h
  refine m_getr f_X0_11 rfl dX0_reckon_14 q2 q4 ?_
  refine m_invS (As := [.ref r3]) (d' := d) (mc' := 0) (ms' := 0) (rest := []) i_0_wipe s_0_wipe l_X0_28 dX0_reckon_17 rfl rfl (Nat.le_of_ble_eq_true rfl) (Nat.le_refl _) ⟨Nat.le_refl _, Nat.le_refl _⟩ (m_Cv h (fun M5 h => ?_))
  show m_W (d + 1) 0 0 yX0_reckon cX0_reckon 8 (some .long) (m_ql Th Q) 20 [(6, .int xv1), (0, .ref a0), (1, .ref a1), (2, .ref a2), (3, .ref a3), (4, .int x4), (5, .int x5)] [] Th M5 0 0
  refine m_aload_n dX0_reckon_20 rfl 1 rfl ?_
  obtain ⟨r7, q8, h⟩ := h
  refine m_getr f_X0_11 rfl dX0_reckon_21 q2 q8 ?_
  refine m_iconst (v := 0) dX0_reckon_24 (by decide) ?_
  obtain ⟨q9, h⟩ := h
  obtain ⟨r10, q11, h⟩ := h
  refine m_aald (ty := (.array .long)) rfl dX0_reckon_25 q9 q11 ?_
  refine m_iconst (v := 0) dX0_reckon_26 (by decide) ?_
  refine m_lconst (v := 1) dX0_reckon_27 (by decide) ?_
  obtain ⟨q12, h⟩ := h
  refine m_last dX0_reckon_28 q12 ?_
  refine m_iconst (v := 0) dX0_reckon_29 (by decide) ?_
  refine m_istore (lv' := [(7, .int 0), (6, .int xv1), (0, .ref a0), (1, .ref a1), (2, .ref a2), (3, .ref a3), (4, .int x4), (5, .int x5)]) dX0_reckon_30 (by decide) rfl ?_
  exact m_sub [2, 3, 4, 5, 7, 1, 0] rfl h
set_option maxHeartbeats 4000000 in
set_option maxRecDepth 100000 in
theorem h0_goOn_17 {d : Nat} {Th : mT} {Q : mM → Prop} {a0 : Nat} {x1 : Int32} {a2 : Nat} {a4 : Nat} {x5 : Int32} {x6 : Int32} {x7 : Int32} {M : mM} (h : if x5 < x7 then (Th.2.2 a0 = some (.inl 0) ∧ (∃ r2 : Nat, M.2.2 a0 0 = some r2 ∧ (∃ r4 : Nat, M.2.2 a0 1 = some r4 ∧ (∀ M6 : mM, M6 = m_ur M a0 0 (some r4) → Q (m_ur M6 a0 1 (some r2)))))) else (∀ xv7 : Int32, xv7 = (x7 + 1) → H0_goOn_30 (d + 1) Th Q a0 x1 a2 a4 x5 x6 x7 xv7 M)) : H0_goOn_17 (d + 1) Th Q a0 x1 a2 a4 x5 x6 x7 M := by
  show m_W (d + 1) 0 0 yX0_goOn cX0_goOn 13 none (m_qv Th Q) 17 [(0, .ref a0), (1, .int x1), (2, .ref a2), (4, .ref a4), (5, .int x5), (6, .int x6), (7, .int x7)] [] Th M 0 0
  refine m_iload dX0_goOn_17 6 rfl ?_
  refine m_iload dX0_goOn_19 4 rfl ?_
  refine m_icmp_gt (tgt := 144) dX0_goOn_21 (by decide) (fun c1 => ?_) (fun c1 => ?_)
  · rw [if_pos c1] at h
    refine m_aload_n dX0_goOn_144 rfl 0 rfl ?_
    obtain ⟨q1, h⟩ := h
    obtain ⟨r2, q3, h⟩ := h
    refine m_getr f_X0_11 rfl dX0_goOn_145 q1 q3 ?_
    refine m_astore (lv' := [(7, .ref r2), (0, .ref a0), (1, .int x1), (2, .ref a2), (4, .ref a4), (5, .int x5), (6, .int x6)]) dX0_goOn_148 (by decide) rfl ?_
    refine m_aload_n dX0_goOn_150 rfl 1 rfl ?_
    refine m_aload_n dX0_goOn_151 rfl 1 rfl ?_
    obtain ⟨r4, q5, h⟩ := h
    refine m_getr f_X0_16 rfl dX0_goOn_152 q1 q5 ?_
    refine m_putr f_X0_11 rfl (Or.inl rfl) dX0_goOn_155 q1 ?_
    refine m_aload_n dX0_goOn_158 rfl 1 rfl ?_
    refine m_aload dX0_goOn_159 0 rfl ?_
    obtain ⟨M6, e_M6⟩ : ∃ M6 : mM, M6 = m_ur M a0 0 (some r4) := ⟨_, rfl⟩
    have h := h M6 e_M6
    rw [← e_M6]
    refine m_putr f_X0_16 rfl (Or.inl rfl) dX0_goOn_161 q1 ?_
    exact m_return dX0_goOn_164 rfl ⟨rfl, rfl, h⟩
  · rw [if_neg c1] at h
    refine m_iload dX0_goOn_24 6 rfl ?_
    refine m_iconst (v := 1) dX0_goOn_26 (by decide) ?_
    refine m_iadd dX0_goOn_27 ?_
    obtain ⟨xv7, e_xv7⟩ : ∃ xv7 : Int32, xv7 = (x7 + 1) := ⟨_, rfl⟩
    have h := h xv7 e_xv7
    rw [← e_xv7]
    refine m_istore (lv' := [(8, .int xv7), (0, .ref a0), (1, .int x1), (2, .ref a2), (4, .ref a4), (5, .int x5), (6, .int x6), (7, .int x7)]) dX0_goOn_28 (by decide) rfl ?_
    exact m_sub [1, 2, 3, 4, 5, 6, 7, 0] rfl h
set_option maxHeartbeats 4000000 in
set_option maxRecDepth 100000 in
theorem h0_goOn_30 {d : Nat} {Th : mT} {Q : mM → Prop} {a0 : Nat} {x1 : Int32} {a2 : Nat} {a4 : Nat} {x5 : Int32} {x6 : Int32} {x7 : Int32} {x8 : Int32} {M : mM} (h : if x5 < (x8 + x6) then (H0_goOn_17 (d + 1) Th Q a0 x1 a2 a4 x5 x6 (x7 + 1) M) else (Th.2.2 a4 = some (.inl 7) ∧ (P7_solvedIn d Th a4 x1 ((x8 - x7)) M (fun (v2 : Int64) (M1 : mM) => ∀ lv4 : Int64, lv4 = (v2 <<< (((3 * x6) : Int32).toInt64 &&& 63)) → H0_goOn_61 (d + 1) Th Q a0 x1 a2 a4 x5 x6 x7 x8 lv4 0 M1)))) : H0_goOn_30 (d + 1) Th Q a0 x1 a2 a4 x5 x6 x7 x8 M := by
  show m_W (d + 1) 0 0 yX0_goOn cX0_goOn 13 none (m_qv Th Q) 30 [(0, .ref a0), (1, .int x1), (2, .ref a2), (4, .ref a4), (5, .int x5), (6, .int x6), (7, .int x7), (8, .int x8)] [] Th M 0 0
  refine m_iload dX0_goOn_30 7 rfl ?_
  refine m_iload dX0_goOn_32 5 rfl ?_
  refine m_iadd dX0_goOn_34 ?_
  refine m_iload dX0_goOn_35 4 rfl ?_
  refine m_icmp_gt (tgt := 138) dX0_goOn_37 (by decide) (fun c1 => ?_) (fun c1 => ?_)
  · rw [if_pos c1] at h
    refine m_iinc (v := x7 + 1) (lv' := [(7, .int (x7 + 1)), (0, .ref a0), (1, .int x1), (2, .ref a2), (4, .ref a4), (5, .int x5), (6, .int x6), (8, .int x8)]) dX0_goOn_138 6 rfl rfl (by decide) rfl ?_
    refine m_goto (tgt := 17) dX0_goOn_141 (by decide) ?_
    exact m_sub [1, 2, 3, 4, 5, 6, 0] rfl h
  · rw [if_neg c1] at h
    refine m_aload dX0_goOn_40 3 rfl ?_
    refine m_iload_n dX0_goOn_42 rfl 1 rfl ?_
    refine m_iload dX0_goOn_43 7 rfl ?_
    refine m_iload dX0_goOn_45 6 rfl ?_
    refine m_isub dX0_goOn_47 ?_
    obtain ⟨q3, h⟩ := h
    refine m_invV (ci := 7) (As := [.int x1, .int ((x8 - x7))]) (d' := d) (mc' := 0) (ms' := 0) (rest := []) i_7_solvedIn v_7_solvedIn t_7_solvedIn l_X0_52 ⟨_, _, rfl⟩ dX0_goOn_48 rfl rfl q3 (Nat.le_of_ble_eq_true rfl) (Nat.le_refl _) ⟨Nat.le_refl _, Nat.le_refl _⟩ (m_Cl h (fun v2 M1 h => ?_))
    show m_W (d + 1) 0 0 yX0_goOn cX0_goOn 13 none (m_qv Th Q) 51 [(0, .ref a0), (1, .int x1), (2, .ref a2), (4, .ref a4), (5, .int x5), (6, .int x6), (7, .int x7), (8, .int x8)] [.long v2] Th M1 0 0
    refine m_iconst (v := 3) dX0_goOn_51 (by decide) ?_
    refine m_iload dX0_goOn_52 5 rfl ?_
    refine m_imul dX0_goOn_54 ?_
    refine m_lshl dX0_goOn_55 ?_
    obtain ⟨lv4, e_lv4⟩ : ∃ lv4 : Int64, lv4 = (v2 <<< (((3 * x6) : Int32).toInt64 &&& 63)) := ⟨_, rfl⟩
    have h := h lv4 e_lv4
    rw [← e_lv4]
    refine m_lstore (lv' := [(9, .long lv4), (0, .ref a0), (1, .int x1), (2, .ref a2), (4, .ref a4), (5, .int x5), (6, .int x6), (7, .int x7), (8, .int x8)]) dX0_goOn_56 (by decide) rfl ?_
    refine m_iconst (v := 0) dX0_goOn_58 (by decide) ?_
    refine m_istore (lv' := [(11, .int 0), (9, .long lv4), (0, .ref a0), (1, .int x1), (2, .ref a2), (4, .ref a4), (5, .int x5), (6, .int x6), (7, .int x7), (8, .int x8)]) dX0_goOn_59 (by decide) rfl ?_
    exact m_sub [2, 3, 4, 5, 6, 7, 8, 9, 1, 0] rfl h
set_option maxHeartbeats 4000000 in
set_option maxRecDepth 100000 in
theorem h0_goOn_61 {d : Nat} {Th : mT} {Q : mM → Prop} {a0 : Nat} {x1 : Int32} {a2 : Nat} {a4 : Nat} {x5 : Int32} {x6 : Int32} {x7 : Int32} {x8 : Int32} {l9 : Int64} {x11 : Int32} {M : mM} (h : if x5 < x11 then (H0_goOn_30 (d + 1) Th Q a0 x1 a2 a4 x5 x6 x7 (x8 + 1) M) else (if (lg_cmp l9 0) = 0 then (H0_goOn_30 (d + 1) Th Q a0 x1 a2 a4 x5 x6 x7 (x8 + 1) M) else (Th.2.2 a2 = some (.inl 8) ∧ (P8_stepsFrom d Th a2 x1 M (fun (v2 : Int32) (M1 : mM) => ∀ xv4 : Int32, xv4 = ((if x11 < x8 then x8 else x11) + v2) → if x5 < xv4 then (H0_goOn_61 (d + 1) Th Q a0 x1 a2 a4 x5 x6 x7 x8 l9 (x11 + 1) M1) else (Th.2.2 a0 = some (.inl 0) ∧ (∃ r6 : Nat, M1.2.2 a0 1 = some r6 ∧ (m_ok Th r6 (.array .long) ((x8 + x6)) ∧ (∃ r9 : Nat, M1.2.2 r6 (Int32.toNatClampNeg ((x8 + x6))) = some r9 ∧ (m_ok Th r9 .long xv4 ∧ (∃ r12 : Nat, M1.2.2 a0 0 = some r12 ∧ (m_ok Th r12 (.array .long) x7 ∧ (∃ r15 : Nat, M1.2.2 r12 (Int32.toNatClampNeg x7) = some r15 ∧ (m_ok Th r15 .long x11 ∧ (m_okw Th r9 .long xv4 ∧ (H0_goOn_61 (d + 1) Th Q a0 x1 a2 a4 x5 x6 x7 x8 l9 (x11 + 1) (m_ul M1 r9 (Int32.toNatClampNeg xv4) ((((M1).2.1 r9 (Int32.toNatClampNeg xv4)) + (((M1).2.1 r15 (Int32.toNatClampNeg x11)) * l9)))))))))))))))))))) : H0_goOn_61 (d + 1) Th Q a0 x1 a2 a4 x5 x6 x7 x8 l9 x11 M := by
  show m_W (d + 1) 0 0 yX0_goOn cX0_goOn 13 none (m_qv Th Q) 61 [(0, .ref a0), (1, .int x1), (2, .ref a2), (4, .ref a4), (5, .int x5), (6, .int x6), (7, .int x7), (8, .int x8), (9, .long l9), (11, .int x11)] [] Th M 0 0
  refine m_iload dX0_goOn_61 9 rfl ?_
  refine m_iload dX0_goOn_63 4 rfl ?_
  refine m_icmp_gt (tgt := 132) dX0_goOn_65 (by decide) (fun c1 => ?_) (fun c1 => ?_)
  · rw [if_pos c1] at h
    refine m_iinc (v := x8 + 1) (lv' := [(8, .int (x8 + 1)), (0, .ref a0), (1, .int x1), (2, .ref a2), (4, .ref a4), (5, .int x5), (6, .int x6), (7, .int x7), (9, .long l9), (11, .int x11)]) dX0_goOn_132 7 rfl rfl (by decide) rfl ?_
    refine m_goto (tgt := 30) dX0_goOn_135 (by decide) ?_
    exact m_sub [1, 2, 3, 4, 5, 6, 7, 0] rfl h
  · rw [if_neg c1] at h
    refine m_lload dX0_goOn_68 8 rfl ?_
    refine m_lconst (v := 0) dX0_goOn_70 (by decide) ?_
    refine m_lcmp dX0_goOn_71 ?_
    refine m_if_eq (tgt := 132) dX0_goOn_72 (by decide) (fun c1 => ?_) (fun c1 => ?_)
    · rw [if_pos c1] at h
      refine m_iinc (v := x8 + 1) (lv' := [(8, .int (x8 + 1)), (0, .ref a0), (1, .int x1), (2, .ref a2), (4, .ref a4), (5, .int x5), (6, .int x6), (7, .int x7), (9, .long l9), (11, .int x11)]) dX0_goOn_132 7 rfl rfl (by decide) rfl ?_
      refine m_goto (tgt := 30) dX0_goOn_135 (by decide) ?_
      exact m_sub [1, 2, 3, 4, 5, 6, 7, 0] rfl h
    · rw [if_neg c1] at h
      refine m_iload dX0_goOn_75 9 rfl ?_
      refine m_iload dX0_goOn_77 7 rfl ?_
      refine m_max l_X0_25 dX0_goOn_79 (Nat.le_of_ble_eq_true rfl) (Nat.le_add_left _ _) (Nat.le_refl _) (Nat.le_refl _) ?_
      refine m_aload_n dX0_goOn_82 rfl 2 rfl ?_
      refine m_iload_n dX0_goOn_83 rfl 1 rfl ?_
      obtain ⟨q3, h⟩ := h
      refine m_invV (ci := 8) (As := [.int x1]) (d' := d) (mc' := 0) (ms' := 0) (rest := [.int ((if x11 < x8 then x8 else x11))]) i_8_stepsFrom v_8_stepsFrom t_8_stepsFrom l_X0_46 ⟨_, _, rfl⟩ dX0_goOn_84 rfl rfl q3 (Nat.le_of_ble_eq_true rfl) (Nat.le_refl _) ⟨Nat.le_refl _, Nat.le_refl _⟩ (m_Ci h (fun v2 M1 h => ?_))
      show m_W (d + 1) 0 0 yX0_goOn cX0_goOn 13 none (m_qv Th Q) 87 [(0, .ref a0), (1, .int x1), (2, .ref a2), (4, .ref a4), (5, .int x5), (6, .int x6), (7, .int x7), (8, .int x8), (9, .long l9), (11, .int x11)] [.int v2, .int ((if x11 < x8 then x8 else x11))] Th M1 0 0
      refine m_iadd dX0_goOn_87 ?_
      obtain ⟨xv4, e_xv4⟩ : ∃ xv4 : Int32, xv4 = ((if x11 < x8 then x8 else x11) + v2) := ⟨_, rfl⟩
      have h := h xv4 e_xv4
      rw [← e_xv4]
      refine m_istore (lv' := [(12, .int xv4), (0, .ref a0), (1, .int x1), (2, .ref a2), (4, .ref a4), (5, .int x5), (6, .int x6), (7, .int x7), (8, .int x8), (9, .long l9), (11, .int x11)]) dX0_goOn_88 (by decide) rfl ?_
      refine m_iload dX0_goOn_90 0 rfl ?_
      refine m_iload dX0_goOn_92 5 rfl ?_
      refine m_icmp_gt (tgt := 126) dX0_goOn_94 (by decide) (fun c1 => ?_) (fun c1 => ?_)
      · rw [if_pos c1] at h
        refine m_iinc (v := x11 + 1) (lv' := [(11, .int (x11 + 1)), (12, .int xv4), (0, .ref a0), (1, .int x1), (2, .ref a2), (4, .ref a4), (5, .int x5), (6, .int x6), (7, .int x7), (8, .int x8), (9, .long l9)]) dX0_goOn_126 10 rfl rfl (by decide) rfl ?_
        refine m_goto (tgt := 61) dX0_goOn_129 (by decide) ?_
        exact m_sub [2, 3, 4, 5, 6, 7, 8, 9, 10, 0] rfl h
      · rw [if_neg c1] at h
        refine m_aload_n dX0_goOn_97 rfl 1 rfl ?_
        obtain ⟨q5, h⟩ := h
        obtain ⟨r6, q7, h⟩ := h
        refine m_getr f_X0_16 rfl dX0_goOn_98 q5 q7 ?_
        refine m_iload dX0_goOn_101 8 rfl ?_
        refine m_iload dX0_goOn_103 6 rfl ?_
        refine m_iadd dX0_goOn_105 ?_
        obtain ⟨q8, h⟩ := h
        obtain ⟨r9, q10, h⟩ := h
        refine m_aald (ty := (.array .long)) rfl dX0_goOn_106 q8 q10 ?_
        refine m_iload dX0_goOn_107 0 rfl ?_
        refine m_dup2_11 dX0_goOn_109 rfl rfl ?_
        obtain ⟨q11, h⟩ := h
        refine m_lald dX0_goOn_110 q11 ?_
        refine m_aload_n dX0_goOn_111 rfl 1 rfl ?_
        obtain ⟨r12, q13, h⟩ := h
        refine m_getr f_X0_11 rfl dX0_goOn_112 q5 q13 ?_
        refine m_iload dX0_goOn_115 7 rfl ?_
        obtain ⟨q14, h⟩ := h
        obtain ⟨r15, q16, h⟩ := h
        refine m_aald (ty := (.array .long)) rfl dX0_goOn_117 q14 q16 ?_
        refine m_iload dX0_goOn_118 10 rfl ?_
        obtain ⟨q17, h⟩ := h
        refine m_lald dX0_goOn_120 q17 ?_
        refine m_lload dX0_goOn_121 9 rfl ?_
        refine m_lmul dX0_goOn_123 ?_
        refine m_ladd dX0_goOn_124 ?_
        obtain ⟨q18, h⟩ := h
        refine m_last dX0_goOn_125 q18 ?_
        refine m_iinc (v := x11 + 1) (lv' := [(11, .int (x11 + 1)), (12, .int xv4), (0, .ref a0), (1, .int x1), (2, .ref a2), (4, .ref a4), (5, .int x5), (6, .int x6), (7, .int x7), (8, .int x8), (9, .long l9)]) dX0_goOn_126 10 rfl rfl (by decide) rfl ?_
        refine m_goto (tgt := 61) dX0_goOn_129 (by decide) ?_
        exact m_sub [2, 3, 4, 5, 6, 7, 8, 9, 10, 0] rfl h
set_option maxHeartbeats 4000000 in
set_option maxRecDepth 100000 in
theorem e0_goOn {d : Nat} {Th : mT} {Q : mM → Prop} {a0 : Nat} {x1 : Int32} {a2 : Nat} {a3 : Nat} {a4 : Nat} {x5 : Int32} {M : mM} (h : Th.2.2 a0 = some (.inl 0) ∧ (∃ r2 : Nat, M.2.2 a0 1 = some r2 ∧ (P0_wipe d Th r2 M (fun M4 : mM => Th.2.2 a3 = some (.inl 8) ∧ (P8_stepsFrom d Th a3 x1 M4 (fun (v7 : Int32) (M6 : mM) => H0_goOn_17 (d + 1) Th Q a0 x1 a2 a4 x5 v7 0 M6)))))) : P0_goOn (d + 1) Th a0 x1 a2 a3 a4 x5 M Q := by
  refine m_C.of (by decide +kernel) (Nat.le_of_ble_eq_true rfl) ?_
  show m_W (d + 1) 0 0 yX0_goOn cX0_goOn 13 none (m_qv Th Q) 0 [(0, .ref a0), (1, .int x1), (2, .ref a2), (3, .ref a3), (4, .ref a4), (5, .int x5)] [] Th M 0 0
  refine m_aload_n dX0_goOn_0 rfl 0 rfl ?_
  obtain ⟨q1, h⟩ := h
  obtain ⟨r2, q3, h⟩ := h
  refine m_getr f_X0_16 rfl dX0_goOn_1 q1 q3 ?_
  refine m_invS (As := [.ref r2]) (d' := d) (mc' := 0) (ms' := 0) (rest := []) i_0_wipe s_0_wipe l_X0_28 dX0_goOn_4 rfl rfl (Nat.le_of_ble_eq_true rfl) (Nat.le_refl _) ⟨Nat.le_refl _, Nat.le_refl _⟩ (m_Cv h (fun M4 h => ?_))
  show m_W (d + 1) 0 0 yX0_goOn cX0_goOn 13 none (m_qv Th Q) 7 [(0, .ref a0), (1, .int x1), (2, .ref a2), (3, .ref a3), (4, .ref a4), (5, .int x5)] [] Th M4 0 0
  refine m_aload_n dX0_goOn_7 rfl 3 rfl ?_
  refine m_iload_n dX0_goOn_8 rfl 1 rfl ?_
  obtain ⟨q8, h⟩ := h
  refine m_invV (ci := 8) (As := [.int x1]) (d' := d) (mc' := 0) (ms' := 0) (rest := []) i_8_stepsFrom v_8_stepsFrom t_8_stepsFrom l_X0_46 ⟨_, _, rfl⟩ dX0_goOn_9 rfl rfl q8 (Nat.le_of_ble_eq_true rfl) (Nat.le_refl _) ⟨Nat.le_refl _, Nat.le_refl _⟩ (m_Ci h (fun v7 M6 h => ?_))
  show m_W (d + 1) 0 0 yX0_goOn cX0_goOn 13 none (m_qv Th Q) 12 [(0, .ref a0), (1, .int x1), (2, .ref a2), (3, .ref a3), (4, .ref a4), (5, .int x5)] [.int v7] Th M6 0 0
  refine m_istore (lv' := [(6, .int v7), (0, .ref a0), (1, .int x1), (2, .ref a2), (3, .ref a3), (4, .ref a4), (5, .int x5)]) dX0_goOn_12 (by decide) rfl ?_
  refine m_iconst (v := 0) dX0_goOn_14 (by decide) ?_
  refine m_istore (lv' := [(7, .int 0), (6, .int v7), (0, .ref a0), (1, .int x1), (2, .ref a2), (3, .ref a3), (4, .ref a4), (5, .int x5)]) dX0_goOn_15 (by decide) rfl ?_
  exact m_sub [2, 3, 4, 6, 7, 1, 0] rfl h
set_option maxHeartbeats 4000000 in
set_option maxRecDepth 100000 in
theorem h0_toBox_14 {d : Nat} {Th : mT} {Q : Int64 → mM → Prop} {a0 : Nat} {a1 : Nat} {a2 : Nat} {a3 : Nat} {x4 : Int32} {x5 : Int32} {x6 : Int32} {l7 : Int64} {x9 : Int32} {M : mM} (h : if x4 < x9 then (Q l7 M) else (∀ xv1 : Int32, xv1 = (x9 + 1) → H0_toBox_27 (d + 1) Th Q a0 a1 a2 a3 x4 x5 x6 l7 x9 xv1 M)) : H0_toBox_14 (d + 1) Th Q a0 a1 a2 a3 x4 x5 x6 l7 x9 M := by
  show m_W (d + 1) 0 0 yX0_toBox cX0_toBox 16 (some .long) (m_ql Th Q) 14 [(0, .ref a0), (1, .ref a1), (2, .ref a2), (3, .ref a3), (4, .int x4), (5, .int x5), (6, .int x6), (7, .long l7), (9, .int x9)] [] Th M 0 0
  refine m_iload dX0_toBox_14 8 rfl ?_
  refine m_iload dX0_toBox_16 4 rfl ?_
  refine m_icmp_gt (tgt := 162) dX0_toBox_18 (by decide) (fun c1 => ?_) (fun c1 => ?_)
  · rw [if_pos c1] at h
    refine m_lload dX0_toBox_162 7 rfl ?_
    exact m_lreturn dX0_toBox_164 rfl ⟨rfl, _, rfl, h⟩
  · rw [if_neg c1] at h
    refine m_iload dX0_toBox_21 8 rfl ?_
    refine m_iconst (v := 1) dX0_toBox_23 (by decide) ?_
    refine m_iadd dX0_toBox_24 ?_
    obtain ⟨xv1, e_xv1⟩ : ∃ xv1 : Int32, xv1 = (x9 + 1) := ⟨_, rfl⟩
    have h := h xv1 e_xv1
    rw [← e_xv1]
    refine m_istore (lv' := [(10, .int xv1), (0, .ref a0), (1, .ref a1), (2, .ref a2), (3, .ref a3), (4, .int x4), (5, .int x5), (6, .int x6), (7, .long l7), (9, .int x9)]) dX0_toBox_25 (by decide) rfl ?_
    exact m_sub [1, 2, 3, 4, 5, 6, 7, 8, 9, 0] rfl h
set_option maxHeartbeats 4000000 in
set_option maxRecDepth 100000 in
theorem h0_toBox_27 {d : Nat} {Th : mT} {Q : Int64 → mM → Prop} {a0 : Nat} {a1 : Nat} {a2 : Nat} {a3 : Nat} {x4 : Int32} {x5 : Int32} {x6 : Int32} {l7 : Int64} {x9 : Int32} {x10 : Int32} {M : mM} (h : if x4 < x10 then (H0_toBox_14 (d + 1) Th Q a0 a1 a2 a3 x4 x5 x6 l7 (x9 + 1) M) else (Th.2.2 a3 = some (.inl 7) ∧ (P7_solvedIn d Th a3 x6 ((x10 - x9)) M (fun (v2 : Int64) (M1 : mM) => ∀ lv4 : Int64, lv4 = (v2 <<< (((3 * (x4 - x10)) : Int32).toInt64 &&& 63)) → H0_toBox_58 (d + 1) Th Q a0 a1 a2 a3 x4 x5 x6 l7 x9 x10 lv4 0 M1)))) : H0_toBox_27 (d + 1) Th Q a0 a1 a2 a3 x4 x5 x6 l7 x9 x10 M := by
  show m_W (d + 1) 0 0 yX0_toBox cX0_toBox 16 (some .long) (m_ql Th Q) 27 [(0, .ref a0), (1, .ref a1), (2, .ref a2), (3, .ref a3), (4, .int x4), (5, .int x5), (6, .int x6), (7, .long l7), (9, .int x9), (10, .int x10)] [] Th M 0 0
  refine m_iload dX0_toBox_27 9 rfl ?_
  refine m_iload dX0_toBox_29 4 rfl ?_
  refine m_icmp_gt (tgt := 156) dX0_toBox_31 (by decide) (fun c1 => ?_) (fun c1 => ?_)
  · rw [if_pos c1] at h
    refine m_iinc (v := x9 + 1) (lv' := [(9, .int (x9 + 1)), (0, .ref a0), (1, .ref a1), (2, .ref a2), (3, .ref a3), (4, .int x4), (5, .int x5), (6, .int x6), (7, .long l7), (10, .int x10)]) dX0_toBox_156 8 rfl rfl (by decide) rfl ?_
    refine m_goto (tgt := 14) dX0_toBox_159 (by decide) ?_
    exact m_sub [1, 2, 3, 4, 5, 6, 7, 8, 0] rfl h
  · rw [if_neg c1] at h
    refine m_aload_n dX0_toBox_34 rfl 3 rfl ?_
    refine m_iload dX0_toBox_35 6 rfl ?_
    refine m_iload dX0_toBox_37 9 rfl ?_
    refine m_iload dX0_toBox_39 8 rfl ?_
    refine m_isub dX0_toBox_41 ?_
    obtain ⟨q3, h⟩ := h
    refine m_invV (ci := 7) (As := [.int x6, .int ((x10 - x9))]) (d' := d) (mc' := 0) (ms' := 0) (rest := []) i_7_solvedIn v_7_solvedIn t_7_solvedIn l_X0_52 ⟨_, _, rfl⟩ dX0_toBox_42 rfl rfl q3 (Nat.le_of_ble_eq_true rfl) (Nat.le_refl _) ⟨Nat.le_refl _, Nat.le_refl _⟩ (m_Cl h (fun v2 M1 h => ?_))
    show m_W (d + 1) 0 0 yX0_toBox cX0_toBox 16 (some .long) (m_ql Th Q) 45 [(0, .ref a0), (1, .ref a1), (2, .ref a2), (3, .ref a3), (4, .int x4), (5, .int x5), (6, .int x6), (7, .long l7), (9, .int x9), (10, .int x10)] [.long v2] Th M1 0 0
    refine m_iconst (v := 3) dX0_toBox_45 (by decide) ?_
    refine m_iload dX0_toBox_46 4 rfl ?_
    refine m_iload dX0_toBox_48 9 rfl ?_
    refine m_isub dX0_toBox_50 ?_
    refine m_imul dX0_toBox_51 ?_
    refine m_lshl dX0_toBox_52 ?_
    obtain ⟨lv4, e_lv4⟩ : ∃ lv4 : Int64, lv4 = (v2 <<< (((3 * (x4 - x10)) : Int32).toInt64 &&& 63)) := ⟨_, rfl⟩
    have h := h lv4 e_lv4
    rw [← e_lv4]
    refine m_lstore (lv' := [(11, .long lv4), (0, .ref a0), (1, .ref a1), (2, .ref a2), (3, .ref a3), (4, .int x4), (5, .int x5), (6, .int x6), (7, .long l7), (9, .int x9), (10, .int x10)]) dX0_toBox_53 (by decide) rfl ?_
    refine m_iconst (v := 0) dX0_toBox_55 (by decide) ?_
    refine m_istore (lv' := [(13, .int 0), (11, .long lv4), (0, .ref a0), (1, .ref a1), (2, .ref a2), (3, .ref a3), (4, .int x4), (5, .int x5), (6, .int x6), (7, .long l7), (9, .int x9), (10, .int x10)]) dX0_toBox_56 (by decide) rfl ?_
    exact m_sub [2, 3, 4, 5, 6, 7, 8, 9, 10, 11, 1, 0] rfl h
set_option maxHeartbeats 4000000 in
set_option maxRecDepth 100000 in
theorem h0_toBox_58 {d : Nat} {Th : mT} {Q : Int64 → mM → Prop} {a0 : Nat} {a1 : Nat} {a2 : Nat} {a3 : Nat} {x4 : Int32} {x5 : Int32} {x6 : Int32} {l7 : Int64} {x9 : Int32} {x10 : Int32} {l11 : Int64} {x13 : Int32} {M : mM} (h : if x4 < x13 then (H0_toBox_27 (d + 1) Th Q a0 a1 a2 a3 x4 x5 x6 l7 x9 (x10 + 1) M) else (if (lg_cmp l11 0) = 0 then (H0_toBox_27 (d + 1) Th Q a0 a1 a2 a3 x4 x5 x6 l7 x9 (x10 + 1) M) else (Th.2.2 a1 = some (.inl 8) ∧ (P8_stepsFrom d Th a1 x6 M (fun (v2 : Int32) (M1 : mM) => ∀ xv4 : Int32, xv4 = ((if x13 < x10 then x10 else x13) + v2) → Th.2.2 a2 = some (.inl 8) ∧ (P8_stepsFrom d Th a2 x6 M1 (fun (v6 : Int32) (M5 : mM) => ∀ xv8 : Int32, xv8 = (if (x10 + v6) ≤ xv4 then 0 else 1) → if x4 < xv4 then (H0_toBox_58 (d + 1) Th Q a0 a1 a2 a3 x4 x5 x6 l7 x9 x10 l11 (x13 + 1) M5) else (if xv8 = 0 then (if x5 = 0 then (H0_toBox_126 (d + 1) Th Q a0 a1 a2 a3 x4 x5 x6 l7 x9 x10 l11 x13 M5) else (H0_toBox_58 (d + 1) Th Q a0 a1 a2 a3 x4 x5 x6 l7 x9 x10 l11 (x13 + 1) M5)) else (H0_toBox_126 (d + 1) Th Q a0 a1 a2 a3 x4 x5 x6 l7 x9 x10 l11 x13 M5))))))))) : H0_toBox_58 (d + 1) Th Q a0 a1 a2 a3 x4 x5 x6 l7 x9 x10 l11 x13 M := by
  show m_W (d + 1) 0 0 yX0_toBox cX0_toBox 16 (some .long) (m_ql Th Q) 58 [(0, .ref a0), (1, .ref a1), (2, .ref a2), (3, .ref a3), (4, .int x4), (5, .int x5), (6, .int x6), (7, .long l7), (9, .int x9), (10, .int x10), (11, .long l11), (13, .int x13)] [] Th M 0 0
  refine m_iload dX0_toBox_58 11 rfl ?_
  refine m_iload dX0_toBox_60 4 rfl ?_
  refine m_icmp_gt (tgt := 150) dX0_toBox_62 (by decide) (fun c1 => ?_) (fun c1 => ?_)
  · rw [if_pos c1] at h
    refine m_iinc (v := x10 + 1) (lv' := [(10, .int (x10 + 1)), (0, .ref a0), (1, .ref a1), (2, .ref a2), (3, .ref a3), (4, .int x4), (5, .int x5), (6, .int x6), (7, .long l7), (9, .int x9), (11, .long l11), (13, .int x13)]) dX0_toBox_150 9 rfl rfl (by decide) rfl ?_
    refine m_goto (tgt := 27) dX0_toBox_153 (by decide) ?_
    exact m_sub [1, 2, 3, 4, 5, 6, 7, 8, 9, 0] rfl h
  · rw [if_neg c1] at h
    refine m_lload dX0_toBox_65 10 rfl ?_
    refine m_lconst (v := 0) dX0_toBox_67 (by decide) ?_
    refine m_lcmp dX0_toBox_68 ?_
    refine m_if_eq (tgt := 150) dX0_toBox_69 (by decide) (fun c1 => ?_) (fun c1 => ?_)
    · rw [if_pos c1] at h
      refine m_iinc (v := x10 + 1) (lv' := [(10, .int (x10 + 1)), (0, .ref a0), (1, .ref a1), (2, .ref a2), (3, .ref a3), (4, .int x4), (5, .int x5), (6, .int x6), (7, .long l7), (9, .int x9), (11, .long l11), (13, .int x13)]) dX0_toBox_150 9 rfl rfl (by decide) rfl ?_
      refine m_goto (tgt := 27) dX0_toBox_153 (by decide) ?_
      exact m_sub [1, 2, 3, 4, 5, 6, 7, 8, 9, 0] rfl h
    · rw [if_neg c1] at h
      refine m_iload dX0_toBox_72 11 rfl ?_
      refine m_iload dX0_toBox_74 9 rfl ?_
      refine m_max l_X0_25 dX0_toBox_76 (Nat.le_of_ble_eq_true rfl) (Nat.le_add_left _ _) (Nat.le_refl _) (Nat.le_refl _) ?_
      refine m_aload_n dX0_toBox_79 rfl 1 rfl ?_
      refine m_iload dX0_toBox_80 6 rfl ?_
      obtain ⟨q3, h⟩ := h
      refine m_invV (ci := 8) (As := [.int x6]) (d' := d) (mc' := 0) (ms' := 0) (rest := [.int ((if x13 < x10 then x10 else x13))]) i_8_stepsFrom v_8_stepsFrom t_8_stepsFrom l_X0_46 ⟨_, _, rfl⟩ dX0_toBox_82 rfl rfl q3 (Nat.le_of_ble_eq_true rfl) (Nat.le_refl _) ⟨Nat.le_refl _, Nat.le_refl _⟩ (m_Ci h (fun v2 M1 h => ?_))
      show m_W (d + 1) 0 0 yX0_toBox cX0_toBox 16 (some .long) (m_ql Th Q) 85 [(0, .ref a0), (1, .ref a1), (2, .ref a2), (3, .ref a3), (4, .int x4), (5, .int x5), (6, .int x6), (7, .long l7), (9, .int x9), (10, .int x10), (11, .long l11), (13, .int x13)] [.int v2, .int ((if x13 < x10 then x10 else x13))] Th M1 0 0
      refine m_iadd dX0_toBox_85 ?_
      obtain ⟨xv4, e_xv4⟩ : ∃ xv4 : Int32, xv4 = ((if x13 < x10 then x10 else x13) + v2) := ⟨_, rfl⟩
      have h := h xv4 e_xv4
      rw [← e_xv4]
      refine m_istore (lv' := [(14, .int xv4), (0, .ref a0), (1, .ref a1), (2, .ref a2), (3, .ref a3), (4, .int x4), (5, .int x5), (6, .int x6), (7, .long l7), (9, .int x9), (10, .int x10), (11, .long l11), (13, .int x13)]) dX0_toBox_86 (by decide) rfl ?_
      refine m_iload dX0_toBox_88 0 rfl ?_
      refine m_iload dX0_toBox_90 10 rfl ?_
      refine m_aload_n dX0_toBox_92 rfl 3 rfl ?_
      refine m_iload dX0_toBox_93 7 rfl ?_
      obtain ⟨q7, h⟩ := h
      refine m_invV (ci := 8) (As := [.int x6]) (d' := d) (mc' := 0) (ms' := 0) (rest := [.int x10, .int xv4]) i_8_stepsFrom v_8_stepsFrom t_8_stepsFrom l_X0_46 ⟨_, _, rfl⟩ dX0_toBox_95 rfl rfl q7 (Nat.le_of_ble_eq_true rfl) (Nat.le_refl _) ⟨Nat.le_refl _, Nat.le_refl _⟩ (m_Ci h (fun v6 M5 h => ?_))
      show m_W (d + 1) 0 0 yX0_toBox cX0_toBox 16 (some .long) (m_ql Th Q) 98 [(14, .int xv4), (0, .ref a0), (1, .ref a1), (2, .ref a2), (3, .ref a3), (4, .int x4), (5, .int x5), (6, .int x6), (7, .long l7), (9, .int x9), (10, .int x10), (11, .long l11), (13, .int x13)] [.int v6, .int x10, .int xv4] Th M5 0 0
      refine m_iadd dX0_toBox_98 ?_
      have hJ : m_W (d + 1) 0 0 yX0_toBox cX0_toBox 16 (some .long) (m_ql Th Q) 107 [(14, .int xv4), (0, .ref a0), (1, .ref a1), (2, .ref a2), (3, .ref a3), (4, .int x4), (5, .int x5), (6, .int x6), (7, .long l7), (9, .int x9), (10, .int x10), (11, .long l11), (13, .int x13)] [.int ((if (x10 + v6) ≤ xv4 then 0 else 1))] Th M5 0 0 := by
        obtain ⟨xv8, e_xv8⟩ : ∃ xv8 : Int32, xv8 = (if (x10 + v6) ≤ xv4 then 0 else 1) := ⟨_, rfl⟩
        have h := h xv8 e_xv8
        rw [← e_xv8]
        refine m_istore (lv' := [(15, .int xv8), (14, .int xv4), (0, .ref a0), (1, .ref a1), (2, .ref a2), (3, .ref a3), (4, .int x4), (5, .int x5), (6, .int x6), (7, .long l7), (9, .int x9), (10, .int x10), (11, .long l11), (13, .int x13)]) dX0_toBox_107 (by decide) rfl ?_
        refine m_iload dX0_toBox_109 1 rfl ?_
        refine m_iload dX0_toBox_111 6 rfl ?_
        refine m_icmp_gt (tgt := 144) dX0_toBox_113 (by decide) (fun c1 => ?_) (fun c1 => ?_)
        · rw [if_pos c1] at h
          refine m_iinc (v := x13 + 1) (lv' := [(13, .int (x13 + 1)), (15, .int xv8), (14, .int xv4), (0, .ref a0), (1, .ref a1), (2, .ref a2), (3, .ref a3), (4, .int x4), (5, .int x5), (6, .int x6), (7, .long l7), (9, .int x9), (10, .int x10), (11, .long l11)]) dX0_toBox_144 13 rfl rfl (by decide) rfl ?_
          refine m_goto (tgt := 58) dX0_toBox_147 (by decide) ?_
          exact m_sub [3, 4, 5, 6, 7, 8, 9, 10, 11, 12, 13, 0] rfl h
        · rw [if_neg c1] at h
          refine m_iload dX0_toBox_116 0 rfl ?_
          refine m_if_ne (tgt := 126) dX0_toBox_118 (by decide) (fun c1 => ?_) (fun c1 => ?_)
          · rw [if_neg c1] at h
            exact m_sub [2, 3, 4, 5, 6, 7, 8, 9, 10, 11, 12, 13] rfl h
          · rw [if_pos c1] at h
            refine m_iload dX0_toBox_121 7 rfl ?_
            refine m_if_ne (tgt := 144) dX0_toBox_123 (by decide) (fun c1 => ?_) (fun c1 => ?_)
            · rw [if_neg c1] at h
              refine m_iinc (v := x13 + 1) (lv' := [(13, .int (x13 + 1)), (15, .int xv8), (14, .int xv4), (0, .ref a0), (1, .ref a1), (2, .ref a2), (3, .ref a3), (4, .int x4), (5, .int x5), (6, .int x6), (7, .long l7), (9, .int x9), (10, .int x10), (11, .long l11)]) dX0_toBox_144 13 rfl rfl (by decide) rfl ?_
              refine m_goto (tgt := 58) dX0_toBox_147 (by decide) ?_
              exact m_sub [3, 4, 5, 6, 7, 8, 9, 10, 11, 12, 13, 0] rfl h
            · rw [if_pos c1] at h
              exact m_sub [2, 3, 4, 5, 6, 7, 8, 9, 10, 11, 12, 13] rfl h
      refine m_icmp_ge (tgt := 106) dX0_toBox_99 (by decide) (fun c1 => ?_) (fun c1 => ?_)
      · simp only [if_pos c1] at hJ
        refine m_iconst (v := 0) dX0_toBox_106 (by decide) ?_
        exact hJ
      · simp only [if_neg c1] at hJ
        refine m_iconst (v := 1) dX0_toBox_102 (by decide) ?_
        refine m_goto (tgt := 107) dX0_toBox_103 (by decide) ?_
        exact hJ
set_option maxHeartbeats 4000000 in
set_option maxRecDepth 100000 in
theorem h0_toBox_126 {d : Nat} {Th : mT} {Q : Int64 → mM → Prop} {a0 : Nat} {a1 : Nat} {a2 : Nat} {a3 : Nat} {x4 : Int32} {x5 : Int32} {x6 : Int32} {l7 : Int64} {x9 : Int32} {x10 : Int32} {l11 : Int64} {x13 : Int32} {M : mM} (h : Th.2.2 a0 = some (.inl 0) ∧ (∃ r2 : Nat, M.2.2 a0 0 = some r2 ∧ (m_ok Th r2 (.array .long) x9 ∧ (∃ r5 : Nat, M.2.2 r2 (Int32.toNatClampNeg x9) = some r5 ∧ (m_ok Th r5 .long x13 ∧ (∀ lv8 : Int64, lv8 = (l7 + (((M).2.1 r5 (Int32.toNatClampNeg x13)) * l11)) → H0_toBox_58 (d + 1) Th Q a0 a1 a2 a3 x4 x5 x6 lv8 x9 x10 l11 (x13 + 1) M)))))) : H0_toBox_126 (d + 1) Th Q a0 a1 a2 a3 x4 x5 x6 l7 x9 x10 l11 x13 M := by
  show m_W (d + 1) 0 0 yX0_toBox cX0_toBox 16 (some .long) (m_ql Th Q) 126 [(0, .ref a0), (1, .ref a1), (2, .ref a2), (3, .ref a3), (4, .int x4), (5, .int x5), (6, .int x6), (7, .long l7), (9, .int x9), (10, .int x10), (11, .long l11), (13, .int x13)] [] Th M 0 0
  refine m_lload dX0_toBox_126 7 rfl ?_
  refine m_aload_n dX0_toBox_128 rfl 0 rfl ?_
  obtain ⟨q1, h⟩ := h
  obtain ⟨r2, q3, h⟩ := h
  refine m_getr f_X0_11 rfl dX0_toBox_129 q1 q3 ?_
  refine m_iload dX0_toBox_132 8 rfl ?_
  obtain ⟨q4, h⟩ := h
  obtain ⟨r5, q6, h⟩ := h
  refine m_aald (ty := (.array .long)) rfl dX0_toBox_134 q4 q6 ?_
  refine m_iload dX0_toBox_135 11 rfl ?_
  obtain ⟨q7, h⟩ := h
  refine m_lald dX0_toBox_137 q7 ?_
  refine m_lload dX0_toBox_138 10 rfl ?_
  refine m_lmul dX0_toBox_140 ?_
  refine m_ladd dX0_toBox_141 ?_
  obtain ⟨lv8, e_lv8⟩ : ∃ lv8 : Int64, lv8 = (l7 + (((M).2.1 r5 (Int32.toNatClampNeg x13)) * l11)) := ⟨_, rfl⟩
  have h := h lv8 e_lv8
  rw [← e_lv8]
  refine m_lstore (lv' := [(7, .long lv8), (0, .ref a0), (1, .ref a1), (2, .ref a2), (3, .ref a3), (4, .int x4), (5, .int x5), (6, .int x6), (9, .int x9), (10, .int x10), (11, .long l11), (13, .int x13)]) dX0_toBox_142 (by decide) rfl ?_
  refine m_iinc (v := x13 + 1) (lv' := [(13, .int (x13 + 1)), (7, .long lv8), (0, .ref a0), (1, .ref a1), (2, .ref a2), (3, .ref a3), (4, .int x4), (5, .int x5), (6, .int x6), (9, .int x9), (10, .int x10), (11, .long l11)]) dX0_toBox_144 11 rfl rfl (by decide) rfl ?_
  refine m_goto (tgt := 58) dX0_toBox_147 (by decide) ?_
  exact m_sub [2, 3, 4, 5, 6, 7, 8, 1, 9, 10, 11, 0] rfl h
set_option maxHeartbeats 4000000 in
set_option maxRecDepth 100000 in
theorem e0_toBox {d : Nat} {Th : mT} {Q : Int64 → mM → Prop} {a0 : Nat} {a1 : Nat} {a2 : Nat} {a3 : Nat} {x4 : Int32} {x5 : Int32} {M : mM} (h : Th.2.2 a3 = some (.inl 7) ∧ (∀ xv2 : Int32, xv2 = (((M).1 a3 4) - 1) → H0_toBox_14 (d + 1) Th Q a0 a1 a2 a3 x4 x5 xv2 0 0 M)) : P0_toBox (d + 1) Th a0 a1 a2 a3 x4 x5 M Q := by
  refine m_C.of (by decide +kernel) (Nat.le_of_ble_eq_true rfl) ?_
  show m_W (d + 1) 0 0 yX0_toBox cX0_toBox 16 (some .long) (m_ql Th Q) 0 [(0, .ref a0), (1, .ref a1), (2, .ref a2), (3, .ref a3), (4, .int x4), (5, .int x5)] [] Th M 0 0
  refine m_aload_n dX0_toBox_0 rfl 3 rfl ?_
  obtain ⟨q1, h⟩ := h
  refine m_geti f_X0_32 rfl dX0_toBox_1 q1 ?_
  refine m_iconst (v := 1) dX0_toBox_4 (by decide) ?_
  refine m_isub dX0_toBox_5 ?_
  obtain ⟨xv2, e_xv2⟩ : ∃ xv2 : Int32, xv2 = (((M).1 a3 4) - 1) := ⟨_, rfl⟩
  have h := h xv2 e_xv2
  rw [← e_xv2]
  refine m_istore (lv' := [(6, .int xv2), (0, .ref a0), (1, .ref a1), (2, .ref a2), (3, .ref a3), (4, .int x4), (5, .int x5)]) dX0_toBox_6 (by decide) rfl ?_
  refine m_lconst (v := 0) dX0_toBox_8 (by decide) ?_
  refine m_lstore (lv' := [(7, .long 0), (6, .int xv2), (0, .ref a0), (1, .ref a1), (2, .ref a2), (3, .ref a3), (4, .int x4), (5, .int x5)]) dX0_toBox_9 (by decide) rfl ?_
  refine m_iconst (v := 0) dX0_toBox_11 (by decide) ?_
  refine m_istore (lv' := [(9, .int 0), (7, .long 0), (6, .int xv2), (0, .ref a0), (1, .ref a1), (2, .ref a2), (3, .ref a3), (4, .int x4), (5, .int x5)]) dX0_toBox_12 (by decide) rfl ?_
  exact m_sub [3, 4, 5, 6, 7, 8, 2, 1, 0] rfl h
set_option maxHeartbeats 4000000 in
set_option maxRecDepth 100000 in
theorem h0_wipe_2 {d : Nat} {Th : mT} {Q : mM → Prop} {a0 : Nat} {x1 : Int32} {M : mM} (h : ∃ (ty : FieldType) (fz : Bool) (n1 : Nat), Th.2.2 a0 = some (.inr (ty, fz, n1)) ∧ (if (nI n1) ≤ x1 then (Q M) else (H0_wipe_10 (d + 1) Th Q a0 x1 0 M))) : H0_wipe_2 (d + 1) Th Q a0 x1 M := by
  show m_W (d + 1) 0 0 yX0_wipe cX0_wipe 3 none (m_qv Th Q) 2 [(0, .ref a0), (1, .int x1)] [] Th M 0 0
  refine m_iload_n dX0_wipe_2 rfl 1 rfl ?_
  refine m_aload_n dX0_wipe_3 rfl 0 rfl ?_
  obtain ⟨_, _, n1, q2, h⟩ := h
  refine m_alen dX0_wipe_4 q2 ?_
  refine m_icmp_ge (tgt := 36) dX0_wipe_5 (by decide) (fun c1 => ?_) (fun c1 => ?_)
  · rw [if_pos c1] at h
    exact m_return dX0_wipe_36 rfl ⟨rfl, rfl, h⟩
  · rw [if_neg c1] at h
    refine m_iconst (v := 0) dX0_wipe_8 (by decide) ?_
    refine m_istore_n (lv' := [(2, .int 0), (0, .ref a0), (1, .int x1)]) dX0_wipe_9 rfl (by decide) rfl ?_
    exact m_sub [1, 2, 0] rfl h
set_option maxHeartbeats 4000000 in
set_option maxRecDepth 100000 in
theorem h0_wipe_10 {d : Nat} {Th : mT} {Q : mM → Prop} {a0 : Nat} {x1 : Int32} {x2 : Int32} {M : mM} (h : m_ok Th a0 (.array .long) x1 ∧ (∃ r2 : Nat, M.2.2 a0 (Int32.toNatClampNeg x1) = some r2 ∧ (∃ (ty : FieldType) (fz : Bool) (n4 : Nat), Th.2.2 r2 = some (.inr (ty, fz, n4)) ∧ (if (nI n4) ≤ x2 then (H0_wipe_2 (d + 1) Th Q a0 (x1 + 1) M) else (m_okw Th r2 .long x2 ∧ (H0_wipe_10 (d + 1) Th Q a0 x1 (x2 + 1) (m_ul M r2 (Int32.toNatClampNeg x2) 0))))))) : H0_wipe_10 (d + 1) Th Q a0 x1 x2 M := by
  show m_W (d + 1) 0 0 yX0_wipe cX0_wipe 3 none (m_qv Th Q) 10 [(0, .ref a0), (1, .int x1), (2, .int x2)] [] Th M 0 0
  refine m_iload_n dX0_wipe_10 rfl 2 rfl ?_
  refine m_aload_n dX0_wipe_11 rfl 0 rfl ?_
  refine m_iload_n dX0_wipe_12 rfl 1 rfl ?_
  obtain ⟨q1, h⟩ := h
  obtain ⟨r2, q3, h⟩ := h
  refine m_aald (ty := (.array .long)) rfl dX0_wipe_13 q1 q3 ?_
  obtain ⟨_, _, n4, q5, h⟩ := h
  refine m_alen dX0_wipe_14 q5 ?_
  refine m_icmp_ge (tgt := 30) dX0_wipe_15 (by decide) (fun c1 => ?_) (fun c1 => ?_)
  · rw [if_pos c1] at h
    refine m_iinc (v := x1 + 1) (lv' := [(1, .int (x1 + 1)), (0, .ref a0), (2, .int x2)]) dX0_wipe_30 1 rfl rfl (by decide) rfl ?_
    refine m_goto (tgt := 2) dX0_wipe_33 (by decide) ?_
    exact m_sub [1, 0] rfl h
  · rw [if_neg c1] at h
    refine m_aload_n dX0_wipe_18 rfl 0 rfl ?_
    refine m_iload_n dX0_wipe_19 rfl 1 rfl ?_
    refine m_aald (ty := (.array .long)) rfl dX0_wipe_20 q1 q3 ?_
    refine m_iload_n dX0_wipe_21 rfl 2 rfl ?_
    refine m_lconst (v := 0) dX0_wipe_22 (by decide) ?_
    obtain ⟨q6, h⟩ := h
    refine m_last dX0_wipe_23 q6 ?_
    refine m_iinc (v := x2 + 1) (lv' := [(2, .int (x2 + 1)), (0, .ref a0), (1, .int x1)]) dX0_wipe_24 2 rfl rfl (by decide) rfl ?_
    refine m_goto (tgt := 10) dX0_wipe_27 (by decide) ?_
    exact m_sub [1, 2, 0] rfl h
set_option maxHeartbeats 4000000 in
set_option maxRecDepth 100000 in
theorem e0_wipe {d : Nat} {Th : mT} {Q : mM → Prop} {a0 : Nat} {M : mM} (h : H0_wipe_2 (d + 1) Th Q a0 0 M) : P0_wipe (d + 1) Th a0 M Q := by
  refine m_C.of (by decide +kernel) (Nat.le_of_ble_eq_true rfl) ?_
  show m_W (d + 1) 0 0 yX0_wipe cX0_wipe 3 none (m_qv Th Q) 0 [(0, .ref a0)] [] Th M 0 0
  refine m_iconst (v := 0) dX0_wipe_0 (by decide) ?_
  refine m_istore_n (lv' := [(1, .int 0), (0, .ref a0)]) dX0_wipe_1 rfl (by decide) rfl ?_
  exact m_sub [1, 0] rfl h
