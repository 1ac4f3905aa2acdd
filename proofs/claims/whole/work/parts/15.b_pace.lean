set_option maxHeartbeats 4000000 in
set_option maxRecDepth 100000 in
theorem h7_reckon_39 {d : Nat} {Th : mT} {Q : mM → Prop} {a0 : Nat} {a1 : Nat} {x4 : Int32} {x5 : Int32} {M : mM} (h : Th.2.2 a0 = some (.inl 7) ∧ (if ((M).1 a0 4) ≤ x5 then (Q M) else (P7_think d Th a0 a1 x5 x4 M (fun M2 : mM => Th.2.2 a1 = some (.inl 8) ∧ (P8_stepsFrom d Th a1 x5 M2 (fun (v5 : Int32) (M4 : mM) => P7_goOn d Th a0 x5 v5 M4 (fun M7 : mM => H7_reckon_39 (d + 1) Th Q a0 a1 x4 (x5 + 1) M7))))))) : H7_reckon_39 (d + 1) Th Q a0 a1 x4 x5 M := by
  show m_W (d + 1) 0 0 yX7_reckon cX7_reckon 6 none (m_qv Th Q) 39 [(0, .ref a0), (1, .ref a1), (4, .int x4), (5, .int x5)] [] Th M 0 0
  refine m_iload dX7_reckon_39 3 rfl ?_
  refine m_aload_n dX7_reckon_41 rfl 0 rfl ?_
  obtain ⟨q1, h⟩ := h
  refine m_geti f_X7_36 rfl dX7_reckon_42 q1 ?_
  refine m_icmp_ge (tgt := 75) dX7_reckon_45 (by decide) (fun c1 => ?_) (fun c1 => ?_)
  · rw [if_pos c1] at h
    exact m_return dX7_reckon_75 rfl ⟨rfl, rfl, h⟩
  · rw [if_neg c1] at h
    refine m_aload_n dX7_reckon_48 rfl 0 rfl ?_
    refine m_aload_n dX7_reckon_49 rfl 1 rfl ?_
    refine m_iload dX7_reckon_50 3 rfl ?_
    refine m_iload dX7_reckon_52 2 rfl ?_
    refine m_invV (ci := 7) (As := [.ref a1, .int x5, .int x4]) (d' := d) (mc' := 0) (ms' := 0) (rest := []) i_7_think v_7_think t_7_think l_X7_43 ⟨_, _, rfl⟩ dX7_reckon_54 rfl rfl q1 (Nat.le_of_ble_eq_true rfl) (Nat.le_refl _) ⟨Nat.le_refl _, Nat.le_refl _⟩ (m_Cv h (fun M2 h => ?_))
    show m_W (d + 1) 0 0 yX7_reckon cX7_reckon 6 none (m_qv Th Q) 57 [(0, .ref a0), (1, .ref a1), (4, .int x4), (5, .int x5)] [] Th M2 0 0
    refine m_aload_n dX7_reckon_57 rfl 0 rfl ?_
    refine m_iload dX7_reckon_58 3 rfl ?_
    refine m_aload_n dX7_reckon_60 rfl 1 rfl ?_
    refine m_iload dX7_reckon_61 3 rfl ?_
    obtain ⟨q6, h⟩ := h
    refine m_invV (ci := 8) (As := [.int x5]) (d' := d) (mc' := 0) (ms' := 0) (rest := [.int x5, .ref a0]) i_8_stepsFrom v_8_stepsFrom t_8_stepsFrom l_X7_47 ⟨_, _, rfl⟩ dX7_reckon_63 rfl rfl q6 (Nat.le_of_ble_eq_true rfl) (Nat.le_refl _) ⟨Nat.le_refl _, Nat.le_refl _⟩ (m_Ci h (fun v5 M4 h => ?_))
    show m_W (d + 1) 0 0 yX7_reckon cX7_reckon 6 none (m_qv Th Q) 66 [(0, .ref a0), (1, .ref a1), (4, .int x4), (5, .int x5)] [.int v5, .int x5, .ref a0] Th M4 0 0
    refine m_invV (ci := 7) (As := [.int x5, .int v5]) (d' := d) (mc' := 0) (ms' := 0) (rest := []) i_7_goOn v_7_goOn t_7_goOn l_X7_53 ⟨_, _, rfl⟩ dX7_reckon_66 rfl rfl q1 (Nat.le_of_ble_eq_true rfl) (Nat.le_refl _) ⟨Nat.le_refl _, Nat.le_refl _⟩ (m_Cv h (fun M7 h => ?_))
    show m_W (d + 1) 0 0 yX7_reckon cX7_reckon 6 none (m_qv Th Q) 69 [(0, .ref a0), (1, .ref a1), (4, .int x4), (5, .int x5)] [] Th M7 0 0
    refine m_iinc (v := x5 + 1) (lv' := [(5, .int (x5 + 1)), (0, .ref a0), (1, .ref a1), (4, .int x4)]) dX7_reckon_69 3 rfl rfl (by decide) rfl ?_
    refine m_goto (tgt := 39) dX7_reckon_72 (by decide) ?_
    exact m_sub [1, 2, 3, 0] rfl h
set_option maxHeartbeats 4000000 in
set_option maxRecDepth 100000 in
theorem e7_reckon {d : Nat} {Th : mT} {Q : mM → Prop} {a0 : Nat} {a1 : Nat} {x2 : Int32} {x3 : Int32} {x4 : Int32} {M : mM} (h : Th.2.2 a0 = some (.inl 7) ∧ (∀ M2 : mM, M2 = m_ui M a0 3 x2 → ∃ r3 : Nat, M.2.2 a0 2 = some r3 ∧ (m_ok Th r3 (.array .long) 0 ∧ (∃ r6 : Nat, M.2.2 r3 (Int32.toNatClampNeg 0) = some r6 ∧ (P7_wipe d Th r6 (m_ui M2 a0 4 ((if 0 < (if x3 < 5 then x3 else 5) then (if x3 < 5 then x3 else 5) else 0))) (fun M8 : mM => ∃ r10 : Nat, M8.2.2 a0 2 = some r10 ∧ (m_ok Th r10 (.array .long) 0 ∧ (∃ r13 : Nat, M8.2.2 r10 (Int32.toNatClampNeg 0) = some r13 ∧ (m_okw Th r13 .long 0 ∧ (H7_reckon_39 (d + 1) Th Q a0 a1 x4 0 (m_ul M8 r13 (Int32.toNatClampNeg 0) 1))))))))))) : P7_reckon (d + 1) Th a0 a1 x2 x3 x4 M Q := by
  refine m_C.of (by decide +kernel) (Nat.le_of_ble_eq_true rfl) ?_
  show m_W (d + 1) 0 0 yX7_reckon cX7_reckon 6 none (m_qv Th Q) 0 [(0, .ref a0), (1, .ref a1), (2, .int x2), (3, .int x3), (4, .int x4)] [] Th M 0 0
  refine m_aload_n dX7_reckon_0 rfl 0 rfl ?_
  refine m_iload_n dX7_reckon_1 rfl 2 rfl ?_
  obtain ⟨q1, h⟩ := h
  refine m_puti f_X7_23 rfl (Or.inl rfl) dX7_reckon_2 q1 ⟨rfl, rfl⟩ ?_
  refine m_aload_n dX7_reckon_5 rfl 0 rfl ?_
  refine m_iconst (v := 0) dX7_reckon_6 (by decide) ?_
  refine m_iconst (v := 5) dX7_reckon_7 (by decide) ?_
  refine m_iload_n dX7_reckon_8 rfl 3 rfl ?_
  refine m_min l_X7_27 dX7_reckon_9 (Nat.le_of_ble_eq_true rfl) (Nat.le_add_left _ _) (Nat.le_refl _) (Nat.le_refl _) ?_
  refine m_max l_X7_33 dX7_reckon_12 (Nat.le_of_ble_eq_true rfl) (Nat.le_add_left _ _) (Nat.le_refl _) (Nat.le_refl _) ?_
  obtain ⟨M2, e_M2⟩ : ∃ M2 : mM, M2 = m_ui M a0 3 x2 := ⟨_, rfl⟩
  have h := h M2 e_M2
  rw [← e_M2]
  refine m_puti f_X7_36 rfl (Or.inl rfl) dX7_reckon_15 q1 ⟨rfl, rfl⟩ ?_
  refine m_aload_n dX7_reckon_18 rfl 0 rfl ?_
  obtain ⟨r3, q4, h⟩ := h
  refine m_getr f_X7_20 rfl dX7_reckon_19 q1 (by rw [e_M2]; exact q4) ?_
  refine m_iconst (v := 0) dX7_reckon_22 (by decide) ?_
  obtain ⟨q5, h⟩ := h
  obtain ⟨r6, q7, h⟩ := h
  refine m_aald (ty := (.array .long)) rfl dX7_reckon_23 q5 (by rw [e_M2]; exact q7) ?_
  refine m_invS (As := [.ref r6]) (d' := d) (mc' := 0) (ms' := 0) (rest := []) i_7_wipe s_7_wipe l_X7_39 dX7_reckon_24 rfl rfl (Nat.le_of_ble_eq_true rfl) (Nat.le_refl _) ⟨Nat.le_refl _, Nat.le_refl _⟩ (m_Cv h (fun M8 h => ?_))
  show m_W (d + 1) 0 0 yX7_reckon cX7_reckon 6 none (m_qv Th Q) 27 [(0, .ref a0), (1, .ref a1), (2, .int x2), (3, .int x3), (4, .int x4)] [] Th M8 0 0
  refine m_aload_n dX7_reckon_27 rfl 0 rfl ?_
  obtain ⟨r10, q11, h⟩ := h
  refine m_getr f_X7_20 rfl dX7_reckon_28 q1 q11 ?_
  refine m_iconst (v := 0) dX7_reckon_31 (by decide) ?_
  obtain ⟨q12, h⟩ := h
  obtain ⟨r13, q14, h⟩ := h
  refine m_aald (ty := (.array .long)) rfl dX7_reckon_32 q12 q14 ?_
  refine m_iconst (v := 0) dX7_reckon_33 (by decide) ?_
  refine m_lconst (v := 1) dX7_reckon_34 (by decide) ?_
  obtain ⟨q15, h⟩ := h
  refine m_last dX7_reckon_35 q15 ?_
  refine m_iconst (v := 0) dX7_reckon_36 (by decide) ?_
  refine m_istore (lv' := [(5, .int 0), (0, .ref a0), (1, .ref a1), (2, .int x2), (3, .int x3), (4, .int x4)]) dX7_reckon_37 (by decide) rfl ?_
  exact m_sub [1, 2, 5, 0] rfl h
set_option maxHeartbeats 4000000 in
set_option maxRecDepth 100000 in
theorem e7_solvedIn {d : Nat} {Th : mT} {Q : Int64 → mM → Prop} {a0 : Nat} {x1 : Int32} {x2 : Int32} {M : mM} (h : ∀ xv1 : Int32, xv1 = (if x1 < 0 then 0 else (if 5 ≤ x1 then 0 else (if x2 < 0 then 0 else (if 10 < x2 then 0 else 1)))) → if xv1 = 0 then (Q 0 M) else (Th.2.2 a0 = some (.inl 7) ∧ (∃ r3 : Nat, M.2.2 a0 1 = some r3 ∧ (m_ok Th r3 (.array .long) x1 ∧ (∃ r6 : Nat, M.2.2 r3 (Int32.toNatClampNeg x1) = some r6 ∧ (m_ok Th r6 .long x2 ∧ (Q (((M).2.1 r6 (Int32.toNatClampNeg x2))) M))))))) : P7_solvedIn (d + 1) Th a0 x1 x2 M Q := by
  refine m_C.of (by decide +kernel) (Nat.le_of_ble_eq_true rfl) ?_
  show m_W (d + 1) 0 0 yX7_solvedIn cX7_solvedIn 4 (some .long) (m_ql Th Q) 0 [(0, .ref a0), (1, .int x1), (2, .int x2)] [] Th M 0 0
  refine m_iload_n dX7_solvedIn_0 rfl 1 rfl ?_
  have hJ : m_W (d + 1) 0 0 yX7_solvedIn cX7_solvedIn 4 (some .long) (m_ql Th Q) 24 [(0, .ref a0), (1, .int x1), (2, .int x2)] [.int ((if x1 < 0 then 0 else (if 5 ≤ x1 then 0 else (if x2 < 0 then 0 else (if 10 < x2 then 0 else 1)))))] Th M 0 0 := by
    obtain ⟨xv1, e_xv1⟩ : ∃ xv1 : Int32, xv1 = (if x1 < 0 then 0 else (if 5 ≤ x1 then 0 else (if x2 < 0 then 0 else (if 10 < x2 then 0 else 1)))) := ⟨_, rfl⟩
    have h := h xv1 e_xv1
    rw [← e_xv1]
    refine m_istore_n (lv' := [(3, .int xv1), (0, .ref a0), (1, .int x1), (2, .int x2)]) dX7_solvedIn_24 rfl (by decide) rfl ?_
    refine m_iload_n dX7_solvedIn_25 rfl 0 rfl ?_
    refine m_if_eq (tgt := 40) dX7_solvedIn_26 (by decide) (fun c1 => ?_) (fun c1 => ?_)
    · rw [if_pos c1] at h
      refine m_lconst (v := 0) dX7_solvedIn_40 (by decide) ?_
      exact m_lreturn dX7_solvedIn_41 rfl ⟨rfl, _, rfl, h⟩
    · rw [if_neg c1] at h
      refine m_aload_n dX7_solvedIn_29 rfl 1 rfl ?_
      obtain ⟨q2, h⟩ := h
      obtain ⟨r3, q4, h⟩ := h
      refine m_getr f_X7_17 rfl dX7_solvedIn_30 q2 q4 ?_
      refine m_iload_n dX7_solvedIn_33 rfl 2 rfl ?_
      obtain ⟨q5, h⟩ := h
      obtain ⟨r6, q7, h⟩ := h
      refine m_aald (ty := (.array .long)) rfl dX7_solvedIn_34 q5 q7 ?_
      refine m_iload_n dX7_solvedIn_35 rfl 3 rfl ?_
      obtain ⟨q8, h⟩ := h
      refine m_lald dX7_solvedIn_36 q8 ?_
      refine m_goto (tgt := 41) dX7_solvedIn_37 (by decide) ?_
      exact m_lreturn dX7_solvedIn_41 rfl ⟨rfl, _, rfl, h⟩
  refine m_if_lt (tgt := 23) dX7_solvedIn_1 (by decide) (fun c1 => ?_) (fun c1 => ?_)
  · simp only [if_pos c1] at hJ
    refine m_iconst (v := 0) dX7_solvedIn_23 (by decide) ?_
    exact hJ
  · simp only [if_neg c1] at hJ
    refine m_iload_n dX7_solvedIn_4 rfl 1 rfl ?_
    refine m_iconst (v := 5) dX7_solvedIn_5 (by decide) ?_
    refine m_icmp_ge (tgt := 23) dX7_solvedIn_6 (by decide) (fun c2 => ?_) (fun c2 => ?_)
    · simp only [if_pos c2] at hJ
      refine m_iconst (v := 0) dX7_solvedIn_23 (by decide) ?_
      exact hJ
    · simp only [if_neg c2] at hJ
      refine m_iload_n dX7_solvedIn_9 rfl 2 rfl ?_
      refine m_if_lt (tgt := 23) dX7_solvedIn_10 (by decide) (fun c2 => ?_) (fun c2 => ?_)
      · simp only [if_pos c2] at hJ
        refine m_iconst (v := 0) dX7_solvedIn_23 (by decide) ?_
        exact hJ
      · simp only [if_neg c2] at hJ
        refine m_iload_n dX7_solvedIn_13 rfl 2 rfl ?_
        refine m_bipush (v := 10) dX7_solvedIn_14 (by decide) ?_
        refine m_icmp_gt (tgt := 23) dX7_solvedIn_16 (by decide) (fun c2 => ?_) (fun c2 => ?_)
        · simp only [if_pos c2] at hJ
          refine m_iconst (v := 0) dX7_solvedIn_23 (by decide) ?_
          exact hJ
        · simp only [if_neg c2] at hJ
          refine m_iconst (v := 1) dX7_solvedIn_19 (by decide) ?_
          refine m_goto (tgt := 24) dX7_solvedIn_20 (by decide) ?_
          exact hJ
set_option maxHeartbeats 4000000 in
set_option maxRecDepth 100000 in
theorem e7_comeAt {d : Nat} {Th : mT} {Q : Int64 → mM → Prop} {a0 : Nat} {x1 : Int32} {x2 : Int32} {M : mM} (h : ∀ xv1 : Int32, xv1 = (if x1 < 0 then 0 else (if 5 < x1 then 0 else (if x2 < 0 then 0 else (if 10 < x2 then 0 else 1)))) → if xv1 = 0 then (Q 0 M) else (Th.2.2 a0 = some (.inl 7) ∧ (∃ r3 : Nat, M.2.2 a0 2 = some r3 ∧ (m_ok Th r3 (.array .long) x1 ∧ (∃ r6 : Nat, M.2.2 r3 (Int32.toNatClampNeg x1) = some r6 ∧ (m_ok Th r6 .long x2 ∧ (Q (((M).2.1 r6 (Int32.toNatClampNeg x2))) M))))))) : P7_comeAt (d + 1) Th a0 x1 x2 M Q := by
  refine m_C.of (by decide +kernel) (Nat.le_of_ble_eq_true rfl) ?_
  show m_W (d + 1) 0 0 yX7_comeAt cX7_comeAt 4 (some .long) (m_ql Th Q) 0 [(0, .ref a0), (1, .int x1), (2, .int x2)] [] Th M 0 0
  refine m_iload_n dX7_comeAt_0 rfl 1 rfl ?_
  have hJ : m_W (d + 1) 0 0 yX7_comeAt cX7_comeAt 4 (some .long) (m_ql Th Q) 24 [(0, .ref a0), (1, .int x1), (2, .int x2)] [.int ((if x1 < 0 then 0 else (if 5 < x1 then 0 else (if x2 < 0 then 0 else (if 10 < x2 then 0 else 1)))))] Th M 0 0 := by
    obtain ⟨xv1, e_xv1⟩ : ∃ xv1 : Int32, xv1 = (if x1 < 0 then 0 else (if 5 < x1 then 0 else (if x2 < 0 then 0 else (if 10 < x2 then 0 else 1)))) := ⟨_, rfl⟩
    have h := h xv1 e_xv1
    rw [← e_xv1]
    refine m_istore_n (lv' := [(3, .int xv1), (0, .ref a0), (1, .int x1), (2, .int x2)]) dX7_comeAt_24 rfl (by decide) rfl ?_
    refine m_iload_n dX7_comeAt_25 rfl 0 rfl ?_
    refine m_if_eq (tgt := 40) dX7_comeAt_26 (by decide) (fun c1 => ?_) (fun c1 => ?_)
    · rw [if_pos c1] at h
      refine m_lconst (v := 0) dX7_comeAt_40 (by decide) ?_
      exact m_lreturn dX7_comeAt_41 rfl ⟨rfl, _, rfl, h⟩
    · rw [if_neg c1] at h
      refine m_aload_n dX7_comeAt_29 rfl 1 rfl ?_
      obtain ⟨q2, h⟩ := h
      obtain ⟨r3, q4, h⟩ := h
      refine m_getr f_X7_20 rfl dX7_comeAt_30 q2 q4 ?_
      refine m_iload_n dX7_comeAt_33 rfl 2 rfl ?_
      obtain ⟨q5, h⟩ := h
      obtain ⟨r6, q7, h⟩ := h
      refine m_aald (ty := (.array .long)) rfl dX7_comeAt_34 q5 q7 ?_
      refine m_iload_n dX7_comeAt_35 rfl 3 rfl ?_
      obtain ⟨q8, h⟩ := h
      refine m_lald dX7_comeAt_36 q8 ?_
      refine m_goto (tgt := 41) dX7_comeAt_37 (by decide) ?_
      exact m_lreturn dX7_comeAt_41 rfl ⟨rfl, _, rfl, h⟩
  refine m_if_lt (tgt := 23) dX7_comeAt_1 (by decide) (fun c1 => ?_) (fun c1 => ?_)
  · simp only [if_pos c1] at hJ
    refine m_iconst (v := 0) dX7_comeAt_23 (by decide) ?_
    exact hJ
  · simp only [if_neg c1] at hJ
    refine m_iload_n dX7_comeAt_4 rfl 1 rfl ?_
    refine m_iconst (v := 5) dX7_comeAt_5 (by decide) ?_
    refine m_icmp_gt (tgt := 23) dX7_comeAt_6 (by decide) (fun c2 => ?_) (fun c2 => ?_)
    · simp only [if_pos c2] at hJ
      refine m_iconst (v := 0) dX7_comeAt_23 (by decide) ?_
      exact hJ
    · simp only [if_neg c2] at hJ
      refine m_iload_n dX7_comeAt_9 rfl 2 rfl ?_
      refine m_if_lt (tgt := 23) dX7_comeAt_10 (by decide) (fun c2 => ?_) (fun c2 => ?_)
      · simp only [if_pos c2] at hJ
        refine m_iconst (v := 0) dX7_comeAt_23 (by decide) ?_
        exact hJ
      · simp only [if_neg c2] at hJ
        refine m_iload_n dX7_comeAt_13 rfl 2 rfl ?_
        refine m_bipush (v := 10) dX7_comeAt_14 (by decide) ?_
        refine m_icmp_gt (tgt := 23) dX7_comeAt_16 (by decide) (fun c2 => ?_) (fun c2 => ?_)
        · simp only [if_pos c2] at hJ
          refine m_iconst (v := 0) dX7_comeAt_23 (by decide) ?_
          exact hJ
        · simp only [if_neg c2] at hJ
          refine m_iconst (v := 1) dX7_comeAt_19 (by decide) ?_
          refine m_goto (tgt := 24) dX7_comeAt_20 (by decide) ?_
          exact hJ
set_option maxHeartbeats 4000000 in
set_option maxRecDepth 100000 in
theorem h7_comeBy_5 {d : Nat} {Th : mT} {Q : Int64 → mM → Prop} {a0 : Nat} {x1 : Int32} {x2 : Int32} {l3 : Int64} {x5 : Int32} {M : mM} (h : if x2 < x5 then (Q l3 M) else (if 10 < x5 then (Q l3 M) else (Th.2.2 a0 = some (.inl 7) ∧ (P7_comeAt d Th a0 x1 x5 M (fun (v3 : Int64) (M2 : mM) => ∀ lv4 : Int64, lv4 = ((l3 <<< ((((M).1 a0 3) : Int32).toInt64 &&& 63)) + v3) → H7_comeBy_5 (d + 1) Th Q a0 x1 x2 lv4 (x5 + 1) M2))))) : H7_comeBy_5 (d + 1) Th Q a0 x1 x2 l3 x5 M := by
  show m_W (d + 1) 0 0 yX7_comeBy cX7_comeBy 6 (some .long) (m_ql Th Q) 5 [(0, .ref a0), (1, .int x1), (2, .int x2), (3, .long l3), (5, .int x5)] [] Th M 0 0
  refine m_iload dX7_comeBy_5 4 rfl ?_
  refine m_iload_n dX7_comeBy_7 rfl 2 rfl ?_
  refine m_icmp_gt (tgt := 39) dX7_comeBy_8 (by decide) (fun c1 => ?_) (fun c1 => ?_)
  · rw [if_pos c1] at h
    refine m_lload_n dX7_comeBy_39 rfl 3 rfl ?_
    exact m_lreturn dX7_comeBy_40 rfl ⟨rfl, _, rfl, h⟩
  · rw [if_neg c1] at h
    refine m_iload dX7_comeBy_11 4 rfl ?_
    refine m_bipush (v := 10) dX7_comeBy_13 (by decide) ?_
    refine m_icmp_gt (tgt := 39) dX7_comeBy_15 (by decide) (fun c1 => ?_) (fun c1 => ?_)
    · rw [if_pos c1] at h
      refine m_lload_n dX7_comeBy_39 rfl 3 rfl ?_
      exact m_lreturn dX7_comeBy_40 rfl ⟨rfl, _, rfl, h⟩
    · rw [if_neg c1] at h
      refine m_lload_n dX7_comeBy_18 rfl 3 rfl ?_
      refine m_aload_n dX7_comeBy_19 rfl 0 rfl ?_
      obtain ⟨q1, h⟩ := h
      refine m_geti f_X7_23 rfl dX7_comeBy_20 q1 ?_
      refine m_lshl dX7_comeBy_23 ?_
      refine m_aload_n dX7_comeBy_24 rfl 0 rfl ?_
      refine m_iload_n dX7_comeBy_25 rfl 1 rfl ?_
      refine m_iload dX7_comeBy_26 4 rfl ?_
      refine m_invV (ci := 7) (As := [.int x1, .int x5]) (d' := d) (mc' := 0) (ms' := 0) (rest := [.long ((l3 <<< ((((M).1 a0 3) : Int32).toInt64 &&& 63)))]) i_7_comeAt v_7_comeAt t_7_comeAt l_X7_57 ⟨_, _, rfl⟩ dX7_comeBy_28 rfl rfl q1 (Nat.le_of_ble_eq_true rfl) (Nat.le_refl _) ⟨Nat.le_refl _, Nat.le_refl _⟩ (m_Cl h (fun v3 M2 h => ?_))
      show m_W (d + 1) 0 0 yX7_comeBy cX7_comeBy 6 (some .long) (m_ql Th Q) 31 [(0, .ref a0), (1, .int x1), (2, .int x2), (3, .long l3), (5, .int x5)] [.long v3, .long ((l3 <<< ((((M).1 a0 3) : Int32).toInt64 &&& 63)))] Th M2 0 0
      refine m_ladd dX7_comeBy_31 ?_
      obtain ⟨lv4, e_lv4⟩ : ∃ lv4 : Int64, lv4 = ((l3 <<< ((((M).1 a0 3) : Int32).toInt64 &&& 63)) + v3) := ⟨_, rfl⟩
      have h := h lv4 e_lv4
      rw [← e_lv4]
      refine m_lstore_n (lv' := [(3, .long lv4), (0, .ref a0), (1, .int x1), (2, .int x2), (5, .int x5)]) dX7_comeBy_32 rfl (by decide) rfl ?_
      refine m_iinc (v := x5 + 1) (lv' := [(5, .int (x5 + 1)), (3, .long lv4), (0, .ref a0), (1, .int x1), (2, .int x2)]) dX7_comeBy_33 4 rfl rfl (by decide) rfl ?_
      refine m_goto (tgt := 5) dX7_comeBy_36 (by decide) ?_
      exact m_sub [2, 3, 4, 1, 0] rfl h
set_option maxHeartbeats 4000000 in
set_option maxRecDepth 100000 in
theorem e7_comeBy {d : Nat} {Th : mT} {Q : Int64 → mM → Prop} {a0 : Nat} {x1 : Int32} {x2 : Int32} {M : mM} (h : H7_comeBy_5 (d + 1) Th Q a0 x1 x2 0 0 M) : P7_comeBy (d + 1) Th a0 x1 x2 M Q := by
  refine m_C.of (by decide +kernel) (Nat.le_of_ble_eq_true rfl) ?_
  show m_W (d + 1) 0 0 yX7_comeBy cX7_comeBy 6 (some .long) (m_ql Th Q) 0 [(0, .ref a0), (1, .int x1), (2, .int x2)] [] Th M 0 0
  refine m_lconst (v := 0) dX7_comeBy_0 (by decide) ?_
  refine m_lstore_n (lv' := [(3, .long 0), (0, .ref a0), (1, .int x1), (2, .int x2)]) dX7_comeBy_1 rfl (by decide) rfl ?_
  refine m_iconst (v := 0) dX7_comeBy_2 (by decide) ?_
  refine m_istore (lv' := [(5, .int 0), (3, .long 0), (0, .ref a0), (1, .int x1), (2, .int x2)]) dX7_comeBy_3 (by decide) rfl ?_
  exact m_sub [2, 3, 4, 1, 0] rfl h
set_option maxHeartbeats 4000000 in
set_option maxRecDepth 100000 in
theorem h7_aheadOf_16 {d : Nat} {Th : mT} {Q : Int64 → mM → Prop} {a0 : Nat} {a1 : Nat} {x2 : Int32} {l3 : Int64} {l5 : Int64} {x7 : Int32} {M : mM} (h : if 10 < x7 then (Q l5 M) else (Th.2.2 a0 = some (.inl 7) ∧ (∀ xv2 : Int32, xv2 = (((M).1 a0 3) * (10 - x7)) → P7_comeAt d Th a0 x2 x7 M (fun (v4 : Int64) (M3 : mM) => Th.2.2 a1 = some (.inl 7) ∧ (P7_comeBy d Th a1 x2 x7 M3 (fun (v6 : Int64) (M5 : mM) => ∀ lv8 : Int64, lv8 = (l5 + ((v4 <<< ((xv2 : Int32).toInt64 &&& 63)) * (l3 - (v6 <<< ((xv2 : Int32).toInt64 &&& 63))))) → H7_aheadOf_16 (d + 1) Th Q a0 a1 x2 l3 lv8 (x7 + 1) M5)))))) : H7_aheadOf_16 (d + 1) Th Q a0 a1 x2 l3 l5 x7 M := by
  show m_W (d + 1) 0 0 yX7_aheadOf cX7_aheadOf 9 (some .long) (m_ql Th Q) 16 [(0, .ref a0), (1, .ref a1), (2, .int x2), (3, .long l3), (5, .long l5), (7, .int x7)] [] Th M 0 0
  refine m_iload dX7_aheadOf_16 5 rfl ?_
  refine m_bipush (v := 10) dX7_aheadOf_18 (by decide) ?_
  refine m_icmp_gt (tgt := 69) dX7_aheadOf_20 (by decide) (fun c1 => ?_) (fun c1 => ?_)
  · rw [if_pos c1] at h
    refine m_lload dX7_aheadOf_69 4 rfl ?_
    exact m_lreturn dX7_aheadOf_71 rfl ⟨rfl, _, rfl, h⟩
  · rw [if_neg c1] at h
    refine m_aload_n dX7_aheadOf_23 rfl 0 rfl ?_
    obtain ⟨q1, h⟩ := h
    refine m_geti f_X7_23 rfl dX7_aheadOf_24 q1 ?_
    refine m_bipush (v := 10) dX7_aheadOf_27 (by decide) ?_
    refine m_iload dX7_aheadOf_29 5 rfl ?_
    refine m_isub dX7_aheadOf_31 ?_
    refine m_imul dX7_aheadOf_32 ?_
    obtain ⟨xv2, e_xv2⟩ : ∃ xv2 : Int32, xv2 = (((M).1 a0 3) * (10 - x7)) := ⟨_, rfl⟩
    have h := h xv2 e_xv2
    rw [← e_xv2]
    refine m_istore (lv' := [(8, .int xv2), (0, .ref a0), (1, .ref a1), (2, .int x2), (3, .long l3), (5, .long l5), (7, .int x7)]) dX7_aheadOf_33 (by decide) rfl ?_
    refine m_lload dX7_aheadOf_35 5 rfl ?_
    refine m_aload_n dX7_aheadOf_37 rfl 1 rfl ?_
    refine m_iload_n dX7_aheadOf_38 rfl 3 rfl ?_
    refine m_iload dX7_aheadOf_39 6 rfl ?_
    refine m_invV (ci := 7) (As := [.int x2, .int x7]) (d' := d) (mc' := 0) (ms' := 0) (rest := [.long l5]) i_7_comeAt v_7_comeAt t_7_comeAt l_X7_57 ⟨_, _, rfl⟩ dX7_aheadOf_41 rfl rfl q1 (Nat.le_of_ble_eq_true rfl) (Nat.le_refl _) ⟨Nat.le_refl _, Nat.le_refl _⟩ (m_Cl h (fun v4 M3 h => ?_))
    show m_W (d + 1) 0 0 yX7_aheadOf cX7_aheadOf 9 (some .long) (m_ql Th Q) 44 [(8, .int xv2), (0, .ref a0), (1, .ref a1), (2, .int x2), (3, .long l3), (5, .long l5), (7, .int x7)] [.long v4, .long l5] Th M3 0 0
    refine m_iload dX7_aheadOf_44 0 rfl ?_
    refine m_lshl dX7_aheadOf_46 ?_
    refine m_lload_n dX7_aheadOf_47 rfl 4 rfl ?_
    refine m_aload_n dX7_aheadOf_48 rfl 2 rfl ?_
    refine m_iload_n dX7_aheadOf_49 rfl 3 rfl ?_
    refine m_iload dX7_aheadOf_50 6 rfl ?_
    obtain ⟨q7, h⟩ := h
    refine m_invV (ci := 7) (As := [.int x2, .int x7]) (d' := d) (mc' := 0) (ms' := 0) (rest := [.long l3, .long ((v4 <<< ((xv2 : Int32).toInt64 &&& 63))), .long l5]) i_7_comeBy v_7_comeBy t_7_comeBy l_X7_61 ⟨_, _, rfl⟩ dX7_aheadOf_52 rfl rfl q7 (Nat.le_of_ble_eq_true rfl) (Nat.le_refl _) ⟨Nat.le_refl _, Nat.le_refl _⟩ (m_Cl h (fun v6 M5 h => ?_))
    show m_W (d + 1) 0 0 yX7_aheadOf cX7_aheadOf 9 (some .long) (m_ql Th Q) 55 [(8, .int xv2), (0, .ref a0), (1, .ref a1), (2, .int x2), (3, .long l3), (5, .long l5), (7, .int x7)] [.long v6, .long l3, .long ((v4 <<< ((xv2 : Int32).toInt64 &&& 63))), .long l5] Th M5 0 0
    refine m_iload dX7_aheadOf_55 0 rfl ?_
    refine m_lshl dX7_aheadOf_57 ?_
    refine m_lsub dX7_aheadOf_58 ?_
    refine m_lmul dX7_aheadOf_59 ?_
    refine m_ladd dX7_aheadOf_60 ?_
    obtain ⟨lv8, e_lv8⟩ : ∃ lv8 : Int64, lv8 = (l5 + ((v4 <<< ((xv2 : Int32).toInt64 &&& 63)) * (l3 - (v6 <<< ((xv2 : Int32).toInt64 &&& 63))))) := ⟨_, rfl⟩
    have h := h lv8 e_lv8
    rw [← e_lv8]
    refine m_lstore (lv' := [(5, .long lv8), (8, .int xv2), (0, .ref a0), (1, .ref a1), (2, .int x2), (3, .long l3), (7, .int x7)]) dX7_aheadOf_61 (by decide) rfl ?_
    refine m_iinc (v := x7 + 1) (lv' := [(7, .int (x7 + 1)), (5, .long lv8), (8, .int xv2), (0, .ref a0), (1, .ref a1), (2, .int x2), (3, .long l3)]) dX7_aheadOf_63 6 rfl rfl (by decide) rfl ?_
    refine m_goto (tgt := 16) dX7_aheadOf_66 (by decide) ?_
    exact m_sub [3, 4, 5, 6, 1, 0] rfl h
set_option maxHeartbeats 4000000 in
set_option maxRecDepth 100000 in
theorem e7_aheadOf {d : Nat} {Th : mT} {Q : Int64 → mM → Prop} {a0 : Nat} {a1 : Nat} {x2 : Int32} {M : mM} (h : Th.2.2 a0 = some (.inl 7) ∧ (∀ lv2 : Int64, lv2 = (1 <<< (((((M).1 a0 3) * 10) : Int32).toInt64 &&& 63)) → H7_aheadOf_16 (d + 1) Th Q a0 a1 x2 lv2 0 1 M)) : P7_aheadOf (d + 1) Th a0 a1 x2 M Q := by
  refine m_C.of (by decide +kernel) (Nat.le_of_ble_eq_true rfl) ?_
  show m_W (d + 1) 0 0 yX7_aheadOf cX7_aheadOf 9 (some .long) (m_ql Th Q) 0 [(0, .ref a0), (1, .ref a1), (2, .int x2)] [] Th M 0 0
  refine m_lconst (v := 1) dX7_aheadOf_0 (by decide) ?_
  refine m_aload_n dX7_aheadOf_1 rfl 0 rfl ?_
  obtain ⟨q1, h⟩ := h
  refine m_geti f_X7_23 rfl dX7_aheadOf_2 q1 ?_
  refine m_bipush (v := 10) dX7_aheadOf_5 (by decide) ?_
  refine m_imul dX7_aheadOf_7 ?_
  refine m_lshl dX7_aheadOf_8 ?_
  obtain ⟨lv2, e_lv2⟩ : ∃ lv2 : Int64, lv2 = (1 <<< (((((M).1 a0 3) * 10) : Int32).toInt64 &&& 63)) := ⟨_, rfl⟩
  have h := h lv2 e_lv2
  rw [← e_lv2]
  refine m_lstore_n (lv' := [(3, .long lv2), (0, .ref a0), (1, .ref a1), (2, .int x2)]) dX7_aheadOf_9 rfl (by decide) rfl ?_
  refine m_lconst (v := 0) dX7_aheadOf_10 (by decide) ?_
  refine m_lstore (lv' := [(5, .long 0), (3, .long lv2), (0, .ref a0), (1, .ref a1), (2, .int x2)]) dX7_aheadOf_11 (by decide) rfl ?_
  refine m_iconst (v := 1) dX7_aheadOf_13 (by decide) ?_
  refine m_istore (lv' := [(7, .int 1), (5, .long 0), (3, .long lv2), (0, .ref a0), (1, .ref a1), (2, .int x2)]) dX7_aheadOf_14 (by decide) rfl ?_
  exact m_sub [3, 4, 5, 2, 1, 0] rfl h
set_option maxHeartbeats 4000000 in
set_option maxRecDepth 100000 in
theorem h7_likeAs_5 {d : Nat} {Th : mT} {Q : Int64 → mM → Prop} {a0 : Nat} {a1 : Nat} {x2 : Int32} {l3 : Int64} {x5 : Int32} {M : mM} (h : if 10 < x5 then (Q l3 M) else (Th.2.2 a0 = some (.inl 7) ∧ (∀ xv2 : Int32, xv2 = (((M).1 a0 3) * (10 - x5)) → P7_comeAt d Th a0 x2 x5 M (fun (v4 : Int64) (M3 : mM) => Th.2.2 a1 = some (.inl 7) ∧ (P7_comeAt d Th a1 x2 x5 M3 (fun (v6 : Int64) (M5 : mM) => ∀ lv8 : Int64, lv8 = (l3 + ((v4 <<< ((xv2 : Int32).toInt64 &&& 63)) * (v6 <<< ((xv2 : Int32).toInt64 &&& 63)))) → H7_likeAs_5 (d + 1) Th Q a0 a1 x2 lv8 (x5 + 1) M5)))))) : H7_likeAs_5 (d + 1) Th Q a0 a1 x2 l3 x5 M := by
  show m_W (d + 1) 0 0 yX7_likeAs cX7_likeAs 7 (some .long) (m_ql Th Q) 5 [(0, .ref a0), (1, .ref a1), (2, .int x2), (3, .long l3), (5, .int x5)] [] Th M 0 0
  refine m_iload dX7_likeAs_5 4 rfl ?_
  refine m_bipush (v := 10) dX7_likeAs_7 (by decide) ?_
  refine m_icmp_gt (tgt := 54) dX7_likeAs_9 (by decide) (fun c1 => ?_) (fun c1 => ?_)
  · rw [if_pos c1] at h
    refine m_lload_n dX7_likeAs_54 rfl 3 rfl ?_
    exact m_lreturn dX7_likeAs_55 rfl ⟨rfl, _, rfl, h⟩
  · rw [if_neg c1] at h
    refine m_aload_n dX7_likeAs_12 rfl 0 rfl ?_
    obtain ⟨q1, h⟩ := h
    refine m_geti f_X7_23 rfl dX7_likeAs_13 q1 ?_
    refine m_bipush (v := 10) dX7_likeAs_16 (by decide) ?_
    refine m_iload dX7_likeAs_18 4 rfl ?_
    refine m_isub dX7_likeAs_20 ?_
    refine m_imul dX7_likeAs_21 ?_
    obtain ⟨xv2, e_xv2⟩ : ∃ xv2 : Int32, xv2 = (((M).1 a0 3) * (10 - x5)) := ⟨_, rfl⟩
    have h := h xv2 e_xv2
    rw [← e_xv2]
    refine m_istore (lv' := [(6, .int xv2), (0, .ref a0), (1, .ref a1), (2, .int x2), (3, .long l3), (5, .int x5)]) dX7_likeAs_22 (by decide) rfl ?_
    refine m_lload_n dX7_likeAs_24 rfl 4 rfl ?_
    refine m_aload_n dX7_likeAs_25 rfl 1 rfl ?_
    refine m_iload_n dX7_likeAs_26 rfl 3 rfl ?_
    refine m_iload dX7_likeAs_27 5 rfl ?_
    refine m_invV (ci := 7) (As := [.int x2, .int x5]) (d' := d) (mc' := 0) (ms' := 0) (rest := [.long l3]) i_7_comeAt v_7_comeAt t_7_comeAt l_X7_57 ⟨_, _, rfl⟩ dX7_likeAs_29 rfl rfl q1 (Nat.le_of_ble_eq_true rfl) (Nat.le_refl _) ⟨Nat.le_refl _, Nat.le_refl _⟩ (m_Cl h (fun v4 M3 h => ?_))
    show m_W (d + 1) 0 0 yX7_likeAs cX7_likeAs 7 (some .long) (m_ql Th Q) 32 [(6, .int xv2), (0, .ref a0), (1, .ref a1), (2, .int x2), (3, .long l3), (5, .int x5)] [.long v4, .long l3] Th M3 0 0
    refine m_iload dX7_likeAs_32 0 rfl ?_
    refine m_lshl dX7_likeAs_34 ?_
    refine m_aload_n dX7_likeAs_35 rfl 2 rfl ?_
    refine m_iload_n dX7_likeAs_36 rfl 3 rfl ?_
    refine m_iload dX7_likeAs_37 5 rfl ?_
    obtain ⟨q7, h⟩ := h
    refine m_invV (ci := 7) (As := [.int x2, .int x5]) (d' := d) (mc' := 0) (ms' := 0) (rest := [.long ((v4 <<< ((xv2 : Int32).toInt64 &&& 63))), .long l3]) i_7_comeAt v_7_comeAt t_7_comeAt l_X7_57 ⟨_, _, rfl⟩ dX7_likeAs_39 rfl rfl q7 (Nat.le_of_ble_eq_true rfl) (Nat.le_refl _) ⟨Nat.le_refl _, Nat.le_refl _⟩ (m_Cl h (fun v6 M5 h => ?_))
    show m_W (d + 1) 0 0 yX7_likeAs cX7_likeAs 7 (some .long) (m_ql Th Q) 42 [(6, .int xv2), (0, .ref a0), (1, .ref a1), (2, .int x2), (3, .long l3), (5, .int x5)] [.long v6, .long ((v4 <<< ((xv2 : Int32).toInt64 &&& 63))), .long l3] Th M5 0 0
    refine m_iload dX7_likeAs_42 0 rfl ?_
    refine m_lshl dX7_likeAs_44 ?_
    refine m_lmul dX7_likeAs_45 ?_
    refine m_ladd dX7_likeAs_46 ?_
    obtain ⟨lv8, e_lv8⟩ : ∃ lv8 : Int64, lv8 = (l3 + ((v4 <<< ((xv2 : Int32).toInt64 &&& 63)) * (v6 <<< ((xv2 : Int32).toInt64 &&& 63)))) := ⟨_, rfl⟩
    have h := h lv8 e_lv8
    rw [← e_lv8]
    refine m_lstore_n (lv' := [(3, .long lv8), (6, .int xv2), (0, .ref a0), (1, .ref a1), (2, .int x2), (5, .int x5)]) dX7_likeAs_47 rfl (by decide) rfl ?_
    refine m_iinc (v := x5 + 1) (lv' := [(5, .int (x5 + 1)), (3, .long lv8), (6, .int xv2), (0, .ref a0), (1, .ref a1), (2, .int x2)]) dX7_likeAs_48 5 rfl rfl (by decide) rfl ?_
    refine m_goto (tgt := 5) dX7_likeAs_51 (by decide) ?_
    exact m_sub [3, 4, 5, 1, 0] rfl h
set_option maxHeartbeats 4000000 in
set_option maxRecDepth 100000 in
theorem e7_likeAs {d : Nat} {Th : mT} {Q : Int64 → mM → Prop} {a0 : Nat} {a1 : Nat} {x2 : Int32} {M : mM} (h : H7_likeAs_5 (d + 1) Th Q a0 a1 x2 0 1 M) : P7_likeAs (d + 1) Th a0 a1 x2 M Q := by
  refine m_C.of (by decide +kernel) (Nat.le_of_ble_eq_true rfl) ?_
  show m_W (d + 1) 0 0 yX7_likeAs cX7_likeAs 7 (some .long) (m_ql Th Q) 0 [(0, .ref a0), (1, .ref a1), (2, .int x2)] [] Th M 0 0
  refine m_lconst (v := 0) dX7_likeAs_0 (by decide) ?_
  refine m_lstore_n (lv' := [(3, .long 0), (0, .ref a0), (1, .ref a1), (2, .int x2)]) dX7_likeAs_1 rfl (by decide) rfl ?_
  refine m_iconst (v := 1) dX7_likeAs_2 (by decide) ?_
  refine m_istore (lv' := [(5, .int 1), (3, .long 0), (0, .ref a0), (1, .ref a1), (2, .int x2)]) dX7_likeAs_3 (by decide) rfl ?_
  exact m_sub [2, 3, 4, 1, 0] rfl h
set_option maxHeartbeats 4000000 in
set_option maxRecDepth 100000 in
theorem h7_think_30 {d : Nat} {Th : mT} {Q : mM → Prop} {a0 : Nat} {a1 : Nat} {x2 : Int32} {x3 : Int32} {a4 : Nat} {x5 : Int32} {M : mM} (h : if 10 ≤ x5 then (Q M) else (Th.2.2 a0 = some (.inl 7) ∧ (∃ r2 : Nat, M.2.2 a0 0 = some r2 ∧ (m_ok Th r2 .long x5 ∧ (∀ lv5 : Int64, lv5 = ((M).2.1 r2 (Int32.toNatClampNeg x5)) → ∀ xv6 : Int32, xv6 = (x5 + 1) → H7_think_52 (d + 1) Th Q a0 a1 x2 x3 a4 x5 lv5 xv6 M))))) : H7_think_30 (d + 1) Th Q a0 a1 x2 x3 a4 x5 M := by
  show m_W (d + 1) 0 0 yX7_think cX7_think 12 none (m_qv Th Q) 30 [(0, .ref a0), (1, .ref a1), (2, .int x2), (3, .int x3), (4, .ref a4), (5, .int x5)] [] Th M 0 0
  refine m_iload dX7_think_30 5 rfl ?_
  refine m_bipush (v := 10) dX7_think_32 (by decide) ?_
  refine m_icmp_ge (tgt := 179) dX7_think_34 (by decide) (fun c1 => ?_) (fun c1 => ?_)
  · rw [if_pos c1] at h
    exact m_return dX7_think_179 rfl ⟨rfl, rfl, h⟩
  · rw [if_neg c1] at h
    refine m_aload_n dX7_think_37 rfl 0 rfl ?_
    obtain ⟨q1, h⟩ := h
    obtain ⟨r2, q3, h⟩ := h
    refine m_getr f_X7_9 rfl dX7_think_38 q1 q3 ?_
    refine m_iload dX7_think_41 5 rfl ?_
    obtain ⟨q4, h⟩ := h
    refine m_lald dX7_think_43 q4 ?_
    obtain ⟨lv5, e_lv5⟩ : ∃ lv5 : Int64, lv5 = ((M).2.1 r2 (Int32.toNatClampNeg x5)) := ⟨_, rfl⟩
    have h := h lv5 e_lv5
    rw [← e_lv5]
    refine m_lstore (lv' := [(6, .long lv5), (0, .ref a0), (1, .ref a1), (2, .int x2), (3, .int x3), (4, .ref a4), (5, .int x5)]) dX7_think_44 (by decide) rfl ?_
    refine m_iload dX7_think_46 6 rfl ?_
    refine m_iconst (v := 1) dX7_think_48 (by decide) ?_
    refine m_iadd dX7_think_49 ?_
    obtain ⟨xv6, e_xv6⟩ : ∃ xv6 : Int32, xv6 = (x5 + 1) := ⟨_, rfl⟩
    have h := h xv6 e_xv6
    rw [← e_xv6]
    refine m_istore (lv' := [(8, .int xv6), (6, .long lv5), (0, .ref a0), (1, .ref a1), (2, .int x2), (3, .int x3), (4, .ref a4), (5, .int x5)]) dX7_think_50 (by decide) rfl ?_
    exact m_sub [2, 3, 4, 5, 6, 7, 1, 0] rfl h
set_option maxHeartbeats 4000000 in
set_option maxRecDepth 100000 in
theorem h7_think_52 {d : Nat} {Th : mT} {Q : mM → Prop} {a0 : Nat} {a1 : Nat} {x2 : Int32} {x3 : Int32} {a4 : Nat} {x5 : Int32} {l6 : Int64} {x8 : Int32} {M : mM} (h : if 10 < x8 then (H7_think_30 (d + 1) Th Q a0 a1 x2 x3 a4 (x5 + 1) M) else (if (lg_cmp l6 0) = 0 then (H7_think_30 (d + 1) Th Q a0 a1 x2 x3 a4 (x5 + 1) M) else (∀ xv1 : Int32, xv1 = (if ((x8 - 1) - x5) < 5 then ((x8 - 1) - x5) else 5) → Th.2.2 a1 = some (.inl 8) ∧ (P8_goodAt d Th a1 x2 xv1 M (fun (v3 : Int32) (M2 : mM) => P8_badAt d Th a1 x2 xv1 M2 (fun (v6 : Int32) (M5 : mM) => m_ok Th a4 .long x8 ∧ (m_okw Th a4 .long x8 ∧ (if x3 < 0 then (H7_think_149 (d + 1) Th Q a0 a1 x2 x3 a4 x5 l6 x8 v3 v6 (m_ul M5 a4 (Int32.toNatClampNeg x8) ((((M5).2.1 a4 (Int32.toNatClampNeg x8)) + (l6 * (v3 : Int32).toInt64))))) else (if 10 < (x8 + x3) then (H7_think_149 (d + 1) Th Q a0 a1 x2 x3 a4 x5 l6 x8 v3 v6 (m_ul M5 a4 (Int32.toNatClampNeg x8) ((((M5).2.1 a4 (Int32.toNatClampNeg x8)) + (l6 * (v3 : Int32).toInt64))))) else (Th.2.2 a0 = some (.inl 7) ∧ (∃ r10 : Nat, M5.2.2 a0 0 = some r10 ∧ (m_ok Th r10 .long ((x8 + x3)) ∧ (∀ M13 : mM, M13 = m_ul M5 a4 (Int32.toNatClampNeg x8) ((((M5).2.1 a4 (Int32.toNatClampNeg x8)) + (l6 * (v3 : Int32).toInt64))) → m_okw Th r10 .long ((x8 + x3)) ∧ (H7_think_149 (d + 1) Th Q a0 a1 x2 x3 a4 x5 l6 x8 v3 v6 (m_ul M13 r10 (Int32.toNatClampNeg ((x8 + x3))) ((((M13).2.1 r10 (Int32.toNatClampNeg ((x8 + x3)))) + ((l6 * (v6 : Int32).toInt64) <<< (((((M13).1 a0 3) * x3) : Int32).toInt64 &&& 63))))))))))))))))))) : H7_think_52 (d + 1) Th Q a0 a1 x2 x3 a4 x5 l6 x8 M := by
  show m_W (d + 1) 0 0 yX7_think cX7_think 12 none (m_qv Th Q) 52 [(0, .ref a0), (1, .ref a1), (2, .int x2), (3, .int x3), (4, .ref a4), (5, .int x5), (6, .long l6), (8, .int x8)] [] Th M 0 0
  refine m_iload dX7_think_52 7 rfl ?_
  refine m_bipush (v := 10) dX7_think_54 (by decide) ?_
  refine m_icmp_gt (tgt := 173) dX7_think_56 (by decide) (fun c1 => ?_) (fun c1 => ?_)
  · rw [if_pos c1] at h
    refine m_iinc (v := x5 + 1) (lv' := [(5, .int (x5 + 1)), (0, .ref a0), (1, .ref a1), (2, .int x2), (3, .int x3), (4, .ref a4), (6, .long l6), (8, .int x8)]) dX7_think_173 5 rfl rfl (by decide) rfl ?_
    refine m_goto (tgt := 30) dX7_think_176 (by decide) ?_
    exact m_sub [1, 2, 3, 4, 5, 0] rfl h
  · rw [if_neg c1] at h
    refine m_lload dX7_think_59 6 rfl ?_
    refine m_lconst (v := 0) dX7_think_61 (by decide) ?_
    refine m_lcmp dX7_think_62 ?_
    refine m_if_eq (tgt := 173) dX7_think_63 (by decide) (fun c1 => ?_) (fun c1 => ?_)
    · rw [if_pos c1] at h
      refine m_iinc (v := x5 + 1) (lv' := [(5, .int (x5 + 1)), (0, .ref a0), (1, .ref a1), (2, .int x2), (3, .int x3), (4, .ref a4), (6, .long l6), (8, .int x8)]) dX7_think_173 5 rfl rfl (by decide) rfl ?_
      refine m_goto (tgt := 30) dX7_think_176 (by decide) ?_
      exact m_sub [1, 2, 3, 4, 5, 0] rfl h
    · rw [if_neg c1] at h
      refine m_iconst (v := 5) dX7_think_66 (by decide) ?_
      refine m_iload dX7_think_67 7 rfl ?_
      refine m_iconst (v := 1) dX7_think_69 (by decide) ?_
      refine m_isub dX7_think_70 ?_
      refine m_iload dX7_think_71 5 rfl ?_
      refine m_isub dX7_think_73 ?_
      refine m_min l_X7_27 dX7_think_74 (Nat.le_of_ble_eq_true rfl) (Nat.le_add_left _ _) (Nat.le_refl _) (Nat.le_refl _) ?_
      obtain ⟨xv1, e_xv1⟩ : ∃ xv1 : Int32, xv1 = (if ((x8 - 1) - x5) < 5 then ((x8 - 1) - x5) else 5) := ⟨_, rfl⟩
      have h := h xv1 e_xv1
      rw [← e_xv1]
      refine m_istore (lv' := [(9, .int xv1), (0, .ref a0), (1, .ref a1), (2, .int x2), (3, .int x3), (4, .ref a4), (5, .int x5), (6, .long l6), (8, .int x8)]) dX7_think_77 (by decide) rfl ?_
      refine m_aload_n dX7_think_79 rfl 2 rfl ?_
      refine m_iload_n dX7_think_80 rfl 3 rfl ?_
      refine m_iload dX7_think_81 0 rfl ?_
      obtain ⟨q4, h⟩ := h
      refine m_invV (ci := 8) (As := [.int x2, .int xv1]) (d' := d) (mc' := 0) (ms' := 0) (rest := []) i_8_goodAt v_8_goodAt t_8_goodAt l_X7_64 ⟨_, _, rfl⟩ dX7_think_83 rfl rfl q4 (Nat.le_of_ble_eq_true rfl) (Nat.le_refl _) ⟨Nat.le_refl _, Nat.le_refl _⟩ (m_Ci h (fun v3 M2 h => ?_))
      show m_W (d + 1) 0 0 yX7_think cX7_think 12 none (m_qv Th Q) 86 [(9, .int xv1), (0, .ref a0), (1, .ref a1), (2, .int x2), (3, .int x3), (4, .ref a4), (5, .int x5), (6, .long l6), (8, .int x8)] [.int v3] Th M2 0 0
      refine m_istore (lv' := [(10, .int v3), (9, .int xv1), (0, .ref a0), (1, .ref a1), (2, .int x2), (3, .int x3), (4, .ref a4), (5, .int x5), (6, .long l6), (8, .int x8)]) dX7_think_86 (by decide) rfl ?_
      refine m_aload_n dX7_think_88 rfl 3 rfl ?_
      refine m_iload_n dX7_think_89 rfl 4 rfl ?_
      refine m_iload dX7_think_90 1 rfl ?_
      refine m_invV (ci := 8) (As := [.int x2, .int xv1]) (d' := d) (mc' := 0) (ms' := 0) (rest := []) i_8_badAt v_8_badAt t_8_badAt l_X7_67 ⟨_, _, rfl⟩ dX7_think_92 rfl rfl q4 (Nat.le_of_ble_eq_true rfl) (Nat.le_refl _) ⟨Nat.le_refl _, Nat.le_refl _⟩ (m_Ci h (fun v6 M5 h => ?_))
      show m_W (d + 1) 0 0 yX7_think cX7_think 12 none (m_qv Th Q) 95 [(10, .int v3), (9, .int xv1), (0, .ref a0), (1, .ref a1), (2, .int x2), (3, .int x3), (4, .ref a4), (5, .int x5), (6, .long l6), (8, .int x8)] [.int v6] Th M5 0 0
      refine m_istore (lv' := [(11, .int v6), (10, .int v3), (9, .int xv1), (0, .ref a0), (1, .ref a1), (2, .int x2), (3, .int x3), (4, .ref a4), (5, .int x5), (6, .long l6), (8, .int x8)]) dX7_think_95 (by decide) rfl ?_
      refine m_aload dX7_think_97 7 rfl ?_
      refine m_iload dX7_think_99 10 rfl ?_
      refine m_dup2_11 dX7_think_101 rfl rfl ?_
      obtain ⟨q7, h⟩ := h
      refine m_lald dX7_think_102 q7 ?_
      refine m_lload dX7_think_103 9 rfl ?_
      refine m_iload dX7_think_105 1 rfl ?_
      refine m_i2l dX7_think_107 ?_
      refine m_lmul dX7_think_108 ?_
      refine m_ladd dX7_think_109 ?_
      obtain ⟨q8, h⟩ := h
      refine m_last dX7_think_110 q8 ?_
      refine m_iload_n dX7_think_111 rfl 6 rfl ?_
      refine m_if_lt (tgt := 149) dX7_think_112 (by decide) (fun c1 => ?_) (fun c1 => ?_)
      · rw [if_pos c1] at h
        exact m_sub [3, 4, 5, 6, 7, 8, 9, 10, 1, 0] rfl h
      · rw [if_neg c1] at h
        refine m_iload dX7_think_115 10 rfl ?_
        refine m_iload_n dX7_think_117 rfl 6 rfl ?_
        refine m_iadd dX7_think_118 ?_
        refine m_bipush (v := 10) dX7_think_119 (by decide) ?_
        refine m_icmp_gt (tgt := 149) dX7_think_121 (by decide) (fun c1 => ?_) (fun c1 => ?_)
        · rw [if_pos c1] at h
          exact m_sub [3, 4, 5, 6, 7, 8, 9, 10, 1, 0] rfl h
        · rw [if_neg c1] at h
          refine m_aload_n dX7_think_124 rfl 3 rfl ?_
          obtain ⟨q9, h⟩ := h
          obtain ⟨r10, q11, h⟩ := h
          refine m_getr f_X7_9 rfl dX7_think_125 q9 q11 ?_
          refine m_iload dX7_think_128 10 rfl ?_
          refine m_iload_n dX7_think_130 rfl 6 rfl ?_
          refine m_iadd dX7_think_131 ?_
          refine m_dup2_11 dX7_think_132 rfl rfl ?_
          obtain ⟨q12, h⟩ := h
          obtain ⟨M13, e_M13⟩ : ∃ M13 : mM, M13 = m_ul M5 a4 (Int32.toNatClampNeg x8) ((((M5).2.1 a4 (Int32.toNatClampNeg x8)) + (l6 * (v3 : Int32).toInt64))) := ⟨_, rfl⟩
          have h := h M13 e_M13
          rw [← e_M13]
          refine m_lald dX7_think_133 q12 ?_
          refine m_lload dX7_think_134 9 rfl ?_
          refine m_iload dX7_think_136 0 rfl ?_
          refine m_i2l dX7_think_138 ?_
          refine m_lmul dX7_think_139 ?_
          refine m_aload_n dX7_think_140 rfl 3 rfl ?_
          refine m_geti f_X7_23 rfl dX7_think_141 q9 ?_
          refine m_iload_n dX7_think_144 rfl 6 rfl ?_
          refine m_imul dX7_think_145 ?_
          refine m_lshl dX7_think_146 ?_
          refine m_ladd dX7_think_147 ?_
          obtain ⟨q14, h⟩ := h
          refine m_last dX7_think_148 q14 ?_
          exact m_sub [3, 4, 5, 6, 7, 8, 9, 10, 1, 0] rfl h
set_option maxHeartbeats 4000000 in
set_option maxRecDepth 100000 in
theorem h7_think_149 {d : Nat} {Th : mT} {Q : mM → Prop} {a0 : Nat} {a1 : Nat} {x2 : Int32} {x3 : Int32} {a4 : Nat} {x5 : Int32} {l6 : Int64} {x8 : Int32} {x10 : Int32} {x11 : Int32} {M : mM} (h : Th.2.2 a0 = some (.inl 7) ∧ (∀ lv2 : Int64, lv2 = (l6 * ((((1 <<< (((M).1 a0 3) &&& 31)) - x10) - x11) : Int32).toInt64) → H7_think_52 (d + 1) Th Q a0 a1 x2 x3 a4 x5 lv2 (x8 + 1) M)) : H7_think_149 (d + 1) Th Q a0 a1 x2 x3 a4 x5 l6 x8 x10 x11 M := by
  show m_W (d + 1) 0 0 yX7_think cX7_think 12 none (m_qv Th Q) 149 [(0, .ref a0), (1, .ref a1), (2, .int x2), (3, .int x3), (4, .ref a4), (5, .int x5), (6, .long l6), (8, .int x8), (10, .int x10), (11, .int x11)] [] Th M 0 0
  refine m_lload dX7_think_149 6 rfl ?_
  refine m_iconst (v := 1) dX7_think_151 (by decide) ?_
  refine m_aload_n dX7_think_152 rfl 0 rfl ?_
  obtain ⟨q1, h⟩ := h
  refine m_geti f_X7_23 rfl dX7_think_153 q1 ?_
  refine m_ishl dX7_think_156 ?_
  refine m_iload dX7_think_157 8 rfl ?_
  refine m_isub dX7_think_159 ?_
  refine m_iload dX7_think_160 9 rfl ?_
  refine m_isub dX7_think_162 ?_
  refine m_i2l dX7_think_163 ?_
  refine m_lmul dX7_think_164 ?_
  obtain ⟨lv2, e_lv2⟩ : ∃ lv2 : Int64, lv2 = (l6 * ((((1 <<< (((M).1 a0 3) &&& 31)) - x10) - x11) : Int32).toInt64) := ⟨_, rfl⟩
  have h := h lv2 e_lv2
  rw [← e_lv2]
  refine m_lstore (lv' := [(6, .long lv2), (0, .ref a0), (1, .ref a1), (2, .int x2), (3, .int x3), (4, .ref a4), (5, .int x5), (8, .int x8), (10, .int x10), (11, .int x11)]) dX7_think_165 (by decide) rfl ?_
  refine m_iinc (v := x8 + 1) (lv' := [(8, .int (x8 + 1)), (6, .long lv2), (0, .ref a0), (1, .ref a1), (2, .int x2), (3, .int x3), (4, .ref a4), (5, .int x5), (10, .int x10), (11, .int x11)]) dX7_think_167 7 rfl rfl (by decide) rfl ?_
  refine m_goto (tgt := 52) dX7_think_170 (by decide) ?_
  exact m_sub [2, 3, 4, 5, 6, 7, 1, 0] rfl h
set_option maxHeartbeats 4000000 in
set_option maxRecDepth 100000 in
theorem e7_think {d : Nat} {Th : mT} {Q : mM → Prop} {a0 : Nat} {a1 : Nat} {x2 : Int32} {x3 : Int32} {M : mM} (h : Th.2.2 a0 = some (.inl 7) ∧ (∃ r2 : Nat, M.2.2 a0 1 = some r2 ∧ (m_ok Th r2 (.array .long) x2 ∧ (∃ r5 : Nat, M.2.2 r2 (Int32.toNatClampNeg x2) = some r5 ∧ (P7_wipe d Th r5 M (fun M7 : mM => ∃ r9 : Nat, M7.2.2 a0 0 = some r9 ∧ (P7_wipe d Th r9 M7 (fun M11 : mM => ∃ r13 : Nat, M11.2.2 a0 0 = some r13 ∧ (m_okw Th r13 .long 0 ∧ (H7_think_30 (d + 1) Th Q a0 a1 x2 x3 r5 0 (m_ul M11 r13 (Int32.toNatClampNeg 0) 1))))))))))) : P7_think (d + 1) Th a0 a1 x2 x3 M Q := by
  refine m_C.of (by decide +kernel) (Nat.le_of_ble_eq_true rfl) ?_
  show m_W (d + 1) 0 0 yX7_think cX7_think 12 none (m_qv Th Q) 0 [(0, .ref a0), (1, .ref a1), (2, .int x2), (3, .int x3)] [] Th M 0 0
  refine m_aload_n dX7_think_0 rfl 0 rfl ?_
  obtain ⟨q1, h⟩ := h
  obtain ⟨r2, q3, h⟩ := h
  refine m_getr f_X7_17 rfl dX7_think_1 q1 q3 ?_
  refine m_iload_n dX7_think_4 rfl 2 rfl ?_
  obtain ⟨q4, h⟩ := h
  obtain ⟨r5, q6, h⟩ := h
  refine m_aald (ty := (.array .long)) rfl dX7_think_5 q4 q6 ?_
  refine m_astore (lv' := [(4, .ref r5), (0, .ref a0), (1, .ref a1), (2, .int x2), (3, .int x3)]) dX7_think_6 (by decide) rfl ?_
  refine m_aload dX7_think_8 0 rfl ?_
  refine m_invS (As := [.ref r5]) (d' := d) (mc' := 0) (ms' := 0) (rest := []) i_7_wipe s_7_wipe l_X7_39 dX7_think_10 rfl rfl (Nat.le_of_ble_eq_true rfl) (Nat.le_refl _) ⟨Nat.le_refl _, Nat.le_refl _⟩ (m_Cv h (fun M7 h => ?_))
  show m_W (d + 1) 0 0 yX7_think cX7_think 12 none (m_qv Th Q) 13 [(4, .ref r5), (0, .ref a0), (1, .ref a1), (2, .int x2), (3, .int x3)] [] Th M7 0 0
  refine m_aload_n dX7_think_13 rfl 1 rfl ?_
  obtain ⟨r9, q10, h⟩ := h
  refine m_getr f_X7_9 rfl dX7_think_14 q1 q10 ?_
  refine m_invS (As := [.ref r9]) (d' := d) (mc' := 0) (ms' := 0) (rest := []) i_7_wipe s_7_wipe l_X7_39 dX7_think_17 rfl rfl (Nat.le_of_ble_eq_true rfl) (Nat.le_refl _) ⟨Nat.le_refl _, Nat.le_refl _⟩ (m_Cv h (fun M11 h => ?_))
  show m_W (d + 1) 0 0 yX7_think cX7_think 12 none (m_qv Th Q) 20 [(4, .ref r5), (0, .ref a0), (1, .ref a1), (2, .int x2), (3, .int x3)] [] Th M11 0 0
  refine m_aload_n dX7_think_20 rfl 1 rfl ?_
  obtain ⟨r13, q14, h⟩ := h
  refine m_getr f_X7_9 rfl dX7_think_21 q1 q14 ?_
  refine m_iconst (v := 0) dX7_think_24 (by decide) ?_
  refine m_lconst (v := 1) dX7_think_25 (by decide) ?_
  obtain ⟨q15, h⟩ := h
  refine m_last dX7_think_26 q15 ?_
  refine m_iconst (v := 0) dX7_think_27 (by decide) ?_
  refine m_istore (lv' := [(5, .int 0), (4, .ref r5), (0, .ref a0), (1, .ref a1), (2, .int x2), (3, .int x3)]) dX7_think_28 (by decide) rfl ?_
  exact m_sub [2, 3, 4, 5, 1, 0] rfl h
set_option maxHeartbeats 4000000 in
set_option maxRecDepth 100000 in
theorem h7_goOn_25 {d : Nat} {Th : mT} {Q : mM → Prop} {a0 : Nat} {x1 : Int32} {x2 : Int32} {a3 : Nat} {a4 : Nat} {x5 : Int32} {M : mM} (h : if 10 < x5 then (Q M) else (H7_goOn_35 (d + 1) Th Q a0 x1 x2 a3 a4 x5 1 M)) : H7_goOn_25 (d + 1) Th Q a0 x1 x2 a3 a4 x5 M := by
  show m_W (d + 1) 0 0 yX7_goOn cX7_goOn 7 none (m_qv Th Q) 25 [(0, .ref a0), (1, .int x1), (2, .int x2), (3, .ref a3), (4, .ref a4), (5, .int x5)] [] Th M 0 0
  refine m_iload dX7_goOn_25 5 rfl ?_
  refine m_bipush (v := 10) dX7_goOn_27 (by decide) ?_
  refine m_icmp_gt (tgt := 91) dX7_goOn_29 (by decide) (fun c1 => ?_) (fun c1 => ?_)
  · rw [if_pos c1] at h
    exact m_return dX7_goOn_91 rfl ⟨rfl, rfl, h⟩
  · rw [if_neg c1] at h
    refine m_iconst (v := 1) dX7_goOn_32 (by decide) ?_
    refine m_istore (lv' := [(6, .int 1), (0, .ref a0), (1, .int x1), (2, .int x2), (3, .ref a3), (4, .ref a4), (5, .int x5)]) dX7_goOn_33 (by decide) rfl ?_
    exact m_sub [1, 2, 3, 4, 5, 6, 0] rfl h
set_option maxHeartbeats 4000000 in
set_option maxRecDepth 100000 in
theorem h7_goOn_35 {d : Nat} {Th : mT} {Q : mM → Prop} {a0 : Nat} {x1 : Int32} {x2 : Int32} {a3 : Nat} {a4 : Nat} {x5 : Int32} {x6 : Int32} {M : mM} (h : if 10 < ((x5 + x6) + x2) then (H7_goOn_25 (d + 1) Th Q a0 x1 x2 a3 a4 (x5 + 1) M) else (m_ok Th a4 .long (((x5 + x6) + x2)) ∧ (m_ok Th a3 .long x5 ∧ (Th.2.2 a0 = some (.inl 7) ∧ (P7_solvedIn d Th a0 x1 x6 M (fun (v4 : Int64) (M3 : mM) => m_okw Th a4 .long (((x5 + x6) + x2)) ∧ (H7_goOn_35 (d + 1) Th Q a0 x1 x2 a3 a4 x5 (x6 + 1) (m_ul M3 a4 (Int32.toNatClampNeg (((x5 + x6) + x2))) ((((M).2.1 a4 (Int32.toNatClampNeg (((x5 + x6) + x2)))) + ((((M).2.1 a3 (Int32.toNatClampNeg x5)) * v4) <<< (((((M3).1 a0 3) * x2) : Int32).toInt64 &&& 63)))))))))))) : H7_goOn_35 (d + 1) Th Q a0 x1 x2 a3 a4 x5 x6 M := by
  show m_W (d + 1) 0 0 yX7_goOn cX7_goOn 7 none (m_qv Th Q) 35 [(0, .ref a0), (1, .int x1), (2, .int x2), (3, .ref a3), (4, .ref a4), (5, .int x5), (6, .int x6)] [] Th M 0 0
  refine m_iload dX7_goOn_35 5 rfl ?_
  refine m_iload dX7_goOn_37 6 rfl ?_
  refine m_iadd dX7_goOn_39 ?_
  refine m_iload_n dX7_goOn_40 rfl 2 rfl ?_
  refine m_iadd dX7_goOn_41 ?_
  refine m_bipush (v := 10) dX7_goOn_42 (by decide) ?_
  refine m_icmp_gt (tgt := 85) dX7_goOn_44 (by decide) (fun c1 => ?_) (fun c1 => ?_)
  · rw [if_pos c1] at h
    refine m_iinc (v := x5 + 1) (lv' := [(5, .int (x5 + 1)), (0, .ref a0), (1, .int x1), (2, .int x2), (3, .ref a3), (4, .ref a4), (6, .int x6)]) dX7_goOn_85 5 rfl rfl (by decide) rfl ?_
    refine m_goto (tgt := 25) dX7_goOn_88 (by decide) ?_
    exact m_sub [1, 2, 3, 4, 5, 0] rfl h
  · rw [if_neg c1] at h
    refine m_aload dX7_goOn_47 4 rfl ?_
    refine m_iload dX7_goOn_49 5 rfl ?_
    refine m_iload dX7_goOn_51 6 rfl ?_
    refine m_iadd dX7_goOn_53 ?_
    refine m_iload_n dX7_goOn_54 rfl 2 rfl ?_
    refine m_iadd dX7_goOn_55 ?_
    refine m_dup2_11 dX7_goOn_56 rfl rfl ?_
    obtain ⟨q1, h⟩ := h
    refine m_lald dX7_goOn_57 q1 ?_
    refine m_aload_n dX7_goOn_58 rfl 3 rfl ?_
    refine m_iload dX7_goOn_59 5 rfl ?_
    obtain ⟨q2, h⟩ := h
    refine m_lald dX7_goOn_61 q2 ?_
    refine m_aload_n dX7_goOn_62 rfl 0 rfl ?_
    refine m_iload_n dX7_goOn_63 rfl 1 rfl ?_
    refine m_iload dX7_goOn_64 6 rfl ?_
    obtain ⟨q5, h⟩ := h
    refine m_invV (ci := 7) (As := [.int x1, .int x6]) (d' := d) (mc' := 0) (ms' := 0) (rest := [.long (((M).2.1 a3 (Int32.toNatClampNeg x5))), .long (((M).2.1 a4 (Int32.toNatClampNeg (((x5 + x6) + x2))))), .int (((x5 + x6) + x2)), .ref a4]) i_7_solvedIn v_7_solvedIn t_7_solvedIn l_X7_70 ⟨_, _, rfl⟩ dX7_goOn_66 rfl rfl q5 (Nat.le_of_ble_eq_true rfl) (Nat.le_refl _) ⟨Nat.le_refl _, Nat.le_refl _⟩ (m_Cl h (fun v4 M3 h => ?_))
    show m_W (d + 1) 0 0 yX7_goOn cX7_goOn 7 none (m_qv Th Q) 69 [(0, .ref a0), (1, .int x1), (2, .int x2), (3, .ref a3), (4, .ref a4), (5, .int x5), (6, .int x6)] [.long v4, .long (((M).2.1 a3 (Int32.toNatClampNeg x5))), .long (((M).2.1 a4 (Int32.toNatClampNeg (((x5 + x6) + x2))))), .int (((x5 + x6) + x2)), .ref a4] Th M3 0 0
    refine m_lmul dX7_goOn_69 ?_
    refine m_aload_n dX7_goOn_70 rfl 0 rfl ?_
    refine m_geti f_X7_23 rfl dX7_goOn_71 q5 ?_
    refine m_iload_n dX7_goOn_74 rfl 2 rfl ?_
    refine m_imul dX7_goOn_75 ?_
    refine m_lshl dX7_goOn_76 ?_
    refine m_ladd dX7_goOn_77 ?_
    obtain ⟨q6, h⟩ := h
    refine m_last dX7_goOn_78 q6 ?_
    refine m_iinc (v := x6 + 1) (lv' := [(6, .int (x6 + 1)), (0, .ref a0), (1, .int x1), (2, .int x2), (3, .ref a3), (4, .ref a4), (5, .int x5)]) dX7_goOn_79 6 rfl rfl (by decide) rfl ?_
    refine m_goto (tgt := 35) dX7_goOn_82 (by decide) ?_
    exact m_sub [1, 2, 3, 4, 5, 6, 0] rfl h
set_option maxHeartbeats 4000000 in
set_option maxRecDepth 100000 in
theorem e7_goOn {d : Nat} {Th : mT} {Q : mM → Prop} {a0 : Nat} {x1 : Int32} {x2 : Int32} {M : mM} (h : Th.2.2 a0 = some (.inl 7) ∧ (∃ r2 : Nat, M.2.2 a0 2 = some r2 ∧ (m_ok Th r2 (.array .long) x1 ∧ (∃ r5 : Nat, M.2.2 r2 (Int32.toNatClampNeg x1) = some r5 ∧ (m_ok Th r2 (.array .long) ((x1 + 1)) ∧ (∃ r8 : Nat, M.2.2 r2 (Int32.toNatClampNeg ((x1 + 1))) = some r8 ∧ (P7_wipe d Th r8 M (fun M10 : mM => H7_goOn_25 (d + 1) Th Q a0 x1 x2 r5 r8 0 M10)))))))) : P7_goOn (d + 1) Th a0 x1 x2 M Q := by
  refine m_C.of (by decide +kernel) (Nat.le_of_ble_eq_true rfl) ?_
  show m_W (d + 1) 0 0 yX7_goOn cX7_goOn 7 none (m_qv Th Q) 0 [(0, .ref a0), (1, .int x1), (2, .int x2)] [] Th M 0 0
  refine m_aload_n dX7_goOn_0 rfl 0 rfl ?_
  obtain ⟨q1, h⟩ := h
  obtain ⟨r2, q3, h⟩ := h
  refine m_getr f_X7_20 rfl dX7_goOn_1 q1 q3 ?_
  refine m_iload_n dX7_goOn_4 rfl 1 rfl ?_
  obtain ⟨q4, h⟩ := h
  obtain ⟨r5, q6, h⟩ := h
  refine m_aald (ty := (.array .long)) rfl dX7_goOn_5 q4 q6 ?_
  refine m_astore_n (lv' := [(3, .ref r5), (0, .ref a0), (1, .int x1), (2, .int x2)]) dX7_goOn_6 rfl (by decide) rfl ?_
  refine m_aload_n dX7_goOn_7 rfl 1 rfl ?_
  refine m_getr f_X7_20 rfl dX7_goOn_8 q1 q3 ?_
  refine m_iload_n dX7_goOn_11 rfl 2 rfl ?_
  refine m_iconst (v := 1) dX7_goOn_12 (by decide) ?_
  refine m_iadd dX7_goOn_13 ?_
  obtain ⟨q7, h⟩ := h
  obtain ⟨r8, q9, h⟩ := h
  refine m_aald (ty := (.array .long)) rfl dX7_goOn_14 q7 q9 ?_
  refine m_astore (lv' := [(4, .ref r8), (3, .ref r5), (0, .ref a0), (1, .int x1), (2, .int x2)]) dX7_goOn_15 (by decide) rfl ?_
  refine m_aload dX7_goOn_17 0 rfl ?_
  refine m_invS (As := [.ref r8]) (d' := d) (mc' := 0) (ms' := 0) (rest := []) i_7_wipe s_7_wipe l_X7_39 dX7_goOn_19 rfl rfl (Nat.le_of_ble_eq_true rfl) (Nat.le_refl _) ⟨Nat.le_refl _, Nat.le_refl _⟩ (m_Cv h (fun M10 h => ?_))
  show m_W (d + 1) 0 0 yX7_goOn cX7_goOn 7 none (m_qv Th Q) 22 [(4, .ref r8), (3, .ref r5), (0, .ref a0), (1, .int x1), (2, .int x2)] [] Th M10 0 0
  refine m_iconst (v := 0) dX7_goOn_22 (by decide) ?_
  refine m_istore (lv' := [(5, .int 0), (4, .ref r8), (3, .ref r5), (0, .ref a0), (1, .int x1), (2, .int x2)]) dX7_goOn_23 (by decide) rfl ?_
  exact m_sub [3, 4, 5, 2, 1, 0] rfl h
set_option maxHeartbeats 4000000 in
set_option maxRecDepth 100000 in
theorem h7_wipe_2 {d : Nat} {Th : mT} {Q : mM → Prop} {a0 : Nat} {x1 : Int32} {M : mM} (h : ∃ (ty : FieldType) (fz : Bool) (n1 : Nat), Th.2.2 a0 = some (.inr (ty, fz, n1)) ∧ (if (nI n1) ≤ x1 then (Q M) else (m_okw Th a0 .long x1 ∧ (H7_wipe_2 (d + 1) Th Q a0 (x1 + 1) (m_ul M a0 (Int32.toNatClampNeg x1) 0))))) : H7_wipe_2 (d + 1) Th Q a0 x1 M := by
  show m_W (d + 1) 0 0 yX7_wipe cX7_wipe 2 none (m_qv Th Q) 2 [(0, .ref a0), (1, .int x1)] [] Th M 0 0
  refine m_iload_n dX7_wipe_2 rfl 1 rfl ?_
  refine m_aload_n dX7_wipe_3 rfl 0 rfl ?_
  obtain ⟨_, _, n1, q2, h⟩ := h
  refine m_alen dX7_wipe_4 q2 ?_
  refine m_icmp_ge (tgt := 18) dX7_wipe_5 (by decide) (fun c1 => ?_) (fun c1 => ?_)
  · rw [if_pos c1] at h
    exact m_return dX7_wipe_18 rfl ⟨rfl, rfl, h⟩
  · rw [if_neg c1] at h
    refine m_aload_n dX7_wipe_8 rfl 0 rfl ?_
    refine m_iload_n dX7_wipe_9 rfl 1 rfl ?_
    refine m_lconst (v := 0) dX7_wipe_10 (by decide) ?_
    obtain ⟨q3, h⟩ := h
    refine m_last dX7_wipe_11 q3 ?_
    refine m_iinc (v := x1 + 1) (lv' := [(1, .int (x1 + 1)), (0, .ref a0)]) dX7_wipe_12 1 rfl rfl (by decide) rfl ?_
    refine m_goto (tgt := 2) dX7_wipe_15 (by decide) ?_
    exact m_sub [1, 0] rfl h
set_option maxHeartbeats 4000000 in
set_option maxRecDepth 100000 in
theorem e7_wipe {d : Nat} {Th : mT} {Q : mM → Prop} {a0 : Nat} {M : mM} (h : H7_wipe_2 (d + 1) Th Q a0 0 M) : P7_wipe (d + 1) Th a0 M Q := by
  refine m_C.of (by decide +kernel) (Nat.le_of_ble_eq_true rfl) ?_
  show m_W (d + 1) 0 0 yX7_wipe cX7_wipe 2 none (m_qv Th Q) 0 [(0, .ref a0)] [] Th M 0 0
  refine m_iconst (v := 0) dX7_wipe_0 (by decide) ?_
  refine m_istore_n (lv' := [(1, .int 0), (0, .ref a0)]) dX7_wipe_1 rfl (by decide) rfl ?_
  exact m_sub [1, 0] rfl h
