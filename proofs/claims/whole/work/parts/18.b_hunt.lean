set_option maxHeartbeats 4000000 in
set_option maxRecDepth 100000 in
theorem e3_boxTick {d : Nat} {Th : mT} {Q : Int32 → mM → Prop} {a0 : Nat} {x1 : Int32} {M : mM} (h : if x1 < 0 then (Q (-1) M) else (if 5 ≤ x1 then (Q (-1) M) else (Th.2.2 a0 = some (.inl 3) ∧ (∃ r2 : Nat, M.2.2 a0 6 = some r2 ∧ (m_ok Th r2 .int x1 ∧ (Q (((M).1 r2 (Int32.toNatClampNeg x1))) M)))))) : P3_boxTick (d + 1) Th a0 x1 M Q := by
  refine m_C.of (by decide +kernel) (Nat.le_of_ble_eq_true rfl) ?_
  show m_W (d + 1) 0 0 yX3_boxTick cX3_boxTick 2 (some .int) (m_qi Th Q) 0 [(0, .ref a0), (1, .int x1)] [] Th M 0 0
  refine m_iload_n dX3_boxTick_0 rfl 1 rfl ?_
  refine m_if_lt (tgt := 18) dX3_boxTick_1 (by decide) (fun c1 => ?_) (fun c1 => ?_)
  · rw [if_pos c1] at h
    refine m_iconst (v := (-1)) dX3_boxTick_18 (by decide) ?_
    exact m_ireturn dX3_boxTick_19 rfl rfl ⟨rfl, _, rfl, h⟩
  · rw [if_neg c1] at h
    refine m_iload_n dX3_boxTick_4 rfl 1 rfl ?_
    refine m_iconst (v := 5) dX3_boxTick_5 (by decide) ?_
    refine m_icmp_ge (tgt := 18) dX3_boxTick_6 (by decide) (fun c1 => ?_) (fun c1 => ?_)
    · rw [if_pos c1] at h
      refine m_iconst (v := (-1)) dX3_boxTick_18 (by decide) ?_
      exact m_ireturn dX3_boxTick_19 rfl rfl ⟨rfl, _, rfl, h⟩
    · rw [if_neg c1] at h
      refine m_aload_n dX3_boxTick_9 rfl 0 rfl ?_
      obtain ⟨q1, h⟩ := h
      obtain ⟨r2, q3, h⟩ := h
      refine m_getr f_X3_27 rfl dX3_boxTick_10 q1 q3 ?_
      refine m_iload_n dX3_boxTick_13 rfl 1 rfl ?_
      obtain ⟨q4, h⟩ := h
      refine m_iald dX3_boxTick_14 q4 ?_
      refine m_goto (tgt := 19) dX3_boxTick_15 (by decide) ?_
      exact m_ireturn dX3_boxTick_19 rfl rfl ⟨rfl, _, rfl, h⟩
set_option maxHeartbeats 4000000 in
set_option maxRecDepth 100000 in
theorem h3_play_19 {d : Nat} {Th : mT} {Q : Int32 → mM → Prop} {a0 : Nat} {x1 : Int32} {M : mM} (h : if 5 ≤ x1 then (H3_play_74 (d + 1) Th Q a0 1 M) else (Th.2.2 a0 = some (.inl 3) ∧ (∃ r2 : Nat, M.2.2 a0 2 = some r2 ∧ (∃ r4 : Nat, M.2.2 a0 0 = some r4 ∧ (Th.2.2 r4 = some (.inl 2) ∧ (P2_skill d Th r4 x1 M (fun (v7 : Nat) (M6 : mM) => m_okw Th r2 (.object RX8) x1 ∧ (Th.2.2 v7 = some (.inl 8) ∧ (∃ r11 : Nat, (m_ur M6 r2 (Int32.toNatClampNeg x1) (some v7)).2.2 a0 3 = some r11 ∧ (m_okw Th r11 .int x1 ∧ (∀ M14 : mM, M14 = m_ur M6 r2 (Int32.toNatClampNeg x1) (some v7) → ∃ r15 : Nat, M14.2.2 a0 4 = some r15 ∧ (m_okw Th r15 .int x1 ∧ (∀ M18 : mM, M18 = m_ui M14 r11 (Int32.toNatClampNeg x1) 0 → ∃ r19 : Nat, M14.2.2 a0 5 = some r19 ∧ (m_okw Th r19 .int x1 ∧ (∀ M22 : mM, M22 = m_ui M18 r15 (Int32.toNatClampNeg x1) 0 → ∃ r23 : Nat, M14.2.2 a0 6 = some r23 ∧ (m_okw Th r23 .int x1 ∧ (∀ M26 : mM, M26 = m_ui M22 r19 (Int32.toNatClampNeg x1) 0 → H3_play_19 (d + 1) Th Q a0 (x1 + 1) (m_ui M26 r23 (Int32.toNatClampNeg x1) 0)))))))))))))))))) : H3_play_19 (d + 1) Th Q a0 x1 M := by
  show m_W (d + 1) 0 0 yX3_play cX3_play 3 (some .int) (m_qi Th Q) 19 [(0, .ref a0), (1, .int x1)] [] Th M 0 0
  refine m_iload_n dX3_play_19 rfl 1 rfl ?_
  refine m_iconst (v := 5) dX3_play_20 (by decide) ?_
  refine m_icmp_ge (tgt := 72) dX3_play_21 (by decide) (fun c1 => ?_) (fun c1 => ?_)
  · rw [if_pos c1] at h
    refine m_iconst (v := 1) dX3_play_72 (by decide) ?_
    refine m_istore_n (lv' := [(1, .int 1), (0, .ref a0)]) dX3_play_73 rfl (by decide) rfl ?_
    exact m_sub [1, 0] rfl h
  · rw [if_neg c1] at h
    refine m_aload_n dX3_play_24 rfl 0 rfl ?_
    obtain ⟨q1, h⟩ := h
    obtain ⟨r2, q3, h⟩ := h
    refine m_getr f_X3_11 rfl dX3_play_25 q1 q3 ?_
    refine m_iload_n dX3_play_28 rfl 1 rfl ?_
    refine m_aload_n dX3_play_29 rfl 0 rfl ?_
    obtain ⟨r4, q5, h⟩ := h
    refine m_getr f_X3_34 rfl dX3_play_30 q1 q5 ?_
    refine m_iload_n dX3_play_33 rfl 1 rfl ?_
    obtain ⟨q8, h⟩ := h
    refine m_invV (ci := 2) (As := [.int x1]) (d' := d) (mc' := 0) (ms' := 0) (rest := [.int x1, .ref r2]) i_2_skill v_2_skill t_2_skill l_X3_54 ⟨_, _, rfl⟩ dX3_play_34 rfl rfl q8 (Nat.le_of_ble_eq_true rfl) (Nat.le_refl _) ⟨Nat.le_refl _, Nat.le_refl _⟩ (m_Cr h (fun v7 M6 h => ?_))
    show m_W (d + 1) 0 0 yX3_play cX3_play 3 (some .int) (m_qi Th Q) 37 [(0, .ref a0), (1, .int x1)] [.ref v7, .int x1, .ref r2] Th M6 0 0
    obtain ⟨q9, h⟩ := h
    obtain ⟨q10, h⟩ := h
    refine m_aast (i0 := 0) (ci := 8) (r := (RX8, TX8, 4)) rfl dX3_play_37 q9 q10 ?_
    refine m_aload_n dX3_play_38 rfl 0 rfl ?_
    obtain ⟨r11, q12, h⟩ := h
    refine m_getr f_X3_17 rfl dX3_play_39 q1 q12 ?_
    refine m_iload_n dX3_play_42 rfl 1 rfl ?_
    refine m_iconst (v := 0) dX3_play_43 (by decide) ?_
    obtain ⟨q13, h⟩ := h
    obtain ⟨M14, e_M14⟩ : ∃ M14 : mM, M14 = m_ur M6 r2 (Int32.toNatClampNeg x1) (some v7) := ⟨_, rfl⟩
    have h := h M14 e_M14
    rw [← e_M14]
    refine m_iast dX3_play_44 q13 ?_
    refine m_aload_n dX3_play_45 rfl 0 rfl ?_
    obtain ⟨r15, q16, h⟩ := h
    refine m_getr f_X3_21 rfl dX3_play_46 q1 q16 ?_
    refine m_iload_n dX3_play_49 rfl 1 rfl ?_
    refine m_iconst (v := 0) dX3_play_50 (by decide) ?_
    obtain ⟨q17, h⟩ := h
    obtain ⟨M18, e_M18⟩ : ∃ M18 : mM, M18 = m_ui M14 r11 (Int32.toNatClampNeg x1) 0 := ⟨_, rfl⟩
    have h := h M18 e_M18
    rw [← e_M18]
    refine m_iast dX3_play_51 q17 ?_
    refine m_aload_n dX3_play_52 rfl 0 rfl ?_
    obtain ⟨r19, q20, h⟩ := h
    refine m_getr f_X3_24 rfl dX3_play_53 q1 (by rw [e_M18]; exact q20) ?_
    refine m_iload_n dX3_play_56 rfl 1 rfl ?_
    refine m_iconst (v := 0) dX3_play_57 (by decide) ?_
    obtain ⟨q21, h⟩ := h
    obtain ⟨M22, e_M22⟩ : ∃ M22 : mM, M22 = m_ui M18 r15 (Int32.toNatClampNeg x1) 0 := ⟨_, rfl⟩
    have h := h M22 e_M22
    rw [← e_M22]
    refine m_iast dX3_play_58 q21 ?_
    refine m_aload_n dX3_play_59 rfl 0 rfl ?_
    obtain ⟨r23, q24, h⟩ := h
    refine m_getr f_X3_27 rfl dX3_play_60 q1 (by rw [e_M22, e_M18]; exact q24) ?_
    refine m_iload_n dX3_play_63 rfl 1 rfl ?_
    refine m_iconst (v := 0) dX3_play_64 (by decide) ?_
    obtain ⟨q25, h⟩ := h
    obtain ⟨M26, e_M26⟩ : ∃ M26 : mM, M26 = m_ui M22 r19 (Int32.toNatClampNeg x1) 0 := ⟨_, rfl⟩
    have h := h M26 e_M26
    rw [← e_M26]
    refine m_iast dX3_play_65 q25 ?_
    refine m_iinc (v := x1 + 1) (lv' := [(1, .int (x1 + 1)), (0, .ref a0)]) dX3_play_66 1 rfl rfl (by decide) rfl ?_
    refine m_goto (tgt := 19) dX3_play_69 (by decide) ?_
    exact m_sub [1, 0] rfl h
set_option maxHeartbeats 4000000 in
set_option maxRecDepth 100000 in
theorem h3_play_74 {d : Nat} {Th : mT} {Q : Int32 → mM → Prop} {a0 : Nat} {x1 : Int32} {M : mM} (h : if 10 < x1 then (Th.2.2 a0 = some (.inl 3) ∧ (Q (((M).1 a0 7)) M)) else (H3_play_82 (d + 1) Th Q a0 x1 0 M)) : H3_play_74 (d + 1) Th Q a0 x1 M := by
  show m_W (d + 1) 0 0 yX3_play cX3_play 3 (some .int) (m_qi Th Q) 74 [(0, .ref a0), (1, .int x1)] [] Th M 0 0
  refine m_iload_n dX3_play_74 rfl 1 rfl ?_
  refine m_bipush (v := 10) dX3_play_75 (by decide) ?_
  refine m_icmp_gt (tgt := 116) dX3_play_77 (by decide) (fun c1 => ?_) (fun c1 => ?_)
  · rw [if_pos c1] at h
    refine m_aload_n dX3_play_116 rfl 0 rfl ?_
    obtain ⟨q1, h⟩ := h
    refine m_geti f_X3_47 rfl dX3_play_117 q1 ?_
    exact m_ireturn dX3_play_120 rfl rfl ⟨rfl, _, rfl, h⟩
  · rw [if_neg c1] at h
    refine m_iconst (v := 0) dX3_play_80 (by decide) ?_
    refine m_istore_n (lv' := [(2, .int 0), (0, .ref a0), (1, .int x1)]) dX3_play_81 rfl (by decide) rfl ?_
    exact m_sub [1, 2, 0] rfl h
set_option maxHeartbeats 4000000 in
set_option maxRecDepth 100000 in
theorem h3_play_82 {d : Nat} {Th : mT} {Q : Int32 → mM → Prop} {a0 : Nat} {x1 : Int32} {x2 : Int32} {M : mM} (h : Th.2.2 a0 = some (.inl 3) ∧ (∃ r2 : Nat, M.2.2 a0 0 = some r2 ∧ (Th.2.2 r2 = some (.inl 2) ∧ (if ((M).1 r2 1) ≤ x2 then (H3_play_74 (d + 1) Th Q a0 (x1 + 1) M) else (if 5 ≤ x2 then (H3_play_74 (d + 1) Th Q a0 (x1 + 1) M) else (P3_move d Th a0 x2 x1 M (fun M5 : mM => H3_play_82 (d + 1) Th Q a0 x1 (x2 + 1) M5))))))) : H3_play_82 (d + 1) Th Q a0 x1 x2 M := by
  show m_W (d + 1) 0 0 yX3_play cX3_play 3 (some .int) (m_qi Th Q) 82 [(0, .ref a0), (1, .int x1), (2, .int x2)] [] Th M 0 0
  refine m_iload_n dX3_play_82 rfl 2 rfl ?_
  refine m_aload_n dX3_play_83 rfl 0 rfl ?_
  obtain ⟨q1, h⟩ := h
  obtain ⟨r2, q3, h⟩ := h
  refine m_getr f_X3_34 rfl dX3_play_84 q1 q3 ?_
  obtain ⟨q4, h⟩ := h
  refine m_geti f_X3_60 rfl dX3_play_87 q4 ?_
  refine m_icmp_ge (tgt := 110) dX3_play_90 (by decide) (fun c1 => ?_) (fun c1 => ?_)
  · rw [if_pos c1] at h
    refine m_iinc (v := x1 + 1) (lv' := [(1, .int (x1 + 1)), (0, .ref a0), (2, .int x2)]) dX3_play_110 1 rfl rfl (by decide) rfl ?_
    refine m_goto (tgt := 74) dX3_play_113 (by decide) ?_
    exact m_sub [1, 0] rfl h
  · rw [if_neg c1] at h
    refine m_iload_n dX3_play_93 rfl 2 rfl ?_
    refine m_iconst (v := 5) dX3_play_94 (by decide) ?_
    refine m_icmp_ge (tgt := 110) dX3_play_95 (by decide) (fun c1 => ?_) (fun c1 => ?_)
    · rw [if_pos c1] at h
      refine m_iinc (v := x1 + 1) (lv' := [(1, .int (x1 + 1)), (0, .ref a0), (2, .int x2)]) dX3_play_110 1 rfl rfl (by decide) rfl ?_
      refine m_goto (tgt := 74) dX3_play_113 (by decide) ?_
      exact m_sub [1, 0] rfl h
    · rw [if_neg c1] at h
      refine m_aload_n dX3_play_98 rfl 0 rfl ?_
      refine m_iload_n dX3_play_99 rfl 2 rfl ?_
      refine m_iload_n dX3_play_100 rfl 1 rfl ?_
      refine m_invV (ci := 3) (As := [.int x2, .int x1]) (d' := d) (mc' := 0) (ms' := 0) (rest := []) i_3_move v_3_move t_3_move l_X3_63 ⟨_, _, rfl⟩ dX3_play_101 rfl rfl q1 (Nat.le_of_ble_eq_true rfl) (Nat.le_refl _) ⟨Nat.le_refl _, Nat.le_refl _⟩ (m_Cv h (fun M5 h => ?_))
      show m_W (d + 1) 0 0 yX3_play cX3_play 3 (some .int) (m_qi Th Q) 104 [(0, .ref a0), (1, .int x1), (2, .int x2)] [] Th M5 0 0
      refine m_iinc (v := x2 + 1) (lv' := [(2, .int (x2 + 1)), (0, .ref a0), (1, .int x1)]) dX3_play_104 2 rfl rfl (by decide) rfl ?_
      refine m_goto (tgt := 82) dX3_play_107 (by decide) ?_
      exact m_sub [1, 2, 0] rfl h
set_option maxHeartbeats 4000000 in
set_option maxRecDepth 100000 in
theorem e3_play {d : Nat} {Th : mT} {Q : Int32 → mM → Prop} {a0 : Nat} {M : mM} (h : Th.2.2 a0 = some (.inl 3) ∧ (∃ r2 : Nat, M.2.2 a0 1 = some r2 ∧ (Th.2.2 r2 = some (.inl 5) ∧ (P5_fall d Th r2 M (fun M4 : mM => ∀ M7 : mM, M7 = m_ui M4 a0 7 0 → H3_play_19 (d + 1) Th Q a0 0 (m_ui M7 a0 9 1)))))) : P3_play (d + 1) Th a0 M Q := by
  refine m_C.of (by decide +kernel) (Nat.le_of_ble_eq_true rfl) ?_
  show m_W (d + 1) 0 0 yX3_play cX3_play 3 (some .int) (m_qi Th Q) 0 [(0, .ref a0)] [] Th M 0 0
  refine m_aload_n dX3_play_0 rfl 0 rfl ?_
  obtain ⟨q1, h⟩ := h
  obtain ⟨r2, q3, h⟩ := h
  refine m_getr f_X3_38 rfl dX3_play_1 q1 q3 ?_
  obtain ⟨q6, h⟩ := h
  refine m_invV (ci := 5) (As := []) (d' := d) (mc' := 0) (ms' := 0) (rest := []) i_5_fall v_5_fall t_5_fall l_X3_42 ⟨_, _, rfl⟩ dX3_play_4 rfl rfl q6 (Nat.le_of_ble_eq_true rfl) (Nat.le_refl _) ⟨Nat.le_refl _, Nat.le_refl _⟩ (m_Cv h (fun M4 h => ?_))
  show m_W (d + 1) 0 0 yX3_play cX3_play 3 (some .int) (m_qi Th Q) 7 [(0, .ref a0)] [] Th M4 0 0
  refine m_aload_n dX3_play_7 rfl 0 rfl ?_
  refine m_iconst (v := 0) dX3_play_8 (by decide) ?_
  refine m_puti f_X3_47 rfl (Or.inl rfl) dX3_play_9 q1 ⟨rfl, rfl⟩ ?_
  refine m_aload_n dX3_play_12 rfl 0 rfl ?_
  refine m_iconst (v := 1) dX3_play_13 (by decide) ?_
  obtain ⟨M7, e_M7⟩ : ∃ M7 : mM, M7 = m_ui M4 a0 7 0 := ⟨_, rfl⟩
  have h := h M7 e_M7
  rw [← e_M7]
  refine m_puti f_X3_50 rfl (Or.inl rfl) dX3_play_14 q1 ⟨by decide, by decide⟩ ?_
  refine m_iconst (v := 0) dX3_play_17 (by decide) ?_
  refine m_istore_n (lv' := [(1, .int 0), (0, .ref a0)]) dX3_play_18 rfl (by decide) rfl ?_
  exact m_sub [1, 0] rfl h
set_option maxHeartbeats 4000000 in
set_option maxRecDepth 100000 in
theorem e3_move {d : Nat} {Th : mT} {Q : mM → Prop} {a0 : Nat} {x1 : Int32} {x2 : Int32} {M : mM} (h : Th.2.2 a0 = some (.inl 3) ∧ (∃ r2 : Nat, M.2.2 a0 4 = some r2 ∧ (m_ok Th r2 .int x1 ∧ (if ((M).1 r2 (Int32.toNatClampNeg x1)) = 0 then (P3_thinkOrFollow d Th a0 x1 x2 M (fun M5 : mM => Q M5)) else (if ((M).1 r2 (Int32.toNatClampNeg x1)) = 1 then (P3_step d Th a0 x1 x2 M (fun M7 : mM => Q M7)) else (if ((M).1 r2 (Int32.toNatClampNeg x1)) = 2 then (∃ r9 : Nat, M.2.2 a0 5 = some r9 ∧ (m_ok Th r9 .int x1 ∧ (m_okw Th r9 .int x1 ∧ (∀ M13 : mM, M13 = m_ui M r9 (Int32.toNatClampNeg x1) ((((M).1 r9 (Int32.toNatClampNeg x1)) - 1)) → m_okw Th r2 .int x1 ∧ (Q (m_ui M13 r2 (Int32.toNatClampNeg x1) ((if ((M13).1 r9 (Int32.toNatClampNeg x1)) = 0 then 0 else 2)))))))) else (Q M))))))) : P3_move (d + 1) Th a0 x1 x2 M Q := by
  refine m_C.of (by decide +kernel) (Nat.le_of_ble_eq_true rfl) ?_
  show m_W (d + 1) 0 0 yX3_move cX3_move 3 none (m_qv Th Q) 0 [(0, .ref a0), (1, .int x1), (2, .int x2)] [] Th M 0 0
  refine m_aload_n dX3_move_0 rfl 0 rfl ?_
  obtain ⟨q1, h⟩ := h
  obtain ⟨r2, q3, h⟩ := h
  refine m_getr f_X3_21 rfl dX3_move_1 q1 q3 ?_
  refine m_iload_n dX3_move_4 rfl 1 rfl ?_
  obtain ⟨q4, h⟩ := h
  refine m_iald dX3_move_5 q4 ?_
  refine m_if_ne (tgt := 18) dX3_move_6 (by decide) (fun c1 => ?_) (fun c1 => ?_)
  · rw [if_neg c1] at h
    refine m_aload_n dX3_move_18 rfl 0 rfl ?_
    refine m_getr f_X3_21 rfl dX3_move_19 q1 q3 ?_
    refine m_iload_n dX3_move_22 rfl 1 rfl ?_
    refine m_iald dX3_move_23 q4 ?_
    refine m_iconst (v := 1) dX3_move_24 (by decide) ?_
    refine m_icmp_ne (tgt := 37) dX3_move_25 (by decide) (fun c1 => ?_) (fun c1 => ?_)
    · rw [if_neg c1] at h
      refine m_aload_n dX3_move_37 rfl 0 rfl ?_
      refine m_getr f_X3_21 rfl dX3_move_38 q1 q3 ?_
      refine m_iload_n dX3_move_41 rfl 1 rfl ?_
      refine m_iald dX3_move_42 q4 ?_
      refine m_iconst (v := 2) dX3_move_43 (by decide) ?_
      refine m_icmp_ne (tgt := 77) dX3_move_44 (by decide) (fun c1 => ?_) (fun c1 => ?_)
      · rw [if_neg c1] at h
        exact m_return dX3_move_77 rfl ⟨rfl, rfl, h⟩
      · rw [if_pos c1] at h
        refine m_aload_n dX3_move_47 rfl 0 rfl ?_
        obtain ⟨r9, q10, h⟩ := h
        refine m_getr f_X3_24 rfl dX3_move_48 q1 q10 ?_
        refine m_iload_n dX3_move_51 rfl 1 rfl ?_
        refine m_dup2_11 dX3_move_52 rfl rfl ?_
        obtain ⟨q11, h⟩ := h
        refine m_iald dX3_move_53 q11 ?_
        refine m_iconst (v := 1) dX3_move_54 (by decide) ?_
        refine m_isub dX3_move_55 ?_
        obtain ⟨q12, h⟩ := h
        refine m_iast dX3_move_56 q12 ?_
        refine m_aload_n dX3_move_57 rfl 0 rfl ?_
        refine m_getr f_X3_21 rfl dX3_move_58 q1 q3 ?_
        refine m_iload_n dX3_move_61 rfl 1 rfl ?_
        refine m_aload_n dX3_move_62 rfl 0 rfl ?_
        refine m_getr f_X3_24 rfl dX3_move_63 q1 q10 ?_
        refine m_iload_n dX3_move_66 rfl 1 rfl ?_
        obtain ⟨M13, e_M13⟩ : ∃ M13 : mM, M13 = m_ui M r9 (Int32.toNatClampNeg x1) ((((M).1 r9 (Int32.toNatClampNeg x1)) - 1)) := ⟨_, rfl⟩
        have h := h M13 e_M13
        rw [← e_M13]
        refine m_iald dX3_move_67 q11 ?_
        have hJ : m_W (d + 1) 0 0 yX3_move cX3_move 3 none (m_qv Th Q) 76 [(0, .ref a0), (1, .int x1), (2, .int x2)] [.int ((if ((M13).1 r9 (Int32.toNatClampNeg x1)) = 0 then 0 else 2)), .int x1, .ref r2] Th M13 0 0 := by
          obtain ⟨q14, h⟩ := h
          refine m_iast dX3_move_76 q14 ?_
          exact m_return dX3_move_77 rfl ⟨rfl, rfl, h⟩
        refine m_if_ne (tgt := 75) dX3_move_68 (by decide) (fun c1 => ?_) (fun c1 => ?_)
        · simp only [if_neg c1] at hJ
          refine m_iconst (v := 2) dX3_move_75 (by decide) ?_
          exact hJ
        · simp only [if_pos c1] at hJ
          refine m_iconst (v := 0) dX3_move_71 (by decide) ?_
          refine m_goto (tgt := 76) dX3_move_72 (by decide) ?_
          exact hJ
    · rw [if_pos c1] at h
      refine m_aload_n dX3_move_28 rfl 0 rfl ?_
      refine m_iload_n dX3_move_29 rfl 1 rfl ?_
      refine m_iload_n dX3_move_30 rfl 2 rfl ?_
      refine m_invV (ci := 3) (As := [.int x1, .int x2]) (d' := d) (mc' := 0) (ms' := 0) (rest := []) i_3_step v_3_step t_3_step l_X3_70 ⟨_, _, rfl⟩ dX3_move_31 rfl rfl q1 (Nat.le_of_ble_eq_true rfl) (Nat.le_refl _) ⟨Nat.le_refl _, Nat.le_refl _⟩ (m_Cv h (fun M7 h => ?_))
      show m_W (d + 1) 0 0 yX3_move cX3_move 3 none (m_qv Th Q) 34 [(0, .ref a0), (1, .int x1), (2, .int x2)] [] Th M7 0 0
      refine m_goto (tgt := 77) dX3_move_34 (by decide) ?_
      exact m_return dX3_move_77 rfl ⟨rfl, rfl, h⟩
  · rw [if_pos c1] at h
    refine m_aload_n dX3_move_9 rfl 0 rfl ?_
    refine m_iload_n dX3_move_10 rfl 1 rfl ?_
    refine m_iload_n dX3_move_11 rfl 2 rfl ?_
    refine m_invV (ci := 3) (As := [.int x1, .int x2]) (d' := d) (mc' := 0) (ms' := 0) (rest := []) i_3_thinkOrFollow v_3_thinkOrFollow t_3_thinkOrFollow l_X3_67 ⟨_, _, rfl⟩ dX3_move_12 rfl rfl q1 (Nat.le_of_ble_eq_true rfl) (Nat.le_refl _) ⟨Nat.le_refl _, Nat.le_refl _⟩ (m_Cv h (fun M5 h => ?_))
    show m_W (d + 1) 0 0 yX3_move cX3_move 3 none (m_qv Th Q) 15 [(0, .ref a0), (1, .int x1), (2, .int x2)] [] Th M5 0 0
    refine m_goto (tgt := 77) dX3_move_15 (by decide) ?_
    exact m_return dX3_move_77 rfl ⟨rfl, rfl, h⟩
set_option maxHeartbeats 4000000 in
set_option maxRecDepth 100000 in
theorem h3_thinkOrFollow_35 {d : Nat} {Th : mT} {Q : mM → Prop} {a0 : Nat} {x1 : Int32} {x2 : Int32} {M : mM} (h : Th.2.2 a0 = some (.inl 3) ∧ (∃ r2 : Nat, M.2.2 a0 2 = some r2 ∧ (m_ok Th r2 (.object "RunHunt$Skill") x1 ∧ (∃ r5 : Nat, M.2.2 r2 (Int32.toNatClampNeg x1) = some r5 ∧ (∃ r7 : Nat, M.2.2 a0 3 = some r7 ∧ (m_ok Th r7 .int x1 ∧ (∃ r10 : Nat, M.2.2 a0 5 = some r10 ∧ (m_ok Th r10 .int x1 ∧ (Th.2.2 r5 = some (.inl 8) ∧ (P8_goodAt d Th r5 (((M).1 r7 (Int32.toNatClampNeg x1))) (((M).1 r10 (Int32.toNatClampNeg x1))) M (fun (v14 : Int32) (M13 : mM) => ∃ r16 : Nat, M13.2.2 a0 3 = some r16 ∧ (m_ok Th r16 .int x1 ∧ (∃ r19 : Nat, M13.2.2 a0 5 = some r19 ∧ (m_ok Th r19 .int x1 ∧ (P8_badAt d Th r5 (((M13).1 r16 (Int32.toNatClampNeg x1))) (((M13).1 r19 (Int32.toNatClampNeg x1))) M13 (fun (v23 : Int32) (M22 : mM) => ∀ M24 : mM, M24 = m_ui M22 a0 8 ((((25173 * ((M22).1 a0 8)) + 13849) - ((25173 * ((M22).1 a0 8)) + 13849) / 65536 * 65536)) → ∀ xv25 : Int32, xv25 = (((M24).1 a0 8) - ((M24).1 a0 8) / 8 * 8) → if v14 ≤ xv25 then (if (v14 + v23) ≤ xv25 then (∃ r26 : Nat, M22.2.2 a0 5 = some r26 ∧ (m_ok Th r26 .int x1 ∧ (m_okw Th r26 .int x1 ∧ (Q (m_ui M24 r26 (Int32.toNatClampNeg x1) ((if (((M24).1 r26 (Int32.toNatClampNeg x1)) + 1) < 5 then (((M24).1 r26 (Int32.toNatClampNeg x1)) + 1) else 5))))))) else (∃ r30 : Nat, M22.2.2 a0 4 = some r30 ∧ (m_okw Th r30 .int x1 ∧ (∃ r33 : Nat, M22.2.2 a0 5 = some r33 ∧ (∃ r35 : Nat, M22.2.2 a0 0 = some r35 ∧ (Th.2.2 r35 = some (.inl 2) ∧ (∀ M38 : mM, M38 = m_ui M24 r30 (Int32.toNatClampNeg x1) 2 → m_okw Th r33 .int x1 ∧ (Q (m_ui M38 r33 (Int32.toNatClampNeg x1) (((M38).1 r35 2))))))))))) else (P3_begin d Th a0 x1 x2 M24 (fun M40 : mM => Q M40)))))))))))))))))) : H3_thinkOrFollow_35 (d + 1) Th Q a0 x1 x2 M := by
  show m_W (d + 1) 0 0 yX3_thinkOrFollow cX3_thinkOrFollow 7 none (m_qv Th Q) 35 [(0, .ref a0), (1, .int x1), (2, .int x2)] [] Th M 0 0
  refine m_aload_n dX3_thinkOrFollow_35 rfl 0 rfl ?_
  obtain ⟨q1, h⟩ := h
  obtain ⟨r2, q3, h⟩ := h
  refine m_getr f_X3_11 rfl dX3_thinkOrFollow_36 q1 q3 ?_
  refine m_iload_n dX3_thinkOrFollow_39 rfl 1 rfl ?_
  obtain ⟨q4, h⟩ := h
  obtain ⟨r5, q6, h⟩ := h
  refine m_aald (ty := (.object "RunHunt$Skill")) rfl dX3_thinkOrFollow_40 q4 q6 ?_
  refine m_astore_n (lv' := [(3, .ref r5), (0, .ref a0), (1, .int x1), (2, .int x2)]) dX3_thinkOrFollow_41 rfl (by decide) rfl ?_
  refine m_aload_n dX3_thinkOrFollow_42 rfl 0 rfl ?_
  refine m_ifnonnull (tgt := 47) dX3_thinkOrFollow_43 (by decide) ?_
  refine m_aload_n dX3_thinkOrFollow_47 rfl 0 rfl ?_
  refine m_aload_n dX3_thinkOrFollow_48 rfl 1 rfl ?_
  obtain ⟨r7, q8, h⟩ := h
  refine m_getr f_X3_17 rfl dX3_thinkOrFollow_49 q1 q8 ?_
  refine m_iload_n dX3_thinkOrFollow_52 rfl 2 rfl ?_
  obtain ⟨q9, h⟩ := h
  refine m_iald dX3_thinkOrFollow_53 q9 ?_
  refine m_aload_n dX3_thinkOrFollow_54 rfl 1 rfl ?_
  obtain ⟨r10, q11, h⟩ := h
  refine m_getr f_X3_24 rfl dX3_thinkOrFollow_55 q1 q11 ?_
  refine m_iload_n dX3_thinkOrFollow_58 rfl 2 rfl ?_
  obtain ⟨q12, h⟩ := h
  refine m_iald dX3_thinkOrFollow_59 q12 ?_
  obtain ⟨q15, h⟩ := h
  refine m_invV (ci := 8) (As := [.int (((M).1 r7 (Int32.toNatClampNeg x1))), .int (((M).1 r10 (Int32.toNatClampNeg x1)))]) (d' := d) (mc' := 0) (ms' := 0) (rest := []) i_8_goodAt v_8_goodAt t_8_goodAt l_X3_84 ⟨_, _, rfl⟩ dX3_thinkOrFollow_60 rfl rfl q15 (Nat.le_of_ble_eq_true rfl) (Nat.le_refl _) ⟨Nat.le_refl _, Nat.le_refl _⟩ (m_Ci h (fun v14 M13 h => ?_))
  show m_W (d + 1) 0 0 yX3_thinkOrFollow cX3_thinkOrFollow 7 none (m_qv Th Q) 63 [(3, .ref r5), (0, .ref a0), (1, .int x1), (2, .int x2)] [.int v14] Th M13 0 0
  refine m_istore (lv' := [(4, .int v14), (3, .ref r5), (0, .ref a0), (1, .int x1), (2, .int x2)]) dX3_thinkOrFollow_63 (by decide) rfl ?_
  refine m_aload_n dX3_thinkOrFollow_65 rfl 1 rfl ?_
  refine m_aload_n dX3_thinkOrFollow_66 rfl 2 rfl ?_
  obtain ⟨r16, q17, h⟩ := h
  refine m_getr f_X3_17 rfl dX3_thinkOrFollow_67 q1 q17 ?_
  refine m_iload_n dX3_thinkOrFollow_70 rfl 3 rfl ?_
  obtain ⟨q18, h⟩ := h
  refine m_iald dX3_thinkOrFollow_71 q18 ?_
  refine m_aload_n dX3_thinkOrFollow_72 rfl 2 rfl ?_
  obtain ⟨r19, q20, h⟩ := h
  refine m_getr f_X3_24 rfl dX3_thinkOrFollow_73 q1 q20 ?_
  refine m_iload_n dX3_thinkOrFollow_76 rfl 3 rfl ?_
  obtain ⟨q21, h⟩ := h
  refine m_iald dX3_thinkOrFollow_77 q21 ?_
  refine m_invV (ci := 8) (As := [.int (((M13).1 r16 (Int32.toNatClampNeg x1))), .int (((M13).1 r19 (Int32.toNatClampNeg x1)))]) (d' := d) (mc' := 0) (ms' := 0) (rest := []) i_8_badAt v_8_badAt t_8_badAt l_X3_88 ⟨_, _, rfl⟩ dX3_thinkOrFollow_78 rfl rfl q15 (Nat.le_of_ble_eq_true rfl) (Nat.le_refl _) ⟨Nat.le_refl _, Nat.le_refl _⟩ (m_Ci h (fun v23 M22 h => ?_))
  show m_W (d + 1) 0 0 yX3_thinkOrFollow cX3_thinkOrFollow 7 none (m_qv Th Q) 81 [(4, .int v14), (3, .ref r5), (0, .ref a0), (1, .int x1), (2, .int x2)] [.int v23] Th M22 0 0
  refine m_istore (lv' := [(5, .int v23), (4, .int v14), (3, .ref r5), (0, .ref a0), (1, .int x1), (2, .int x2)]) dX3_thinkOrFollow_81 (by decide) rfl ?_
  refine m_aload_n dX3_thinkOrFollow_83 rfl 3 rfl ?_
  refine m_sipush (v := 25173) dX3_thinkOrFollow_84 (by decide) ?_
  refine m_aload_n dX3_thinkOrFollow_87 rfl 3 rfl ?_
  refine m_geti f_X3_30 rfl dX3_thinkOrFollow_88 q1 ?_
  refine m_imul dX3_thinkOrFollow_91 ?_
  refine m_sipush (v := 13849) dX3_thinkOrFollow_92 (by decide) ?_
  refine m_iadd dX3_thinkOrFollow_95 ?_
  refine m_ldc k_X3_91 dX3_thinkOrFollow_96 ?_
  refine m_irem dX3_thinkOrFollow_98 (by decide) ?_
  refine m_puti f_X3_30 rfl (Or.inl rfl) dX3_thinkOrFollow_99 q1 ⟨rfl, rfl⟩ ?_
  refine m_aload_n dX3_thinkOrFollow_102 rfl 3 rfl ?_
  obtain ⟨M24, e_M24⟩ : ∃ M24 : mM, M24 = m_ui M22 a0 8 ((((25173 * ((M22).1 a0 8)) + 13849) - ((25173 * ((M22).1 a0 8)) + 13849) / 65536 * 65536)) := ⟨_, rfl⟩
  have h := h M24 e_M24
  rw [← e_M24]
  refine m_geti f_X3_30 rfl dX3_thinkOrFollow_103 q1 ?_
  refine m_bipush (v := 8) dX3_thinkOrFollow_106 (by decide) ?_
  refine m_irem dX3_thinkOrFollow_108 (by decide) ?_
  obtain ⟨xv25, e_xv25⟩ : ∃ xv25 : Int32, xv25 = (((M24).1 a0 8) - ((M24).1 a0 8) / 8 * 8) := ⟨_, rfl⟩
  have h := h xv25 e_xv25
  rw [← e_xv25]
  refine m_istore (lv' := [(6, .int xv25), (5, .int v23), (4, .int v14), (3, .ref r5), (0, .ref a0), (1, .int x1), (2, .int x2)]) dX3_thinkOrFollow_109 (by decide) rfl ?_
  refine m_iload dX3_thinkOrFollow_111 0 rfl ?_
  refine m_iload dX3_thinkOrFollow_113 2 rfl ?_
  refine m_icmp_ge (tgt := 127) dX3_thinkOrFollow_115 (by decide) (fun c1 => ?_) (fun c1 => ?_)
  · rw [if_pos c1] at h
    refine m_iload dX3_thinkOrFollow_127 0 rfl ?_
    refine m_iload dX3_thinkOrFollow_129 2 rfl ?_
    refine m_iload dX3_thinkOrFollow_131 1 rfl ?_
    refine m_iadd dX3_thinkOrFollow_133 ?_
    refine m_icmp_ge (tgt := 160) dX3_thinkOrFollow_134 (by decide) (fun c1 => ?_) (fun c1 => ?_)
    · rw [if_pos c1] at h
      refine m_aload_n dX3_thinkOrFollow_160 rfl 4 rfl ?_
      obtain ⟨r26, q27, h⟩ := h
      refine m_getr f_X3_24 rfl dX3_thinkOrFollow_161 q1 (by rw [e_M24]; exact q27) ?_
      refine m_iload_n dX3_thinkOrFollow_164 rfl 5 rfl ?_
      refine m_iconst (v := 5) dX3_thinkOrFollow_165 (by decide) ?_
      refine m_aload_n dX3_thinkOrFollow_166 rfl 4 rfl ?_
      refine m_getr f_X3_24 rfl dX3_thinkOrFollow_167 q1 (by rw [e_M24]; exact q27) ?_
      refine m_iload_n dX3_thinkOrFollow_170 rfl 5 rfl ?_
      obtain ⟨q28, h⟩ := h
      refine m_iald dX3_thinkOrFollow_171 q28 ?_
      refine m_iconst (v := 1) dX3_thinkOrFollow_172 (by decide) ?_
      refine m_iadd dX3_thinkOrFollow_173 ?_
      refine m_min l_X3_95 dX3_thinkOrFollow_174 (Nat.le_of_ble_eq_true rfl) (Nat.le_add_left _ _) (Nat.le_refl _) (Nat.le_refl _) ?_
      obtain ⟨q29, h⟩ := h
      refine m_iast dX3_thinkOrFollow_177 q29 ?_
      exact m_return dX3_thinkOrFollow_178 rfl ⟨rfl, rfl, h⟩
    · rw [if_neg c1] at h
      refine m_aload_n dX3_thinkOrFollow_137 rfl 4 rfl ?_
      obtain ⟨r30, q31, h⟩ := h
      refine m_getr f_X3_21 rfl dX3_thinkOrFollow_138 q1 (by rw [e_M24]; exact q31) ?_
      refine m_iload_n dX3_thinkOrFollow_141 rfl 5 rfl ?_
      refine m_iconst (v := 2) dX3_thinkOrFollow_142 (by decide) ?_
      obtain ⟨q32, h⟩ := h
      refine m_iast dX3_thinkOrFollow_143 q32 ?_
      refine m_aload_n dX3_thinkOrFollow_144 rfl 4 rfl ?_
      obtain ⟨r33, q34, h⟩ := h
      refine m_getr f_X3_24 rfl dX3_thinkOrFollow_145 q1 (by rw [e_M24]; exact q34) ?_
      refine m_iload_n dX3_thinkOrFollow_148 rfl 5 rfl ?_
      refine m_aload_n dX3_thinkOrFollow_149 rfl 4 rfl ?_
      obtain ⟨r35, q36, h⟩ := h
      refine m_getr f_X3_34 rfl dX3_thinkOrFollow_150 q1 (by rw [e_M24]; exact q36) ?_
      obtain ⟨q37, h⟩ := h
      obtain ⟨M38, e_M38⟩ : ∃ M38 : mM, M38 = m_ui M24 r30 (Int32.toNatClampNeg x1) 2 := ⟨_, rfl⟩
      have h := h M38 e_M38
      rw [← e_M38]
      refine m_geti f_X3_92 rfl dX3_thinkOrFollow_153 q37 ?_
      obtain ⟨q39, h⟩ := h
      refine m_iast dX3_thinkOrFollow_156 q39 ?_
      refine m_goto (tgt := 178) dX3_thinkOrFollow_157 (by decide) ?_
      exact m_return dX3_thinkOrFollow_178 rfl ⟨rfl, rfl, h⟩
  · rw [if_neg c1] at h
    refine m_aload_n dX3_thinkOrFollow_118 rfl 4 rfl ?_
    refine m_iload_n dX3_thinkOrFollow_119 rfl 5 rfl ?_
    refine m_iload_n dX3_thinkOrFollow_120 rfl 6 rfl ?_
    refine m_invV (ci := 3) (As := [.int x1, .int x2]) (d' := d) (mc' := 0) (ms' := 0) (rest := []) i_3_begin v_3_begin t_3_begin l_X3_81 ⟨_, _, rfl⟩ dX3_thinkOrFollow_121 rfl rfl q1 (Nat.le_of_ble_eq_true rfl) (Nat.le_refl _) ⟨Nat.le_refl _, Nat.le_refl _⟩ (m_Cv h (fun M40 h => ?_))
    show m_W (d + 1) 0 0 yX3_thinkOrFollow cX3_thinkOrFollow 7 none (m_qv Th Q) 124 [(6, .int xv25), (5, .int v23), (4, .int v14), (3, .ref r5), (0, .ref a0), (1, .int x1), (2, .int x2)] [] Th M40 0 0
    refine m_goto (tgt := 178) dX3_thinkOrFollow_124 (by decide) ?_
    exact m_return dX3_thinkOrFollow_178 rfl ⟨rfl, rfl, h⟩
set_option maxHeartbeats 4000000 in
set_option maxRecDepth 100000 in
theorem e3_thinkOrFollow {d : Nat} {Th : mT} {Q : mM → Prop} {a0 : Nat} {x1 : Int32} {x2 : Int32} {M : mM} (h : Th.2.2 a0 = some (.inl 3) ∧ (∃ r2 : Nat, M.2.2 a0 0 = some r2 ∧ (Th.2.2 r2 = some (.inl 2) ∧ (P2_followsSeen d Th r2 x1 M (fun (v5 : Int32) (M4 : mM) => if v5 = 0 then (H3_thinkOrFollow_35 (d + 1) Th Q a0 x1 x2 M4) else (P3_anotherWent d Th a0 x1 ((x2 - 1)) M4 (fun (v8 : Int32) (M7 : mM) => if v8 = 0 then (H3_thinkOrFollow_35 (d + 1) Th Q a0 x1 x2 M7) else (P3_begin d Th a0 x1 x2 M7 (fun M9 : mM => P3_step d Th a0 x1 x2 M9 (fun M11 : mM => Q M11)))))))))) : P3_thinkOrFollow (d + 1) Th a0 x1 x2 M Q := by
  refine m_C.of (by decide +kernel) (Nat.le_of_ble_eq_true rfl) ?_
  show m_W (d + 1) 0 0 yX3_thinkOrFollow cX3_thinkOrFollow 7 none (m_qv Th Q) 0 [(0, .ref a0), (1, .int x1), (2, .int x2)] [] Th M 0 0
  refine m_aload_n dX3_thinkOrFollow_0 rfl 0 rfl ?_
  obtain ⟨q1, h⟩ := h
  obtain ⟨r2, q3, h⟩ := h
  refine m_getr f_X3_34 rfl dX3_thinkOrFollow_1 q1 q3 ?_
  refine m_iload_n dX3_thinkOrFollow_4 rfl 1 rfl ?_
  obtain ⟨q6, h⟩ := h
  refine m_invV (ci := 2) (As := [.int x1]) (d' := d) (mc' := 0) (ms' := 0) (rest := []) i_2_followsSeen v_2_followsSeen t_2_followsSeen l_X3_73 ⟨_, _, rfl⟩ dX3_thinkOrFollow_5 rfl rfl q6 (Nat.le_of_ble_eq_true rfl) (Nat.le_refl _) ⟨Nat.le_refl _, Nat.le_refl _⟩ (m_Ci h (fun v5 M4 h => ?_))
  show m_W (d + 1) 0 0 yX3_thinkOrFollow cX3_thinkOrFollow 7 none (m_qv Th Q) 8 [(0, .ref a0), (1, .int x1), (2, .int x2)] [.int v5] Th M4 0 0
  refine m_if_eq (tgt := 35) dX3_thinkOrFollow_8 (by decide) (fun c1 => ?_) (fun c1 => ?_)
  · rw [if_pos c1] at h
    exact h
  · rw [if_neg c1] at h
    refine m_aload_n dX3_thinkOrFollow_11 rfl 0 rfl ?_
    refine m_iload_n dX3_thinkOrFollow_12 rfl 1 rfl ?_
    refine m_iload_n dX3_thinkOrFollow_13 rfl 2 rfl ?_
    refine m_iconst (v := 1) dX3_thinkOrFollow_14 (by decide) ?_
    refine m_isub dX3_thinkOrFollow_15 ?_
    refine m_invV (ci := 3) (As := [.int x1, .int ((x2 - 1))]) (d' := d) (mc' := 0) (ms' := 0) (rest := []) i_3_anotherWent v_3_anotherWent t_3_anotherWent l_X3_77 ⟨_, _, rfl⟩ dX3_thinkOrFollow_16 rfl rfl q1 (Nat.le_of_ble_eq_true rfl) (Nat.le_refl _) ⟨Nat.le_refl _, Nat.le_refl _⟩ (m_Ci h (fun v8 M7 h => ?_))
    show m_W (d + 1) 0 0 yX3_thinkOrFollow cX3_thinkOrFollow 7 none (m_qv Th Q) 19 [(0, .ref a0), (1, .int x1), (2, .int x2)] [.int v8] Th M7 0 0
    refine m_if_eq (tgt := 35) dX3_thinkOrFollow_19 (by decide) (fun c1 => ?_) (fun c1 => ?_)
    · rw [if_pos c1] at h
      exact h
    · rw [if_neg c1] at h
      refine m_aload_n dX3_thinkOrFollow_22 rfl 0 rfl ?_
      refine m_iload_n dX3_thinkOrFollow_23 rfl 1 rfl ?_
      refine m_iload_n dX3_thinkOrFollow_24 rfl 2 rfl ?_
      refine m_invV (ci := 3) (As := [.int x1, .int x2]) (d' := d) (mc' := 0) (ms' := 0) (rest := []) i_3_begin v_3_begin t_3_begin l_X3_81 ⟨_, _, rfl⟩ dX3_thinkOrFollow_25 rfl rfl q1 (Nat.le_of_ble_eq_true rfl) (Nat.le_refl _) ⟨Nat.le_refl _, Nat.le_refl _⟩ (m_Cv h (fun M9 h => ?_))
      show m_W (d + 1) 0 0 yX3_thinkOrFollow cX3_thinkOrFollow 7 none (m_qv Th Q) 28 [(0, .ref a0), (1, .int x1), (2, .int x2)] [] Th M9 0 0
      refine m_aload_n dX3_thinkOrFollow_28 rfl 0 rfl ?_
      refine m_iload_n dX3_thinkOrFollow_29 rfl 1 rfl ?_
      refine m_iload_n dX3_thinkOrFollow_30 rfl 2 rfl ?_
      refine m_invV (ci := 3) (As := [.int x1, .int x2]) (d' := d) (mc' := 0) (ms' := 0) (rest := []) i_3_step v_3_step t_3_step l_X3_70 ⟨_, _, rfl⟩ dX3_thinkOrFollow_31 rfl rfl q1 (Nat.le_of_ble_eq_true rfl) (Nat.le_refl _) ⟨Nat.le_refl _, Nat.le_refl _⟩ (m_Cv h (fun M11 h => ?_))
      show m_W (d + 1) 0 0 yX3_thinkOrFollow cX3_thinkOrFollow 7 none (m_qv Th Q) 34 [(0, .ref a0), (1, .int x1), (2, .int x2)] [] Th M11 0 0
      exact m_return dX3_thinkOrFollow_34 rfl ⟨rfl, rfl, h⟩
set_option maxHeartbeats 4000000 in
set_option maxRecDepth 100000 in
theorem e3_begin {d : Nat} {Th : mT} {Q : mM → Prop} {a0 : Nat} {x1 : Int32} {x2 : Int32} {M : mM} (h : Th.2.2 a0 = some (.inl 3) ∧ (∃ r2 : Nat, M.2.2 a0 1 = some r2 ∧ (∃ r4 : Nat, M.2.2 a0 3 = some r4 ∧ (m_ok Th r4 .int x1 ∧ (Th.2.2 r2 = some (.inl 5) ∧ (P5_add d Th r2 x1 (((M).1 r4 (Int32.toNatClampNeg x1))) x2 M (fun M7 : mM => ∃ r10 : Nat, M7.2.2 a0 4 = some r10 ∧ (m_okw Th r10 .int x1 ∧ (∃ r13 : Nat, M7.2.2 a0 5 = some r13 ∧ (∃ r15 : Nat, M7.2.2 a0 0 = some r15 ∧ (∃ r17 : Nat, M7.2.2 a0 3 = some r17 ∧ (m_ok Th r17 .int x1 ∧ (∀ M20 : mM, M20 = m_ui M7 r10 (Int32.toNatClampNeg x1) 1 → Th.2.2 r15 = some (.inl 2) ∧ (P2_steps d Th r15 x1 (((M20).1 r17 (Int32.toNatClampNeg x1))) M20 (fun (v22 : Int32) (M21 : mM) => m_okw Th r13 .int x1 ∧ (Q (m_ui M21 r13 (Int32.toNatClampNeg x1) v22))))))))))))))))) : P3_begin (d + 1) Th a0 x1 x2 M Q := by
  refine m_C.of (by decide +kernel) (Nat.le_of_ble_eq_true rfl) ?_
  show m_W (d + 1) 0 0 yX3_begin cX3_begin 3 none (m_qv Th Q) 0 [(0, .ref a0), (1, .int x1), (2, .int x2)] [] Th M 0 0
  refine m_aload_n dX3_begin_0 rfl 0 rfl ?_
  obtain ⟨q1, h⟩ := h
  obtain ⟨r2, q3, h⟩ := h
  refine m_getr f_X3_38 rfl dX3_begin_1 q1 q3 ?_
  refine m_iload_n dX3_begin_4 rfl 1 rfl ?_
  refine m_aload_n dX3_begin_5 rfl 0 rfl ?_
  obtain ⟨r4, q5, h⟩ := h
  refine m_getr f_X3_17 rfl dX3_begin_6 q1 q5 ?_
  refine m_iload_n dX3_begin_9 rfl 1 rfl ?_
  obtain ⟨q6, h⟩ := h
  refine m_iald dX3_begin_10 q6 ?_
  refine m_iload_n dX3_begin_11 rfl 2 rfl ?_
  obtain ⟨q9, h⟩ := h
  refine m_invV (ci := 5) (As := [.int x1, .int (((M).1 r4 (Int32.toNatClampNeg x1))), .int x2]) (d' := d) (mc' := 0) (ms' := 0) (rest := []) i_5_add v_5_add t_5_add l_X3_100 ⟨_, _, rfl⟩ dX3_begin_12 rfl rfl q9 (Nat.le_of_ble_eq_true rfl) (Nat.le_refl _) ⟨Nat.le_refl _, Nat.le_refl _⟩ (m_Cv h (fun M7 h => ?_))
  show m_W (d + 1) 0 0 yX3_begin cX3_begin 3 none (m_qv Th Q) 15 [(0, .ref a0), (1, .int x1), (2, .int x2)] [] Th M7 0 0
  refine m_aload_n dX3_begin_15 rfl 0 rfl ?_
  obtain ⟨r10, q11, h⟩ := h
  refine m_getr f_X3_21 rfl dX3_begin_16 q1 q11 ?_
  refine m_iload_n dX3_begin_19 rfl 1 rfl ?_
  refine m_iconst (v := 1) dX3_begin_20 (by decide) ?_
  obtain ⟨q12, h⟩ := h
  refine m_iast dX3_begin_21 q12 ?_
  refine m_aload_n dX3_begin_22 rfl 0 rfl ?_
  obtain ⟨r13, q14, h⟩ := h
  refine m_getr f_X3_24 rfl dX3_begin_23 q1 q14 ?_
  refine m_iload_n dX3_begin_26 rfl 1 rfl ?_
  refine m_aload_n dX3_begin_27 rfl 0 rfl ?_
  obtain ⟨r15, q16, h⟩ := h
  refine m_getr f_X3_34 rfl dX3_begin_28 q1 q16 ?_
  refine m_iload_n dX3_begin_31 rfl 1 rfl ?_
  refine m_aload_n dX3_begin_32 rfl 0 rfl ?_
  obtain ⟨r17, q18, h⟩ := h
  refine m_getr f_X3_17 rfl dX3_begin_33 q1 q18 ?_
  refine m_iload_n dX3_begin_36 rfl 1 rfl ?_
  obtain ⟨q19, h⟩ := h
  obtain ⟨M20, e_M20⟩ : ∃ M20 : mM, M20 = m_ui M7 r10 (Int32.toNatClampNeg x1) 1 := ⟨_, rfl⟩
  have h := h M20 e_M20
  rw [← e_M20]
  refine m_iald dX3_begin_37 q19 ?_
  obtain ⟨q23, h⟩ := h
  refine m_invV (ci := 2) (As := [.int x1, .int (((M20).1 r17 (Int32.toNatClampNeg x1)))]) (d' := d) (mc' := 0) (ms' := 0) (rest := [.int x1, .ref r13]) i_2_steps v_2_steps t_2_steps l_X3_104 ⟨_, _, rfl⟩ dX3_begin_38 rfl rfl q23 (Nat.le_of_ble_eq_true rfl) (Nat.le_refl _) ⟨Nat.le_refl _, Nat.le_refl _⟩ (m_Ci h (fun v22 M21 h => ?_))
  show m_W (d + 1) 0 0 yX3_begin cX3_begin 3 none (m_qv Th Q) 41 [(0, .ref a0), (1, .int x1), (2, .int x2)] [.int v22, .int x1, .ref r13] Th M21 0 0
  obtain ⟨q24, h⟩ := h
  refine m_iast dX3_begin_41 q24 ?_
  exact m_return dX3_begin_42 rfl ⟨rfl, rfl, h⟩
set_option maxHeartbeats 4000000 in
set_option maxRecDepth 100000 in
theorem e3_step {d : Nat} {Th : mT} {Q : mM → Prop} {a0 : Nat} {x1 : Int32} {x2 : Int32} {M : mM} (h : Th.2.2 a0 = some (.inl 3) ∧ (∃ r2 : Nat, M.2.2 a0 5 = some r2 ∧ (m_ok Th r2 .int x1 ∧ (m_okw Th r2 .int x1 ∧ (∀ M6 : mM, M6 = m_ui M r2 (Int32.toNatClampNeg x1) ((((M).1 r2 (Int32.toNatClampNeg x1)) - 1)) → if ((M6).1 r2 (Int32.toNatClampNeg x1)) ≤ 0 then (∃ r7 : Nat, M.2.2 a0 3 = some r7 ∧ (m_ok Th r7 .int x1 ∧ (m_okw Th r7 .int x1 ∧ (∀ M11 : mM, M11 = m_ui M6 r7 (Int32.toNatClampNeg x1) ((((M6).1 r7 (Int32.toNatClampNeg x1)) + 1)) → ∃ r12 : Nat, M.2.2 a0 4 = some r12 ∧ (m_okw Th r12 .int x1 ∧ (∀ M15 : mM, M15 = m_ui M11 r2 (Int32.toNatClampNeg x1) 0 → ∀ M16 : mM, M16 = m_ui M15 r12 (Int32.toNatClampNeg x1) 0 → ∃ r17 : Nat, M.2.2 a0 0 = some r17 ∧ (Th.2.2 r17 = some (.inl 2) ∧ (if ((M16).1 r7 (Int32.toNatClampNeg x1)) < ((M16).1 r17 0) then (Q M16) else (∃ r20 : Nat, M.2.2 a0 6 = some r20 ∧ (m_okw Th r20 .int x1 ∧ (∀ M23 : mM, M23 = m_ui M16 r12 (Int32.toNatClampNeg x1) 3 → ∀ M24 : mM, M24 = m_ui M23 r20 (Int32.toNatClampNeg x1) x2 → Q (m_ui M24 a0 7 ((((M24).1 a0 7) + 1)))))))))))))) else (Q M6)))))) : P3_step (d + 1) Th a0 x1 x2 M Q := by
  refine m_C.of (by decide +kernel) (Nat.le_of_ble_eq_true rfl) ?_
  show m_W (d + 1) 0 0 yX3_step cX3_step 3 none (m_qv Th Q) 0 [(0, .ref a0), (1, .int x1), (2, .int x2)] [] Th M 0 0
  refine m_aload_n dX3_step_0 rfl 0 rfl ?_
  obtain ⟨q1, h⟩ := h
  obtain ⟨r2, q3, h⟩ := h
  refine m_getr f_X3_24 rfl dX3_step_1 q1 q3 ?_
  refine m_iload_n dX3_step_4 rfl 1 rfl ?_
  refine m_dup2_11 dX3_step_5 rfl rfl ?_
  obtain ⟨q4, h⟩ := h
  refine m_iald dX3_step_6 q4 ?_
  refine m_iconst (v := 1) dX3_step_7 (by decide) ?_
  refine m_isub dX3_step_8 ?_
  obtain ⟨q5, h⟩ := h
  refine m_iast dX3_step_9 q5 ?_
  refine m_aload_n dX3_step_10 rfl 0 rfl ?_
  refine m_getr f_X3_24 rfl dX3_step_11 q1 q3 ?_
  refine m_iload_n dX3_step_14 rfl 1 rfl ?_
  obtain ⟨M6, e_M6⟩ : ∃ M6 : mM, M6 = m_ui M r2 (Int32.toNatClampNeg x1) ((((M).1 r2 (Int32.toNatClampNeg x1)) - 1)) := ⟨_, rfl⟩
  have h := h M6 e_M6
  rw [← e_M6]
  refine m_iald dX3_step_15 q4 ?_
  refine m_if_le (tgt := 20) dX3_step_16 (by decide) (fun c1 => ?_) (fun c1 => ?_)
  · rw [if_pos c1] at h
    refine m_aload_n dX3_step_20 rfl 0 rfl ?_
    obtain ⟨r7, q8, h⟩ := h
    refine m_getr f_X3_17 rfl dX3_step_21 q1 (by rw [e_M6]; exact q8) ?_
    refine m_iload_n dX3_step_24 rfl 1 rfl ?_
    refine m_dup2_11 dX3_step_25 rfl rfl ?_
    obtain ⟨q9, h⟩ := h
    refine m_iald dX3_step_26 q9 ?_
    refine m_iconst (v := 1) dX3_step_27 (by decide) ?_
    refine m_iadd dX3_step_28 ?_
    obtain ⟨q10, h⟩ := h
    refine m_iast dX3_step_29 q10 ?_
    refine m_aload_n dX3_step_30 rfl 0 rfl ?_
    refine m_getr f_X3_24 rfl dX3_step_31 q1 (by rw [e_M6]; exact q3) ?_
    refine m_iload_n dX3_step_34 rfl 1 rfl ?_
    refine m_iconst (v := 0) dX3_step_35 (by decide) ?_
    obtain ⟨M11, e_M11⟩ : ∃ M11 : mM, M11 = m_ui M6 r7 (Int32.toNatClampNeg x1) ((((M6).1 r7 (Int32.toNatClampNeg x1)) + 1)) := ⟨_, rfl⟩
    have h := h M11 e_M11
    rw [← e_M11]
    refine m_iast dX3_step_36 q5 ?_
    refine m_aload_n dX3_step_37 rfl 0 rfl ?_
    obtain ⟨r12, q13, h⟩ := h
    refine m_getr f_X3_21 rfl dX3_step_38 q1 (by rw [e_M11, e_M6]; exact q13) ?_
    refine m_iload_n dX3_step_41 rfl 1 rfl ?_
    refine m_iconst (v := 0) dX3_step_42 (by decide) ?_
    obtain ⟨q14, h⟩ := h
    obtain ⟨M15, e_M15⟩ : ∃ M15 : mM, M15 = m_ui M11 r2 (Int32.toNatClampNeg x1) 0 := ⟨_, rfl⟩
    have h := h M15 e_M15
    rw [← e_M15]
    refine m_iast dX3_step_43 q14 ?_
    refine m_aload_n dX3_step_44 rfl 0 rfl ?_
    refine m_getr f_X3_17 rfl dX3_step_45 q1 (by rw [e_M15, e_M11, e_M6]; exact q8) ?_
    refine m_iload_n dX3_step_48 rfl 1 rfl ?_
    obtain ⟨M16, e_M16⟩ : ∃ M16 : mM, M16 = m_ui M15 r12 (Int32.toNatClampNeg x1) 0 := ⟨_, rfl⟩
    have h := h M16 e_M16
    rw [← e_M16]
    refine m_iald dX3_step_49 q9 ?_
    refine m_aload_n dX3_step_50 rfl 0 rfl ?_
    obtain ⟨r17, q18, h⟩ := h
    refine m_getr f_X3_34 rfl dX3_step_51 q1 (by rw [e_M16, e_M15, e_M11, e_M6]; exact q18) ?_
    obtain ⟨q19, h⟩ := h
    refine m_geti f_X3_107 rfl dX3_step_54 q19 ?_
    refine m_icmp_lt (tgt := 84) dX3_step_57 (by decide) (fun c1 => ?_) (fun c1 => ?_)
    · rw [if_pos c1] at h
      exact m_return dX3_step_84 rfl ⟨rfl, rfl, h⟩
    · rw [if_neg c1] at h
      refine m_aload_n dX3_step_60 rfl 0 rfl ?_
      refine m_getr f_X3_21 rfl dX3_step_61 q1 (by rw [e_M16, e_M15, e_M11, e_M6]; exact q13) ?_
      refine m_iload_n dX3_step_64 rfl 1 rfl ?_
      refine m_iconst (v := 3) dX3_step_65 (by decide) ?_
      refine m_iast dX3_step_66 q14 ?_
      refine m_aload_n dX3_step_67 rfl 0 rfl ?_
      obtain ⟨r20, q21, h⟩ := h
      refine m_getr f_X3_27 rfl dX3_step_68 q1 (by rw [e_M16, e_M15, e_M11, e_M6]; exact q21) ?_
      refine m_iload_n dX3_step_71 rfl 1 rfl ?_
      refine m_iload_n dX3_step_72 rfl 2 rfl ?_
      obtain ⟨q22, h⟩ := h
      obtain ⟨M23, e_M23⟩ : ∃ M23 : mM, M23 = m_ui M16 r12 (Int32.toNatClampNeg x1) 3 := ⟨_, rfl⟩
      have h := h M23 e_M23
      rw [← e_M23]
      refine m_iast dX3_step_73 q22 ?_
      refine m_aload_n dX3_step_74 rfl 0 rfl ?_
      refine m_dup dX3_step_75 rfl ?_
      obtain ⟨M24, e_M24⟩ : ∃ M24 : mM, M24 = m_ui M23 r20 (Int32.toNatClampNeg x1) x2 := ⟨_, rfl⟩
      have h := h M24 e_M24
      rw [← e_M24]
      refine m_geti f_X3_47 rfl dX3_step_76 q1 ?_
      refine m_iconst (v := 1) dX3_step_79 (by decide) ?_
      refine m_iadd dX3_step_80 ?_
      refine m_puti f_X3_47 rfl (Or.inl rfl) dX3_step_81 q1 ⟨rfl, rfl⟩ ?_
      exact m_return dX3_step_84 rfl ⟨rfl, rfl, h⟩
  · rw [if_neg c1] at h
    exact m_return dX3_step_19 rfl ⟨rfl, rfl, h⟩
set_option maxHeartbeats 4000000 in
set_option maxRecDepth 100000 in
theorem h3_anotherWent_2 {d : Nat} {Th : mT} {Q : Int32 → mM → Prop} {a0 : Nat} {x1 : Int32} {x2 : Int32} {x3 : Int32} {M : mM} (h : Th.2.2 a0 = some (.inl 3) ∧ (∃ r2 : Nat, M.2.2 a0 1 = some r2 ∧ (Th.2.2 r2 = some (.inl 5) ∧ (if ((M).1 r2 1) ≤ x3 then (Q 0 M) else (P5_entry d Th r2 x3 0 M (fun (v6 : Int32) (M5 : mM) => if v6 = x1 then (H3_anotherWent_49 (d + 1) Th Q a0 x1 x2 x3 0 M5) else (∃ r7 : Nat, M5.2.2 a0 1 = some r7 ∧ (Th.2.2 r7 = some (.inl 5) ∧ (P5_entry d Th r7 x3 1 M5 (fun (v10 : Int32) (M9 : mM) => ∃ r12 : Nat, M9.2.2 a0 3 = some r12 ∧ (m_ok Th r12 .int x1 ∧ (if v10 = ((M9).1 r12 (Int32.toNatClampNeg x1)) then (H3_anotherWent_49 (d + 1) Th Q a0 x1 x2 x3 1 M9) else (H3_anotherWent_49 (d + 1) Th Q a0 x1 x2 x3 0 M9))))))))))))) : H3_anotherWent_2 (d + 1) Th Q a0 x1 x2 x3 M := by
  show m_W (d + 1) 0 0 yX3_anotherWent cX3_anotherWent 5 (some .boolean) (m_qi Th Q) 2 [(0, .ref a0), (1, .int x1), (2, .int x2), (3, .int x3)] [] Th M 0 0
  refine m_iload_n dX3_anotherWent_2 rfl 3 rfl ?_
  refine m_aload_n dX3_anotherWent_3 rfl 0 rfl ?_
  obtain ⟨q1, h⟩ := h
  obtain ⟨r2, q3, h⟩ := h
  refine m_getr f_X3_38 rfl dX3_anotherWent_4 q1 q3 ?_
  obtain ⟨q4, h⟩ := h
  refine m_geti f_X3_110 rfl dX3_anotherWent_7 q4 ?_
  refine m_icmp_ge (tgt := 77) dX3_anotherWent_10 (by decide) (fun c1 => ?_) (fun c1 => ?_)
  · rw [if_pos c1] at h
    refine m_iconst (v := 0) dX3_anotherWent_77 (by decide) ?_
    exact m_ireturn dX3_anotherWent_78 rfl (by decide) ⟨rfl, _, rfl, h⟩
  · rw [if_neg c1] at h
    refine m_aload_n dX3_anotherWent_13 rfl 0 rfl ?_
    refine m_getr f_X3_38 rfl dX3_anotherWent_14 q1 q3 ?_
    refine m_iload_n dX3_anotherWent_17 rfl 3 rfl ?_
    refine m_iconst (v := 0) dX3_anotherWent_18 (by decide) ?_
    refine m_invV (ci := 5) (As := [.int x3, .int 0]) (d' := d) (mc' := 0) (ms' := 0) (rest := []) i_5_entry v_5_entry t_5_entry l_X3_113 ⟨_, _, rfl⟩ dX3_anotherWent_19 rfl rfl q4 (Nat.le_of_ble_eq_true rfl) (Nat.le_refl _) ⟨Nat.le_refl _, Nat.le_refl _⟩ (m_Ci h (fun v6 M5 h => ?_))
    show m_W (d + 1) 0 0 yX3_anotherWent cX3_anotherWent 5 (some .boolean) (m_qi Th Q) 22 [(0, .ref a0), (1, .int x1), (2, .int x2), (3, .int x3)] [.int v6] Th M5 0 0
    refine m_iload_n dX3_anotherWent_22 rfl 1 rfl ?_
    refine m_icmp_eq (tgt := 48) dX3_anotherWent_23 (by decide) (fun c1 => ?_) (fun c1 => ?_)
    · rw [if_pos c1] at h
      refine m_iconst (v := 0) dX3_anotherWent_48 (by decide) ?_
      exact h
    · rw [if_neg c1] at h
      refine m_aload_n dX3_anotherWent_26 rfl 0 rfl ?_
      obtain ⟨r7, q8, h⟩ := h
      refine m_getr f_X3_38 rfl dX3_anotherWent_27 q1 q8 ?_
      refine m_iload_n dX3_anotherWent_30 rfl 3 rfl ?_
      refine m_iconst (v := 1) dX3_anotherWent_31 (by decide) ?_
      obtain ⟨q11, h⟩ := h
      refine m_invV (ci := 5) (As := [.int x3, .int 1]) (d' := d) (mc' := 0) (ms' := 0) (rest := []) i_5_entry v_5_entry t_5_entry l_X3_113 ⟨_, _, rfl⟩ dX3_anotherWent_32 rfl rfl q11 (Nat.le_of_ble_eq_true rfl) (Nat.le_refl _) ⟨Nat.le_refl _, Nat.le_refl _⟩ (m_Ci h (fun v10 M9 h => ?_))
      show m_W (d + 1) 0 0 yX3_anotherWent cX3_anotherWent 5 (some .boolean) (m_qi Th Q) 35 [(0, .ref a0), (1, .int x1), (2, .int x2), (3, .int x3)] [.int v10] Th M9 0 0
      refine m_aload_n dX3_anotherWent_35 rfl 0 rfl ?_
      obtain ⟨r12, q13, h⟩ := h
      refine m_getr f_X3_17 rfl dX3_anotherWent_36 q1 q13 ?_
      refine m_iload_n dX3_anotherWent_39 rfl 1 rfl ?_
      obtain ⟨q14, h⟩ := h
      refine m_iald dX3_anotherWent_40 q14 ?_
      refine m_icmp_ne (tgt := 48) dX3_anotherWent_41 (by decide) (fun c1 => ?_) (fun c1 => ?_)
      · rw [if_neg c1] at h
        refine m_iconst (v := 0) dX3_anotherWent_48 (by decide) ?_
        exact h
      · rw [if_pos c1] at h
        refine m_iconst (v := 1) dX3_anotherWent_44 (by decide) ?_
        refine m_goto (tgt := 49) dX3_anotherWent_45 (by decide) ?_
        exact h
set_option maxHeartbeats 4000000 in
set_option maxRecDepth 100000 in
theorem h3_anotherWent_49 {d : Nat} {Th : mT} {Q : Int32 → mM → Prop} {a0 : Nat} {x1 : Int32} {x2 : Int32} {x3 : Int32} {s0 : Int32} {M : mM} (h : if s0 = 0 then (H3_anotherWent_2 (d + 1) Th Q a0 x1 x2 (x3 + 1) M) else (Th.2.2 a0 = some (.inl 3) ∧ (∃ r2 : Nat, M.2.2 a0 1 = some r2 ∧ (Th.2.2 r2 = some (.inl 5) ∧ (P5_entry d Th r2 x3 2 M (fun (v5 : Int32) (M4 : mM) => if v5 = x2 then (Q 1 M4) else (H3_anotherWent_2 (d + 1) Th Q a0 x1 x2 (x3 + 1) M4))))))) : H3_anotherWent_49 (d + 1) Th Q a0 x1 x2 x3 s0 M := by
  show m_W (d + 1) 0 0 yX3_anotherWent cX3_anotherWent 5 (some .boolean) (m_qi Th Q) 49 [(0, .ref a0), (1, .int x1), (2, .int x2), (3, .int x3)] [.int s0] Th M 0 0
  refine m_istore (lv' := [(4, .int s0), (0, .ref a0), (1, .int x1), (2, .int x2), (3, .int x3)]) dX3_anotherWent_49 (by decide) rfl ?_
  refine m_iload dX3_anotherWent_51 0 rfl ?_
  refine m_if_eq (tgt := 71) dX3_anotherWent_53 (by decide) (fun c1 => ?_) (fun c1 => ?_)
  · rw [if_pos c1] at h
    refine m_iinc (v := x3 + 1) (lv' := [(3, .int (x3 + 1)), (4, .int s0), (0, .ref a0), (1, .int x1), (2, .int x2)]) dX3_anotherWent_71 4 rfl rfl (by decide) rfl ?_
    refine m_goto (tgt := 2) dX3_anotherWent_74 (by decide) ?_
    exact m_sub [2, 3, 4, 0] rfl h
  · rw [if_neg c1] at h
    refine m_aload_n dX3_anotherWent_56 rfl 1 rfl ?_
    obtain ⟨q1, h⟩ := h
    obtain ⟨r2, q3, h⟩ := h
    refine m_getr f_X3_38 rfl dX3_anotherWent_57 q1 q3 ?_
    refine m_iload_n dX3_anotherWent_60 rfl 4 rfl ?_
    refine m_iconst (v := 2) dX3_anotherWent_61 (by decide) ?_
    obtain ⟨q6, h⟩ := h
    refine m_invV (ci := 5) (As := [.int x3, .int 2]) (d' := d) (mc' := 0) (ms' := 0) (rest := []) i_5_entry v_5_entry t_5_entry l_X3_113 ⟨_, _, rfl⟩ dX3_anotherWent_62 rfl rfl q6 (Nat.le_of_ble_eq_true rfl) (Nat.le_refl _) ⟨Nat.le_refl _, Nat.le_refl _⟩ (m_Ci h (fun v5 M4 h => ?_))
    show m_W (d + 1) 0 0 yX3_anotherWent cX3_anotherWent 5 (some .boolean) (m_qi Th Q) 65 [(4, .int s0), (0, .ref a0), (1, .int x1), (2, .int x2), (3, .int x3)] [.int v5] Th M4 0 0
    refine m_iload_n dX3_anotherWent_65 rfl 3 rfl ?_
    refine m_icmp_ne (tgt := 71) dX3_anotherWent_66 (by decide) (fun c1 => ?_) (fun c1 => ?_)
    · rw [if_neg c1] at h
      refine m_iinc (v := x3 + 1) (lv' := [(3, .int (x3 + 1)), (4, .int s0), (0, .ref a0), (1, .int x1), (2, .int x2)]) dX3_anotherWent_71 4 rfl rfl (by decide) rfl ?_
      refine m_goto (tgt := 2) dX3_anotherWent_74 (by decide) ?_
      exact m_sub [2, 3, 4, 0] rfl h
    · rw [if_pos c1] at h
      refine m_iconst (v := 1) dX3_anotherWent_69 (by decide) ?_
      exact m_ireturn dX3_anotherWent_70 rfl (by decide) ⟨rfl, _, rfl, h⟩
set_option maxHeartbeats 4000000 in
set_option maxRecDepth 100000 in
theorem e3_anotherWent {d : Nat} {Th : mT} {Q : Int32 → mM → Prop} {a0 : Nat} {x1 : Int32} {x2 : Int32} {M : mM} (h : H3_anotherWent_2 (d + 1) Th Q a0 x1 x2 0 M) : P3_anotherWent (d + 1) Th a0 x1 x2 M Q := by
  refine m_C.of (by decide +kernel) (Nat.le_of_ble_eq_true rfl) ?_
  show m_W (d + 1) 0 0 yX3_anotherWent cX3_anotherWent 5 (some .boolean) (m_qi Th Q) 0 [(0, .ref a0), (1, .int x1), (2, .int x2)] [] Th M 0 0
  refine m_iconst (v := 0) dX3_anotherWent_0 (by decide) ?_
  refine m_istore_n (lv' := [(3, .int 0), (0, .ref a0), (1, .int x1), (2, .int x2)]) dX3_anotherWent_1 rfl (by decide) rfl ?_
  exact m_sub [1, 2, 3, 0] rfl h
